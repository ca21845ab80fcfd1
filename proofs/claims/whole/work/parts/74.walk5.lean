-- Mo_parted: X9_parted
set_option maxRecDepth 4000 in
theorem lp_Mo_parted_L16 {hE : am_H} {r : Option Value} : ∀ (n : Nat) (g : am_G) (x1 : Int32) (x2 : Int32) (x3 : Int32) (w : Int32), Mo_parted_L16 n g x1 x2 x3 = some w → am_E 0 mX9_parted (111, [(0, .ref 221), (1, .int w), (2, .int x2)], [], (sh0, g)) hE r → am_E 0 mX9_parted (16, [(0, .ref 221), (1, .int x1), (2, .int x2), (3, .int x3)], [], (sh0, g)) hE r := by
  intro n
  induction n with
  | zero => intro g x1 x2 x3 q h; cases h
  | succ n ih =>
    intro g x1 x2 x3 q h k1
    replace h : _ = _ := h
    unfold Mo_parted_L16 at h
    refine fe_lin (pc' := 17) dX9_parted_16 rfl rfl ?_
    refine fe_lin (pc' := 18) dX9_parted_17 rfl rfl ?_
    refine fe_ic_ge (pc' := 21) (tgt := 111) dX9_parted_18 rfl rfl (fun hc2 => ?_) (fun hc2 => ?_)
    · replace h := (if_pos hc2).symm.trans h
      refine fe_pick [0, 1, 2] rfl ?_
      cases h
      exact k1
    · replace h := (if_neg hc2).symm.trans h
      refine fe_lan (pc' := 22) dX9_parted_21 rfl rfl ?_
      refine fe_gf (pc' := 25) dX9_parted_22 rfl fl_9_13 n_221 gf_221_3 ?_
      refine fe_bp (pc' := 27) dX9_parted_25 rfl ib_33 ?_
      refine fe_lin (pc' := 28) dX9_parted_27 rfl rfl ?_
      refine fe_iadd (pc' := 29) dX9_parted_28 rfl ?_
      obtain ⟨hi3, h⟩ := am_gd rfl h
      refine fe_al (pc' := 30) (j := (33 + x2).toNatClampNeg) dX9_parted_29 rfl n_223 s_223 hi3 rfl ?_
      obtain ⟨q10, hq15, h⟩ := am_bd h
      have K : am_E 0 mX9_parted (80, [(0, .ref 221), (1, .int x1), (2, .int x2), (3, .int x3)], [.int q10], (sh0, g)) hE r := by
        refine fe_si (pc' := 82) (lo' := [(0, .ref 221), (1, .int x1), (2, .int x2), (3, .int x3), (4, .int q10)]) dX9_parted_80 rfl (Nat.le_of_ble_eq_true rfl) rfl ?_
        refine fe_lin (pc' := 83) dX9_parted_82 rfl rfl ?_
        refine fe_li (pc' := 85) dX9_parted_83 rfl rfl ?_
        have K : am_E 0 mX9_parted (103, [(0, .ref 221), (2, .int x2), (3, .int x3)], [.int (if q10 = 0 then 0 else 1 <<< ((g.1 223 (33 + x2).toNatClampNeg) &&& 31) : Int32), .int x1], (sh0, g)) hE r := by
          refine fe_ior (pc' := 104) dX9_parted_103 rfl ?_
          refine fe_sin (pc' := 105) (lo' := [(0, .ref 221), (1, .int (x1 ||| (if q10 = 0 then 0 else 1 <<< ((g.1 223 (33 + x2).toNatClampNeg) &&& 31) : Int32))), (2, .int x2), (3, .int x3)]) dX9_parted_104 rfl (Nat.le_of_ble_eq_true rfl) rfl ?_
          refine fe_inc (pc' := 108) (lo' := [(0, .ref 221), (1, .int (x1 ||| (if q10 = 0 then 0 else 1 <<< ((g.1 223 (33 + x2).toNatClampNeg) &&& 31) : Int32))), (2, .int x2), (3, .int (x3 + 1))]) dX9_parted_105 rfl ic_1 (Nat.le_of_ble_eq_true rfl) rfl rfl ?_
          refine fe_go (tgt := 16) dX9_parted_108 rfl ?_
          exact ih g (x1 ||| (if q10 = 0 then 0 else 1 <<< ((g.1 223 (33 + x2).toNatClampNeg) &&& 31) : Int32)) x2 (x3 + 1) q h k1
        refine fe_if_eq (pc' := 88) (tgt := 102) dX9_parted_85 rfl rfl (fun hc11 => ?_) (fun hc11 => ?_)
        · refine fe_ic (pc' := 103) dX9_parted_102 rfl ic_0 ?_
          refine fe_pick [0, 2, 3] rfl ?_
          simp only [if_pos hc11] at K ⊢
          exact K
        · refine fe_ic (pc' := 89) dX9_parted_88 rfl ic_1 ?_
          refine fe_lan (pc' := 90) dX9_parted_89 rfl rfl ?_
          refine fe_gf (pc' := 93) dX9_parted_90 rfl fl_9_13 n_221 gf_221_3 ?_
          refine fe_bp (pc' := 95) dX9_parted_93 rfl ib_33 ?_
          refine fe_lin (pc' := 96) dX9_parted_95 rfl rfl ?_
          refine fe_iadd (pc' := 97) dX9_parted_96 rfl ?_
          refine fe_al (pc' := 98) (j := (33 + x2).toNatClampNeg) dX9_parted_97 rfl n_223 s_223 hi3 rfl ?_
          refine fe_ishl (pc' := 99) dX9_parted_98 rfl ?_
          refine fe_go (tgt := 103) dX9_parted_99 rfl ?_
          refine fe_pick [0, 2, 3] rfl ?_
          simp only [if_neg hc11] at K ⊢
          exact K
      replace h := hq15
      refine fe_if_le (pc' := 33) (tgt := 79) dX9_parted_30 rfl rfl (fun hc4 => ?_) (fun hc4 => ?_)
      · replace h := (if_pos hc4).symm.trans h
        refine fe_ic (pc' := 80) dX9_parted_79 rfl ic_0 ?_
        cases h
        exact K
      · replace h := (if_neg hc4).symm.trans h
        refine fe_lan (pc' := 34) dX9_parted_33 rfl rfl ?_
        refine fe_gf (pc' := 37) dX9_parted_34 rfl fl_9_13 n_221 gf_221_3 ?_
        refine fe_bp (pc' := 39) dX9_parted_37 rfl ib_33 ?_
        refine fe_lin (pc' := 40) dX9_parted_39 rfl rfl ?_
        refine fe_iadd (pc' := 41) dX9_parted_40 rfl ?_
        refine fe_al (pc' := 42) (j := (33 + x2).toNatClampNeg) dX9_parted_41 rfl n_223 s_223 hi3 rfl ?_
        refine fe_lan (pc' := 43) dX9_parted_42 rfl rfl ?_
        refine fe_gf (pc' := 46) dX9_parted_43 rfl fl_9_13 n_221 gf_221_3 ?_
        refine fe_bp (pc' := 48) dX9_parted_46 rfl ib_33 ?_
        refine fe_lin (pc' := 49) dX9_parted_48 rfl rfl ?_
        refine fe_iadd (pc' := 50) dX9_parted_49 rfl ?_
        obtain ⟨hi5, h⟩ := am_gd rfl h
        refine fe_al (pc' := 51) (j := (33 + x3).toNatClampNeg) dX9_parted_50 rfl n_223 s_223 hi5 rfl ?_
        refine fe_ic_ne (pc' := 54) (tgt := 79) dX9_parted_51 rfl rfl (fun hc6 => ?_) (fun hc6 => ?_)
        · replace h := (if_pos hc6).symm.trans h
          refine fe_lan (pc' := 55) dX9_parted_54 rfl rfl ?_
          refine fe_gf (pc' := 58) dX9_parted_55 rfl fl_9_19 n_221 gf_221_5 ?_
          refine fe_bp (pc' := 60) dX9_parted_58 rfl ib_8 ?_
          refine fe_lin (pc' := 61) dX9_parted_60 rfl rfl ?_
          refine fe_iadd (pc' := 62) dX9_parted_61 rfl ?_
          obtain ⟨hi7, h⟩ := am_gd rfl h
          refine fe_al (pc' := 63) (j := (8 + x2).toNatClampNeg) dX9_parted_62 rfl n_225 s_225 hi7 rfl ?_
          refine fe_lan (pc' := 64) dX9_parted_63 rfl rfl ?_
          refine fe_gf (pc' := 67) dX9_parted_64 rfl fl_9_19 n_221 gf_221_5 ?_
          refine fe_bp (pc' := 69) dX9_parted_67 rfl ib_8 ?_
          refine fe_lin (pc' := 70) dX9_parted_69 rfl rfl ?_
          refine fe_iadd (pc' := 71) dX9_parted_70 rfl ?_
          obtain ⟨hi8, h⟩ := am_gd rfl h
          refine fe_al (pc' := 72) (j := (8 + x3).toNatClampNeg) dX9_parted_71 rfl n_225 s_225 hi8 rfl ?_
          refine fe_ic_eq (pc' := 75) (tgt := 79) dX9_parted_72 rfl rfl (fun hc9 => ?_) (fun hc9 => ?_)
          · replace h := (if_pos hc9).symm.trans h
            refine fe_ic (pc' := 80) dX9_parted_79 rfl ic_0 ?_
            cases h
            exact K
          · replace h := (if_neg hc9).symm.trans h
            refine fe_ic (pc' := 76) dX9_parted_75 rfl ic_1 ?_
            refine fe_go (tgt := 80) dX9_parted_76 rfl ?_
            cases h
            exact K
        · replace h := (if_neg hc6).symm.trans h
          refine fe_ic (pc' := 80) dX9_parted_79 rfl ic_0 ?_
          cases h
          exact K
set_option maxRecDepth 4000 in
theorem lp_Mo_parted_L4 {hE : am_H} {r : Option Value} : ∀ (n : Nat) (g : am_G) (x1 : Int32) (x2 : Int32) (w : Int32), Mo_parted_L4 n g x1 x2 = some w → am_E 0 mX9_parted (117, [(1, .int w)], [], (sh0, g)) hE r → am_E 0 mX9_parted (4, [(0, .ref 221), (1, .int x1), (2, .int x2)], [], (sh0, g)) hE r := by
  intro n
  induction n with
  | zero => intro g x1 x2 q h; cases h
  | succ n ih =>
    intro g x1 x2 q h k1
    replace h : _ = _ := h
    unfold Mo_parted_L4 at h
    refine fe_lin (pc' := 5) dX9_parted_4 rfl rfl ?_
    refine fe_lan (pc' := 6) dX9_parted_5 rfl rfl ?_
    refine fe_gf (pc' := 9) dX9_parted_6 rfl fl_9_13 n_221 gf_221_3 ?_
    refine fe_ic (pc' := 10) dX9_parted_9 rfl ic_1 ?_
    refine fe_al (pc' := 11) (j := 1) dX9_parted_10 rfl n_223 s_223 (by decide) (by decide) ?_
    refine fe_ic_ge (pc' := 14) (tgt := 117) dX9_parted_11 rfl rfl (fun hc1 => ?_) (fun hc1 => ?_)
    · replace h := (if_pos hc1).symm.trans h
      refine fe_pick [1] rfl ?_
      cases h
      exact k1
    · replace h := (if_neg hc1).symm.trans h
      refine fe_ic (pc' := 15) dX9_parted_14 rfl ic_0 ?_
      refine fe_sin (pc' := 16) (lo' := [(0, .ref 221), (1, .int x1), (2, .int x2), (3, .int 0)]) dX9_parted_15 rfl (Nat.le_of_ble_eq_true rfl) rfl ?_
      obtain ⟨q13, hq16, h⟩ := am_bd h
      refine lp_Mo_parted_L16 _ g x1 x2 0 q13 hq16 ?_
      refine fe_inc (pc' := 114) (lo' := [(0, .ref 221), (1, .int q13), (2, .int (x2 + 1))]) dX9_parted_111 rfl ic_1 (Nat.le_of_ble_eq_true rfl) rfl rfl ?_
      refine fe_go (tgt := 4) dX9_parted_114 rfl ?_
      exact ih g q13 (x2 + 1) q h k1
set_option maxRecDepth 4000 in
theorem ev_Mo_parted {g : am_G} {w : Int32} (h : Mo_parted g  = some w) : am_Ev 1 158 [.ref 221] (sh0, g) (sh0, g) (some (.int w)) := by
  unfold Mo_parted at h
  refine am_ev mX9_parted (by rfl) (Nat.le_of_ble_eq_true rfl) [(0, .ref 221)] rfl ?_
  refine fe_ic (pc' := 1) dX9_parted_0 rfl ic_0 ?_
  refine fe_sin (pc' := 2) (lo' := [(0, .ref 221), (1, .int 0)]) dX9_parted_1 rfl (Nat.le_of_ble_eq_true rfl) rfl ?_
  refine fe_ic (pc' := 3) dX9_parted_2 rfl ic_0 ?_
  refine fe_sin (pc' := 4) (lo' := [(0, .ref 221), (1, .int 0), (2, .int 0)]) dX9_parted_3 rfl (Nat.le_of_ble_eq_true rfl) rfl ?_
  obtain ⟨q14, hq17, h⟩ := am_bd h
  refine lp_Mo_parted_L4 _ g 0 0 q14 hq17 ?_
  refine fe_lin (pc' := 118) dX9_parted_117 rfl rfl ?_
  cases h
  exact fe_ri dX9_parted_118 rfl
-- Mo_now: X9_now
set_option maxRecDepth 4000 in
theorem ev_Mo_now {g : am_G} {x1 : Int32} {w : Int32} (h : Mo_now g x1 = some w) : am_Ev 4 159 [.ref 221, .int x1] (sh0, g) (sh0, g) (some (.int w)) := by
  unfold Mo_now at h
  refine am_ev mX9_now (by rfl) (Nat.le_of_ble_eq_true rfl) [(0, .ref 221), (1, .int x1)] rfl ?_
  refine fe_lin (pc' := 1) dX9_now_0 rfl rfl ?_
  refine fe_ic (pc' := 2) dX9_now_1 rfl ic_0 ?_
  refine fe_bp (pc' := 4) dX9_now_2 rfl ib_7 ?_
  obtain ⟨q1, hq2, h⟩ := am_bd h
  refine fe_is (pc' := 7) (as := [.int x1, .int 0, .int 7]) (h1 := (sh0, g)) (r1 := some (.int (am_b q1))) (st' := [.int (am_b q1)]) dX9_now_4 rfl cl_9_48 (Or.inl rfl) rfl rfl ⟨Nat.le_of_ble_eq_true rfl, Nat.le_of_ble_eq_true rfl⟩ (am_le0 _ _ _) (am_up (by decide) (ev_Mo_in hq2)) rfl ?_
  refine fe_bF (pc' := 10) (tgt := 12) dX9_now_7 rfl rfl rfl (fun hc3 => ?_) (fun hc3 => ?_)
  · replace h := (if_pos hc3).symm.trans h
    refine fe_lin (pc' := 13) dX9_now_12 rfl rfl ?_
    refine fe_ic (pc' := 14) dX9_now_13 rfl ic_3 ?_
    refine fe_ic_ge (pc' := 17) (tgt := 26) dX9_now_14 rfl rfl (fun hc4 => ?_) (fun hc4 => ?_)
    · replace h := (if_pos hc4).symm.trans h
      refine fe_lin (pc' := 27) dX9_now_26 rfl rfl ?_
      refine fe_ic (pc' := 28) dX9_now_27 rfl ic_3 ?_
      refine fe_ic_ne (pc' := 31) (tgt := 46) dX9_now_28 rfl rfl (fun hc5 => ?_) (fun hc5 => ?_)
      · replace h := (if_pos hc5).symm.trans h
        refine fe_lan (pc' := 32) dX9_now_31 rfl rfl ?_
        obtain ⟨q6, hq7, h⟩ := am_bd h
        refine fe_iv (pc' := 35) (as := [.ref 221]) (h1 := (sh0, g)) (r1 := some (.int (am_b q6))) (st' := [.int (am_b q6)]) dX9_now_32 rfl cl_9_122 rfl rfl s_221 ms_146 ⟨n_221, rfl, by decide, Nat.le_of_ble_eq_true rfl, Nat.le_of_ble_eq_true rfl⟩ (am_le0 _ _ _) (am_up (by decide) (ev_Mo_isHut hq7)) rfl ?_
        refine fe_bT (pc' := 38) (tgt := 42) dX9_now_35 rfl rfl rfl (fun hc8 => ?_) (fun hc8 => ?_)
        · replace h := (if_pos hc8).symm.trans h
          refine fe_ic (pc' := 39) dX9_now_38 rfl ic_1 ?_
          refine fe_go (tgt := 91) dX9_now_39 rfl ?_
          cases h
          exact fe_ri dX9_now_91 rfl
        · replace h := (if_neg hc8).symm.trans h
          refine fe_ic (pc' := 43) dX9_now_42 rfl ic_0 ?_
          refine fe_go (tgt := 91) dX9_now_43 rfl ?_
          cases h
          exact fe_ri dX9_now_91 rfl
      · replace h := (if_neg hc5).symm.trans h
        refine fe_lin (pc' := 47) dX9_now_46 rfl rfl ?_
        refine fe_ic (pc' := 48) dX9_now_47 rfl ic_4 ?_
        refine fe_ic_ne (pc' := 51) (tgt := 59) dX9_now_48 rfl rfl (fun hc9 => ?_) (fun hc9 => ?_)
        · replace h := (if_pos hc9).symm.trans h
          refine fe_lan (pc' := 52) dX9_now_51 rfl rfl ?_
          refine fe_ic (pc' := 53) dX9_now_52 rfl ic_0 ?_
          obtain ⟨q10, hq11, h⟩ := am_bd h
          refine fe_iv (pc' := 56) (as := [.ref 221, .int 0]) (h1 := (sh0, g)) (r1 := some (.int q10)) (st' := [.int q10]) dX9_now_53 rfl cl_9_151 rfl rfl s_221 ms_157 ⟨n_221, rfl, by decide, Nat.le_of_ble_eq_true rfl, Nat.le_of_ble_eq_true rfl⟩ (am_le0 _ _ _) (am_up (by decide) (ev_Mo_fair hq11)) rfl ?_
          refine fe_go (tgt := 91) dX9_now_56 rfl ?_
          cases h
          exact fe_ri dX9_now_91 rfl
        · replace h := (if_neg hc9).symm.trans h
          refine fe_lin (pc' := 60) dX9_now_59 rfl rfl ?_
          refine fe_ic (pc' := 61) dX9_now_60 rfl ic_5 ?_
          refine fe_ic_ne (pc' := 64) (tgt := 72) dX9_now_61 rfl rfl (fun hc12 => ?_) (fun hc12 => ?_)
          · replace h := (if_pos hc12).symm.trans h
            refine fe_lan (pc' := 65) dX9_now_64 rfl rfl ?_
            refine fe_ic (pc' := 66) dX9_now_65 rfl ic_1 ?_
            obtain ⟨q13, hq14, h⟩ := am_bd h
            refine fe_iv (pc' := 69) (as := [.ref 221, .int 1]) (h1 := (sh0, g)) (r1 := some (.int q13)) (st' := [.int q13]) dX9_now_66 rfl cl_9_151 rfl rfl s_221 ms_157 ⟨n_221, rfl, by decide, Nat.le_of_ble_eq_true rfl, Nat.le_of_ble_eq_true rfl⟩ (am_le0 _ _ _) (am_up (by decide) (ev_Mo_fair hq14)) rfl ?_
            refine fe_go (tgt := 91) dX9_now_69 rfl ?_
            cases h
            exact fe_ri dX9_now_91 rfl
          · replace h := (if_neg hc12).symm.trans h
            refine fe_lin (pc' := 73) dX9_now_72 rfl rfl ?_
            refine fe_bp (pc' := 75) dX9_now_73 rfl ib_6 ?_
            refine fe_ic_ne (pc' := 78) (tgt := 85) dX9_now_75 rfl rfl (fun hc15 => ?_) (fun hc15 => ?_)
            · replace h := (if_pos hc15).symm.trans h
              refine fe_lan (pc' := 79) dX9_now_78 rfl rfl ?_
              obtain ⟨q16, hq17, h⟩ := am_bd h
              refine fe_iv (pc' := 82) (as := [.ref 221]) (h1 := (sh0, g)) (r1 := some (.int q16)) (st' := [.int q16]) dX9_now_79 rfl cl_9_154 rfl rfl s_221 ms_158 ⟨n_221, rfl, by decide, Nat.le_of_ble_eq_true rfl, Nat.le_of_ble_eq_true rfl⟩ (am_le0 _ _ _) (am_up (by decide) (ev_Mo_parted hq17)) rfl ?_
              refine fe_go (tgt := 91) dX9_now_82 rfl ?_
              cases h
              exact fe_ri dX9_now_91 rfl
            · replace h := (if_neg hc15).symm.trans h
              refine fe_lan (pc' := 86) dX9_now_85 rfl rfl ?_
              refine fe_gf (pc' := 89) dX9_now_86 rfl fl_9_19 n_221 gf_221_5 ?_
              refine fe_ic (pc' := 90) dX9_now_89 rfl ic_3 ?_
              refine fe_al (pc' := 91) (j := 3) dX9_now_90 rfl n_225 s_225 (by decide) (by decide) ?_
              cases h
              exact fe_ri dX9_now_91 rfl
    · replace h := (if_neg hc4).symm.trans h
      refine fe_lan (pc' := 18) dX9_now_17 rfl rfl ?_
      refine fe_gf (pc' := 21) dX9_now_18 rfl fl_9_19 n_221 gf_221_5 ?_
      refine fe_lin (pc' := 22) dX9_now_21 rfl rfl ?_
      obtain ⟨hi18, h⟩ := am_gd rfl h
      refine fe_al (pc' := 23) (j := x1.toNatClampNeg) dX9_now_22 rfl n_225 s_225 hi18 rfl ?_
      refine fe_go (tgt := 91) dX9_now_23 rfl ?_
      cases h
      exact fe_ri dX9_now_91 rfl
  · replace h := (if_neg hc3).symm.trans h
    refine fe_ic (pc' := 11) dX9_now_10 rfl ic_m1 ?_
    cases h
    exact fe_ri dX9_now_11 rfl
-- Mo_holds: X9_holds
set_option maxRecDepth 4000 in
theorem lp_Mo_holds_L2 {hE : am_H} {r : Option Value} : ∀ (n : Nat) (g : am_G) (x1 : Int32) (w : am_G), Mo_holds_L2 n g x1 = some w → am_E 0 mX9_holds (26, [], [], (sh0, w)) hE r → am_E 0 mX9_holds (2, [(0, .ref 221), (1, .int x1)], [], (sh0, g)) hE r := by
  intro n
  induction n with
  | zero => intro g x1 q h; cases h
  | succ n ih =>
    intro g x1 q h k1
    replace h : _ = _ := h
    unfold Mo_holds_L2 at h
    refine fe_lin (pc' := 3) dX9_holds_2 rfl rfl ?_
    refine fe_bp (pc' := 5) dX9_holds_3 rfl ib_29 ?_
    refine fe_ic_ge (pc' := 8) (tgt := 26) dX9_holds_5 rfl rfl (fun hc1 => ?_) (fun hc1 => ?_)
    · replace h := (if_pos hc1).symm.trans h
      refine fe_pick [] rfl ?_
      cases h
      exact k1
    · replace h := (if_neg hc1).symm.trans h
      refine fe_lan (pc' := 9) dX9_holds_8 rfl rfl ?_
      refine fe_gf (pc' := 12) dX9_holds_9 rfl fl_9_38 n_221 gf_221_16 ?_
      refine fe_lin (pc' := 13) dX9_holds_12 rfl rfl ?_
      refine fe_lan (pc' := 14) dX9_holds_13 rfl rfl ?_
      refine fe_gf (pc' := 17) dX9_holds_14 rfl fl_9_19 n_221 gf_221_5 ?_
      refine fe_lin (pc' := 18) dX9_holds_17 rfl rfl ?_
      obtain ⟨hi2, h⟩ := am_gd rfl h
      refine fe_al (pc' := 19) (j := x1.toNatClampNeg) dX9_holds_18 rfl n_225 s_225 hi2 rfl ?_
      obtain ⟨hi3, h⟩ := am_gd rfl h
      refine fe_as (pc' := 20) (j := x1.toNatClampNeg) dX9_holds_19 rfl n_231 s_231 hi3 rfl ?_
      refine fe_inc (pc' := 23) (lo' := [(0, .ref 221), (1, .int (x1 + 1))]) dX9_holds_20 rfl ic_1 (Nat.le_of_ble_eq_true rfl) rfl rfl ?_
      refine fe_go (tgt := 2) dX9_holds_23 rfl ?_
      exact ih (am_wr g 231 x1.toNatClampNeg (g.1 225 x1.toNatClampNeg)) (x1 + 1) q h k1
set_option maxRecDepth 4000 in
theorem ev_Mo_holds {g : am_G} {w : am_G} (h : Mo_holds g  = some w) : am_Ev 1 160 [.ref 221] (sh0, g) (sh0, w) (none) := by
  unfold Mo_holds at h
  refine am_ev mX9_holds (by rfl) (Nat.le_of_ble_eq_true rfl) [(0, .ref 221)] rfl ?_
  refine fe_ic (pc' := 1) dX9_holds_0 rfl ic_0 ?_
  refine fe_sin (pc' := 2) (lo' := [(0, .ref 221), (1, .int 0)]) dX9_holds_1 rfl (Nat.le_of_ble_eq_true rfl) rfl ?_
  obtain ⟨q4, hq5, h⟩ := am_bd h
  refine lp_Mo_holds_L2 _ g 0 q4 hq5 ?_
  cases h
  exact fe_rv dX9_holds_26 rfl
-- Mo_lets: X9_lets
set_option maxRecDepth 4000 in
theorem lp_Mo_lets_L2 {hE : am_H} {r : Option Value} : ∀ (n : Nat) (g : am_G) (x1 : Int32) (w : am_G), Mo_lets_L2 n g x1 = some w → am_E 0 mX9_lets (26, [], [], (sh0, w)) hE r → am_E 0 mX9_lets (2, [(0, .ref 221), (1, .int x1)], [], (sh0, g)) hE r := by
  intro n
  induction n with
  | zero => intro g x1 q h; cases h
  | succ n ih =>
    intro g x1 q h k1
    replace h : _ = _ := h
    unfold Mo_lets_L2 at h
    refine fe_lin (pc' := 3) dX9_lets_2 rfl rfl ?_
    refine fe_bp (pc' := 5) dX9_lets_3 rfl ib_29 ?_
    refine fe_ic_ge (pc' := 8) (tgt := 26) dX9_lets_5 rfl rfl (fun hc1 => ?_) (fun hc1 => ?_)
    · replace h := (if_pos hc1).symm.trans h
      refine fe_pick [] rfl ?_
      cases h
      exact k1
    · replace h := (if_neg hc1).symm.trans h
      refine fe_lan (pc' := 9) dX9_lets_8 rfl rfl ?_
      refine fe_gf (pc' := 12) dX9_lets_9 rfl fl_9_19 n_221 gf_221_5 ?_
      refine fe_lin (pc' := 13) dX9_lets_12 rfl rfl ?_
      refine fe_lan (pc' := 14) dX9_lets_13 rfl rfl ?_
      refine fe_gf (pc' := 17) dX9_lets_14 rfl fl_9_38 n_221 gf_221_16 ?_
      refine fe_lin (pc' := 18) dX9_lets_17 rfl rfl ?_
      obtain ⟨hi2, h⟩ := am_gd rfl h
      refine fe_al (pc' := 19) (j := x1.toNatClampNeg) dX9_lets_18 rfl n_231 s_231 hi2 rfl ?_
      obtain ⟨hi3, h⟩ := am_gd rfl h
      refine fe_as (pc' := 20) (j := x1.toNatClampNeg) dX9_lets_19 rfl n_225 s_225 hi3 rfl ?_
      refine fe_inc (pc' := 23) (lo' := [(0, .ref 221), (1, .int (x1 + 1))]) dX9_lets_20 rfl ic_1 (Nat.le_of_ble_eq_true rfl) rfl rfl ?_
      refine fe_go (tgt := 2) dX9_lets_23 rfl ?_
      exact ih (am_wr g 225 x1.toNatClampNeg (g.1 231 x1.toNatClampNeg)) (x1 + 1) q h k1
set_option maxRecDepth 4000 in
theorem ev_Mo_lets {g : am_G} {w : am_G} (h : Mo_lets g  = some w) : am_Ev 1 161 [.ref 221] (sh0, g) (sh0, w) (none) := by
  unfold Mo_lets at h
  refine am_ev mX9_lets (by rfl) (Nat.le_of_ble_eq_true rfl) [(0, .ref 221)] rfl ?_
  refine fe_ic (pc' := 1) dX9_lets_0 rfl ic_0 ?_
  refine fe_sin (pc' := 2) (lo' := [(0, .ref 221), (1, .int 0)]) dX9_lets_1 rfl (Nat.le_of_ble_eq_true rfl) rfl ?_
  obtain ⟨q4, hq5, h⟩ := am_bd h
  refine lp_Mo_lets_L2 _ g 0 q4 hq5 ?_
  cases h
  exact fe_rv dX9_lets_26 rfl
-- Mo_rest: X9_rest
set_option maxRecDepth 4000 in
theorem lp_Mo_rest_L19 {hE : am_H} {r : Option Value} : ∀ (n : Nat) (g : am_G) (x1 : Int32) (w : am_G), Mo_rest_L19 n g x1 = some w → am_E 4 mX9_rest (38, [(0, .ref 221), (1, .int x1)], [], (sh0, w)) hE r → am_E 4 mX9_rest (19, [(0, .ref 221), (1, .int x1)], [], (sh0, g)) hE r := by
  intro n
  induction n with
  | zero => intro g x1 q h; cases h
  | succ n ih =>
    intro g x1 q h k1
    replace h : _ = _ := h
    unfold Mo_rest_L19 at h
    refine fe_lan (pc' := 20) dX9_rest_19 rfl rfl ?_
    obtain ⟨q8, hq9, h⟩ := am_bd h
    refine fe_iv (pc' := 23) (as := [.ref 221]) (h1 := (sh0, g)) (r1 := some (.int (am_b q8))) (st' := [.int (am_b q8)]) dX9_rest_20 rfl cl_9_138 rfl rfl s_221 ms_153 ⟨n_221, rfl, by decide, Nat.le_of_ble_eq_true rfl, Nat.le_of_ble_eq_true rfl⟩ (am_le0 _ _ _) (am_up (by decide) (ev_Mo_isStage hq9)) rfl ?_
    refine fe_bT (pc' := 26) (tgt := 38) dX9_rest_23 rfl rfl rfl (fun hc10 => ?_) (fun hc10 => ?_)
    · replace h := (if_pos hc10).symm.trans h
      refine fe_lan (pc' := 27) dX9_rest_26 rfl rfl ?_
      refine fe_lan (pc' := 28) dX9_rest_27 rfl rfl ?_
      obtain ⟨q11, hq12, h⟩ := am_bd h
      refine fe_iv (pc' := 31) (as := [.ref 221]) (h1 := (sh0, g)) (r1 := some (.int (am_b q11))) (st' := [.int (am_b q11), .ref 221]) dX9_rest_28 rfl cl_9_144 rfl rfl s_221 ms_154 ⟨n_221, rfl, by decide, Nat.le_of_ble_eq_true rfl, Nat.le_of_ble_eq_true rfl⟩ (am_le0 _ _ _) (am_up (by decide) (ev_Mo_isRain hq12)) rfl ?_
      obtain ⟨q13, hq14, h⟩ := am_bd h
      refine fe_iv (pc' := 34) (as := [.ref 221, .int (am_b q11)]) (h1 := (sh0, q13.1)) (r1 := some (.int q13.2)) (st' := [.int q13.2]) dX9_rest_31 rfl cl_9_147 rfl rfl s_221 ms_152 ⟨n_221, rfl, by decide, Nat.le_of_ble_eq_true rfl, Nat.le_of_ble_eq_true rfl⟩ (am_le0 _ _ _) (am_up (by decide) (ev_Mo_stageGoes hq14)) rfl ?_
      refine fe_pop (pc' := 35) dX9_rest_34 rfl rfl ?_
      refine fe_go (tgt := 19) dX9_rest_35 rfl ?_
      exact ih q13.1 x1 q h k1
    · replace h := (if_neg hc10).symm.trans h
      cases h
      exact k1
set_option maxRecDepth 4000 in
theorem ev_Mo_rest {g : am_G} {x1 : Int32} {w : (am_G × Int32)} (h : Mo_rest g x1 = some w) : am_Ev 5 162 [.ref 221, .int x1] (sh0, g) (sh0, w.1) (some (.int w.2)) := by
  unfold Mo_rest at h
  refine am_ev mX9_rest (by rfl) (Nat.le_of_ble_eq_true rfl) [(0, .ref 221), (1, .int x1)] rfl ?_
  refine fe_lin (pc' := 1) dX9_rest_0 rfl rfl ?_
  refine fe_ic (pc' := 2) dX9_rest_1 rfl ic_0 ?_
  refine fe_ic (pc' := 3) dX9_rest_2 rfl ic_1 ?_
  obtain ⟨q1, hq2, h⟩ := am_bd h
  refine fe_is (pc' := 6) (as := [.int x1, .int 0, .int 1]) (h1 := (sh0, g)) (r1 := some (.int (am_b q1))) (st' := [.int (am_b q1)]) dX9_rest_3 rfl cl_9_48 (Or.inl rfl) rfl rfl ⟨Nat.le_of_ble_eq_true rfl, Nat.le_of_ble_eq_true rfl⟩ (am_le0 _ _ _) (am_up (by decide) (ev_Mo_in hq2)) rfl ?_
  refine fe_bF (pc' := 9) (tgt := 11) dX9_rest_6 rfl rfl rfl (fun hc3 => ?_) (fun hc3 => ?_)
  · replace h := (if_pos hc3).symm.trans h
    refine fe_lan (pc' := 12) dX9_rest_11 rfl rfl ?_
    obtain ⟨q4, hq5, h⟩ := am_bd h
    refine fe_iv (pc' := 15) (as := [.ref 221]) (h1 := (sh0, q4)) (r1 := none) (st' := []) dX9_rest_12 rfl cl_9_158 rfl rfl s_221 ms_160 ⟨n_221, rfl, by decide, Nat.le_of_ble_eq_true rfl, Nat.le_of_ble_eq_true rfl⟩ (am_le0 _ _ _) (am_up (by decide) (ev_Mo_holds hq5)) rfl ?_
    refine fe_lan (pc' := 16) dX9_rest_15 rfl rfl ?_
    obtain ⟨q6, hq7, h⟩ := am_bd h
    refine fe_iv (pc' := 19) (as := [.ref 221]) (h1 := (sh0, q6)) (r1 := none) (st' := []) dX9_rest_16 rfl cl_9_141 rfl rfl s_221 ms_150 ⟨n_221, rfl, by decide, Nat.le_of_ble_eq_true rfl, Nat.le_of_ble_eq_true rfl⟩ (am_le0 _ _ _) (am_up (by decide) (ev_Mo_plainOrder hq7)) rfl ?_
    obtain ⟨q15, hq20, h⟩ := am_bd h
    refine lp_Mo_rest_L19 _ q6 x1 q15 hq20 ?_
    refine fe_lan (pc' := 39) dX9_rest_38 rfl rfl ?_
    refine fe_gf (pc' := 42) dX9_rest_39 rfl fl_9_19 n_221 gf_221_5 ?_
    refine fe_ic (pc' := 43) dX9_rest_42 rfl ic_1 ?_
    refine fe_lin (pc' := 44) dX9_rest_43 rfl rfl ?_
    refine fe_iadd (pc' := 45) dX9_rest_44 rfl ?_
    obtain ⟨hi16, h⟩ := am_gd rfl h
    refine fe_al (pc' := 46) (j := (1 + x1).toNatClampNeg) dX9_rest_45 rfl n_225 s_225 hi16 rfl ?_
    refine fe_lan (pc' := 47) dX9_rest_46 rfl rfl ?_
    refine fe_gf (pc' := 50) dX9_rest_47 rfl fl_9_38 n_221 gf_221_16 ?_
    refine fe_ic (pc' := 51) dX9_rest_50 rfl ic_1 ?_
    refine fe_lin (pc' := 52) dX9_rest_51 rfl rfl ?_
    refine fe_iadd (pc' := 53) dX9_rest_52 rfl ?_
    obtain ⟨hi17, h⟩ := am_gd rfl h
    refine fe_al (pc' := 54) (j := (1 + x1).toNatClampNeg) dX9_rest_53 rfl n_231 s_231 hi17 rfl ?_
    refine fe_isub (pc' := 55) dX9_rest_54 rfl ?_
    refine fe_sin (pc' := 56) (lo' := [(0, .ref 221), (1, .int x1), (2, .int ((q15.1 225 (1 + x1).toNatClampNeg) - (q15.1 231 (1 + x1).toNatClampNeg)))]) dX9_rest_55 rfl (Nat.le_of_ble_eq_true rfl) rfl ?_
    refine fe_lan (pc' := 57) dX9_rest_56 rfl rfl ?_
    obtain ⟨q18, hq19, h⟩ := am_bd h
    refine fe_iv (pc' := 60) (as := [.ref 221]) (h1 := (sh0, q18)) (r1 := none) (st' := []) dX9_rest_57 rfl cl_9_161 rfl rfl s_221 ms_161 ⟨n_221, rfl, by decide, Nat.le_of_ble_eq_true rfl, Nat.le_of_ble_eq_true rfl⟩ (am_le0 _ _ _) (am_up (by decide) (ev_Mo_lets hq19)) rfl ?_
    refine fe_lin (pc' := 61) dX9_rest_60 rfl rfl ?_
    cases h
    exact fe_ri dX9_rest_61 rfl
  · replace h := (if_neg hc3).symm.trans h
    refine fe_ic (pc' := 10) dX9_rest_9 rfl ic_m1 ?_
    cases h
    exact fe_ri dX9_rest_10 rfl
-- Mo_spent: X9_spent
set_option maxRecDepth 4000 in
theorem lp_Mo_spent_L52 {hE : am_H} {r : Option Value} : ∀ (n : Nat) (g : am_G) (x1 : Int32) (x2 : Int32) (x3 : Int32) (w : Int32), Mo_spent_L52 n g x1 x2 x3 = some w → am_E 4 mX9_spent (95, [(0, .ref 221), (1, .int x1), (2, .int w)], [], (sh0, g)) hE r → am_E 4 mX9_spent (52, [(0, .ref 221), (1, .int x1), (2, .int x2), (3, .int x3)], [], (sh0, g)) hE r := by
  intro n
  induction n with
  | zero => intro g x1 x2 x3 q h; cases h
  | succ n ih =>
    intro g x1 x2 x3 q h k1
    replace h : _ = _ := h
    unfold Mo_spent_L52 at h
    refine fe_lin (pc' := 53) dX9_spent_52 rfl rfl ?_
    refine fe_if_lt (pc' := 56) (tgt := 95) dX9_spent_53 rfl rfl (fun hc16 => ?_) (fun hc16 => ?_)
    · replace h := (if_pos hc16).symm.trans h
      refine fe_pick [0, 1, 2] rfl ?_
      cases h
      exact k1
    · replace h := (if_neg hc16).symm.trans h
      refine fe_lan (pc' := 57) dX9_spent_56 rfl rfl ?_
      refine fe_lin (pc' := 58) dX9_spent_57 rfl rfl ?_
      refine fe_lan (pc' := 59) dX9_spent_58 rfl rfl ?_
      refine fe_lin (pc' := 60) dX9_spent_59 rfl rfl ?_
      obtain ⟨q17, hq18, h⟩ := am_bd h
      refine fe_iv (pc' := 63) (as := [.ref 221, .int x3]) (h1 := (sh0, g)) (r1 := some (.int q17)) (st' := [.int q17, .int x3, .ref 221]) dX9_spent_60 rfl cl_9_109 rfl rfl s_221 ms_137 ⟨n_221, rfl, by decide, Nat.le_of_ble_eq_true rfl, Nat.le_of_ble_eq_true rfl⟩ (am_le0 _ _ _) (am_up (by decide) (ev_Mo_load hq18)) rfl ?_
      obtain ⟨q19, hq20, h⟩ := am_bd h
      refine fe_iv (pc' := 66) (as := [.ref 221, .int x3, .int q17]) (h1 := (sh0, g)) (r1 := some (.int q19)) (st' := [.int q19]) dX9_spent_63 rfl cl_9_112 rfl rfl s_221 ms_139 ⟨n_221, rfl, by decide, Nat.le_of_ble_eq_true rfl, Nat.le_of_ble_eq_true rfl⟩ (am_le0 _ _ _) (am_up (by decide) (ev_Mo_pace hq20)) rfl ?_
      refine fe_ic (pc' := 67) dX9_spent_66 rfl ic_1 ?_
      have K : am_E 4 mX9_spent (88, [(0, .ref 221), (1, .int x1), (3, .int x3)], [.int (if q19 = 1 then if x1 = 0 then x3 else g.1 225 0 else x2 : Int32)], (sh0, g)) hE r := by
        refine fe_sin (pc' := 89) (lo' := [(0, .ref 221), (1, .int x1), (2, .int (if q19 = 1 then if x1 = 0 then x3 else g.1 225 0 else x2 : Int32)), (3, .int x3)]) dX9_spent_88 rfl (Nat.le_of_ble_eq_true rfl) rfl ?_
        refine fe_inc (pc' := 92) (lo' := [(0, .ref 221), (1, .int x1), (2, .int (if q19 = 1 then if x1 = 0 then x3 else g.1 225 0 else x2 : Int32)), (3, .int (x3 + (-1)))]) dX9_spent_89 rfl ic_m1 (Nat.le_of_ble_eq_true rfl) rfl rfl ?_
        refine fe_go (tgt := 52) dX9_spent_92 rfl ?_
        exact ih g x1 (if q19 = 1 then if x1 = 0 then x3 else g.1 225 0 else x2 : Int32) (x3 + (-1)) q h k1
      refine fe_ic_ne (pc' := 70) (tgt := 87) dX9_spent_67 rfl rfl (fun hc21 => ?_) (fun hc21 => ?_)
      · refine fe_lin (pc' := 71) dX9_spent_70 rfl rfl ?_
        refine fe_if_ne (pc' := 74) (tgt := 78) dX9_spent_71 rfl rfl (fun hc22 => ?_) (fun hc22 => ?_)
        · refine fe_lin (pc' := 75) dX9_spent_74 rfl rfl ?_
          refine fe_go (tgt := 88) dX9_spent_75 rfl ?_
          refine fe_pick [0, 1, 3] rfl ?_
          simp only [if_pos hc21, if_pos hc22] at K ⊢
          exact K
        · refine fe_lan (pc' := 79) dX9_spent_78 rfl rfl ?_
          refine fe_gf (pc' := 82) dX9_spent_79 rfl fl_9_19 n_221 gf_221_5 ?_
          refine fe_ic (pc' := 83) dX9_spent_82 rfl ic_0 ?_
          refine fe_al (pc' := 84) (j := 0) dX9_spent_83 rfl n_225 s_225 (by decide) (by decide) ?_
          refine fe_go (tgt := 88) dX9_spent_84 rfl ?_
          refine fe_pick [0, 1, 3] rfl ?_
          simp only [if_pos hc21, if_neg hc22] at K ⊢
          exact K
      · refine fe_lin (pc' := 88) dX9_spent_87 rfl rfl ?_
        refine fe_pick [0, 1, 3] rfl ?_
        simp only [if_neg hc21] at K ⊢
        exact K
set_option maxRecDepth 4000 in
theorem lp_Mo_spent_L22 {hE : am_H} {r : Option Value} : ∀ (n : Nat) (g : am_G) (x1 : Int32) (x2 : Int32) (w : am_G × Int32), Mo_spent_L22 n g x1 x2 = some w → am_E 4 mX9_spent (113, [(0, .ref 221), (2, .int w.2)], [], (sh0, w.1)) hE r → am_E 4 mX9_spent (22, [(0, .ref 221), (1, .int x1), (2, .int x2)], [], (sh0, g)) hE r := by
  intro n
  induction n with
  | zero => intro g x1 x2 q h; cases h
  | succ n ih =>
    intro g x1 x2 q h k1
    replace h : _ = _ := h
    unfold Mo_spent_L22 at h
    refine fe_lan (pc' := 23) dX9_spent_22 rfl rfl ?_
    obtain ⟨q8, hq9, h⟩ := am_bd h
    refine fe_iv (pc' := 26) (as := [.ref 221]) (h1 := (sh0, g)) (r1 := some (.int (am_b q8))) (st' := [.int (am_b q8)]) dX9_spent_23 rfl cl_9_138 rfl rfl s_221 ms_153 ⟨n_221, rfl, by decide, Nat.le_of_ble_eq_true rfl, Nat.le_of_ble_eq_true rfl⟩ (am_le0 _ _ _) (am_up (by decide) (ev_Mo_isStage hq9)) rfl ?_
    refine fe_bT (pc' := 29) (tgt := 113) dX9_spent_26 rfl rfl rfl (fun hc10 => ?_) (fun hc10 => ?_)
    · replace h := (if_pos hc10).symm.trans h
      refine fe_lin (pc' := 30) dX9_spent_29 rfl rfl ?_
      refine fe_bp (pc' := 32) dX9_spent_30 rfl ib_m9 ?_
      refine fe_ic_ne (pc' := 35) (tgt := 113) dX9_spent_32 rfl rfl (fun hc11 => ?_) (fun hc11 => ?_)
      · replace h := (if_pos hc11).symm.trans h
        refine fe_lan (pc' := 36) dX9_spent_35 rfl rfl ?_
        refine fe_lan (pc' := 37) dX9_spent_36 rfl rfl ?_
        obtain ⟨q12, hq13, h⟩ := am_bd h
        refine fe_iv (pc' := 40) (as := [.ref 221]) (h1 := (sh0, g)) (r1 := some (.int (am_b q12))) (st' := [.int (am_b q12), .ref 221]) dX9_spent_37 rfl cl_9_144 rfl rfl s_221 ms_154 ⟨n_221, rfl, by decide, Nat.le_of_ble_eq_true rfl, Nat.le_of_ble_eq_true rfl⟩ (am_le0 _ _ _) (am_up (by decide) (ev_Mo_isRain hq13)) rfl ?_
        obtain ⟨q14, hq15, h⟩ := am_bd h
        refine fe_iv (pc' := 43) (as := [.ref 221, .int (am_b q12)]) (h1 := (sh0, q14)) (r1 := none) (st' := []) dX9_spent_40 rfl cl_9_128 rfl rfl s_221 ms_148 ⟨n_221, rfl, by decide, Nat.le_of_ble_eq_true rfl, Nat.le_of_ble_eq_true rfl⟩ (am_le0 _ _ _) (am_up (by decide) (ev_Mo_rains hq15)) rfl ?_
        refine fe_lan (pc' := 44) dX9_spent_43 rfl rfl ?_
        refine fe_gf (pc' := 47) dX9_spent_44 rfl fl_9_13 n_221 gf_221_3 ?_
        refine fe_ic (pc' := 48) dX9_spent_47 rfl ic_0 ?_
        refine fe_al (pc' := 49) (j := 0) dX9_spent_48 rfl n_223 s_223 (by decide) (by decide) ?_
        refine fe_ic (pc' := 50) dX9_spent_49 rfl ic_1 ?_
        refine fe_isub (pc' := 51) dX9_spent_50 rfl ?_
        refine fe_sin (pc' := 52) (lo' := [(0, .ref 221), (1, .int x1), (2, .int x2), (3, .int ((q14.1 223 0) - 1))]) dX9_spent_51 rfl (Nat.le_of_ble_eq_true rfl) rfl ?_
        obtain ⟨q24, hq33, h⟩ := am_bd h
        refine lp_Mo_spent_L52 _ q14 x1 x2 ((q14.1 223 0) - 1) q24 hq33 ?_
        refine fe_lin (pc' := 96) dX9_spent_95 rfl rfl ?_
        refine fe_bp (pc' := 98) dX9_spent_96 rfl ib_m9 ?_
        refine fe_ic_ne (pc' := 101) (tgt := 22) dX9_spent_98 rfl rfl (fun hc25 => ?_) (fun hc25 => ?_)
        · replace h := (if_pos hc25).symm.trans h
          refine fe_lan (pc' := 102) dX9_spent_101 rfl rfl ?_
          refine fe_lan (pc' := 103) dX9_spent_102 rfl rfl ?_
          obtain ⟨q26, hq27, h⟩ := am_bd h
          refine fe_iv (pc' := 106) (as := [.ref 221]) (h1 := (sh0, q14)) (r1 := some (.int (am_b q26))) (st' := [.int (am_b q26), .ref 221]) dX9_spent_103 rfl cl_9_144 rfl rfl s_221 ms_154 ⟨n_221, rfl, by decide, Nat.le_of_ble_eq_true rfl, Nat.le_of_ble_eq_true rfl⟩ (am_le0 _ _ _) (am_up (by decide) (ev_Mo_isRain hq27)) rfl ?_
          obtain ⟨q28, hq29, h⟩ := am_bd h
          refine fe_iv (pc' := 109) (as := [.ref 221, .int (am_b q26)]) (h1 := (sh0, q28.1)) (r1 := some (.int q28.2)) (st' := [.int q28.2]) dX9_spent_106 rfl cl_9_147 rfl rfl s_221 ms_152 ⟨n_221, rfl, by decide, Nat.le_of_ble_eq_true rfl, Nat.le_of_ble_eq_true rfl⟩ (am_le0 _ _ _) (am_up (by decide) (ev_Mo_stageGoes hq29)) rfl ?_
          refine fe_pop (pc' := 110) dX9_spent_109 rfl rfl ?_
          refine fe_go (tgt := 22) dX9_spent_110 rfl ?_
          exact ih q28.1 x1 q24 q h k1
        · replace h := (if_neg hc25).symm.trans h
          exact ih q14 x1 q24 q h k1
      · replace h := (if_neg hc11).symm.trans h
        refine fe_pick [0, 2] rfl ?_
        cases h
        exact k1
    · replace h := (if_neg hc10).symm.trans h
      refine fe_pick [0, 2] rfl ?_
      cases h
      exact k1
set_option maxRecDepth 4000 in
theorem ev_Mo_spent {g : am_G} {x1 : Int32} {w : (am_G × Int32)} (h : Mo_spent g x1 = some w) : am_Ev 5 163 [.ref 221, .int x1] (sh0, g) (sh0, w.1) (some (.int w.2)) := by
  unfold Mo_spent at h
  refine am_ev mX9_spent (by rfl) (Nat.le_of_ble_eq_true rfl) [(0, .ref 221), (1, .int x1)] rfl ?_
  refine fe_lin (pc' := 1) dX9_spent_0 rfl rfl ?_
  refine fe_ic (pc' := 2) dX9_spent_1 rfl ic_0 ?_
  refine fe_ic (pc' := 3) dX9_spent_2 rfl ic_1 ?_
  obtain ⟨q1, hq2, h⟩ := am_bd h
  refine fe_is (pc' := 6) (as := [.int x1, .int 0, .int 1]) (h1 := (sh0, g)) (r1 := some (.int (am_b q1))) (st' := [.int (am_b q1)]) dX9_spent_3 rfl cl_9_48 (Or.inl rfl) rfl rfl ⟨Nat.le_of_ble_eq_true rfl, Nat.le_of_ble_eq_true rfl⟩ (am_le0 _ _ _) (am_up (by decide) (ev_Mo_in hq2)) rfl ?_
  refine fe_bF (pc' := 9) (tgt := 11) dX9_spent_6 rfl rfl rfl (fun hc3 => ?_) (fun hc3 => ?_)
  · replace h := (if_pos hc3).symm.trans h
    refine fe_lan (pc' := 12) dX9_spent_11 rfl rfl ?_
    obtain ⟨q4, hq5, h⟩ := am_bd h
    refine fe_iv (pc' := 15) (as := [.ref 221]) (h1 := (sh0, q4)) (r1 := none) (st' := []) dX9_spent_12 rfl cl_9_158 rfl rfl s_221 ms_160 ⟨n_221, rfl, by decide, Nat.le_of_ble_eq_true rfl, Nat.le_of_ble_eq_true rfl⟩ (am_le0 _ _ _) (am_up (by decide) (ev_Mo_holds hq5)) rfl ?_
    refine fe_lan (pc' := 16) dX9_spent_15 rfl rfl ?_
    obtain ⟨q6, hq7, h⟩ := am_bd h
    refine fe_iv (pc' := 19) (as := [.ref 221]) (h1 := (sh0, q6)) (r1 := none) (st' := []) dX9_spent_16 rfl cl_9_141 rfl rfl s_221 ms_150 ⟨n_221, rfl, by decide, Nat.le_of_ble_eq_true rfl, Nat.le_of_ble_eq_true rfl⟩ (am_le0 _ _ _) (am_up (by decide) (ev_Mo_plainOrder hq7)) rfl ?_
    refine fe_bp (pc' := 21) dX9_spent_19 rfl ib_m9 ?_
    refine fe_sin (pc' := 22) (lo' := [(0, .ref 221), (1, .int x1), (2, .int (-9))]) dX9_spent_21 rfl (Nat.le_of_ble_eq_true rfl) rfl ?_
    obtain ⟨q30, hq34, h⟩ := am_bd h
    refine lp_Mo_spent_L22 _ q6 x1 (-9) q30 hq34 ?_
    refine fe_lan (pc' := 114) dX9_spent_113 rfl rfl ?_
    obtain ⟨q31, hq32, h⟩ := am_bd h
    refine fe_iv (pc' := 117) (as := [.ref 221]) (h1 := (sh0, q31)) (r1 := none) (st' := []) dX9_spent_114 rfl cl_9_161 rfl rfl s_221 ms_161 ⟨n_221, rfl, by decide, Nat.le_of_ble_eq_true rfl, Nat.le_of_ble_eq_true rfl⟩ (am_le0 _ _ _) (am_up (by decide) (ev_Mo_lets hq32)) rfl ?_
    refine fe_lin (pc' := 118) dX9_spent_117 rfl rfl ?_
    cases h
    exact fe_ri dX9_spent_118 rfl
  · replace h := (if_neg hc3).symm.trans h
    refine fe_ic (pc' := 10) dX9_spent_9 rfl ic_m1 ?_
    cases h
    exact fe_ri dX9_spent_10 rfl
-- Mo_lays: X9_lays
set_option maxRecDepth 4000 in
theorem lp_Mo_lays_L11 {hE : am_H} {r : Option Value} : ∀ (n : Nat) (g : am_G) (x2 : Int32) (x3 : Int32) (w : am_G), Mo_lays_L11 n g x2 x3 = some w → am_E 0 mX9_lays (61, [], [], (sh0, w)) hE r → am_E 0 mX9_lays (11, [(0, .ref 221), (2, .int x2), (3, .int x3)], [], (sh0, g)) hE r := by
  intro n
  induction n with
  | zero => intro g x2 x3 q h; cases h
  | succ n ih =>
    intro g x2 x3 q h k1
    replace h : _ = _ := h
    unfold Mo_lays_L11 at h
    refine fe_lin (pc' := 12) dX9_lays_11 rfl rfl ?_
    refine fe_if_lt (pc' := 15) (tgt := 61) dX9_lays_12 rfl rfl (fun hc1 => ?_) (fun hc1 => ?_)
    · replace h := (if_pos hc1).symm.trans h
      refine fe_pick [] rfl ?_
      cases h
      exact k1
    · replace h := (if_neg hc1).symm.trans h
      refine fe_lan (pc' := 16) dX9_lays_15 rfl rfl ?_
      refine fe_gf (pc' := 19) dX9_lays_16 rfl fl_9_19 n_221 gf_221_5 ?_
      refine fe_bp (pc' := 21) dX9_lays_19 rfl ib_8 ?_
      refine fe_lin (pc' := 22) dX9_lays_21 rfl rfl ?_
      refine fe_iadd (pc' := 23) dX9_lays_22 rfl ?_
      obtain ⟨hi2, h⟩ := am_gd rfl h
      refine fe_al (pc' := 24) (j := (8 + x3).toNatClampNeg) dX9_lays_23 rfl n_225 s_225 hi2 rfl ?_
      refine fe_bp (pc' := 26) dX9_lays_24 rfl ib_9 ?_
      obtain ⟨q6, hq8, h⟩ := am_bd h
      have K : am_E 0 mX9_lays (55, [(0, .ref 221), (2, .int q6.2), (3, .int x3)], [], (sh0, q6.1)) hE r := by
        refine fe_inc (pc' := 58) (lo' := [(0, .ref 221), (2, .int q6.2), (3, .int (x3 + (-1)))]) dX9_lays_55 rfl ic_m1 (Nat.le_of_ble_eq_true rfl) rfl rfl ?_
        refine fe_go (tgt := 11) dX9_lays_58 rfl ?_
        exact ih q6.1 q6.2 (x3 + (-1)) q h k1
      replace h := hq8
      refine fe_ic_eq (pc' := 29) (tgt := 55) dX9_lays_26 rfl rfl (fun hc3 => ?_) (fun hc3 => ?_)
      · replace h := (if_pos hc3).symm.trans h
        cases h
        exact K
      · replace h := (if_neg hc3).symm.trans h
        refine fe_lan (pc' := 30) dX9_lays_29 rfl rfl ?_
        refine fe_gf (pc' := 33) dX9_lays_30 rfl fl_9_19 n_221 gf_221_5 ?_
        refine fe_bp (pc' := 35) dX9_lays_33 rfl ib_8 ?_
        refine fe_lin (pc' := 36) dX9_lays_35 rfl rfl ?_
        refine fe_iadd (pc' := 37) dX9_lays_36 rfl ?_
        refine fe_lin (pc' := 38) dX9_lays_37 rfl rfl ?_
        refine fe_lan (pc' := 39) dX9_lays_38 rfl rfl ?_
        refine fe_gf (pc' := 42) dX9_lays_39 rfl fl_9_13 n_221 gf_221_3 ?_
        refine fe_ic (pc' := 43) dX9_lays_42 rfl ic_0 ?_
        refine fe_al (pc' := 44) (j := 0) dX9_lays_43 rfl n_223 s_223 (by decide) (by decide) ?_
        obtain ⟨hz4, h⟩ := am_gd rfl h
        refine fe_irem (pc' := 45) dX9_lays_44 rfl hz4 ?_
        refine fe_as (pc' := 46) (j := (8 + x3).toNatClampNeg) dX9_lays_45 rfl n_225 s_225 hi2 rfl ?_
        refine fe_lin (pc' := 47) dX9_lays_46 rfl rfl ?_
        refine fe_lan (pc' := 48) dX9_lays_47 rfl rfl ?_
        refine fe_gf (pc' := 51) dX9_lays_48 rfl fl_9_13 n_221 gf_221_3 ?_
        refine fe_ic (pc' := 52) dX9_lays_51 rfl ic_0 ?_
        refine fe_al (pc' := 53) (j := 0) dX9_lays_52 rfl n_223 s_223 (by decide) (by decide) ?_
        obtain ⟨hz5, h⟩ := am_gd rfl h
        refine fe_idiv (pc' := 54) dX9_lays_53 rfl hz5 ?_
        refine fe_sin (pc' := 55) (lo' := [(0, .ref 221), (2, .int (x2 / ((am_wr g 225 (8 + x3).toNatClampNeg (x2 - x2 / (g.1 223 0) * (g.1 223 0))).1 223 0))), (3, .int x3)]) dX9_lays_54 rfl (Nat.le_of_ble_eq_true rfl) rfl ?_
        cases h
        exact K
set_option maxRecDepth 4000 in
theorem ev_Mo_lays {g : am_G} {x1 : Int32} {w : am_G} (h : Mo_lays g x1 = some w) : am_Ev 1 165 [.ref 221, .int x1] (sh0, g) (sh0, w) (none) := by
  unfold Mo_lays at h
  refine am_ev mX9_lays (by rfl) (Nat.le_of_ble_eq_true rfl) [(0, .ref 221), (1, .int x1)] rfl ?_
  refine fe_lin (pc' := 1) dX9_lays_0 rfl rfl ?_
  refine fe_sin (pc' := 2) (lo' := [(0, .ref 221), (1, .int x1), (2, .int x1)]) dX9_lays_1 rfl (Nat.le_of_ble_eq_true rfl) rfl ?_
  refine fe_lan (pc' := 3) dX9_lays_2 rfl rfl ?_
  refine fe_gf (pc' := 6) dX9_lays_3 rfl fl_9_13 n_221 gf_221_3 ?_
  refine fe_ic (pc' := 7) dX9_lays_6 rfl ic_1 ?_
  refine fe_al (pc' := 8) (j := 1) dX9_lays_7 rfl n_223 s_223 (by decide) (by decide) ?_
  refine fe_ic (pc' := 9) dX9_lays_8 rfl ic_1 ?_
  refine fe_isub (pc' := 10) dX9_lays_9 rfl ?_
  refine fe_sin (pc' := 11) (lo' := [(0, .ref 221), (1, .int x1), (2, .int x1), (3, .int ((g.1 223 1) - 1))]) dX9_lays_10 rfl (Nat.le_of_ble_eq_true rfl) rfl ?_
  obtain ⟨q7, hq9, h⟩ := am_bd h
  refine fe_pick [0, 2, 3] rfl ?_
  refine lp_Mo_lays_L11 _ g x1 ((g.1 223 1) - 1) q7 hq9 ?_
  cases h
  exact fe_rv dX9_lays_61 rfl
-- Mo_soonest: X9_soonest
set_option maxRecDepth 4000 in
theorem lp_Mo_soonest_L56 {hE : am_H} {r : Option Value} : ∀ (n : Nat) (g : am_G) (x1 : Int32) (x2 : Int32) (x3 : Int32) (w : Int32), Mo_soonest_L56 n g x1 x2 x3 = some w → am_E 3 mX9_soonest (99, [(0, .ref 221), (1, .int x1), (2, .int w)], [], (sh0, g)) hE r → am_E 3 mX9_soonest (56, [(0, .ref 221), (1, .int x1), (2, .int x2), (3, .int x3)], [], (sh0, g)) hE r := by
  intro n
  induction n with
  | zero => intro g x1 x2 x3 q h; cases h
  | succ n ih =>
    intro g x1 x2 x3 q h k1
    replace h : _ = _ := h
    unfold Mo_soonest_L56 at h
    refine fe_lin (pc' := 57) dX9_soonest_56 rfl rfl ?_
    refine fe_lan (pc' := 58) dX9_soonest_57 rfl rfl ?_
    refine fe_gf (pc' := 61) dX9_soonest_58 rfl fl_9_13 n_221 gf_221_3 ?_
    refine fe_ic (pc' := 62) dX9_soonest_61 rfl ic_1 ?_
    refine fe_al (pc' := 63) (j := 1) dX9_soonest_62 rfl n_223 s_223 (by decide) (by decide) ?_
    refine fe_ic_ge (pc' := 66) (tgt := 99) dX9_soonest_63 rfl rfl (fun hc17 => ?_) (fun hc17 => ?_)
    · replace h := (if_pos hc17).symm.trans h
      refine fe_pick [0, 1, 2] rfl ?_
      cases h
      exact k1
    · replace h := (if_neg hc17).symm.trans h
      refine fe_lin (pc' := 67) dX9_soonest_66 rfl rfl ?_
      refine fe_lan (pc' := 68) dX9_soonest_67 rfl rfl ?_
      refine fe_gf (pc' := 71) dX9_soonest_68 rfl fl_9_19 n_221 gf_221_5 ?_
      refine fe_bp (pc' := 73) dX9_soonest_71 rfl ib_8 ?_
      refine fe_lin (pc' := 74) dX9_soonest_73 rfl rfl ?_
      refine fe_iadd (pc' := 75) dX9_soonest_74 rfl ?_
      obtain ⟨hi18, h⟩ := am_gd rfl h
      refine fe_al (pc' := 76) (j := (8 + x3).toNatClampNeg) dX9_soonest_75 rfl n_225 s_225 hi18 rfl ?_
      refine fe_bp (pc' := 78) dX9_soonest_76 rfl ib_9 ?_
      have K : am_E 3 mX9_soonest (91, [(0, .ref 221), (1, .int x1), (3, .int x3)], [.int (if (g.1 225 (8 + x3).toNatClampNeg) = 9 then 1 else g.1 223 0 : Int32), .int x2], (sh0, g)) hE r := by
        refine fe_imul (pc' := 92) dX9_soonest_91 rfl ?_
        refine fe_sin (pc' := 93) (lo' := [(0, .ref 221), (1, .int x1), (2, .int (x2 * (if (g.1 225 (8 + x3).toNatClampNeg) = 9 then 1 else g.1 223 0 : Int32))), (3, .int x3)]) dX9_soonest_92 rfl (Nat.le_of_ble_eq_true rfl) rfl ?_
        refine fe_inc (pc' := 96) (lo' := [(0, .ref 221), (1, .int x1), (2, .int (x2 * (if (g.1 225 (8 + x3).toNatClampNeg) = 9 then 1 else g.1 223 0 : Int32))), (3, .int (x3 + 1))]) dX9_soonest_93 rfl ic_1 (Nat.le_of_ble_eq_true rfl) rfl rfl ?_
        refine fe_go (tgt := 56) dX9_soonest_96 rfl ?_
        exact ih g x1 (x2 * (if (g.1 225 (8 + x3).toNatClampNeg) = 9 then 1 else g.1 223 0 : Int32)) (x3 + 1) q h k1
      refine fe_ic_ne (pc' := 81) (tgt := 85) dX9_soonest_78 rfl rfl (fun hc19 => ?_) (fun hc19 => ?_)
      · refine fe_ic (pc' := 82) dX9_soonest_81 rfl ic_1 ?_
        refine fe_go (tgt := 91) dX9_soonest_82 rfl ?_
        refine fe_pick [0, 1, 3] rfl ?_
        simp only [if_pos hc19] at K ⊢
        exact K
      · refine fe_lan (pc' := 86) dX9_soonest_85 rfl rfl ?_
        refine fe_gf (pc' := 89) dX9_soonest_86 rfl fl_9_13 n_221 gf_221_3 ?_
        refine fe_ic (pc' := 90) dX9_soonest_89 rfl ic_0 ?_
        refine fe_al (pc' := 91) (j := 0) dX9_soonest_90 rfl n_223 s_223 (by decide) (by decide) ?_
        refine fe_pick [0, 1, 3] rfl ?_
        simp only [if_neg hc19] at K ⊢
        exact K
set_option maxRecDepth 4000 in
theorem lp_Mo_soonest_L107 {hE : am_H} {r : Option Value} : ∀ (n : Nat) (g : am_G) (x1 : Int32) (x2 : Int32) (x3 : Int32) (x4 : Int32) (x5 : Int32) (w : am_G × Int32 × Int32), Mo_soonest_L107 n g x1 x2 x3 x4 x5 = some w → am_E 3 mX9_soonest (191, [(0, .ref 221), (1, .int x1), (3, .int w.2.1), (4, .int w.2.2)], [], (sh0, w.1)) hE r → am_E 3 mX9_soonest (107, [(0, .ref 221), (1, .int x1), (2, .int x2), (3, .int x3), (4, .int x4), (5, .int x5)], [], (sh0, g)) hE r := by
  intro n
  induction n with
  | zero => intro g x1 x2 x3 x4 x5 q h; cases h
  | succ n ih =>
    intro g x1 x2 x3 x4 x5 q h k1
    replace h : _ = _ := h
    unfold Mo_soonest_L107 at h
    refine fe_li (pc' := 109) dX9_soonest_107 rfl rfl ?_
    refine fe_lin (pc' := 110) dX9_soonest_109 rfl rfl ?_
    refine fe_ic_ge (pc' := 113) (tgt := 191) dX9_soonest_110 rfl rfl (fun hc22 => ?_) (fun hc22 => ?_)
    · replace h := (if_pos hc22).symm.trans h
      refine fe_pick [0, 1, 3, 4] rfl ?_
      cases h
      exact k1
    · replace h := (if_neg hc22).symm.trans h
      refine fe_lan (pc' := 114) dX9_soonest_113 rfl rfl ?_
      refine fe_li (pc' := 116) dX9_soonest_114 rfl rfl ?_
      obtain ⟨q23, hq24, h⟩ := am_bd h
      refine fe_iv (pc' := 119) (as := [.ref 221, .int x5]) (h1 := (sh0, q23)) (r1 := none) (st' := []) dX9_soonest_116 rfl cl_9_164 rfl rfl s_221 ms_165 ⟨n_221, rfl, by decide, Nat.le_of_ble_eq_true rfl, Nat.le_of_ble_eq_true rfl⟩ (am_le0 _ _ _) (am_up (by decide) (ev_Mo_lays hq24)) rfl ?_
      refine fe_sp (pc' := 122) dX9_soonest_119 rfl is_1024 ?_
      refine fe_lan (pc' := 123) dX9_soonest_122 rfl rfl ?_
      refine fe_lan (pc' := 124) dX9_soonest_123 rfl rfl ?_
      refine fe_gf (pc' := 127) dX9_soonest_124 rfl fl_9_13 n_221 gf_221_3 ?_
      refine fe_bp (pc' := 129) dX9_soonest_127 rfl ib_47 ?_
      refine fe_lan (pc' := 130) dX9_soonest_129 rfl rfl ?_
      refine fe_gf (pc' := 133) dX9_soonest_130 rfl fl_9_19 n_221 gf_221_5 ?_
      refine fe_ic (pc' := 134) dX9_soonest_133 rfl ic_0 ?_
      refine fe_al (pc' := 135) (j := 0) dX9_soonest_134 rfl n_225 s_225 (by decide) (by decide) ?_
      refine fe_iadd (pc' := 136) dX9_soonest_135 rfl ?_
      obtain ⟨hi25, h⟩ := am_gd rfl h
      refine fe_al (pc' := 137) (j := (47 + (q23.1 225 0)).toNatClampNeg) dX9_soonest_136 rfl n_223 s_223 hi25 rfl ?_
      obtain ⟨q26, hq27, h⟩ := am_bd h
      refine fe_iv (pc' := 140) (as := [.ref 221, .int (q23.1 223 (47 + (q23.1 225 0)).toNatClampNeg)]) (h1 := (sh0, q23)) (r1 := some (.int q26)) (st' := [.int q26, .int 1024]) dX9_soonest_137 rfl cl_9_132 rfl rfl s_221 ms_149 ⟨n_221, rfl, by decide, Nat.le_of_ble_eq_true rfl, Nat.le_of_ble_eq_true rfl⟩ (am_le0 _ _ _) (am_up (by decide) (ev_Mo_slowest hq27)) rfl ?_
      refine fe_imul (pc' := 141) dX9_soonest_140 rfl ?_
      refine fe_lan (pc' := 142) dX9_soonest_141 rfl rfl ?_
      refine fe_ic (pc' := 143) dX9_soonest_142 rfl ic_0 ?_
      obtain ⟨q28, hq29, h⟩ := am_bd h
      refine fe_iv (pc' := 146) (as := [.ref 221, .int 0]) (h1 := (sh0, q23)) (r1 := some (.int q28)) (st' := [.int q28, .int (1024 * q26)]) dX9_soonest_143 rfl cl_9_151 rfl rfl s_221 ms_157 ⟨n_221, rfl, by decide, Nat.le_of_ble_eq_true rfl, Nat.le_of_ble_eq_true rfl⟩ (am_le0 _ _ _) (am_up (by decide) (ev_Mo_fair hq29)) rfl ?_
      refine fe_iadd (pc' := 147) dX9_soonest_146 rfl ?_
      refine fe_si (pc' := 149) (lo' := [(0, .ref 221), (1, .int x1), (2, .int x2), (3, .int x3), (4, .int x4), (5, .int x5), (6, .int ((1024 * q26) + q28))]) dX9_soonest_147 rfl (Nat.le_of_ble_eq_true rfl) rfl ?_
      refine fe_lin (pc' := 150) dX9_soonest_149 rfl rfl ?_
      have K : am_E 3 mX9_soonest (166, [(0, .ref 221), (1, .int x1), (2, .int x2), (3, .int x3), (5, .int x5), (6, .int ((1024 * q26) + q28))], [.int (if x3 < 0 then x5 else if x3 ≤ ((1024 * q26) + q28) then x4 else x5 : Int32)], (sh0, q23)) hE r := by
        refine fe_si (pc' := 168) (lo' := [(0, .ref 221), (1, .int x1), (2, .int x2), (3, .int x3), (4, .int (if x3 < 0 then x5 else if x3 ≤ ((1024 * q26) + q28) then x4 else x5 : Int32)), (5, .int x5), (6, .int ((1024 * q26) + q28))]) dX9_soonest_166 rfl (Nat.le_of_ble_eq_true rfl) rfl ?_
        refine fe_lin (pc' := 169) dX9_soonest_168 rfl rfl ?_
        have K : am_E 3 mX9_soonest (184, [(0, .ref 221), (1, .int x1), (2, .int x2), (4, .int (if x3 < 0 then x5 else if x3 ≤ ((1024 * q26) + q28) then x4 else x5 : Int32)), (5, .int x5)], [.int (if x3 < 0 then (1024 * q26) + q28 else if x3 ≤ ((1024 * q26) + q28) then x3 else (1024 * q26) + q28 : Int32)], (sh0, q23)) hE r := by
          refine fe_sin (pc' := 185) (lo' := [(0, .ref 221), (1, .int x1), (2, .int x2), (3, .int (if x3 < 0 then (1024 * q26) + q28 else if x3 ≤ ((1024 * q26) + q28) then x3 else (1024 * q26) + q28 : Int32)), (4, .int (if x3 < 0 then x5 else if x3 ≤ ((1024 * q26) + q28) then x4 else x5 : Int32)), (5, .int x5)]) dX9_soonest_184 rfl (Nat.le_of_ble_eq_true rfl) rfl ?_
          refine fe_inc (pc' := 188) (lo' := [(0, .ref 221), (1, .int x1), (2, .int x2), (3, .int (if x3 < 0 then (1024 * q26) + q28 else if x3 ≤ ((1024 * q26) + q28) then x3 else (1024 * q26) + q28 : Int32)), (4, .int (if x3 < 0 then x5 else if x3 ≤ ((1024 * q26) + q28) then x4 else x5 : Int32)), (5, .int (x5 + 1))]) dX9_soonest_185 rfl ic_1 (Nat.le_of_ble_eq_true rfl) rfl rfl ?_
          refine fe_go (tgt := 107) dX9_soonest_188 rfl ?_
          exact ih q23 x1 x2 (if x3 < 0 then (1024 * q26) + q28 else if x3 ≤ ((1024 * q26) + q28) then x3 else (1024 * q26) + q28 : Int32) (if x3 < 0 then x5 else if x3 ≤ ((1024 * q26) + q28) then x4 else x5 : Int32) (x5 + 1) q h k1
        refine fe_if_lt (pc' := 172) (tgt := 178) dX9_soonest_169 rfl rfl (fun hc33 => ?_) (fun hc33 => ?_)
        · refine fe_li (pc' := 180) dX9_soonest_178 rfl rfl ?_
          refine fe_go (tgt := 184) dX9_soonest_180 rfl ?_
          refine fe_pick [0, 1, 2, 4, 5] rfl ?_
          simp only [if_pos hc33] at K ⊢
          exact K
        · refine fe_li (pc' := 174) dX9_soonest_172 rfl rfl ?_
          refine fe_lin (pc' := 175) dX9_soonest_174 rfl rfl ?_
          refine fe_ic_ge (pc' := 178) (tgt := 183) dX9_soonest_175 rfl rfl (fun hc34 => ?_) (fun hc34 => ?_)
          · refine fe_lin (pc' := 184) dX9_soonest_183 rfl rfl ?_
            refine fe_pick [0, 1, 2, 4, 5] rfl ?_
            simp only [if_neg hc33, if_pos hc34] at K ⊢
            exact K
          · refine fe_li (pc' := 180) dX9_soonest_178 rfl rfl ?_
            refine fe_go (tgt := 184) dX9_soonest_180 rfl ?_
            refine fe_pick [0, 1, 2, 4, 5] rfl ?_
            simp only [if_neg hc33, if_neg hc34] at K ⊢
            exact K
      refine fe_if_lt (pc' := 153) (tgt := 159) dX9_soonest_150 rfl rfl (fun hc30 => ?_) (fun hc30 => ?_)
      · refine fe_li (pc' := 161) dX9_soonest_159 rfl rfl ?_
        refine fe_go (tgt := 166) dX9_soonest_161 rfl ?_
        refine fe_pick [0, 1, 2, 3, 5, 6] rfl ?_
        simp only [if_pos hc30] at K ⊢
        exact K
      · refine fe_li (pc' := 155) dX9_soonest_153 rfl rfl ?_
        refine fe_lin (pc' := 156) dX9_soonest_155 rfl rfl ?_
        refine fe_ic_ge (pc' := 159) (tgt := 164) dX9_soonest_156 rfl rfl (fun hc31 => ?_) (fun hc31 => ?_)
        · refine fe_li (pc' := 166) dX9_soonest_164 rfl rfl ?_
          refine fe_pick [0, 1, 2, 3, 5, 6] rfl ?_
          simp only [if_neg hc30, if_pos hc31] at K ⊢
          exact K
        · refine fe_li (pc' := 161) dX9_soonest_159 rfl rfl ?_
          refine fe_go (tgt := 166) dX9_soonest_161 rfl ?_
          refine fe_pick [0, 1, 2, 3, 5, 6] rfl ?_
          simp only [if_neg hc30, if_neg hc31] at K ⊢
          exact K
set_option maxRecDepth 4000 in
theorem ev_Mo_soonest {g : am_G} {x1 : Int32} {w : (am_G × Int32)} (h : Mo_soonest g x1 = some w) : am_Ev 4 164 [.ref 221, .int x1] (sh0, g) (sh0, w.1) (some (.int w.2)) := by
  unfold Mo_soonest at h
  refine am_ev mX9_soonest (by rfl) (Nat.le_of_ble_eq_true rfl) [(0, .ref 221), (1, .int x1)] rfl ?_
  refine fe_lin (pc' := 1) dX9_soonest_0 rfl rfl ?_
  refine fe_ic (pc' := 2) dX9_soonest_1 rfl ic_m1 ?_
  obtain ⟨q6, hq46, h⟩ := am_bd h
  have K : q6 = none → am_E 3 mX9_soonest (21, [(0, .ref 221), (1, .int x1)], [], (sh0, g)) (sh0, w.1) (some (.int w.2)) := by
    intro e
    subst e
    replace h : _ = _ := h
    refine fe_lan (pc' := 22) dX9_soonest_21 rfl rfl ?_
    obtain ⟨q7, hq8, h⟩ := am_bd h
    refine fe_iv (pc' := 25) (as := [.ref 221]) (h1 := (sh0, g)) (r1 := some (.int (am_b q7))) (st' := [.int (am_b q7)]) dX9_soonest_22 rfl cl_9_138 rfl rfl s_221 ms_153 ⟨n_221, rfl, by decide, Nat.le_of_ble_eq_true rfl, Nat.le_of_ble_eq_true rfl⟩ (am_le0 _ _ _) (am_up (by decide) (ev_Mo_isStage hq8)) rfl ?_
    refine fe_bT (pc' := 28) (tgt := 37) dX9_soonest_25 rfl rfl rfl (fun hc9 => ?_) (fun hc9 => ?_)
    · replace h := (if_pos hc9).symm.trans h
      refine fe_lan (pc' := 29) dX9_soonest_28 rfl rfl ?_
      refine fe_gf (pc' := 32) dX9_soonest_29 rfl fl_9_13 n_221 gf_221_3 ?_
      refine fe_ic (pc' := 33) dX9_soonest_32 rfl ic_0 ?_
      refine fe_al (pc' := 34) (j := 0) dX9_soonest_33 rfl n_223 s_223 (by decide) (by decide) ?_
      refine fe_if_ne (pc' := 37) (tgt := 40) dX9_soonest_34 rfl rfl (fun hc10 => ?_) (fun hc10 => ?_)
      · replace h := (if_pos hc10).symm.trans h
        refine fe_bp (pc' := 39) dX9_soonest_37 rfl ib_m9 ?_
        cases h
        exact fe_ri dX9_soonest_39 rfl
      · replace h := (if_neg hc10).symm.trans h
        refine fe_lan (pc' := 41) dX9_soonest_40 rfl rfl ?_
        obtain ⟨q11, hq12, h⟩ := am_bd h
        refine fe_iv (pc' := 44) (as := [.ref 221]) (h1 := (sh0, q11)) (r1 := none) (st' := []) dX9_soonest_41 rfl cl_9_158 rfl rfl s_221 ms_160 ⟨n_221, rfl, by decide, Nat.le_of_ble_eq_true rfl, Nat.le_of_ble_eq_true rfl⟩ (am_le0 _ _ _) (am_up (by decide) (ev_Mo_holds hq12)) rfl ?_
        refine fe_lan (pc' := 45) dX9_soonest_44 rfl rfl ?_
        refine fe_lan (pc' := 46) dX9_soonest_45 rfl rfl ?_
        obtain ⟨q13, hq14, h⟩ := am_bd h
        refine fe_iv (pc' := 49) (as := [.ref 221]) (h1 := (sh0, q11)) (r1 := some (.int (am_b q13))) (st' := [.int (am_b q13), .ref 221]) dX9_soonest_46 rfl cl_9_144 rfl rfl s_221 ms_154 ⟨n_221, rfl, by decide, Nat.le_of_ble_eq_true rfl, Nat.le_of_ble_eq_true rfl⟩ (am_le0 _ _ _) (am_up (by decide) (ev_Mo_isRain hq14)) rfl ?_
        obtain ⟨q15, hq16, h⟩ := am_bd h
        refine fe_iv (pc' := 52) (as := [.ref 221, .int (am_b q13)]) (h1 := (sh0, q15)) (r1 := none) (st' := []) dX9_soonest_49 rfl cl_9_128 rfl rfl s_221 ms_148 ⟨n_221, rfl, by decide, Nat.le_of_ble_eq_true rfl, Nat.le_of_ble_eq_true rfl⟩ (am_le0 _ _ _) (am_up (by decide) (ev_Mo_rains hq16)) rfl ?_
        refine fe_ic (pc' := 53) dX9_soonest_52 rfl ic_1 ?_
        refine fe_sin (pc' := 54) (lo' := [(0, .ref 221), (1, .int x1), (2, .int 1)]) dX9_soonest_53 rfl (Nat.le_of_ble_eq_true rfl) rfl ?_
        refine fe_ic (pc' := 55) dX9_soonest_54 rfl ic_0 ?_
        refine fe_sin (pc' := 56) (lo' := [(0, .ref 221), (1, .int x1), (2, .int 1), (3, .int 0)]) dX9_soonest_55 rfl (Nat.le_of_ble_eq_true rfl) rfl ?_
        obtain ⟨q21, hq47, h⟩ := am_bd h
        refine lp_Mo_soonest_L56 _ q15 x1 1 0 q21 hq47 ?_
        refine fe_ic (pc' := 100) dX9_soonest_99 rfl ic_m1 ?_
        refine fe_sin (pc' := 101) (lo' := [(0, .ref 221), (1, .int x1), (2, .int q21), (3, .int (-1))]) dX9_soonest_100 rfl (Nat.le_of_ble_eq_true rfl) rfl ?_
        refine fe_ic (pc' := 102) dX9_soonest_101 rfl ic_0 ?_
        refine fe_si (pc' := 104) (lo' := [(0, .ref 221), (1, .int x1), (2, .int q21), (3, .int (-1)), (4, .int 0)]) dX9_soonest_102 rfl (Nat.le_of_ble_eq_true rfl) rfl ?_
        refine fe_ic (pc' := 105) dX9_soonest_104 rfl ic_0 ?_
        refine fe_si (pc' := 107) (lo' := [(0, .ref 221), (1, .int x1), (2, .int q21), (3, .int (-1)), (4, .int 0), (5, .int 0)]) dX9_soonest_105 rfl (Nat.le_of_ble_eq_true rfl) rfl ?_
        obtain ⟨q36, hq48, h⟩ := am_bd h
        refine lp_Mo_soonest_L107 _ q15 x1 q21 (-1) 0 0 q36 hq48 ?_
        refine fe_lan (pc' := 192) dX9_soonest_191 rfl rfl ?_
        refine fe_li (pc' := 194) dX9_soonest_192 rfl rfl ?_
        obtain ⟨q37, hq38, h⟩ := am_bd h
        refine fe_iv (pc' := 197) (as := [.ref 221, .int q36.2.2]) (h1 := (sh0, q37)) (r1 := none) (st' := []) dX9_soonest_194 rfl cl_9_164 rfl rfl s_221 ms_165 ⟨n_221, rfl, by decide, Nat.le_of_ble_eq_true rfl, Nat.le_of_ble_eq_true rfl⟩ (am_le0 _ _ _) (am_up (by decide) (ev_Mo_lays hq38)) rfl ?_
        refine fe_lin (pc' := 198) dX9_soonest_197 rfl rfl ?_
        obtain ⟨q41, hq49, h⟩ := am_bd h
        have K : am_E 3 mX9_soonest (214, [(0, .ref 221), (1, .int x1), (3, .int q36.2.1)], [.int q41], (sh0, q37)) (sh0, w.1) (some (.int w.2)) := by
          refine fe_si (pc' := 216) (lo' := [(0, .ref 221), (1, .int x1), (3, .int q36.2.1), (5, .int q41)]) dX9_soonest_214 rfl (Nat.le_of_ble_eq_true rfl) rfl ?_
          refine fe_lan (pc' := 217) dX9_soonest_216 rfl rfl ?_
          obtain ⟨q42, hq43, h⟩ := am_bd h
          refine fe_iv (pc' := 220) (as := [.ref 221]) (h1 := (sh0, q42)) (r1 := none) (st' := []) dX9_soonest_217 rfl cl_9_161 rfl rfl s_221 ms_161 ⟨n_221, rfl, by decide, Nat.le_of_ble_eq_true rfl, Nat.le_of_ble_eq_true rfl⟩ (am_le0 _ _ _) (am_up (by decide) (ev_Mo_lets hq43)) rfl ?_
          refine fe_lin (pc' := 221) dX9_soonest_220 rfl rfl ?_
          refine fe_ic (pc' := 222) dX9_soonest_221 rfl ic_m1 ?_
          refine fe_ic_ne (pc' := 225) (tgt := 233) dX9_soonest_222 rfl rfl (fun hc44 => ?_) (fun hc44 => ?_)
          · replace h := (if_pos hc44).symm.trans h
            refine fe_lin (pc' := 226) dX9_soonest_225 rfl rfl ?_
            refine fe_sp (pc' := 229) dX9_soonest_226 rfl is_1024 ?_
            refine fe_idiv (pc' := 230) dX9_soonest_229 rfl (by decide) ?_
            refine fe_go (tgt := 249) dX9_soonest_230 rfl ?_
            cases h
            exact fe_ri dX9_soonest_249 rfl
          · replace h := (if_neg hc44).symm.trans h
            refine fe_lin (pc' := 234) dX9_soonest_233 rfl rfl ?_
            refine fe_bp (pc' := 236) dX9_soonest_234 rfl ib_m2 ?_
            refine fe_ic_ne (pc' := 239) (tgt := 247) dX9_soonest_236 rfl rfl (fun hc45 => ?_) (fun hc45 => ?_)
            · replace h := (if_pos hc45).symm.trans h
              refine fe_lin (pc' := 240) dX9_soonest_239 rfl rfl ?_
              refine fe_sp (pc' := 243) dX9_soonest_240 rfl is_1024 ?_
              refine fe_irem (pc' := 244) dX9_soonest_243 rfl (by decide) ?_
              refine fe_go (tgt := 249) dX9_soonest_244 rfl ?_
              cases h
              exact fe_ri dX9_soonest_249 rfl
            · replace h := (if_neg hc45).symm.trans h
              refine fe_li (pc' := 249) dX9_soonest_247 rfl rfl ?_
              cases h
              exact fe_ri dX9_soonest_249 rfl
        replace h := hq49
        refine fe_if_ge (pc' := 201) (tgt := 205) dX9_soonest_198 rfl rfl (fun hc39 => ?_) (fun hc39 => ?_)
        · replace h := (if_pos hc39).symm.trans h
          refine fe_lan (pc' := 206) dX9_soonest_205 rfl rfl ?_
          refine fe_gf (pc' := 209) dX9_soonest_206 rfl fl_9_19 n_221 gf_221_5 ?_
          refine fe_bp (pc' := 211) dX9_soonest_209 rfl ib_8 ?_
          refine fe_lin (pc' := 212) dX9_soonest_211 rfl rfl ?_
          refine fe_iadd (pc' := 213) dX9_soonest_212 rfl ?_
          obtain ⟨hi40, h⟩ := am_gd rfl h
          refine fe_al (pc' := 214) (j := (8 + x1).toNatClampNeg) dX9_soonest_213 rfl n_225 s_225 hi40 rfl ?_
          refine fe_pick [0, 1, 2] rfl ?_
          cases h
          exact K
        · replace h := (if_neg hc39).symm.trans h
          refine fe_ic (pc' := 202) dX9_soonest_201 rfl ic_0 ?_
          refine fe_go (tgt := 214) dX9_soonest_202 rfl ?_
          refine fe_pick [0, 1, 2] rfl ?_
          cases h
          exact K
    · replace h := (if_neg hc9).symm.trans h
      refine fe_bp (pc' := 39) dX9_soonest_37 rfl ib_m9 ?_
      cases h
      exact fe_ri dX9_soonest_39 rfl
  have K2 : ∀ v, q6 = some v → v = w := by
    intro v e
    subst e
    exact Option.some.inj h
  replace h := hq46
  refine fe_ic_eq (pc' := 5) (tgt := 21) dX9_soonest_2 rfl rfl (fun hc1 => ?_) (fun hc1 => ?_)
  · replace h := (if_pos hc1).symm.trans h
    exact K (Option.some.inj h).symm
  · replace h := (if_neg hc1).symm.trans h
    refine fe_lin (pc' := 6) dX9_soonest_5 rfl rfl ?_
    refine fe_bp (pc' := 8) dX9_soonest_6 rfl ib_m2 ?_
    refine fe_ic_eq (pc' := 11) (tgt := 21) dX9_soonest_8 rfl rfl (fun hc2 => ?_) (fun hc2 => ?_)
    · replace h := (if_pos hc2).symm.trans h
      exact K (Option.some.inj h).symm
    · replace h := (if_neg hc2).symm.trans h
      refine fe_lan (pc' := 12) dX9_soonest_11 rfl rfl ?_
      refine fe_lin (pc' := 13) dX9_soonest_12 rfl rfl ?_
      obtain ⟨q3, hq4, h⟩ := am_bd h
      refine fe_iv (pc' := 16) (as := [.ref 221, .int x1]) (h1 := (sh0, g)) (r1 := some (.int (am_b q3))) (st' := [.int (am_b q3)]) dX9_soonest_13 rfl cl_9_116 rfl rfl s_221 ms_121 ⟨n_221, rfl, by decide, Nat.le_of_ble_eq_true rfl, Nat.le_of_ble_eq_true rfl⟩ (am_le0 _ _ _) (am_up (by decide) (ev_Mo_isThing hq4)) rfl ?_
      refine fe_bF (pc' := 19) (tgt := 21) dX9_soonest_16 rfl rfl rfl (fun hc5 => ?_) (fun hc5 => ?_)
      · replace h := (if_pos hc5).symm.trans h
        exact K (Option.some.inj h).symm
      · replace h := (if_neg hc5).symm.trans h
        refine fe_ic (pc' := 20) dX9_soonest_19 rfl ic_m1 ?_
        obtain rfl := K2 _ (Option.some.inj h).symm
        exact fe_ri dX9_soonest_20 rfl
-- Mo_helps: X9_helps
set_option maxRecDepth 4000 in
theorem lp_Mo_helps_L75 {hE : am_H} {r : Option Value} : ∀ (n : Nat) (g : am_G) (x1 : Int32) (x2 : Int32) (x3 : Int32) (x4 : Int32) (x5 : Int32) (x6 : Int32) (w : am_G × Int32 × Int32), Mo_helps_L75 n g x1 x2 x3 x4 x5 x6 = some w → am_E 3 mX9_helps (150, [(0, .ref 221), (1, .int x1), (2, .int w.2.1), (3, .int w.2.2), (4, .int x4), (5, .int x5)], [], (sh0, w.1)) hE r → am_E 3 mX9_helps (75, [(0, .ref 221), (1, .int x1), (2, .int x2), (3, .int x3), (4, .int x4), (5, .int x5), (6, .int x6)], [], (sh0, g)) hE r := by
  intro n
  induction n with
  | zero => intro g x1 x2 x3 x4 x5 x6 q h; cases h
  | succ n ih =>
    intro g x1 x2 x3 x4 x5 x6 q h k1
    replace h : _ = _ := h
    unfold Mo_helps_L75 at h
    refine fe_li (pc' := 77) dX9_helps_75 rfl rfl ?_
    refine fe_lan (pc' := 78) dX9_helps_77 rfl rfl ?_
    refine fe_gf (pc' := 81) dX9_helps_78 rfl fl_9_13 n_221 gf_221_3 ?_
    refine fe_ic (pc' := 82) dX9_helps_81 rfl ic_0 ?_
    refine fe_al (pc' := 83) (j := 0) dX9_helps_82 rfl n_223 s_223 (by decide) (by decide) ?_
    refine fe_ic_ge (pc' := 86) (tgt := 150) dX9_helps_83 rfl rfl (fun hc15 => ?_) (fun hc15 => ?_)
    · replace h := (if_pos hc15).symm.trans h
      refine fe_pick [0, 1, 2, 3, 4, 5] rfl ?_
      cases h
      exact k1
    · replace h := (if_neg hc15).symm.trans h
      refine fe_li (pc' := 88) dX9_helps_86 rfl rfl ?_
      refine fe_bp (pc' := 90) dX9_helps_88 rfl ib_9 ?_
      refine fe_ic_eq (pc' := 93) (tgt := 150) dX9_helps_90 rfl rfl (fun hc16 => ?_) (fun hc16 => ?_)
      · replace h := (if_pos hc16).symm.trans h
        refine fe_pick [0, 1, 2, 3, 4, 5] rfl ?_
        cases h
        exact k1
      · replace h := (if_neg hc16).symm.trans h
        refine fe_lan (pc' := 94) dX9_helps_93 rfl rfl ?_
        refine fe_gf (pc' := 97) dX9_helps_94 rfl fl_9_19 n_221 gf_221_5 ?_
        refine fe_bp (pc' := 99) dX9_helps_97 rfl ib_8 ?_
        refine fe_li (pc' := 101) dX9_helps_99 rfl rfl ?_
        refine fe_iadd (pc' := 102) dX9_helps_101 rfl ?_
        refine fe_li (pc' := 104) dX9_helps_102 rfl rfl ?_
        obtain ⟨hi17, h⟩ := am_gd rfl h
        refine fe_as (pc' := 105) (j := (8 + x4).toNatClampNeg) dX9_helps_104 rfl n_225 s_225 hi17 rfl ?_
        refine fe_lan (pc' := 106) dX9_helps_105 rfl rfl ?_
        refine fe_lin (pc' := 107) dX9_helps_106 rfl rfl ?_
        obtain ⟨q18, hq19, h⟩ := am_bd h
        refine fe_iv (pc' := 110) (as := [.ref 221, .int x1]) (h1 := (sh0, am_wr g 225 (8 + x4).toNatClampNeg x6)) (r1 := some (.int q18)) (st' := [.int q18]) dX9_helps_107 rfl cl_9_132 rfl rfl s_221 ms_149 ⟨n_221, rfl, by decide, Nat.le_of_ble_eq_true rfl, Nat.le_of_ble_eq_true rfl⟩ (am_le0 _ _ _) (am_up (by decide) (ev_Mo_slowest hq19)) rfl ?_
        refine fe_si (pc' := 112) (lo' := [(0, .ref 221), (1, .int x1), (2, .int x2), (3, .int x3), (4, .int x4), (5, .int x5), (6, .int x6), (7, .int q18)]) dX9_helps_110 rfl (Nat.le_of_ble_eq_true rfl) rfl ?_
        refine fe_li (pc' := 114) dX9_helps_112 rfl rfl ?_
        refine fe_lin (pc' := 115) dX9_helps_114 rfl rfl ?_
        have K : am_E 3 mX9_helps (130, [(0, .ref 221), (1, .int x1), (2, .int x2), (4, .int x4), (5, .int x5), (6, .int x6), (7, .int q18)], [.int (if x2 ≤ q18 then x3 else (10 * x4) + x6 : Int32)], (sh0, am_wr g 225 (8 + x4).toNatClampNeg x6)) hE r := by
          refine fe_sin (pc' := 131) (lo' := [(0, .ref 221), (1, .int x1), (2, .int x2), (3, .int (if x2 ≤ q18 then x3 else (10 * x4) + x6 : Int32)), (4, .int x4), (5, .int x5), (6, .int x6), (7, .int q18)]) dX9_helps_130 rfl (Nat.le_of_ble_eq_true rfl) rfl ?_
          refine fe_li (pc' := 133) dX9_helps_131 rfl rfl ?_
          refine fe_lin (pc' := 134) dX9_helps_133 rfl rfl ?_
          have K : am_E 3 mX9_helps (143, [(0, .ref 221), (1, .int x1), (3, .int (if x2 ≤ q18 then x3 else (10 * x4) + x6 : Int32)), (4, .int x4), (5, .int x5), (6, .int x6)], [.int (if x2 ≤ q18 then x2 else q18 : Int32)], (sh0, am_wr g 225 (8 + x4).toNatClampNeg x6)) hE r := by
            refine fe_sin (pc' := 144) (lo' := [(0, .ref 221), (1, .int x1), (2, .int (if x2 ≤ q18 then x2 else q18 : Int32)), (3, .int (if x2 ≤ q18 then x3 else (10 * x4) + x6 : Int32)), (4, .int x4), (5, .int x5), (6, .int x6)]) dX9_helps_143 rfl (Nat.le_of_ble_eq_true rfl) rfl ?_
            refine fe_inc (pc' := 147) (lo' := [(0, .ref 221), (1, .int x1), (2, .int (if x2 ≤ q18 then x2 else q18 : Int32)), (3, .int (if x2 ≤ q18 then x3 else (10 * x4) + x6 : Int32)), (4, .int x4), (5, .int x5), (6, .int (x6 + 1))]) dX9_helps_144 rfl ic_1 (Nat.le_of_ble_eq_true rfl) rfl rfl ?_
            refine fe_go (tgt := 75) dX9_helps_147 rfl ?_
            exact ih (am_wr g 225 (8 + x4).toNatClampNeg x6) x1 (if x2 ≤ q18 then x2 else q18 : Int32) (if x2 ≤ q18 then x3 else (10 * x4) + x6 : Int32) x4 x5 (x6 + 1) q h k1
          refine fe_ic_ge (pc' := 137) (tgt := 142) dX9_helps_134 rfl rfl (fun hc22 => ?_) (fun hc22 => ?_)
          · refine fe_lin (pc' := 143) dX9_helps_142 rfl rfl ?_
            refine fe_pick [0, 1, 3, 4, 5, 6] rfl ?_
            simp only [if_pos hc22] at K ⊢
            exact K
          · refine fe_li (pc' := 139) dX9_helps_137 rfl rfl ?_
            refine fe_go (tgt := 143) dX9_helps_139 rfl ?_
            refine fe_pick [0, 1, 3, 4, 5, 6] rfl ?_
            simp only [if_neg hc22] at K ⊢
            exact K
        refine fe_ic_ge (pc' := 118) (tgt := 129) dX9_helps_115 rfl rfl (fun hc20 => ?_) (fun hc20 => ?_)
        · refine fe_lin (pc' := 130) dX9_helps_129 rfl rfl ?_
          refine fe_pick [0, 1, 2, 4, 5, 6, 7] rfl ?_
          simp only [if_pos hc20] at K ⊢
          exact K
        · refine fe_bp (pc' := 120) dX9_helps_118 rfl ib_10 ?_
          refine fe_li (pc' := 122) dX9_helps_120 rfl rfl ?_
          refine fe_imul (pc' := 123) dX9_helps_122 rfl ?_
          refine fe_li (pc' := 125) dX9_helps_123 rfl rfl ?_
          refine fe_iadd (pc' := 126) dX9_helps_125 rfl ?_
          refine fe_go (tgt := 130) dX9_helps_126 rfl ?_
          refine fe_pick [0, 1, 2, 4, 5, 6, 7] rfl ?_
          simp only [if_neg hc20] at K ⊢
          exact K
set_option maxRecDepth 4000 in
theorem lp_Mo_helps_L49 {hE : am_H} {r : Option Value} : ∀ (n : Nat) (g : am_G) (x1 : Int32) (x2 : Int32) (x3 : Int32) (x4 : Int32) (w : am_G × Int32), Mo_helps_L49 n g x1 x2 x3 x4 = some w → am_E 3 mX9_helps (168, [(0, .ref 221), (3, .int w.2)], [], (sh0, w.1)) hE r → am_E 3 mX9_helps (49, [(0, .ref 221), (1, .int x1), (2, .int x2), (3, .int x3), (4, .int x4)], [], (sh0, g)) hE r := by
  intro n
  induction n with
  | zero => intro g x1 x2 x3 x4 q h; cases h
  | succ n ih =>
    intro g x1 x2 x3 x4 q h k1
    replace h : _ = _ := h
    unfold Mo_helps_L49 at h
    refine fe_li (pc' := 51) dX9_helps_49 rfl rfl ?_
    refine fe_lan (pc' := 52) dX9_helps_51 rfl rfl ?_
    refine fe_gf (pc' := 55) dX9_helps_52 rfl fl_9_13 n_221 gf_221_3 ?_
    refine fe_ic (pc' := 56) dX9_helps_55 rfl ic_1 ?_
    refine fe_al (pc' := 57) (j := 1) dX9_helps_56 rfl n_223 s_223 (by decide) (by decide) ?_
    refine fe_ic_ge (pc' := 60) (tgt := 168) dX9_helps_57 rfl rfl (fun hc13 => ?_) (fun hc13 => ?_)
    · replace h := (if_pos hc13).symm.trans h
      refine fe_pick [0, 3] rfl ?_
      cases h
      exact k1
    · replace h := (if_neg hc13).symm.trans h
      refine fe_lan (pc' := 61) dX9_helps_60 rfl rfl ?_
      refine fe_gf (pc' := 64) dX9_helps_61 rfl fl_9_19 n_221 gf_221_5 ?_
      refine fe_bp (pc' := 66) dX9_helps_64 rfl ib_8 ?_
      refine fe_li (pc' := 68) dX9_helps_66 rfl rfl ?_
      refine fe_iadd (pc' := 69) dX9_helps_68 rfl ?_
      obtain ⟨hi14, h⟩ := am_gd rfl h
      refine fe_al (pc' := 70) (j := (8 + x4).toNatClampNeg) dX9_helps_69 rfl n_225 s_225 hi14 rfl ?_
      refine fe_si (pc' := 72) (lo' := [(0, .ref 221), (1, .int x1), (2, .int x2), (3, .int x3), (4, .int x4), (5, .int (g.1 225 (8 + x4).toNatClampNeg))]) dX9_helps_70 rfl (Nat.le_of_ble_eq_true rfl) rfl ?_
      refine fe_ic (pc' := 73) dX9_helps_72 rfl ic_0 ?_
      refine fe_si (pc' := 75) (lo' := [(0, .ref 221), (1, .int x1), (2, .int x2), (3, .int x3), (4, .int x4), (5, .int (g.1 225 (8 + x4).toNatClampNeg)), (6, .int 0)]) dX9_helps_73 rfl (Nat.le_of_ble_eq_true rfl) rfl ?_
      obtain ⟨q24, hq29, h⟩ := am_bd h
      refine lp_Mo_helps_L75 _ g x1 x2 x3 x4 (g.1 225 (8 + x4).toNatClampNeg) 0 q24 hq29 ?_
      refine fe_lan (pc' := 151) dX9_helps_150 rfl rfl ?_
      refine fe_gf (pc' := 154) dX9_helps_151 rfl fl_9_19 n_221 gf_221_5 ?_
      refine fe_bp (pc' := 156) dX9_helps_154 rfl ib_8 ?_
      refine fe_li (pc' := 158) dX9_helps_156 rfl rfl ?_
      refine fe_iadd (pc' := 159) dX9_helps_158 rfl ?_
      refine fe_li (pc' := 161) dX9_helps_159 rfl rfl ?_
      obtain ⟨hi25, h⟩ := am_gd rfl h
      refine fe_as (pc' := 162) (j := (8 + x4).toNatClampNeg) dX9_helps_161 rfl n_225 s_225 hi25 rfl ?_
      refine fe_inc (pc' := 165) (lo' := [(0, .ref 221), (1, .int x1), (2, .int q24.2.1), (3, .int q24.2.2), (4, .int (x4 + 1)), (5, .int (g.1 225 (8 + x4).toNatClampNeg))]) dX9_helps_162 rfl ic_1 (Nat.le_of_ble_eq_true rfl) rfl rfl ?_
      refine fe_go (tgt := 49) dX9_helps_165 rfl ?_
      refine fe_pick [0, 1, 2, 3, 4] rfl ?_
      exact ih (am_wr q24.1 225 (8 + x4).toNatClampNeg (g.1 225 (8 + x4).toNatClampNeg)) x1 q24.2.1 q24.2.2 (x4 + 1) q h k1
set_option maxRecDepth 4000 in
theorem ev_Mo_helps {g : am_G} {w : (am_G × Int32)} (h : Mo_helps g  = some w) : am_Ev 4 166 [.ref 221] (sh0, g) (sh0, w.1) (some (.int w.2)) := by
  unfold Mo_helps at h
  refine am_ev mX9_helps (by rfl) (Nat.le_of_ble_eq_true rfl) [(0, .ref 221)] rfl ?_
  refine fe_lan (pc' := 1) dX9_helps_0 rfl rfl ?_
  obtain ⟨q1, hq2, h⟩ := am_bd h
  refine fe_iv (pc' := 4) (as := [.ref 221]) (h1 := (sh0, g)) (r1 := some (.int (am_b q1))) (st' := [.int (am_b q1)]) dX9_helps_1 rfl cl_9_138 rfl rfl s_221 ms_153 ⟨n_221, rfl, by decide, Nat.le_of_ble_eq_true rfl, Nat.le_of_ble_eq_true rfl⟩ (am_le0 _ _ _) (am_up (by decide) (ev_Mo_isStage hq2)) rfl ?_
  refine fe_bF (pc' := 7) (tgt := 10) dX9_helps_4 rfl rfl rfl (fun hc3 => ?_) (fun hc3 => ?_)
  · replace h := (if_pos hc3).symm.trans h
    refine fe_lan (pc' := 11) dX9_helps_10 rfl rfl ?_
    obtain ⟨q4, hq5, h⟩ := am_bd h
    refine fe_iv (pc' := 14) (as := [.ref 221]) (h1 := (sh0, q4)) (r1 := none) (st' := []) dX9_helps_11 rfl cl_9_158 rfl rfl s_221 ms_160 ⟨n_221, rfl, by decide, Nat.le_of_ble_eq_true rfl, Nat.le_of_ble_eq_true rfl⟩ (am_le0 _ _ _) (am_up (by decide) (ev_Mo_holds hq5)) rfl ?_
    refine fe_lan (pc' := 15) dX9_helps_14 rfl rfl ?_
    refine fe_lan (pc' := 16) dX9_helps_15 rfl rfl ?_
    obtain ⟨q6, hq7, h⟩ := am_bd h
    refine fe_iv (pc' := 19) (as := [.ref 221]) (h1 := (sh0, q4)) (r1 := some (.int (am_b q6))) (st' := [.int (am_b q6), .ref 221]) dX9_helps_16 rfl cl_9_144 rfl rfl s_221 ms_154 ⟨n_221, rfl, by decide, Nat.le_of_ble_eq_true rfl, Nat.le_of_ble_eq_true rfl⟩ (am_le0 _ _ _) (am_up (by decide) (ev_Mo_isRain hq7)) rfl ?_
    obtain ⟨q8, hq9, h⟩ := am_bd h
    refine fe_iv (pc' := 22) (as := [.ref 221, .int (am_b q6)]) (h1 := (sh0, q8)) (r1 := none) (st' := []) dX9_helps_19 rfl cl_9_128 rfl rfl s_221 ms_148 ⟨n_221, rfl, by decide, Nat.le_of_ble_eq_true rfl, Nat.le_of_ble_eq_true rfl⟩ (am_le0 _ _ _) (am_up (by decide) (ev_Mo_rains hq9)) rfl ?_
    refine fe_lan (pc' := 23) dX9_helps_22 rfl rfl ?_
    refine fe_gf (pc' := 26) dX9_helps_23 rfl fl_9_13 n_221 gf_221_3 ?_
    refine fe_bp (pc' := 28) dX9_helps_26 rfl ib_47 ?_
    refine fe_lan (pc' := 29) dX9_helps_28 rfl rfl ?_
    refine fe_gf (pc' := 32) dX9_helps_29 rfl fl_9_19 n_221 gf_221_5 ?_
    refine fe_ic (pc' := 33) dX9_helps_32 rfl ic_0 ?_
    refine fe_al (pc' := 34) (j := 0) dX9_helps_33 rfl n_225 s_225 (by decide) (by decide) ?_
    refine fe_iadd (pc' := 35) dX9_helps_34 rfl ?_
    obtain ⟨hi10, h⟩ := am_gd rfl h
    refine fe_al (pc' := 36) (j := (47 + (q8.1 225 0)).toNatClampNeg) dX9_helps_35 rfl n_223 s_223 hi10 rfl ?_
    refine fe_sin (pc' := 37) (lo' := [(0, .ref 221), (1, .int (q8.1 223 (47 + (q8.1 225 0)).toNatClampNeg))]) dX9_helps_36 rfl (Nat.le_of_ble_eq_true rfl) rfl ?_
    refine fe_lan (pc' := 38) dX9_helps_37 rfl rfl ?_
    refine fe_lin (pc' := 39) dX9_helps_38 rfl rfl ?_
    obtain ⟨q11, hq12, h⟩ := am_bd h
    refine fe_iv (pc' := 42) (as := [.ref 221, .int (q8.1 223 (47 + (q8.1 225 0)).toNatClampNeg)]) (h1 := (sh0, q8)) (r1 := some (.int q11)) (st' := [.int q11]) dX9_helps_39 rfl cl_9_132 rfl rfl s_221 ms_149 ⟨n_221, rfl, by decide, Nat.le_of_ble_eq_true rfl, Nat.le_of_ble_eq_true rfl⟩ (am_le0 _ _ _) (am_up (by decide) (ev_Mo_slowest hq12)) rfl ?_
    refine fe_sin (pc' := 43) (lo' := [(0, .ref 221), (1, .int (q8.1 223 (47 + (q8.1 225 0)).toNatClampNeg)), (2, .int q11)]) dX9_helps_42 rfl (Nat.le_of_ble_eq_true rfl) rfl ?_
    refine fe_bp (pc' := 45) dX9_helps_43 rfl ib_m9 ?_
    refine fe_sin (pc' := 46) (lo' := [(0, .ref 221), (1, .int (q8.1 223 (47 + (q8.1 225 0)).toNatClampNeg)), (2, .int q11), (3, .int (-9))]) dX9_helps_45 rfl (Nat.le_of_ble_eq_true rfl) rfl ?_
    refine fe_ic (pc' := 47) dX9_helps_46 rfl ic_0 ?_
    refine fe_si (pc' := 49) (lo' := [(0, .ref 221), (1, .int (q8.1 223 (47 + (q8.1 225 0)).toNatClampNeg)), (2, .int q11), (3, .int (-9)), (4, .int 0)]) dX9_helps_47 rfl (Nat.le_of_ble_eq_true rfl) rfl ?_
    obtain ⟨q26, hq30, h⟩ := am_bd h
    refine lp_Mo_helps_L49 _ q8 (q8.1 223 (47 + (q8.1 225 0)).toNatClampNeg) q11 (-9) 0 q26 hq30 ?_
    refine fe_lan (pc' := 169) dX9_helps_168 rfl rfl ?_
    obtain ⟨q27, hq28, h⟩ := am_bd h
    refine fe_iv (pc' := 172) (as := [.ref 221]) (h1 := (sh0, q27)) (r1 := none) (st' := []) dX9_helps_169 rfl cl_9_161 rfl rfl s_221 ms_161 ⟨n_221, rfl, by decide, Nat.le_of_ble_eq_true rfl, Nat.le_of_ble_eq_true rfl⟩ (am_le0 _ _ _) (am_up (by decide) (ev_Mo_lets hq28)) rfl ?_
    refine fe_lin (pc' := 173) dX9_helps_172 rfl rfl ?_
    cases h
    exact fe_ri dX9_helps_173 rfl
  · replace h := (if_neg hc3).symm.trans h
    refine fe_bp (pc' := 9) dX9_helps_7 rfl ib_m9 ?_
    cases h
    exact fe_ri dX9_helps_9 rfl
-- Mo_leave: X9_leave
set_option maxRecDepth 4000 in
theorem lp_Mo_leave_L75 {hE : am_H} {r : Option Value} : ∀ (n : Nat) (g : am_G) (x1 : Int32) (x2 : Int32) (x3 : Int32) (x4 : Int32) (x5 : Int32) (x6 : Int32) (x7 : Int32) (x8 : Int32) (w : am_G × Int32 × Int32), Mo_leave_L75 n g x1 x2 x3 x4 x5 x6 x7 x8 = some w → am_E 3 mX9_leave (209, [(0, .ref 221), (1, .int x1), (2, .int x2), (3, .int x3), (4, .int x4), (5, .int x5), (6, .int w.2.1), (7, .int w.2.2)], [], (sh0, w.1)) hE r → am_E 3 mX9_leave (75, [(0, .ref 221), (1, .int x1), (2, .int x2), (3, .int x3), (4, .int x4), (5, .int x5), (6, .int x6), (7, .int x7), (8, .int x8)], [], (sh0, g)) hE r := by
  intro n
  induction n with
  | zero => intro g x1 x2 x3 x4 x5 x6 x7 x8 q h; cases h
  | succ n ih =>
    intro g x1 x2 x3 x4 x5 x6 x7 x8 q h k1
    replace h : _ = _ := h
    unfold Mo_leave_L75 at h
    refine fe_li (pc' := 77) dX9_leave_75 rfl rfl ?_
    refine fe_lan (pc' := 78) dX9_leave_77 rfl rfl ?_
    refine fe_gf (pc' := 81) dX9_leave_78 rfl fl_9_13 n_221 gf_221_3 ?_
    refine fe_ic (pc' := 82) dX9_leave_81 rfl ic_1 ?_
    refine fe_al (pc' := 83) (j := 1) dX9_leave_82 rfl n_223 s_223 (by decide) (by decide) ?_
    refine fe_ic_ge (pc' := 86) (tgt := 209) dX9_leave_83 rfl rfl (fun hc17 => ?_) (fun hc17 => ?_)
    · replace h := (if_pos hc17).symm.trans h
      refine fe_pick [0, 1, 2, 3, 4, 5, 6, 7] rfl ?_
      cases h
      exact k1
    · replace h := (if_neg hc17).symm.trans h
      refine fe_li (pc' := 88) dX9_leave_86 rfl rfl ?_
      refine fe_li (pc' := 90) dX9_leave_88 rfl rfl ?_
      refine fe_ishr (pc' := 91) dX9_leave_90 rfl ?_
      refine fe_ic (pc' := 92) dX9_leave_91 rfl ic_1 ?_
      refine fe_iand (pc' := 93) dX9_leave_92 rfl ?_
      refine fe_ic (pc' := 94) dX9_leave_93 rfl ic_1 ?_
      have K : am_E 3 mX9_leave (102, [(0, .ref 221), (1, .int x1), (2, .int x2), (3, .int x3), (4, .int x4), (5, .int x5), (6, .int x6), (7, .int x7), (8, .int x8)], [.int (if ((x5 >>> (x8 &&& 31)) &&& 1) = 1 then 1 else 0 : Int32)], (sh0, g)) hE r := by
        refine fe_si (pc' := 104) (lo' := [(0, .ref 221), (1, .int x1), (2, .int x2), (3, .int x3), (4, .int x4), (5, .int x5), (6, .int x6), (7, .int x7), (8, .int x8), (9, .int (if ((x5 >>> (x8 &&& 31)) &&& 1) = 1 then 1 else 0 : Int32))]) dX9_leave_102 rfl (Nat.le_of_ble_eq_true rfl) rfl ?_
        refine fe_li (pc' := 106) dX9_leave_104 rfl rfl ?_
        obtain ⟨q26, hq56, h⟩ := am_bd h
        have K : am_E 3 mX9_leave (147, [(0, .ref 221), (1, .int x1), (2, .int x2), (3, .int x3), (4, .int x4), (5, .int x5), (6, .int x6), (8, .int x8), (9, .int (if ((x5 >>> (x8 &&& 31)) &&& 1) = 1 then 1 else 0 : Int32))], [.int q26], (sh0, g)) hE r := by
          refine fe_si (pc' := 149) (lo' := [(0, .ref 221), (1, .int x1), (2, .int x2), (3, .int x3), (4, .int x4), (5, .int x5), (6, .int x6), (7, .int q26), (8, .int x8), (9, .int (if ((x5 >>> (x8 &&& 31)) &&& 1) = 1 then 1 else 0 : Int32))]) dX9_leave_147 rfl (Nat.le_of_ble_eq_true rfl) rfl ?_
          refine fe_li (pc' := 151) dX9_leave_149 rfl rfl ?_
          refine fe_li (pc' := 153) dX9_leave_151 rfl rfl ?_
          obtain ⟨q29, hq57, h⟩ := am_bd h
          have K : am_E 3 mX9_leave (170, [(0, .ref 221), (1, .int x1), (2, .int x2), (3, .int x3), (4, .int x4), (5, .int x5), (7, .int q26), (8, .int x8), (9, .int (if ((x5 >>> (x8 &&& 31)) &&& 1) = 1 then 1 else 0 : Int32))], [.int q29, .int x6], (sh0, g)) hE r := by
            refine fe_iadd (pc' := 171) dX9_leave_170 rfl ?_
            refine fe_si (pc' := 173) (lo' := [(0, .ref 221), (1, .int x1), (2, .int x2), (3, .int x3), (4, .int x4), (5, .int x5), (6, .int (x6 + q29)), (7, .int q26), (8, .int x8), (9, .int (if ((x5 >>> (x8 &&& 31)) &&& 1) = 1 then 1 else 0 : Int32))]) dX9_leave_171 rfl (Nat.le_of_ble_eq_true rfl) rfl ?_
            refine fe_lan (pc' := 174) dX9_leave_173 rfl rfl ?_
            refine fe_gf (pc' := 177) dX9_leave_174 rfl fl_9_19 n_221 gf_221_5 ?_
            refine fe_bp (pc' := 179) dX9_leave_177 rfl ib_8 ?_
            refine fe_li (pc' := 181) dX9_leave_179 rfl rfl ?_
            refine fe_iadd (pc' := 182) dX9_leave_181 rfl ?_
            refine fe_li (pc' := 184) dX9_leave_182 rfl rfl ?_
            obtain ⟨q32, hq58, h⟩ := am_bd h
            have K : am_E 3 mX9_leave (202, [(0, .ref 221), (1, .int x1), (2, .int x2), (3, .int x3), (4, .int x4), (5, .int x5), (6, .int (x6 + q29)), (7, .int q26), (8, .int x8)], [.int q32, .int (8 + x8), .ref 225], (sh0, g)) hE r := by
              obtain ⟨hi33, h⟩ := am_gd rfl h
              refine fe_as (pc' := 203) (j := (8 + x8).toNatClampNeg) dX9_leave_202 rfl n_225 s_225 hi33 rfl ?_
              refine fe_inc (pc' := 206) (lo' := [(0, .ref 221), (1, .int x1), (2, .int x2), (3, .int x3), (4, .int x4), (5, .int x5), (6, .int (x6 + q29)), (7, .int q26), (8, .int (x8 + 1))]) dX9_leave_203 rfl ic_1 (Nat.le_of_ble_eq_true rfl) rfl rfl ?_
              refine fe_go (tgt := 75) dX9_leave_206 rfl ?_
              exact ih (am_wr g 225 (8 + x8).toNatClampNeg q32) x1 x2 x3 x4 x5 (x6 + q29) q26 (x8 + 1) q h k1
            replace h := hq58
            refine fe_if_eq (pc' := 187) (tgt := 192) dX9_leave_184 rfl rfl (fun hc30 => ?_) (fun hc30 => ?_)
            · replace h := (if_pos hc30).symm.trans h
              refine fe_lan (pc' := 193) dX9_leave_192 rfl rfl ?_
              refine fe_gf (pc' := 196) dX9_leave_193 rfl fl_9_38 n_221 gf_221_16 ?_
              refine fe_bp (pc' := 198) dX9_leave_196 rfl ib_8 ?_
              refine fe_li (pc' := 200) dX9_leave_198 rfl rfl ?_
              refine fe_iadd (pc' := 201) dX9_leave_200 rfl ?_
              obtain ⟨hi31, h⟩ := am_gd rfl h
              refine fe_al (pc' := 202) (j := (8 + x8).toNatClampNeg) dX9_leave_201 rfl n_231 s_231 hi31 rfl ?_
              refine fe_pick [0, 1, 2, 3, 4, 5, 6, 7, 8] rfl ?_
              cases h
              exact K
            · replace h := (if_neg hc30).symm.trans h
              refine fe_bp (pc' := 189) dX9_leave_187 rfl ib_9 ?_
              refine fe_go (tgt := 202) dX9_leave_189 rfl ?_
              refine fe_pick [0, 1, 2, 3, 4, 5, 6, 7, 8] rfl ?_
              cases h
              exact K
          replace h := hq57
          refine fe_if_eq (pc' := 156) (tgt := 169) dX9_leave_153 rfl rfl (fun hc27 => ?_) (fun hc27 => ?_)
          · replace h := (if_pos hc27).symm.trans h
            refine fe_ic (pc' := 170) dX9_leave_169 rfl ic_0 ?_
            refine fe_pick [0, 1, 2, 3, 4, 5, 7, 8, 9] rfl ?_
            cases h
            exact K
          · replace h := (if_neg hc27).symm.trans h
            refine fe_lan (pc' := 157) dX9_leave_156 rfl rfl ?_
            refine fe_gf (pc' := 160) dX9_leave_157 rfl fl_9_19 n_221 gf_221_5 ?_
            refine fe_bp (pc' := 162) dX9_leave_160 rfl ib_15 ?_
            refine fe_li (pc' := 164) dX9_leave_162 rfl rfl ?_
            refine fe_iadd (pc' := 165) dX9_leave_164 rfl ?_
            obtain ⟨hi28, h⟩ := am_gd rfl h
            refine fe_al (pc' := 166) (j := (15 + x8).toNatClampNeg) dX9_leave_165 rfl n_225 s_225 hi28 rfl ?_
            refine fe_go (tgt := 170) dX9_leave_166 rfl ?_
            refine fe_pick [0, 1, 2, 3, 4, 5, 7, 8, 9] rfl ?_
            cases h
            exact K
        replace h := hq56
        refine fe_if_eq (pc' := 109) (tgt := 146) dX9_leave_106 rfl rfl (fun hc20 => ?_) (fun hc20 => ?_)
        · replace h := (if_pos hc20).symm.trans h
          refine fe_ic (pc' := 147) dX9_leave_146 rfl ic_0 ?_
          refine fe_pick [0, 1, 2, 3, 4, 5, 6, 8, 9] rfl ?_
          cases h
          exact K
        · replace h := (if_neg hc20).symm.trans h
          refine fe_li (pc' := 111) dX9_leave_109 rfl rfl ?_
          refine fe_if_eq (pc' := 114) (tgt := 142) dX9_leave_111 rfl rfl (fun hc21 => ?_) (fun hc21 => ?_)
          · replace h := (if_pos hc21).symm.trans h
            refine fe_ic (pc' := 143) dX9_leave_142 rfl ic_1 ?_
            refine fe_go (tgt := 147) dX9_leave_143 rfl ?_
            refine fe_pick [0, 1, 2, 3, 4, 5, 6, 8, 9] rfl ?_
            cases h
            exact K
          · replace h := (if_neg hc21).symm.trans h
            refine fe_lan (pc' := 115) dX9_leave_114 rfl rfl ?_
            refine fe_gf (pc' := 118) dX9_leave_115 rfl fl_9_13 n_221 gf_221_3 ?_
            refine fe_bp (pc' := 120) dX9_leave_118 rfl ib_26 ?_
            refine fe_li (pc' := 122) dX9_leave_120 rfl rfl ?_
            refine fe_iadd (pc' := 123) dX9_leave_122 rfl ?_
            obtain ⟨hi22, h⟩ := am_gd rfl h
            refine fe_al (pc' := 124) (j := (26 + x8).toNatClampNeg) dX9_leave_123 rfl n_223 s_223 hi22 rfl ?_
            refine fe_if_ne (pc' := 127) (tgt := 146) dX9_leave_124 rfl rfl (fun hc23 => ?_) (fun hc23 => ?_)
            · replace h := (if_pos hc23).symm.trans h
              refine fe_lan (pc' := 128) dX9_leave_127 rfl rfl ?_
              refine fe_gf (pc' := 131) dX9_leave_128 rfl fl_9_38 n_221 gf_221_16 ?_
              refine fe_bp (pc' := 133) dX9_leave_131 rfl ib_8 ?_
              refine fe_li (pc' := 135) dX9_leave_133 rfl rfl ?_
              refine fe_iadd (pc' := 136) dX9_leave_135 rfl ?_
              obtain ⟨hi24, h⟩ := am_gd rfl h
              refine fe_al (pc' := 137) (j := (8 + x8).toNatClampNeg) dX9_leave_136 rfl n_231 s_231 hi24 rfl ?_
              refine fe_bp (pc' := 139) dX9_leave_137 rfl ib_9 ?_
              refine fe_ic_eq (pc' := 142) (tgt := 146) dX9_leave_139 rfl rfl (fun hc25 => ?_) (fun hc25 => ?_)
              · replace h := (if_pos hc25).symm.trans h
                refine fe_ic (pc' := 147) dX9_leave_146 rfl ic_0 ?_
                refine fe_pick [0, 1, 2, 3, 4, 5, 6, 8, 9] rfl ?_
                cases h
                exact K
              · replace h := (if_neg hc25).symm.trans h
                refine fe_ic (pc' := 143) dX9_leave_142 rfl ic_1 ?_
                refine fe_go (tgt := 147) dX9_leave_143 rfl ?_
                refine fe_pick [0, 1, 2, 3, 4, 5, 6, 8, 9] rfl ?_
                cases h
                exact K
            · replace h := (if_neg hc23).symm.trans h
              refine fe_ic (pc' := 147) dX9_leave_146 rfl ic_0 ?_
              refine fe_pick [0, 1, 2, 3, 4, 5, 6, 8, 9] rfl ?_
              cases h
              exact K
      refine fe_ic_ne (pc' := 97) (tgt := 101) dX9_leave_94 rfl rfl (fun hc18 => ?_) (fun hc18 => ?_)
      · refine fe_ic (pc' := 98) dX9_leave_97 rfl ic_1 ?_
        refine fe_go (tgt := 102) dX9_leave_98 rfl ?_
        simp only [if_pos hc18] at K ⊢
        exact K
      · refine fe_ic (pc' := 102) dX9_leave_101 rfl ic_0 ?_
        simp only [if_neg hc18] at K ⊢
        exact K
set_option maxRecDepth 4000 in
theorem lp_Mo_leave_L53 {hE : am_H} {r : Option Value} : ∀ (n : Nat) (g : am_G) (x1 : Int32) (x2 : Int32) (x3 : Int32) (x4 : Int32) (x5 : Int32) (w : am_G × Int32 × Int32), Mo_leave_L53 n g x1 x2 x3 x4 x5 = some w → am_E 3 mX9_leave (288, [(0, .ref 221), (2, .int x2), (3, .int w.2.1), (4, .int w.2.2)], [], (sh0, w.1)) hE r → am_E 3 mX9_leave (53, [(0, .ref 221), (1, .int x1), (2, .int x2), (3, .int x3), (4, .int x4), (5, .int x5)], [], (sh0, g)) hE r := by
  intro n
  induction n with
  | zero => intro g x1 x2 x3 x4 x5 q h; cases h
  | succ n ih =>
    intro g x1 x2 x3 x4 x5 q h k1
    replace h : _ = _ := h
    unfold Mo_leave_L53 at h
    refine fe_li (pc' := 55) dX9_leave_53 rfl rfl ?_
    refine fe_ic (pc' := 56) dX9_leave_55 rfl ic_1 ?_
    refine fe_lan (pc' := 57) dX9_leave_56 rfl rfl ?_
    refine fe_gf (pc' := 60) dX9_leave_57 rfl fl_9_13 n_221 gf_221_3 ?_
    refine fe_ic (pc' := 61) dX9_leave_60 rfl ic_1 ?_
    refine fe_al (pc' := 62) (j := 1) dX9_leave_61 rfl n_223 s_223 (by decide) (by decide) ?_
    refine fe_ishl (pc' := 63) dX9_leave_62 rfl ?_
    refine fe_ic_ge (pc' := 66) (tgt := 288) dX9_leave_63 rfl rfl (fun hc16 => ?_) (fun hc16 => ?_)
    · replace h := (if_pos hc16).symm.trans h
      refine fe_pick [0, 2, 3, 4] rfl ?_
      cases h
      exact k1
    · replace h := (if_neg hc16).symm.trans h
      refine fe_ic (pc' := 67) dX9_leave_66 rfl ic_0 ?_
      refine fe_si (pc' := 69) (lo' := [(0, .ref 221), (1, .int x1), (2, .int x2), (3, .int x3), (4, .int x4), (5, .int x5), (6, .int 0)]) dX9_leave_67 rfl (Nat.le_of_ble_eq_true rfl) rfl ?_
      refine fe_ic (pc' := 70) dX9_leave_69 rfl ic_1 ?_
      refine fe_si (pc' := 72) (lo' := [(0, .ref 221), (1, .int x1), (2, .int x2), (3, .int x3), (4, .int x4), (5, .int x5), (6, .int 0), (7, .int 1)]) dX9_leave_70 rfl (Nat.le_of_ble_eq_true rfl) rfl ?_
      refine fe_ic (pc' := 73) dX9_leave_72 rfl ic_0 ?_
      refine fe_si (pc' := 75) (lo' := [(0, .ref 221), (1, .int x1), (2, .int x2), (3, .int x3), (4, .int x4), (5, .int x5), (6, .int 0), (7, .int 1), (8, .int 0)]) dX9_leave_73 rfl (Nat.le_of_ble_eq_true rfl) rfl ?_
      obtain ⟨q34, hq59, h⟩ := am_bd h
      refine lp_Mo_leave_L75 _ g x1 x2 x3 x4 x5 0 1 0 q34 hq59 ?_
      refine fe_li (pc' := 211) dX9_leave_209 rfl rfl ?_
      obtain ⟨q46, hq60, h⟩ := am_bd h
      have K : am_E 3 mX9_leave (254, [(0, .ref 221), (1, .int x1), (2, .int x2), (3, .int x3), (4, .int x4), (5, .int x5), (6, .int q34.2.1)], [.int q46], (sh0, q34.1)) hE r := by
        refine fe_si (pc' := 256) (lo' := [(0, .ref 221), (1, .int x1), (2, .int x2), (3, .int x3), (4, .int x4), (5, .int x5), (6, .int q34.2.1), (8, .int q46)]) dX9_leave_254 rfl (Nat.le_of_ble_eq_true rfl) rfl ?_
        refine fe_li (pc' := 258) dX9_leave_256 rfl rfl ?_
        have K : am_E 3 mX9_leave (267, [(0, .ref 221), (1, .int x1), (2, .int x2), (4, .int x4), (5, .int x5), (6, .int q34.2.1), (8, .int q46)], [.int (if q46 = 0 then x3 else x5 : Int32)], (sh0, q34.1)) hE r := by
          refine fe_sin (pc' := 268) (lo' := [(0, .ref 221), (1, .int x1), (2, .int x2), (3, .int (if q46 = 0 then x3 else x5 : Int32)), (4, .int x4), (5, .int x5), (6, .int q34.2.1), (8, .int q46)]) dX9_leave_267 rfl (Nat.le_of_ble_eq_true rfl) rfl ?_
          refine fe_li (pc' := 270) dX9_leave_268 rfl rfl ?_
          have K : am_E 3 mX9_leave (280, [(0, .ref 221), (1, .int x1), (2, .int x2), (3, .int (if q46 = 0 then x3 else x5 : Int32)), (5, .int x5)], [.int (if q46 = 0 then x4 else q34.2.1 : Int32)], (sh0, q34.1)) hE r := by
            refine fe_si (pc' := 282) (lo' := [(0, .ref 221), (1, .int x1), (2, .int x2), (3, .int (if q46 = 0 then x3 else x5 : Int32)), (4, .int (if q46 = 0 then x4 else q34.2.1 : Int32)), (5, .int x5)]) dX9_leave_280 rfl (Nat.le_of_ble_eq_true rfl) rfl ?_
            refine fe_inc (pc' := 285) (lo' := [(0, .ref 221), (1, .int x1), (2, .int x2), (3, .int (if q46 = 0 then x3 else x5 : Int32)), (4, .int (if q46 = 0 then x4 else q34.2.1 : Int32)), (5, .int (x5 + 1))]) dX9_leave_282 rfl ic_1 (Nat.le_of_ble_eq_true rfl) rfl rfl ?_
            refine fe_go (tgt := 53) dX9_leave_285 rfl ?_
            exact ih q34.1 x1 x2 (if q46 = 0 then x3 else x5 : Int32) (if q46 = 0 then x4 else q34.2.1 : Int32) (x5 + 1) q h k1
          refine fe_if_eq (pc' := 273) (tgt := 278) dX9_leave_270 rfl rfl (fun hc49 => ?_) (fun hc49 => ?_)
          · refine fe_li (pc' := 280) dX9_leave_278 rfl rfl ?_
            refine fe_pick [0, 1, 2, 3, 5] rfl ?_
            simp only [if_pos hc49] at K ⊢
            exact K
          · refine fe_li (pc' := 275) dX9_leave_273 rfl rfl ?_
            refine fe_go (tgt := 280) dX9_leave_275 rfl ?_
            refine fe_pick [0, 1, 2, 3, 5] rfl ?_
            simp only [if_neg hc49] at K ⊢
            exact K
        refine fe_if_eq (pc' := 261) (tgt := 266) dX9_leave_258 rfl rfl (fun hc47 => ?_) (fun hc47 => ?_)
        · refine fe_lin (pc' := 267) dX9_leave_266 rfl rfl ?_
          refine fe_pick [0, 1, 2, 4, 5, 6, 7] rfl ?_
          simp only [if_pos hc47] at K ⊢
          exact K
        · refine fe_li (pc' := 263) dX9_leave_261 rfl rfl ?_
          refine fe_go (tgt := 267) dX9_leave_263 rfl ?_
          refine fe_pick [0, 1, 2, 4, 5, 6, 7] rfl ?_
          simp only [if_neg hc47] at K ⊢
          exact K
      replace h := hq60
      refine fe_if_eq (pc' := 214) (tgt := 253) dX9_leave_211 rfl rfl (fun hc35 => ?_) (fun hc35 => ?_)
      · replace h := (if_pos hc35).symm.trans h
        refine fe_ic (pc' := 254) dX9_leave_253 rfl ic_0 ?_
        refine fe_pick [0, 1, 2, 3, 4, 5, 6] rfl ?_
        cases h
        exact K
      · replace h := (if_neg hc35).symm.trans h
        refine fe_lin (pc' := 215) dX9_leave_214 rfl rfl ?_
        refine fe_bp (pc' := 217) dX9_leave_215 rfl ib_m9 ?_
        refine fe_ic_eq (pc' := 220) (tgt := 227) dX9_leave_217 rfl rfl (fun hc36 => ?_) (fun hc36 => ?_)
        · replace h := (if_pos hc36).symm.trans h
          refine fe_lan (pc' := 228) dX9_leave_227 rfl rfl ?_
          refine fe_lan (pc' := 229) dX9_leave_228 rfl rfl ?_
          refine fe_gf (pc' := 232) dX9_leave_229 rfl fl_9_13 n_221 gf_221_3 ?_
          refine fe_bp (pc' := 234) dX9_leave_232 rfl ib_47 ?_
          refine fe_lan (pc' := 235) dX9_leave_234 rfl rfl ?_
          refine fe_gf (pc' := 238) dX9_leave_235 rfl fl_9_19 n_221 gf_221_5 ?_
          refine fe_ic (pc' := 239) dX9_leave_238 rfl ic_0 ?_
          refine fe_al (pc' := 240) (j := 0) dX9_leave_239 rfl n_225 s_225 (by decide) (by decide) ?_
          refine fe_iadd (pc' := 241) dX9_leave_240 rfl ?_
          obtain ⟨hi37, h⟩ := am_gd rfl h
          refine fe_al (pc' := 242) (j := (47 + (q34.1.1 225 0)).toNatClampNeg) dX9_leave_241 rfl n_223 s_223 hi37 rfl ?_
          obtain ⟨q38, hq39, h⟩ := am_bd h
          refine fe_iv (pc' := 245) (as := [.ref 221, .int (q34.1.1 223 (47 + (q34.1.1 225 0)).toNatClampNeg)]) (h1 := (sh0, q34.1)) (r1 := some (.int q38)) (st' := [.int q38]) dX9_leave_242 rfl cl_9_132 rfl rfl s_221 ms_149 ⟨n_221, rfl, by decide, Nat.le_of_ble_eq_true rfl, Nat.le_of_ble_eq_true rfl⟩ (am_le0 _ _ _) (am_up (by decide) (ev_Mo_slowest hq39)) rfl ?_
          refine fe_lin (pc' := 246) dX9_leave_245 rfl rfl ?_
          refine fe_ic_gt (pc' := 249) (tgt := 253) dX9_leave_246 rfl rfl (fun hc40 => ?_) (fun hc40 => ?_)
          · replace h := (if_pos hc40).symm.trans h
            refine fe_ic (pc' := 254) dX9_leave_253 rfl ic_0 ?_
            refine fe_pick [0, 1, 2, 3, 4, 5, 6] rfl ?_
            cases h
            exact K
          · replace h := (if_neg hc40).symm.trans h
            refine fe_ic (pc' := 250) dX9_leave_249 rfl ic_1 ?_
            refine fe_go (tgt := 254) dX9_leave_250 rfl ?_
            refine fe_pick [0, 1, 2, 3, 4, 5, 6] rfl ?_
            cases h
            exact K
        · replace h := (if_neg hc36).symm.trans h
          refine fe_li (pc' := 222) dX9_leave_220 rfl rfl ?_
          refine fe_li (pc' := 224) dX9_leave_222 rfl rfl ?_
          refine fe_ic_ge (pc' := 227) (tgt := 253) dX9_leave_224 rfl rfl (fun hc41 => ?_) (fun hc41 => ?_)
          · replace h := (if_pos hc41).symm.trans h
            refine fe_ic (pc' := 254) dX9_leave_253 rfl ic_0 ?_
            refine fe_pick [0, 1, 2, 3, 4, 5, 6] rfl ?_
            cases h
            exact K
          · replace h := (if_neg hc41).symm.trans h
            refine fe_lan (pc' := 228) dX9_leave_227 rfl rfl ?_
            refine fe_lan (pc' := 229) dX9_leave_228 rfl rfl ?_
            refine fe_gf (pc' := 232) dX9_leave_229 rfl fl_9_13 n_221 gf_221_3 ?_
            refine fe_bp (pc' := 234) dX9_leave_232 rfl ib_47 ?_
            refine fe_lan (pc' := 235) dX9_leave_234 rfl rfl ?_
            refine fe_gf (pc' := 238) dX9_leave_235 rfl fl_9_19 n_221 gf_221_5 ?_
            refine fe_ic (pc' := 239) dX9_leave_238 rfl ic_0 ?_
            refine fe_al (pc' := 240) (j := 0) dX9_leave_239 rfl n_225 s_225 (by decide) (by decide) ?_
            refine fe_iadd (pc' := 241) dX9_leave_240 rfl ?_
            obtain ⟨hi42, h⟩ := am_gd rfl h
            refine fe_al (pc' := 242) (j := (47 + (q34.1.1 225 0)).toNatClampNeg) dX9_leave_241 rfl n_223 s_223 hi42 rfl ?_
            obtain ⟨q43, hq44, h⟩ := am_bd h
            refine fe_iv (pc' := 245) (as := [.ref 221, .int (q34.1.1 223 (47 + (q34.1.1 225 0)).toNatClampNeg)]) (h1 := (sh0, q34.1)) (r1 := some (.int q43)) (st' := [.int q43]) dX9_leave_242 rfl cl_9_132 rfl rfl s_221 ms_149 ⟨n_221, rfl, by decide, Nat.le_of_ble_eq_true rfl, Nat.le_of_ble_eq_true rfl⟩ (am_le0 _ _ _) (am_up (by decide) (ev_Mo_slowest hq44)) rfl ?_
            refine fe_lin (pc' := 246) dX9_leave_245 rfl rfl ?_
            refine fe_ic_gt (pc' := 249) (tgt := 253) dX9_leave_246 rfl rfl (fun hc45 => ?_) (fun hc45 => ?_)
            · replace h := (if_pos hc45).symm.trans h
              refine fe_ic (pc' := 254) dX9_leave_253 rfl ic_0 ?_
              refine fe_pick [0, 1, 2, 3, 4, 5, 6] rfl ?_
              cases h
              exact K
            · replace h := (if_neg hc45).symm.trans h
              refine fe_ic (pc' := 250) dX9_leave_249 rfl ic_1 ?_
              refine fe_go (tgt := 254) dX9_leave_250 rfl ?_
              refine fe_pick [0, 1, 2, 3, 4, 5, 6] rfl ?_
              cases h
              exact K
set_option maxRecDepth 4000 in
theorem ev_Mo_leave {g : am_G} {x1 x2 : Int32} {w : (am_G × Int32)} (h : Mo_leave g x1 x2 = some w) : am_Ev 4 167 [.ref 221, .int x1, .int x2] (sh0, g) (sh0, w.1) (some (.int w.2)) := by
  unfold Mo_leave at h
  refine am_ev mX9_leave (by rfl) (Nat.le_of_ble_eq_true rfl) [(0, .ref 221), (1, .int x1), (2, .int x2)] rfl ?_
  refine fe_lin (pc' := 1) dX9_leave_0 rfl rfl ?_
  refine fe_ic (pc' := 2) dX9_leave_1 rfl ic_0 ?_
  refine fe_sp (pc' := 5) dX9_leave_2 rfl is_999 ?_
  obtain ⟨q1, hq2, h⟩ := am_bd h
  refine fe_is (pc' := 8) (as := [.int x1, .int 0, .int 999]) (h1 := (sh0, g)) (r1 := some (.int (am_b q1))) (st' := [.int (am_b q1)]) dX9_leave_5 rfl cl_9_48 (Or.inl rfl) rfl rfl ⟨Nat.le_of_ble_eq_true rfl, Nat.le_of_ble_eq_true rfl⟩ (am_le0 _ _ _) (am_up (by decide) (ev_Mo_in hq2)) rfl ?_
  refine fe_bT (pc' := 11) (tgt := 20) dX9_leave_8 rfl rfl rfl (fun hc3 => ?_) (fun hc3 => ?_)
  · replace h := (if_pos hc3).symm.trans h
    refine fe_lin (pc' := 12) dX9_leave_11 rfl rfl ?_
    refine fe_ic (pc' := 13) dX9_leave_12 rfl ic_0 ?_
    refine fe_ic (pc' := 14) dX9_leave_13 rfl ic_1 ?_
    obtain ⟨q4, hq5, h⟩ := am_bd h
    refine fe_is (pc' := 17) (as := [.int x2, .int 0, .int 1]) (h1 := (sh0, g)) (r1 := some (.int (am_b q4))) (st' := [.int (am_b q4)]) dX9_leave_14 rfl cl_9_48 (Or.inl rfl) rfl rfl ⟨Nat.le_of_ble_eq_true rfl, Nat.le_of_ble_eq_true rfl⟩ (am_le0 _ _ _) (am_up (by decide) (ev_Mo_in hq5)) rfl ?_
    refine fe_bF (pc' := 20) (tgt := 22) dX9_leave_17 rfl rfl rfl (fun hc6 => ?_) (fun hc6 => ?_)
    · replace h := (if_pos hc6).symm.trans h
      refine fe_lan (pc' := 23) dX9_leave_22 rfl rfl ?_
      obtain ⟨q7, hq8, h⟩ := am_bd h
      refine fe_iv (pc' := 26) (as := [.ref 221]) (h1 := (sh0, g)) (r1 := some (.int (am_b q7))) (st' := [.int (am_b q7)]) dX9_leave_23 rfl cl_9_138 rfl rfl s_221 ms_153 ⟨n_221, rfl, by decide, Nat.le_of_ble_eq_true rfl, Nat.le_of_ble_eq_true rfl⟩ (am_le0 _ _ _) (am_up (by decide) (ev_Mo_isStage hq8)) rfl ?_
      refine fe_bF (pc' := 29) (tgt := 32) dX9_leave_26 rfl rfl rfl (fun hc9 => ?_) (fun hc9 => ?_)
      · replace h := (if_pos hc9).symm.trans h
        refine fe_lan (pc' := 33) dX9_leave_32 rfl rfl ?_
        obtain ⟨q10, hq11, h⟩ := am_bd h
        refine fe_iv (pc' := 36) (as := [.ref 221]) (h1 := (sh0, q10)) (r1 := none) (st' := []) dX9_leave_33 rfl cl_9_158 rfl rfl s_221 ms_160 ⟨n_221, rfl, by decide, Nat.le_of_ble_eq_true rfl, Nat.le_of_ble_eq_true rfl⟩ (am_le0 _ _ _) (am_up (by decide) (ev_Mo_holds hq11)) rfl ?_
        refine fe_lan (pc' := 37) dX9_leave_36 rfl rfl ?_
        refine fe_lan (pc' := 38) dX9_leave_37 rfl rfl ?_
        obtain ⟨q12, hq13, h⟩ := am_bd h
        refine fe_iv (pc' := 41) (as := [.ref 221]) (h1 := (sh0, q10)) (r1 := some (.int (am_b q12))) (st' := [.int (am_b q12), .ref 221]) dX9_leave_38 rfl cl_9_144 rfl rfl s_221 ms_154 ⟨n_221, rfl, by decide, Nat.le_of_ble_eq_true rfl, Nat.le_of_ble_eq_true rfl⟩ (am_le0 _ _ _) (am_up (by decide) (ev_Mo_isRain hq13)) rfl ?_
        obtain ⟨q14, hq15, h⟩ := am_bd h
        refine fe_iv (pc' := 44) (as := [.ref 221, .int (am_b q12)]) (h1 := (sh0, q14)) (r1 := none) (st' := []) dX9_leave_41 rfl cl_9_128 rfl rfl s_221 ms_148 ⟨n_221, rfl, by decide, Nat.le_of_ble_eq_true rfl, Nat.le_of_ble_eq_true rfl⟩ (am_le0 _ _ _) (am_up (by decide) (ev_Mo_rains hq15)) rfl ?_
        refine fe_bp (pc' := 46) dX9_leave_44 rfl ib_m9 ?_
        refine fe_sin (pc' := 47) (lo' := [(0, .ref 221), (1, .int x1), (2, .int x2), (3, .int (-9))]) dX9_leave_46 rfl (Nat.le_of_ble_eq_true rfl) rfl ?_
        refine fe_ic (pc' := 48) dX9_leave_47 rfl ic_0 ?_
        refine fe_si (pc' := 50) (lo' := [(0, .ref 221), (1, .int x1), (2, .int x2), (3, .int (-9)), (4, .int 0)]) dX9_leave_48 rfl (Nat.le_of_ble_eq_true rfl) rfl ?_
        refine fe_ic (pc' := 51) dX9_leave_50 rfl ic_0 ?_
        refine fe_si (pc' := 53) (lo' := [(0, .ref 221), (1, .int x1), (2, .int x2), (3, .int (-9)), (4, .int 0), (5, .int 0)]) dX9_leave_51 rfl (Nat.le_of_ble_eq_true rfl) rfl ?_
        obtain ⟨q51, hq61, h⟩ := am_bd h
        refine lp_Mo_leave_L53 _ q14 x1 x2 (-9) 0 0 q51 hq61 ?_
        refine fe_lan (pc' := 289) dX9_leave_288 rfl rfl ?_
        obtain ⟨q52, hq53, h⟩ := am_bd h
        refine fe_iv (pc' := 292) (as := [.ref 221]) (h1 := (sh0, q52)) (r1 := none) (st' := []) dX9_leave_289 rfl cl_9_161 rfl rfl s_221 ms_161 ⟨n_221, rfl, by decide, Nat.le_of_ble_eq_true rfl, Nat.le_of_ble_eq_true rfl⟩ (am_le0 _ _ _) (am_up (by decide) (ev_Mo_lets hq53)) rfl ?_
        refine fe_lin (pc' := 293) dX9_leave_292 rfl rfl ?_
        refine fe_bp (pc' := 295) dX9_leave_293 rfl ib_m9 ?_
        refine fe_ic_ne (pc' := 298) (tgt := 303) dX9_leave_295 rfl rfl (fun hc54 => ?_) (fun hc54 => ?_)
        · replace h := (if_pos hc54).symm.trans h
          refine fe_bp (pc' := 300) dX9_leave_298 rfl ib_m9 ?_
          refine fe_go (tgt := 313) dX9_leave_300 rfl ?_
          cases h
          exact fe_ri dX9_leave_313 rfl
        · replace h := (if_neg hc54).symm.trans h
          refine fe_lin (pc' := 304) dX9_leave_303 rfl rfl ?_
          refine fe_if_ne (pc' := 307) (tgt := 311) dX9_leave_304 rfl rfl (fun hc55 => ?_) (fun hc55 => ?_)
          · replace h := (if_pos hc55).symm.trans h
            refine fe_lin (pc' := 308) dX9_leave_307 rfl rfl ?_
            refine fe_go (tgt := 313) dX9_leave_308 rfl ?_
            cases h
            exact fe_ri dX9_leave_313 rfl
          · replace h := (if_neg hc55).symm.trans h
            refine fe_li (pc' := 313) dX9_leave_311 rfl rfl ?_
            cases h
            exact fe_ri dX9_leave_313 rfl
      · replace h := (if_neg hc9).symm.trans h
        refine fe_bp (pc' := 31) dX9_leave_29 rfl ib_m9 ?_
        cases h
        exact fe_ri dX9_leave_31 rfl
    · replace h := (if_neg hc6).symm.trans h
      refine fe_ic (pc' := 21) dX9_leave_20 rfl ic_m1 ?_
      cases h
      exact fe_ri dX9_leave_21 rfl
  · replace h := (if_neg hc3).symm.trans h
    refine fe_ic (pc' := 21) dX9_leave_20 rfl ic_m1 ?_
    cases h
    exact fe_ri dX9_leave_21 rfl
-- Mo_ordered: X9_ordered
set_option maxRecDepth 4000 in
theorem lp_Mo_ordered_L47 {hE : am_H} {r : Option Value} : ∀ (n : Nat) (g : am_G) (x2 : Int32) (x4 : Int32) (x5 : Int32) (x6 : Int32) (x7 : Int32) (x8 : Int32) (x9 : Int32) (x10 : Int32) (w : Int32), Mo_ordered_L47 n g x2 x4 x5 x6 x7 x8 x9 x10 = some w → am_E 0 mX9_ordered (116, [(0, .ref 221), (2, .int x2), (4, .int x4), (5, .int x5), (6, .int x6), (7, .int x7), (8, .int x8), (10, .int w)], [], (sh0, g)) hE r → am_E 0 mX9_ordered (47, [(0, .ref 221), (2, .int x2), (4, .int x4), (5, .int x5), (6, .int x6), (7, .int x7), (8, .int x8), (9, .int x9), (10, .int x10)], [], (sh0, g)) hE r := by
  intro n
  induction n with
  | zero => intro g x2 x4 x5 x6 x7 x8 x9 x10 q h; cases h
  | succ n ih =>
    intro g x2 x4 x5 x6 x7 x8 x9 x10 q h k1
    replace h : _ = _ := h
    unfold Mo_ordered_L47 at h
    refine fe_lan (pc' := 48) dX9_ordered_47 rfl rfl ?_
    refine fe_gf (pc' := 51) dX9_ordered_48 rfl fl_9_13 n_221 gf_221_3 ?_
    refine fe_bp (pc' := 53) dX9_ordered_51 rfl ib_26 ?_
    refine fe_li (pc' := 55) dX9_ordered_53 rfl rfl ?_
    refine fe_iadd (pc' := 56) dX9_ordered_55 rfl ?_
    obtain ⟨hi5, h⟩ := am_gd rfl h
    refine fe_al (pc' := 57) (j := (26 + x10).toNatClampNeg) dX9_ordered_56 rfl n_223 s_223 hi5 rfl ?_
    refine fe_if_eq (pc' := 60) (tgt := 76) dX9_ordered_57 rfl rfl (fun hc6 => ?_) (fun hc6 => ?_)
    · replace h := (if_pos hc6).symm.trans h
      refine fe_li (pc' := 78) dX9_ordered_76 rfl rfl ?_
      refine fe_lan (pc' := 79) dX9_ordered_78 rfl rfl ?_
      refine fe_gf (pc' := 82) dX9_ordered_79 rfl fl_9_13 n_221 gf_221_3 ?_
      refine fe_bp (pc' := 84) dX9_ordered_82 rfl ib_26 ?_
      refine fe_li (pc' := 86) dX9_ordered_84 rfl rfl ?_
      refine fe_iadd (pc' := 87) dX9_ordered_86 rfl ?_
      refine fe_al (pc' := 88) (j := (26 + x10).toNatClampNeg) dX9_ordered_87 rfl n_223 s_223 hi5 rfl ?_
      refine fe_ic (pc' := 89) dX9_ordered_88 rfl ic_1 ?_
      have K : am_E 0 mX9_ordered (107, [(0, .ref 221), (2, .int x2), (4, .int x4), (5, .int x5), (6, .int x6), (7, .int x7), (8, .int x8), (10, .int x10)], [.int (if (g.1 223 (26 + x10).toNatClampNeg) = 1 then if ((x6 >>> (x10 &&& 31)) &&& 1) = 0 then 1 else 0 else 0 : Int32), .int x9], (sh0, g)) hE r := by
        refine fe_isub (pc' := 108) dX9_ordered_107 rfl ?_
        refine fe_si (pc' := 110) (lo' := [(0, .ref 221), (2, .int x2), (4, .int x4), (5, .int x5), (6, .int x6), (7, .int x7), (8, .int x8), (9, .int (x9 - (if (g.1 223 (26 + x10).toNatClampNeg) = 1 then if ((x6 >>> (x10 &&& 31)) &&& 1) = 0 then 1 else 0 else 0 : Int32))), (10, .int x10)]) dX9_ordered_108 rfl (Nat.le_of_ble_eq_true rfl) rfl ?_
        refine fe_inc (pc' := 113) (lo' := [(0, .ref 221), (2, .int x2), (4, .int x4), (5, .int x5), (6, .int x6), (7, .int x7), (8, .int x8), (9, .int (x9 - (if (g.1 223 (26 + x10).toNatClampNeg) = 1 then if ((x6 >>> (x10 &&& 31)) &&& 1) = 0 then 1 else 0 else 0 : Int32))), (10, .int (x10 + 1))]) dX9_ordered_110 rfl ic_1 (Nat.le_of_ble_eq_true rfl) rfl rfl ?_
        refine fe_go (tgt := 47) dX9_ordered_113 rfl ?_
        exact ih g x2 x4 x5 x6 x7 x8 (x9 - (if (g.1 223 (26 + x10).toNatClampNeg) = 1 then if ((x6 >>> (x10 &&& 31)) &&& 1) = 0 then 1 else 0 else 0 : Int32)) (x10 + 1) q h k1
      refine fe_ic_ne (pc' := 92) (tgt := 106) dX9_ordered_89 rfl rfl (fun hc7 => ?_) (fun hc7 => ?_)
      · refine fe_li (pc' := 94) dX9_ordered_92 rfl rfl ?_
        refine fe_li (pc' := 96) dX9_ordered_94 rfl rfl ?_
        refine fe_ishr (pc' := 97) dX9_ordered_96 rfl ?_
        refine fe_ic (pc' := 98) dX9_ordered_97 rfl ic_1 ?_
        refine fe_iand (pc' := 99) dX9_ordered_98 rfl ?_
        refine fe_if_ne (pc' := 102) (tgt := 106) dX9_ordered_99 rfl rfl (fun hc8 => ?_) (fun hc8 => ?_)
        · refine fe_ic (pc' := 103) dX9_ordered_102 rfl ic_1 ?_
          refine fe_go (tgt := 107) dX9_ordered_103 rfl ?_
          refine fe_pick [0, 1, 2, 3, 4, 5, 6, 8] rfl ?_
          simp only [if_pos hc7, if_pos hc8] at K ⊢
          exact K
        · refine fe_ic (pc' := 107) dX9_ordered_106 rfl ic_0 ?_
          refine fe_pick [0, 1, 2, 3, 4, 5, 6, 8] rfl ?_
          simp only [if_pos hc7, if_neg hc8] at K ⊢
          exact K
      · refine fe_ic (pc' := 107) dX9_ordered_106 rfl ic_0 ?_
        refine fe_pick [0, 1, 2, 3, 4, 5, 6, 8] rfl ?_
        simp only [if_neg hc7] at K ⊢
        exact K
    · replace h := (if_neg hc6).symm.trans h
      refine fe_li (pc' := 62) dX9_ordered_60 rfl rfl ?_
      refine fe_li (pc' := 64) dX9_ordered_62 rfl rfl ?_
      refine fe_ishr (pc' := 65) dX9_ordered_64 rfl ?_
      refine fe_ic (pc' := 66) dX9_ordered_65 rfl ic_1 ?_
      refine fe_iand (pc' := 67) dX9_ordered_66 rfl ?_
      refine fe_ic (pc' := 68) dX9_ordered_67 rfl ic_1 ?_
      refine fe_ic_eq (pc' := 71) (tgt := 76) dX9_ordered_68 rfl rfl (fun hc10 => ?_) (fun hc10 => ?_)
      · replace h := (if_pos hc10).symm.trans h
        refine fe_li (pc' := 78) dX9_ordered_76 rfl rfl ?_
        refine fe_lan (pc' := 79) dX9_ordered_78 rfl rfl ?_
        refine fe_gf (pc' := 82) dX9_ordered_79 rfl fl_9_13 n_221 gf_221_3 ?_
        refine fe_bp (pc' := 84) dX9_ordered_82 rfl ib_26 ?_
        refine fe_li (pc' := 86) dX9_ordered_84 rfl rfl ?_
        refine fe_iadd (pc' := 87) dX9_ordered_86 rfl ?_
        refine fe_al (pc' := 88) (j := (26 + x10).toNatClampNeg) dX9_ordered_87 rfl n_223 s_223 hi5 rfl ?_
        refine fe_ic (pc' := 89) dX9_ordered_88 rfl ic_1 ?_
        have K : am_E 0 mX9_ordered (107, [(0, .ref 221), (2, .int x2), (4, .int x4), (5, .int x5), (6, .int x6), (7, .int x7), (8, .int x8), (10, .int x10)], [.int (if (g.1 223 (26 + x10).toNatClampNeg) = 1 then if ((x6 >>> (x10 &&& 31)) &&& 1) = 0 then 1 else 0 else 0 : Int32), .int x9], (sh0, g)) hE r := by
          refine fe_isub (pc' := 108) dX9_ordered_107 rfl ?_
          refine fe_si (pc' := 110) (lo' := [(0, .ref 221), (2, .int x2), (4, .int x4), (5, .int x5), (6, .int x6), (7, .int x7), (8, .int x8), (9, .int (x9 - (if (g.1 223 (26 + x10).toNatClampNeg) = 1 then if ((x6 >>> (x10 &&& 31)) &&& 1) = 0 then 1 else 0 else 0 : Int32))), (10, .int x10)]) dX9_ordered_108 rfl (Nat.le_of_ble_eq_true rfl) rfl ?_
          refine fe_inc (pc' := 113) (lo' := [(0, .ref 221), (2, .int x2), (4, .int x4), (5, .int x5), (6, .int x6), (7, .int x7), (8, .int x8), (9, .int (x9 - (if (g.1 223 (26 + x10).toNatClampNeg) = 1 then if ((x6 >>> (x10 &&& 31)) &&& 1) = 0 then 1 else 0 else 0 : Int32))), (10, .int (x10 + 1))]) dX9_ordered_110 rfl ic_1 (Nat.le_of_ble_eq_true rfl) rfl rfl ?_
          refine fe_go (tgt := 47) dX9_ordered_113 rfl ?_
          exact ih g x2 x4 x5 x6 x7 x8 (x9 - (if (g.1 223 (26 + x10).toNatClampNeg) = 1 then if ((x6 >>> (x10 &&& 31)) &&& 1) = 0 then 1 else 0 else 0 : Int32)) (x10 + 1) q h k1
        refine fe_ic_ne (pc' := 92) (tgt := 106) dX9_ordered_89 rfl rfl (fun hc11 => ?_) (fun hc11 => ?_)
        · refine fe_li (pc' := 94) dX9_ordered_92 rfl rfl ?_
          refine fe_li (pc' := 96) dX9_ordered_94 rfl rfl ?_
          refine fe_ishr (pc' := 97) dX9_ordered_96 rfl ?_
          refine fe_ic (pc' := 98) dX9_ordered_97 rfl ic_1 ?_
          refine fe_iand (pc' := 99) dX9_ordered_98 rfl ?_
          refine fe_if_ne (pc' := 102) (tgt := 106) dX9_ordered_99 rfl rfl (fun hc12 => ?_) (fun hc12 => ?_)
          · refine fe_ic (pc' := 103) dX9_ordered_102 rfl ic_1 ?_
            refine fe_go (tgt := 107) dX9_ordered_103 rfl ?_
            refine fe_pick [0, 1, 2, 3, 4, 5, 6, 8] rfl ?_
            simp only [if_pos hc11, if_pos hc12] at K ⊢
            exact K
          · refine fe_ic (pc' := 107) dX9_ordered_106 rfl ic_0 ?_
            refine fe_pick [0, 1, 2, 3, 4, 5, 6, 8] rfl ?_
            simp only [if_pos hc11, if_neg hc12] at K ⊢
            exact K
        · refine fe_ic (pc' := 107) dX9_ordered_106 rfl ic_0 ?_
          refine fe_pick [0, 1, 2, 3, 4, 5, 6, 8] rfl ?_
          simp only [if_neg hc11] at K ⊢
          exact K
      · replace h := (if_neg hc10).symm.trans h
        refine fe_li (pc' := 73) dX9_ordered_71 rfl rfl ?_
        refine fe_if_le (pc' := 76) (tgt := 116) dX9_ordered_73 rfl rfl (fun hc14 => ?_) (fun hc14 => ?_)
        · replace h := (if_pos hc14).symm.trans h
          refine fe_pick [0, 1, 2, 3, 4, 5, 6, 8] rfl ?_
          cases h
          exact k1
        · replace h := (if_neg hc14).symm.trans h
          refine fe_li (pc' := 78) dX9_ordered_76 rfl rfl ?_
          refine fe_lan (pc' := 79) dX9_ordered_78 rfl rfl ?_
          refine fe_gf (pc' := 82) dX9_ordered_79 rfl fl_9_13 n_221 gf_221_3 ?_
          refine fe_bp (pc' := 84) dX9_ordered_82 rfl ib_26 ?_
          refine fe_li (pc' := 86) dX9_ordered_84 rfl rfl ?_
          refine fe_iadd (pc' := 87) dX9_ordered_86 rfl ?_
          refine fe_al (pc' := 88) (j := (26 + x10).toNatClampNeg) dX9_ordered_87 rfl n_223 s_223 hi5 rfl ?_
          refine fe_ic (pc' := 89) dX9_ordered_88 rfl ic_1 ?_
          have K : am_E 0 mX9_ordered (107, [(0, .ref 221), (2, .int x2), (4, .int x4), (5, .int x5), (6, .int x6), (7, .int x7), (8, .int x8), (10, .int x10)], [.int (if (g.1 223 (26 + x10).toNatClampNeg) = 1 then if ((x6 >>> (x10 &&& 31)) &&& 1) = 0 then 1 else 0 else 0 : Int32), .int x9], (sh0, g)) hE r := by
            refine fe_isub (pc' := 108) dX9_ordered_107 rfl ?_
            refine fe_si (pc' := 110) (lo' := [(0, .ref 221), (2, .int x2), (4, .int x4), (5, .int x5), (6, .int x6), (7, .int x7), (8, .int x8), (9, .int (x9 - (if (g.1 223 (26 + x10).toNatClampNeg) = 1 then if ((x6 >>> (x10 &&& 31)) &&& 1) = 0 then 1 else 0 else 0 : Int32))), (10, .int x10)]) dX9_ordered_108 rfl (Nat.le_of_ble_eq_true rfl) rfl ?_
            refine fe_inc (pc' := 113) (lo' := [(0, .ref 221), (2, .int x2), (4, .int x4), (5, .int x5), (6, .int x6), (7, .int x7), (8, .int x8), (9, .int (x9 - (if (g.1 223 (26 + x10).toNatClampNeg) = 1 then if ((x6 >>> (x10 &&& 31)) &&& 1) = 0 then 1 else 0 else 0 : Int32))), (10, .int (x10 + 1))]) dX9_ordered_110 rfl ic_1 (Nat.le_of_ble_eq_true rfl) rfl rfl ?_
            refine fe_go (tgt := 47) dX9_ordered_113 rfl ?_
            exact ih g x2 x4 x5 x6 x7 x8 (x9 - (if (g.1 223 (26 + x10).toNatClampNeg) = 1 then if ((x6 >>> (x10 &&& 31)) &&& 1) = 0 then 1 else 0 else 0 : Int32)) (x10 + 1) q h k1
          refine fe_ic_ne (pc' := 92) (tgt := 106) dX9_ordered_89 rfl rfl (fun hc15 => ?_) (fun hc15 => ?_)
          · refine fe_li (pc' := 94) dX9_ordered_92 rfl rfl ?_
            refine fe_li (pc' := 96) dX9_ordered_94 rfl rfl ?_
            refine fe_ishr (pc' := 97) dX9_ordered_96 rfl ?_
            refine fe_ic (pc' := 98) dX9_ordered_97 rfl ic_1 ?_
            refine fe_iand (pc' := 99) dX9_ordered_98 rfl ?_
            refine fe_if_ne (pc' := 102) (tgt := 106) dX9_ordered_99 rfl rfl (fun hc16 => ?_) (fun hc16 => ?_)
            · refine fe_ic (pc' := 103) dX9_ordered_102 rfl ic_1 ?_
              refine fe_go (tgt := 107) dX9_ordered_103 rfl ?_
              refine fe_pick [0, 1, 2, 3, 4, 5, 6, 8] rfl ?_
              simp only [if_pos hc15, if_pos hc16] at K ⊢
              exact K
            · refine fe_ic (pc' := 107) dX9_ordered_106 rfl ic_0 ?_
              refine fe_pick [0, 1, 2, 3, 4, 5, 6, 8] rfl ?_
              simp only [if_pos hc15, if_neg hc16] at K ⊢
              exact K
          · refine fe_ic (pc' := 107) dX9_ordered_106 rfl ic_0 ?_
            refine fe_pick [0, 1, 2, 3, 4, 5, 6, 8] rfl ?_
            simp only [if_neg hc15] at K ⊢
            exact K
set_option maxRecDepth 4000 in
theorem lp_Mo_ordered_L15 {hE : am_H} {r : Option Value} : ∀ (n : Nat) (g : am_G) (x2 : Int32) (x4 : Int32) (x5 : Int32) (x6 : Int32) (x7 : Int32) (x8 : Int32) (w : am_G × Int32 × Int32), Mo_ordered_L15 n g x2 x4 x5 x6 x7 x8 = some w → am_E 0 mX9_ordered (152, [(0, .ref 221), (2, .int x2), (6, .int w.2.1), (7, .int w.2.2)], [], (sh0, w.1)) hE r → am_E 0 mX9_ordered (15, [(0, .ref 221), (2, .int x2), (4, .int x4), (5, .int x5), (6, .int x6), (7, .int x7), (8, .int x8)], [], (sh0, g)) hE r := by
  intro n
  induction n with
  | zero => intro g x2 x4 x5 x6 x7 x8 q h; cases h
  | succ n ih =>
    intro g x2 x4 x5 x6 x7 x8 q h k1
    replace h : _ = _ := h
    unfold Mo_ordered_L15 at h
    refine fe_li (pc' := 17) dX9_ordered_15 rfl rfl ?_
    refine fe_lin (pc' := 18) dX9_ordered_17 rfl rfl ?_
    refine fe_ic_ge (pc' := 21) (tgt := 152) dX9_ordered_18 rfl rfl (fun hc1 => ?_) (fun hc1 => ?_)
    · replace h := (if_pos hc1).symm.trans h
      refine fe_pick [0, 1, 4, 5] rfl ?_
      cases h
      exact k1
    · replace h := (if_neg hc1).symm.trans h
      refine fe_li (pc' := 23) dX9_ordered_21 rfl rfl ?_
      refine fe_lin (pc' := 24) dX9_ordered_23 rfl rfl ?_
      refine fe_li (pc' := 26) dX9_ordered_24 rfl rfl ?_
      refine fe_isub (pc' := 27) dX9_ordered_26 rfl ?_
      obtain ⟨hz2, h⟩ := am_gd rfl h
      refine fe_idiv (pc' := 28) dX9_ordered_27 rfl hz2 ?_
      refine fe_si (pc' := 30) (lo' := [(0, .ref 221), (2, .int x2), (4, .int x4), (5, .int (x5 / (x2 - x8))), (6, .int x6), (7, .int x7), (8, .int x8)]) dX9_ordered_28 rfl (Nat.le_of_ble_eq_true rfl) rfl ?_
      refine fe_li (pc' := 32) dX9_ordered_30 rfl rfl ?_
      refine fe_li (pc' := 34) dX9_ordered_32 rfl rfl ?_
      obtain ⟨hz3, h⟩ := am_gd rfl h
      refine fe_idiv (pc' := 35) dX9_ordered_34 rfl hz3 ?_
      refine fe_si (pc' := 37) (lo' := [(0, .ref 221), (2, .int x2), (4, .int x4), (5, .int (x5 / (x2 - x8))), (6, .int x6), (7, .int x7), (8, .int x8), (9, .int (x4 / (x5 / (x2 - x8))))]) dX9_ordered_35 rfl (Nat.le_of_ble_eq_true rfl) rfl ?_
      refine fe_li (pc' := 39) dX9_ordered_37 rfl rfl ?_
      refine fe_li (pc' := 41) dX9_ordered_39 rfl rfl ?_
      refine fe_irem (pc' := 42) dX9_ordered_41 rfl hz3 ?_
      refine fe_si (pc' := 44) (lo' := [(0, .ref 221), (2, .int x2), (4, .int (x4 - x4 / (x5 / (x2 - x8)) * (x5 / (x2 - x8)))), (5, .int (x5 / (x2 - x8))), (6, .int x6), (7, .int x7), (8, .int x8), (9, .int (x4 / (x5 / (x2 - x8))))]) dX9_ordered_42 rfl (Nat.le_of_ble_eq_true rfl) rfl ?_
      refine fe_ic (pc' := 45) dX9_ordered_44 rfl ic_0 ?_
      refine fe_si (pc' := 47) (lo' := [(0, .ref 221), (2, .int x2), (4, .int (x4 - x4 / (x5 / (x2 - x8)) * (x5 / (x2 - x8)))), (5, .int (x5 / (x2 - x8))), (6, .int x6), (7, .int x7), (8, .int x8), (9, .int (x4 / (x5 / (x2 - x8)))), (10, .int 0)]) dX9_ordered_45 rfl (Nat.le_of_ble_eq_true rfl) rfl ?_
      obtain ⟨q18, hq26, h⟩ := am_bd h
      refine lp_Mo_ordered_L47 _ g x2 (x4 - x4 / (x5 / (x2 - x8)) * (x5 / (x2 - x8))) (x5 / (x2 - x8)) x6 x7 x8 (x4 / (x5 / (x2 - x8))) 0 q18 hq26 ?_
      refine fe_li (pc' := 118) dX9_ordered_116 rfl rfl ?_
      refine fe_ic (pc' := 119) dX9_ordered_118 rfl ic_1 ?_
      refine fe_li (pc' := 121) dX9_ordered_119 rfl rfl ?_
      refine fe_ishl (pc' := 122) dX9_ordered_121 rfl ?_
      refine fe_ior (pc' := 123) dX9_ordered_122 rfl ?_
      refine fe_si (pc' := 125) (lo' := [(0, .ref 221), (2, .int x2), (4, .int (x4 - x4 / (x5 / (x2 - x8)) * (x5 / (x2 - x8)))), (5, .int (x5 / (x2 - x8))), (6, .int (x6 ||| (1 <<< (q18 &&& 31)))), (7, .int x7), (8, .int x8), (10, .int q18)]) dX9_ordered_123 rfl (Nat.le_of_ble_eq_true rfl) rfl ?_
      refine fe_lan (pc' := 126) dX9_ordered_125 rfl rfl ?_
      refine fe_gf (pc' := 129) dX9_ordered_126 rfl fl_9_32 n_221 gf_221_14 ?_
      refine fe_li (pc' := 131) dX9_ordered_129 rfl rfl ?_
      refine fe_li (pc' := 133) dX9_ordered_131 rfl rfl ?_
      obtain ⟨hi19, h⟩ := am_gd rfl h
      refine fe_as (pc' := 134) (j := x8.toNatClampNeg) dX9_ordered_133 rfl n_229 s_229 hi19 rfl ?_
      refine fe_bp (pc' := 136) dX9_ordered_134 rfl ib_10 ?_
      refine fe_li (pc' := 138) dX9_ordered_136 rfl rfl ?_
      refine fe_imul (pc' := 139) dX9_ordered_138 rfl ?_
      refine fe_li (pc' := 141) dX9_ordered_139 rfl rfl ?_
      refine fe_iadd (pc' := 142) dX9_ordered_141 rfl ?_
      refine fe_ic (pc' := 143) dX9_ordered_142 rfl ic_1 ?_
      refine fe_iadd (pc' := 144) dX9_ordered_143 rfl ?_
      refine fe_si (pc' := 146) (lo' := [(0, .ref 221), (2, .int x2), (4, .int (x4 - x4 / (x5 / (x2 - x8)) * (x5 / (x2 - x8)))), (5, .int (x5 / (x2 - x8))), (6, .int (x6 ||| (1 <<< (q18 &&& 31)))), (7, .int (((10 * x7) + q18) + 1)), (8, .int x8), (10, .int q18)]) dX9_ordered_144 rfl (Nat.le_of_ble_eq_true rfl) rfl ?_
      refine fe_inc (pc' := 149) (lo' := [(0, .ref 221), (2, .int x2), (4, .int (x4 - x4 / (x5 / (x2 - x8)) * (x5 / (x2 - x8)))), (5, .int (x5 / (x2 - x8))), (6, .int (x6 ||| (1 <<< (q18 &&& 31)))), (7, .int (((10 * x7) + q18) + 1)), (8, .int (x8 + 1)), (10, .int q18)]) dX9_ordered_146 rfl ic_1 (Nat.le_of_ble_eq_true rfl) rfl rfl ?_
      refine fe_go (tgt := 15) dX9_ordered_149 rfl ?_
      refine fe_pick [0, 1, 2, 3, 4, 5, 6] rfl ?_
      exact ih (am_wr g 229 x8.toNatClampNeg q18) x2 (x4 - x4 / (x5 / (x2 - x8)) * (x5 / (x2 - x8))) (x5 / (x2 - x8)) (x6 ||| (1 <<< (q18 &&& 31))) (((10 * x7) + q18) + 1) (x8 + 1) q h k1
set_option maxRecDepth 4000 in
theorem lp_Mo_ordered_L158 {hE : am_H} {r : Option Value} : ∀ (n : Nat) (g : am_G) (x6 : Int32) (x7 : Int32) (x8 : Int32) (x9 : Int32) (w : am_G), Mo_ordered_L158 n g x6 x7 x8 x9 = some w → am_E 0 mX9_ordered (193, [(7, .int x7)], [], (sh0, w)) hE r → am_E 0 mX9_ordered (158, [(0, .ref 221), (6, .int x6), (7, .int x7), (8, .int x8), (9, .int x9)], [], (sh0, g)) hE r := by
  intro n
  induction n with
  | zero => intro g x6 x7 x8 x9 q h; cases h
  | succ n ih =>
    intro g x6 x7 x8 x9 q h k1
    replace h : _ = _ := h
    unfold Mo_ordered_L158 at h
    refine fe_li (pc' := 160) dX9_ordered_158 rfl rfl ?_
    refine fe_bp (pc' := 162) dX9_ordered_160 rfl ib_7 ?_
    refine fe_ic_ge (pc' := 165) (tgt := 193) dX9_ordered_162 rfl rfl (fun hc21 => ?_) (fun hc21 => ?_)
    · replace h := (if_pos hc21).symm.trans h
      refine fe_pick [2] rfl ?_
      cases h
      exact k1
    · replace h := (if_neg hc21).symm.trans h
      refine fe_li (pc' := 167) dX9_ordered_165 rfl rfl ?_
      refine fe_li (pc' := 169) dX9_ordered_167 rfl rfl ?_
      refine fe_ishr (pc' := 170) dX9_ordered_169 rfl ?_
      refine fe_ic (pc' := 171) dX9_ordered_170 rfl ic_1 ?_
      refine fe_iand (pc' := 172) dX9_ordered_171 rfl ?_
      obtain ⟨q24, hq27, h⟩ := am_bd h
      have K : am_E 0 mX9_ordered (187, [(0, .ref 221), (6, .int x6), (7, .int x7), (8, .int q24.2), (9, .int x9)], [], (sh0, q24.1)) hE r := by
        refine fe_inc (pc' := 190) (lo' := [(0, .ref 221), (6, .int x6), (7, .int x7), (8, .int q24.2), (9, .int (x9 + 1))]) dX9_ordered_187 rfl ic_1 (Nat.le_of_ble_eq_true rfl) rfl rfl ?_
        refine fe_go (tgt := 158) dX9_ordered_190 rfl ?_
        exact ih q24.1 x6 x7 q24.2 (x9 + 1) q h k1
      replace h := hq27
      refine fe_if_ne (pc' := 175) (tgt := 187) dX9_ordered_172 rfl rfl (fun hc22 => ?_) (fun hc22 => ?_)
      · replace h := (if_pos hc22).symm.trans h
        refine fe_lan (pc' := 176) dX9_ordered_175 rfl rfl ?_
        refine fe_gf (pc' := 179) dX9_ordered_176 rfl fl_9_32 n_221 gf_221_14 ?_
        refine fe_li (pc' := 181) dX9_ordered_179 rfl rfl ?_
        refine fe_li (pc' := 183) dX9_ordered_181 rfl rfl ?_
        obtain ⟨hi23, h⟩ := am_gd rfl h
        refine fe_as (pc' := 184) (j := x8.toNatClampNeg) dX9_ordered_183 rfl n_229 s_229 hi23 rfl ?_
        refine fe_inc (pc' := 187) (lo' := [(0, .ref 221), (6, .int x6), (7, .int x7), (8, .int (x8 + 1)), (9, .int x9)]) dX9_ordered_184 rfl ic_1 (Nat.le_of_ble_eq_true rfl) rfl rfl ?_
        cases h
        exact K
      · replace h := (if_neg hc22).symm.trans h
        cases h
        exact K
set_option maxRecDepth 4000 in
theorem ev_Mo_ordered {g : am_G} {x1 x2 x3 : Int32} {w : (am_G × Int32)} (h : Mo_ordered g x1 x2 x3 = some w) : am_Ev 1 169 [.ref 221, .int x1, .int x2, .int x3] (sh0, g) (sh0, w.1) (some (.int w.2)) := by
  unfold Mo_ordered at h
  refine am_ev mX9_ordered (by rfl) (Nat.le_of_ble_eq_true rfl) [(0, .ref 221), (1, .int x1), (2, .int x2), (3, .int x3)] rfl ?_
  refine fe_lin (pc' := 1) dX9_ordered_0 rfl rfl ?_
  refine fe_si (pc' := 3) (lo' := [(0, .ref 221), (1, .int x1), (2, .int x2), (3, .int x3), (4, .int x1)]) dX9_ordered_1 rfl (Nat.le_of_ble_eq_true rfl) rfl ?_
  refine fe_lin (pc' := 4) dX9_ordered_3 rfl rfl ?_
  refine fe_si (pc' := 6) (lo' := [(0, .ref 221), (1, .int x1), (2, .int x2), (3, .int x3), (4, .int x1), (5, .int x3)]) dX9_ordered_4 rfl (Nat.le_of_ble_eq_true rfl) rfl ?_
  refine fe_ic (pc' := 7) dX9_ordered_6 rfl ic_0 ?_
  refine fe_si (pc' := 9) (lo' := [(0, .ref 221), (1, .int x1), (2, .int x2), (3, .int x3), (4, .int x1), (5, .int x3), (6, .int 0)]) dX9_ordered_7 rfl (Nat.le_of_ble_eq_true rfl) rfl ?_
  refine fe_ic (pc' := 10) dX9_ordered_9 rfl ic_0 ?_
  refine fe_si (pc' := 12) (lo' := [(0, .ref 221), (1, .int x1), (2, .int x2), (3, .int x3), (4, .int x1), (5, .int x3), (6, .int 0), (7, .int 0)]) dX9_ordered_10 rfl (Nat.le_of_ble_eq_true rfl) rfl ?_
  refine fe_ic (pc' := 13) dX9_ordered_12 rfl ic_0 ?_
  refine fe_si (pc' := 15) (lo' := [(0, .ref 221), (1, .int x1), (2, .int x2), (3, .int x3), (4, .int x1), (5, .int x3), (6, .int 0), (7, .int 0), (8, .int 0)]) dX9_ordered_13 rfl (Nat.le_of_ble_eq_true rfl) rfl ?_
  obtain ⟨q20, hq28, h⟩ := am_bd h
  refine fe_pick [0, 2, 4, 5, 6, 7, 8] rfl ?_
  refine lp_Mo_ordered_L15 _ g x2 x1 x3 0 0 0 q20 hq28 ?_
  refine fe_lin (pc' := 153) dX9_ordered_152 rfl rfl ?_
  refine fe_si (pc' := 155) (lo' := [(0, .ref 221), (2, .int x2), (6, .int q20.2.1), (7, .int q20.2.2), (8, .int x2)]) dX9_ordered_153 rfl (Nat.le_of_ble_eq_true rfl) rfl ?_
  refine fe_ic (pc' := 156) dX9_ordered_155 rfl ic_0 ?_
  refine fe_si (pc' := 158) (lo' := [(0, .ref 221), (2, .int x2), (6, .int q20.2.1), (7, .int q20.2.2), (8, .int x2), (9, .int 0)]) dX9_ordered_156 rfl (Nat.le_of_ble_eq_true rfl) rfl ?_
  obtain ⟨q25, hq29, h⟩ := am_bd h
  refine fe_pick [0, 2, 3, 4, 5] rfl ?_
  refine lp_Mo_ordered_L158 _ q20.1 q20.2.1 q20.2.2 x2 0 q25 hq29 ?_
  refine fe_li (pc' := 195) dX9_ordered_193 rfl rfl ?_
  cases h
  exact fe_ri dX9_ordered_195 rfl
-- Mo_eat: X9_eat
set_option maxRecDepth 4000 in
theorem lp_Mo_eat_L15 {hE : am_H} {r : Option Value} : ∀ (n : Nat) (g : am_G) (x1 : Int32) (x2 : Int32) (x3 : Int32) (w : Int32), Mo_eat_L15 n g x1 x2 x3 = some w → am_E 4 mX9_eat (43, [(0, .ref 221), (1, .int x1), (2, .int w)], [], (sh0, g)) hE r → am_E 4 mX9_eat (15, [(0, .ref 221), (1, .int x1), (2, .int x2), (3, .int x3)], [], (sh0, g)) hE r := by
  intro n
  induction n with
  | zero => intro g x1 x2 x3 q h; cases h
  | succ n ih =>
    intro g x1 x2 x3 q h k1
    replace h : _ = _ := h
    unfold Mo_eat_L15 at h
    refine fe_lin (pc' := 16) dX9_eat_15 rfl rfl ?_
    refine fe_lan (pc' := 17) dX9_eat_16 rfl rfl ?_
    refine fe_gf (pc' := 20) dX9_eat_17 rfl fl_9_13 n_221 gf_221_3 ?_
    refine fe_ic (pc' := 21) dX9_eat_20 rfl ic_1 ?_
    refine fe_al (pc' := 22) (j := 1) dX9_eat_21 rfl n_223 s_223 (by decide) (by decide) ?_
    refine fe_ic_ge (pc' := 25) (tgt := 43) dX9_eat_22 rfl rfl (fun hc4 => ?_) (fun hc4 => ?_)
    · replace h := (if_pos hc4).symm.trans h
      refine fe_pick [0, 1, 2] rfl ?_
      cases h
      exact k1
    · replace h := (if_neg hc4).symm.trans h
      refine fe_lin (pc' := 26) dX9_eat_25 rfl rfl ?_
      refine fe_lan (pc' := 27) dX9_eat_26 rfl rfl ?_
      refine fe_gf (pc' := 30) dX9_eat_27 rfl fl_9_13 n_221 gf_221_3 ?_
      refine fe_bp (pc' := 32) dX9_eat_30 rfl ib_26 ?_
      refine fe_lin (pc' := 33) dX9_eat_32 rfl rfl ?_
      refine fe_iadd (pc' := 34) dX9_eat_33 rfl ?_
      obtain ⟨hi5, h⟩ := am_gd rfl h
      refine fe_al (pc' := 35) (j := (26 + x3).toNatClampNeg) dX9_eat_34 rfl n_223 s_223 hi5 rfl ?_
      refine fe_iadd (pc' := 36) dX9_eat_35 rfl ?_
      refine fe_sin (pc' := 37) (lo' := [(0, .ref 221), (1, .int x1), (2, .int (x2 + (g.1 223 (26 + x3).toNatClampNeg))), (3, .int x3)]) dX9_eat_36 rfl (Nat.le_of_ble_eq_true rfl) rfl ?_
      refine fe_inc (pc' := 40) (lo' := [(0, .ref 221), (1, .int x1), (2, .int (x2 + (g.1 223 (26 + x3).toNatClampNeg))), (3, .int (x3 + 1))]) dX9_eat_37 rfl ic_1 (Nat.le_of_ble_eq_true rfl) rfl rfl ?_
      refine fe_go (tgt := 15) dX9_eat_40 rfl ?_
      exact ih g x1 (x2 + (g.1 223 (26 + x3).toNatClampNeg)) (x3 + 1) q h k1
set_option maxRecDepth 4000 in
theorem lp_Mo_eat_L48 {hE : am_H} {r : Option Value} : ∀ (n : Nat) (g : am_G) (x1 : Int32) (x2 : Int32) (x3 : Int32) (x4 : Int32) (w : Int32), Mo_eat_L48 n g x1 x2 x3 x4 = some w → am_E 4 mX9_eat (65, [(0, .ref 221), (1, .int x1), (2, .int x2), (3, .int w)], [], (sh0, g)) hE r → am_E 4 mX9_eat (48, [(0, .ref 221), (1, .int x1), (2, .int x2), (3, .int x3), (4, .int x4)], [], (sh0, g)) hE r := by
  intro n
  induction n with
  | zero => intro g x1 x2 x3 x4 q h; cases h
  | succ n ih =>
    intro g x1 x2 x3 x4 q h k1
    replace h : _ = _ := h
    unfold Mo_eat_L48 at h
    refine fe_li (pc' := 50) dX9_eat_48 rfl rfl ?_
    refine fe_lin (pc' := 51) dX9_eat_50 rfl rfl ?_
    refine fe_ic_gt (pc' := 54) (tgt := 65) dX9_eat_51 rfl rfl (fun hc7 => ?_) (fun hc7 => ?_)
    · replace h := (if_pos hc7).symm.trans h
      refine fe_pick [0, 1, 2, 3] rfl ?_
      cases h
      exact k1
    · replace h := (if_neg hc7).symm.trans h
      refine fe_lin (pc' := 55) dX9_eat_54 rfl rfl ?_
      refine fe_li (pc' := 57) dX9_eat_55 rfl rfl ?_
      refine fe_imul (pc' := 58) dX9_eat_57 rfl ?_
      refine fe_sin (pc' := 59) (lo' := [(0, .ref 221), (1, .int x1), (2, .int x2), (3, .int (x3 * x4)), (4, .int x4)]) dX9_eat_58 rfl (Nat.le_of_ble_eq_true rfl) rfl ?_
      refine fe_inc (pc' := 62) (lo' := [(0, .ref 221), (1, .int x1), (2, .int x2), (3, .int (x3 * x4)), (4, .int (x4 + 1))]) dX9_eat_59 rfl ic_1 (Nat.le_of_ble_eq_true rfl) rfl rfl ?_
      refine fe_go (tgt := 48) dX9_eat_62 rfl ?_
      exact ih g x1 x2 (x3 * x4) (x4 + 1) q h k1
set_option maxRecDepth 4000 in
theorem lp_Mo_eat_L97 {hE : am_H} {r : Option Value} : ∀ (n : Nat) (g : am_G) (x1 : Int32) (x2 : Int32) (x3 : Int32) (x4 : Int32) (x5 : Int32) (x6 : Int32) (x7 : Int32) (x8 : Int32) (w : am_G), Mo_eat_L97 n g x1 x2 x3 x4 x5 x6 x7 x8 = some w → am_E 4 mX9_eat (116, [(0, .ref 221), (1, .int x1), (2, .int x2), (3, .int x3), (4, .int x4), (5, .int x5), (6, .int x6), (7, .int x7), (8, .int x8)], [], (sh0, w)) hE r → am_E 4 mX9_eat (97, [(0, .ref 221), (1, .int x1), (2, .int x2), (3, .int x3), (4, .int x4), (5, .int x5), (6, .int x6), (7, .int x7), (8, .int x8)], [], (sh0, g)) hE r := by
  intro n
  induction n with
  | zero => intro g x1 x2 x3 x4 x5 x6 x7 x8 q h; cases h
  | succ n ih =>
    intro g x1 x2 x3 x4 x5 x6 x7 x8 q h k1
    replace h : _ = _ := h
    unfold Mo_eat_L97 at h
    refine fe_lan (pc' := 98) dX9_eat_97 rfl rfl ?_
    obtain ⟨q14, hq15, h⟩ := am_bd h
    refine fe_iv (pc' := 101) (as := [.ref 221]) (h1 := (sh0, g)) (r1 := some (.int (am_b q14))) (st' := [.int (am_b q14)]) dX9_eat_98 rfl cl_9_138 rfl rfl s_221 ms_153 ⟨n_221, rfl, by decide, Nat.le_of_ble_eq_true rfl, Nat.le_of_ble_eq_true rfl⟩ (am_le0 _ _ _) (am_up (by decide) (ev_Mo_isStage hq15)) rfl ?_
    refine fe_bT (pc' := 104) (tgt := 116) dX9_eat_101 rfl rfl rfl (fun hc16 => ?_) (fun hc16 => ?_)
    · replace h := (if_pos hc16).symm.trans h
      refine fe_lan (pc' := 105) dX9_eat_104 rfl rfl ?_
      refine fe_lan (pc' := 106) dX9_eat_105 rfl rfl ?_
      obtain ⟨q17, hq18, h⟩ := am_bd h
      refine fe_iv (pc' := 109) (as := [.ref 221]) (h1 := (sh0, g)) (r1 := some (.int (am_b q17))) (st' := [.int (am_b q17), .ref 221]) dX9_eat_106 rfl cl_9_144 rfl rfl s_221 ms_154 ⟨n_221, rfl, by decide, Nat.le_of_ble_eq_true rfl, Nat.le_of_ble_eq_true rfl⟩ (am_le0 _ _ _) (am_up (by decide) (ev_Mo_isRain hq18)) rfl ?_
      obtain ⟨q19, hq20, h⟩ := am_bd h
      refine fe_iv (pc' := 112) (as := [.ref 221, .int (am_b q17)]) (h1 := (sh0, q19.1)) (r1 := some (.int q19.2)) (st' := [.int q19.2]) dX9_eat_109 rfl cl_9_147 rfl rfl s_221 ms_152 ⟨n_221, rfl, by decide, Nat.le_of_ble_eq_true rfl, Nat.le_of_ble_eq_true rfl⟩ (am_le0 _ _ _) (am_up (by decide) (ev_Mo_stageGoes hq20)) rfl ?_
      refine fe_pop (pc' := 113) dX9_eat_112 rfl rfl ?_
      refine fe_go (tgt := 97) dX9_eat_113 rfl ?_
      exact ih q19.1 x1 x2 x3 x4 x5 x6 x7 x8 q h k1
    · replace h := (if_neg hc16).symm.trans h
      cases h
      exact k1
set_option maxRecDepth 4000 in
theorem lp_Mo_eat_L81 {hE : am_H} {r : Option Value} : ∀ (n : Nat) (g : am_G) (x1 : Int32) (x2 : Int32) (x3 : Int32) (x4 : Int32) (x5 : Int32) (x6 : Int32) (x7 : Int32) (w : am_G × Int32 × Int32), Mo_eat_L81 n g x1 x2 x3 x4 x5 x6 x7 = some w → am_E 4 mX9_eat (231, [(1, .int x1), (4, .int w.2.1), (5, .int w.2.2)], [], (sh0, w.1)) hE r → am_E 4 mX9_eat (81, [(0, .ref 221), (1, .int x1), (2, .int x2), (3, .int x3), (4, .int x4), (5, .int x5), (6, .int x6), (7, .int x7)], [], (sh0, g)) hE r := by
  intro n
  induction n with
  | zero => intro g x1 x2 x3 x4 x5 x6 x7 q h; cases h
  | succ n ih =>
    intro g x1 x2 x3 x4 x5 x6 x7 q h k1
    replace h : _ = _ := h
    unfold Mo_eat_L81 at h
    refine fe_li (pc' := 83) dX9_eat_81 rfl rfl ?_
    refine fe_lin (pc' := 84) dX9_eat_83 rfl rfl ?_
    refine fe_ic_ge (pc' := 87) (tgt := 231) dX9_eat_84 rfl rfl (fun hc11 => ?_) (fun hc11 => ?_)
    · replace h := (if_pos hc11).symm.trans h
      refine fe_pick [1, 4, 5] rfl ?_
      cases h
      exact k1
    · replace h := (if_neg hc11).symm.trans h
      refine fe_lan (pc' := 88) dX9_eat_87 rfl rfl ?_
      refine fe_li (pc' := 90) dX9_eat_88 rfl rfl ?_
      refine fe_lin (pc' := 91) dX9_eat_90 rfl rfl ?_
      refine fe_lin (pc' := 92) dX9_eat_91 rfl rfl ?_
      obtain ⟨q12, hq13, h⟩ := am_bd h
      refine fe_iv (pc' := 95) (as := [.ref 221, .int x7, .int x2, .int x3]) (h1 := (sh0, q12.1)) (r1 := some (.int q12.2)) (st' := [.int q12.2]) dX9_eat_92 rfl cl_9_168 rfl rfl s_221 ms_169 ⟨n_221, rfl, by decide, Nat.le_of_ble_eq_true rfl, Nat.le_of_ble_eq_true rfl⟩ (am_le0 _ _ _) (am_up (by decide) (ev_Mo_ordered hq13)) rfl ?_
      refine fe_si (pc' := 97) (lo' := [(0, .ref 221), (1, .int x1), (2, .int x2), (3, .int x3), (4, .int x4), (5, .int x5), (6, .int x6), (7, .int x7), (8, .int q12.2)]) dX9_eat_95 rfl (Nat.le_of_ble_eq_true rfl) rfl ?_
      obtain ⟨q21, hq37, h⟩ := am_bd h
      refine lp_Mo_eat_L97 _ q12.1 x1 x2 x3 x4 x5 x6 x7 q12.2 q21 hq37 ?_
      refine fe_lan (pc' := 117) dX9_eat_116 rfl rfl ?_
      refine fe_gf (pc' := 120) dX9_eat_117 rfl fl_9_19 n_221 gf_221_5 ?_
      refine fe_ic (pc' := 121) dX9_eat_120 rfl ic_1 ?_
      refine fe_al (pc' := 122) (j := 1) dX9_eat_121 rfl n_225 s_225 (by decide) (by decide) ?_
      refine fe_lan (pc' := 123) dX9_eat_122 rfl rfl ?_
      refine fe_gf (pc' := 126) dX9_eat_123 rfl fl_9_38 n_221 gf_221_16 ?_
      refine fe_ic (pc' := 127) dX9_eat_126 rfl ic_1 ?_
      refine fe_al (pc' := 128) (j := 1) dX9_eat_127 rfl n_231 s_231 (by decide) (by decide) ?_
      refine fe_isub (pc' := 129) dX9_eat_128 rfl ?_
      refine fe_si (pc' := 131) (lo' := [(0, .ref 221), (1, .int x1), (2, .int x2), (3, .int x3), (4, .int x4), (5, .int x5), (6, .int x6), (7, .int x7), (8, .int q12.2), (9, .int ((q21.1 225 1) - (q21.1 231 1)))]) dX9_eat_129 rfl (Nat.le_of_ble_eq_true rfl) rfl ?_
      refine fe_lan (pc' := 132) dX9_eat_131 rfl rfl ?_
      refine fe_gf (pc' := 135) dX9_eat_132 rfl fl_9_19 n_221 gf_221_5 ?_
      refine fe_ic (pc' := 136) dX9_eat_135 rfl ic_2 ?_
      refine fe_al (pc' := 137) (j := 2) dX9_eat_136 rfl n_225 s_225 (by decide) (by decide) ?_
      refine fe_lan (pc' := 138) dX9_eat_137 rfl rfl ?_
      refine fe_gf (pc' := 141) dX9_eat_138 rfl fl_9_38 n_221 gf_221_16 ?_
      refine fe_ic (pc' := 142) dX9_eat_141 rfl ic_2 ?_
      refine fe_al (pc' := 143) (j := 2) dX9_eat_142 rfl n_231 s_231 (by decide) (by decide) ?_
      refine fe_isub (pc' := 144) dX9_eat_143 rfl ?_
      refine fe_si (pc' := 146) (lo' := [(0, .ref 221), (1, .int x1), (2, .int x2), (3, .int x3), (4, .int x4), (5, .int x5), (6, .int x6), (7, .int x7), (8, .int q12.2), (9, .int ((q21.1 225 1) - (q21.1 231 1))), (10, .int ((q21.1 225 2) - (q21.1 231 2)))]) dX9_eat_144 rfl (Nat.le_of_ble_eq_true rfl) rfl ?_
      refine fe_lan (pc' := 147) dX9_eat_146 rfl rfl ?_
      obtain ⟨q22, hq23, h⟩ := am_bd h
      refine fe_iv (pc' := 150) (as := [.ref 221]) (h1 := (sh0, q22)) (r1 := none) (st' := []) dX9_eat_147 rfl cl_9_161 rfl rfl s_221 ms_161 ⟨n_221, rfl, by decide, Nat.le_of_ble_eq_true rfl, Nat.le_of_ble_eq_true rfl⟩ (am_le0 _ _ _) (am_up (by decide) (ev_Mo_lets hq23)) rfl ?_
      refine fe_li (pc' := 152) dX9_eat_150 rfl rfl ?_
      have K : am_E 4 mX9_eat (181, [(0, .ref 221), (1, .int x1), (2, .int x2), (3, .int x3), (4, .int x4), (5, .int x5), (6, .int x6), (7, .int x7), (8, .int q12.2), (9, .int ((q21.1 225 1) - (q21.1 231 1))), (10, .int ((q21.1 225 2) - (q21.1 231 2)))], [.int (if x5 < 0 then 1 else if ((q21.1 225 1) - (q21.1 231 1)) < x5 then 1 else if ((q21.1 225 1) - (q21.1 231 1)) = x5 then if x6 ≤ ((q21.1 225 2) - (q21.1 231 2)) then 0 else 1 else 0 : Int32)], (sh0, q22)) hE r := by
        refine fe_si (pc' := 183) (lo' := [(0, .ref 221), (1, .int x1), (2, .int x2), (3, .int x3), (4, .int x4), (5, .int x5), (6, .int x6), (7, .int x7), (8, .int q12.2), (9, .int ((q21.1 225 1) - (q21.1 231 1))), (10, .int ((q21.1 225 2) - (q21.1 231 2))), (11, .int (if x5 < 0 then 1 else if ((q21.1 225 1) - (q21.1 231 1)) < x5 then 1 else if ((q21.1 225 1) - (q21.1 231 1)) = x5 then if x6 ≤ ((q21.1 225 2) - (q21.1 231 2)) then 0 else 1 else 0 : Int32))]) dX9_eat_181 rfl (Nat.le_of_ble_eq_true rfl) rfl ?_
        refine fe_li (pc' := 185) dX9_eat_183 rfl rfl ?_
        have K : am_E 4 mX9_eat (195, [(0, .ref 221), (1, .int x1), (2, .int x2), (3, .int x3), (5, .int x5), (6, .int x6), (7, .int x7), (9, .int ((q21.1 225 1) - (q21.1 231 1))), (10, .int ((q21.1 225 2) - (q21.1 231 2))), (11, .int (if x5 < 0 then 1 else if ((q21.1 225 1) - (q21.1 231 1)) < x5 then 1 else if ((q21.1 225 1) - (q21.1 231 1)) = x5 then if x6 ≤ ((q21.1 225 2) - (q21.1 231 2)) then 0 else 1 else 0 : Int32))], [.int (if (if x5 < 0 then 1 else if ((q21.1 225 1) - (q21.1 231 1)) < x5 then 1 else if ((q21.1 225 1) - (q21.1 231 1)) = x5 then if x6 ≤ ((q21.1 225 2) - (q21.1 231 2)) then 0 else 1 else 0 : Int32) = 0 then x4 else q12.2 : Int32)], (sh0, q22)) hE r := by
          refine fe_si (pc' := 197) (lo' := [(0, .ref 221), (1, .int x1), (2, .int x2), (3, .int x3), (4, .int (if (if x5 < 0 then 1 else if ((q21.1 225 1) - (q21.1 231 1)) < x5 then 1 else if ((q21.1 225 1) - (q21.1 231 1)) = x5 then if x6 ≤ ((q21.1 225 2) - (q21.1 231 2)) then 0 else 1 else 0 : Int32) = 0 then x4 else q12.2 : Int32)), (5, .int x5), (6, .int x6), (7, .int x7), (9, .int ((q21.1 225 1) - (q21.1 231 1))), (10, .int ((q21.1 225 2) - (q21.1 231 2))), (11, .int (if x5 < 0 then 1 else if ((q21.1 225 1) - (q21.1 231 1)) < x5 then 1 else if ((q21.1 225 1) - (q21.1 231 1)) = x5 then if x6 ≤ ((q21.1 225 2) - (q21.1 231 2)) then 0 else 1 else 0 : Int32))]) dX9_eat_195 rfl (Nat.le_of_ble_eq_true rfl) rfl ?_
          refine fe_li (pc' := 199) dX9_eat_197 rfl rfl ?_
          have K : am_E 4 mX9_eat (209, [(0, .ref 221), (1, .int x1), (2, .int x2), (3, .int x3), (4, .int (if (if x5 < 0 then 1 else if ((q21.1 225 1) - (q21.1 231 1)) < x5 then 1 else if ((q21.1 225 1) - (q21.1 231 1)) = x5 then if x6 ≤ ((q21.1 225 2) - (q21.1 231 2)) then 0 else 1 else 0 : Int32) = 0 then x4 else q12.2 : Int32)), (5, .int x5), (7, .int x7), (9, .int ((q21.1 225 1) - (q21.1 231 1))), (11, .int (if x5 < 0 then 1 else if ((q21.1 225 1) - (q21.1 231 1)) < x5 then 1 else if ((q21.1 225 1) - (q21.1 231 1)) = x5 then if x6 ≤ ((q21.1 225 2) - (q21.1 231 2)) then 0 else 1 else 0 : Int32))], [.int (if (if x5 < 0 then 1 else if ((q21.1 225 1) - (q21.1 231 1)) < x5 then 1 else if ((q21.1 225 1) - (q21.1 231 1)) = x5 then if x6 ≤ ((q21.1 225 2) - (q21.1 231 2)) then 0 else 1 else 0 : Int32) = 0 then x6 else (q21.1 225 2) - (q21.1 231 2) : Int32)], (sh0, q22)) hE r := by
            refine fe_si (pc' := 211) (lo' := [(0, .ref 221), (1, .int x1), (2, .int x2), (3, .int x3), (4, .int (if (if x5 < 0 then 1 else if ((q21.1 225 1) - (q21.1 231 1)) < x5 then 1 else if ((q21.1 225 1) - (q21.1 231 1)) = x5 then if x6 ≤ ((q21.1 225 2) - (q21.1 231 2)) then 0 else 1 else 0 : Int32) = 0 then x4 else q12.2 : Int32)), (5, .int x5), (6, .int (if (if x5 < 0 then 1 else if ((q21.1 225 1) - (q21.1 231 1)) < x5 then 1 else if ((q21.1 225 1) - (q21.1 231 1)) = x5 then if x6 ≤ ((q21.1 225 2) - (q21.1 231 2)) then 0 else 1 else 0 : Int32) = 0 then x6 else (q21.1 225 2) - (q21.1 231 2) : Int32)), (7, .int x7), (9, .int ((q21.1 225 1) - (q21.1 231 1))), (11, .int (if x5 < 0 then 1 else if ((q21.1 225 1) - (q21.1 231 1)) < x5 then 1 else if ((q21.1 225 1) - (q21.1 231 1)) = x5 then if x6 ≤ ((q21.1 225 2) - (q21.1 231 2)) then 0 else 1 else 0 : Int32))]) dX9_eat_209 rfl (Nat.le_of_ble_eq_true rfl) rfl ?_
            refine fe_li (pc' := 213) dX9_eat_211 rfl rfl ?_
            have K : am_E 4 mX9_eat (223, [(0, .ref 221), (1, .int x1), (2, .int x2), (3, .int x3), (4, .int (if (if x5 < 0 then 1 else if ((q21.1 225 1) - (q21.1 231 1)) < x5 then 1 else if ((q21.1 225 1) - (q21.1 231 1)) = x5 then if x6 ≤ ((q21.1 225 2) - (q21.1 231 2)) then 0 else 1 else 0 : Int32) = 0 then x4 else q12.2 : Int32)), (6, .int (if (if x5 < 0 then 1 else if ((q21.1 225 1) - (q21.1 231 1)) < x5 then 1 else if ((q21.1 225 1) - (q21.1 231 1)) = x5 then if x6 ≤ ((q21.1 225 2) - (q21.1 231 2)) then 0 else 1 else 0 : Int32) = 0 then x6 else (q21.1 225 2) - (q21.1 231 2) : Int32)), (7, .int x7)], [.int (if (if x5 < 0 then 1 else if ((q21.1 225 1) - (q21.1 231 1)) < x5 then 1 else if ((q21.1 225 1) - (q21.1 231 1)) = x5 then if x6 ≤ ((q21.1 225 2) - (q21.1 231 2)) then 0 else 1 else 0 : Int32) = 0 then x5 else (q21.1 225 1) - (q21.1 231 1) : Int32)], (sh0, q22)) hE r := by
              refine fe_si (pc' := 225) (lo' := [(0, .ref 221), (1, .int x1), (2, .int x2), (3, .int x3), (4, .int (if (if x5 < 0 then 1 else if ((q21.1 225 1) - (q21.1 231 1)) < x5 then 1 else if ((q21.1 225 1) - (q21.1 231 1)) = x5 then if x6 ≤ ((q21.1 225 2) - (q21.1 231 2)) then 0 else 1 else 0 : Int32) = 0 then x4 else q12.2 : Int32)), (5, .int (if (if x5 < 0 then 1 else if ((q21.1 225 1) - (q21.1 231 1)) < x5 then 1 else if ((q21.1 225 1) - (q21.1 231 1)) = x5 then if x6 ≤ ((q21.1 225 2) - (q21.1 231 2)) then 0 else 1 else 0 : Int32) = 0 then x5 else (q21.1 225 1) - (q21.1 231 1) : Int32)), (6, .int (if (if x5 < 0 then 1 else if ((q21.1 225 1) - (q21.1 231 1)) < x5 then 1 else if ((q21.1 225 1) - (q21.1 231 1)) = x5 then if x6 ≤ ((q21.1 225 2) - (q21.1 231 2)) then 0 else 1 else 0 : Int32) = 0 then x6 else (q21.1 225 2) - (q21.1 231 2) : Int32)), (7, .int x7)]) dX9_eat_223 rfl (Nat.le_of_ble_eq_true rfl) rfl ?_
              refine fe_inc (pc' := 228) (lo' := [(0, .ref 221), (1, .int x1), (2, .int x2), (3, .int x3), (4, .int (if (if x5 < 0 then 1 else if ((q21.1 225 1) - (q21.1 231 1)) < x5 then 1 else if ((q21.1 225 1) - (q21.1 231 1)) = x5 then if x6 ≤ ((q21.1 225 2) - (q21.1 231 2)) then 0 else 1 else 0 : Int32) = 0 then x4 else q12.2 : Int32)), (5, .int (if (if x5 < 0 then 1 else if ((q21.1 225 1) - (q21.1 231 1)) < x5 then 1 else if ((q21.1 225 1) - (q21.1 231 1)) = x5 then if x6 ≤ ((q21.1 225 2) - (q21.1 231 2)) then 0 else 1 else 0 : Int32) = 0 then x5 else (q21.1 225 1) - (q21.1 231 1) : Int32)), (6, .int (if (if x5 < 0 then 1 else if ((q21.1 225 1) - (q21.1 231 1)) < x5 then 1 else if ((q21.1 225 1) - (q21.1 231 1)) = x5 then if x6 ≤ ((q21.1 225 2) - (q21.1 231 2)) then 0 else 1 else 0 : Int32) = 0 then x6 else (q21.1 225 2) - (q21.1 231 2) : Int32)), (7, .int (x7 + 1))]) dX9_eat_225 rfl ic_1 (Nat.le_of_ble_eq_true rfl) rfl rfl ?_
              refine fe_go (tgt := 81) dX9_eat_228 rfl ?_
              exact ih q22 x1 x2 x3 (if (if x5 < 0 then 1 else if ((q21.1 225 1) - (q21.1 231 1)) < x5 then 1 else if ((q21.1 225 1) - (q21.1 231 1)) = x5 then if x6 ≤ ((q21.1 225 2) - (q21.1 231 2)) then 0 else 1 else 0 : Int32) = 0 then x4 else q12.2 : Int32) (if (if x5 < 0 then 1 else if ((q21.1 225 1) - (q21.1 231 1)) < x5 then 1 else if ((q21.1 225 1) - (q21.1 231 1)) = x5 then if x6 ≤ ((q21.1 225 2) - (q21.1 231 2)) then 0 else 1 else 0 : Int32) = 0 then x5 else (q21.1 225 1) - (q21.1 231 1) : Int32) (if (if x5 < 0 then 1 else if ((q21.1 225 1) - (q21.1 231 1)) < x5 then 1 else if ((q21.1 225 1) - (q21.1 231 1)) = x5 then if x6 ≤ ((q21.1 225 2) - (q21.1 231 2)) then 0 else 1 else 0 : Int32) = 0 then x6 else (q21.1 225 2) - (q21.1 231 2) : Int32) (x7 + 1) q h k1
            refine fe_if_eq (pc' := 216) (tgt := 221) dX9_eat_213 rfl rfl (fun hc33 => ?_) (fun hc33 => ?_)
            · refine fe_li (pc' := 223) dX9_eat_221 rfl rfl ?_
              refine fe_pick [0, 1, 2, 3, 4, 6, 7] rfl ?_
              simp only [if_pos hc33] at K ⊢
              exact K
            · refine fe_li (pc' := 218) dX9_eat_216 rfl rfl ?_
              refine fe_go (tgt := 223) dX9_eat_218 rfl ?_
              refine fe_pick [0, 1, 2, 3, 4, 6, 7] rfl ?_
              simp only [if_neg hc33] at K ⊢
              exact K
          refine fe_if_eq (pc' := 202) (tgt := 207) dX9_eat_199 rfl rfl (fun hc31 => ?_) (fun hc31 => ?_)
          · refine fe_li (pc' := 209) dX9_eat_207 rfl rfl ?_
            refine fe_pick [0, 1, 2, 3, 4, 5, 7, 8, 10] rfl ?_
            simp only [if_pos hc31] at K ⊢
            exact K
          · refine fe_li (pc' := 204) dX9_eat_202 rfl rfl ?_
            refine fe_go (tgt := 209) dX9_eat_204 rfl ?_
            refine fe_pick [0, 1, 2, 3, 4, 5, 7, 8, 10] rfl ?_
            simp only [if_neg hc31] at K ⊢
            exact K
        refine fe_if_eq (pc' := 188) (tgt := 193) dX9_eat_185 rfl rfl (fun hc29 => ?_) (fun hc29 => ?_)
        · refine fe_li (pc' := 195) dX9_eat_193 rfl rfl ?_
          refine fe_pick [0, 1, 2, 3, 5, 6, 7, 9, 10, 11] rfl ?_
          simp only [if_pos hc29] at K ⊢
          exact K
        · refine fe_li (pc' := 190) dX9_eat_188 rfl rfl ?_
          refine fe_go (tgt := 195) dX9_eat_190 rfl ?_
          refine fe_pick [0, 1, 2, 3, 5, 6, 7, 9, 10, 11] rfl ?_
          simp only [if_neg hc29] at K ⊢
          exact K
      refine fe_if_lt (pc' := 155) (tgt := 176) dX9_eat_152 rfl rfl (fun hc24 => ?_) (fun hc24 => ?_)
      · refine fe_ic (pc' := 177) dX9_eat_176 rfl ic_1 ?_
        refine fe_go (tgt := 181) dX9_eat_177 rfl ?_
        simp only [if_pos hc24] at K ⊢
        exact K
      · refine fe_li (pc' := 157) dX9_eat_155 rfl rfl ?_
        refine fe_li (pc' := 159) dX9_eat_157 rfl rfl ?_
        refine fe_ic_lt (pc' := 162) (tgt := 176) dX9_eat_159 rfl rfl (fun hc25 => ?_) (fun hc25 => ?_)
        · refine fe_ic (pc' := 177) dX9_eat_176 rfl ic_1 ?_
          refine fe_go (tgt := 181) dX9_eat_177 rfl ?_
          simp only [if_neg hc24, if_pos hc25] at K ⊢
          exact K
        · refine fe_li (pc' := 164) dX9_eat_162 rfl rfl ?_
          refine fe_li (pc' := 166) dX9_eat_164 rfl rfl ?_
          refine fe_ic_ne (pc' := 169) (tgt := 180) dX9_eat_166 rfl rfl (fun hc26 => ?_) (fun hc26 => ?_)
          · refine fe_li (pc' := 171) dX9_eat_169 rfl rfl ?_
            refine fe_li (pc' := 173) dX9_eat_171 rfl rfl ?_
            refine fe_ic_ge (pc' := 176) (tgt := 180) dX9_eat_173 rfl rfl (fun hc27 => ?_) (fun hc27 => ?_)
            · refine fe_ic (pc' := 181) dX9_eat_180 rfl ic_0 ?_
              simp only [if_neg hc24, if_neg hc25, if_pos hc26, if_pos hc27] at K ⊢
              exact K
            · refine fe_ic (pc' := 177) dX9_eat_176 rfl ic_1 ?_
              refine fe_go (tgt := 181) dX9_eat_177 rfl ?_
              simp only [if_neg hc24, if_neg hc25, if_pos hc26, if_neg hc27] at K ⊢
              exact K
          · refine fe_ic (pc' := 181) dX9_eat_180 rfl ic_0 ?_
            simp only [if_neg hc24, if_neg hc25, if_neg hc26] at K ⊢
            exact K
set_option maxRecDepth 4000 in
theorem ev_Mo_eat {g : am_G} {x1 : Int32} {w : (am_G × Int32)} (h : Mo_eat g x1 = some w) : am_Ev 5 168 [.ref 221, .int x1] (sh0, g) (sh0, w.1) (some (.int w.2)) := by
  unfold Mo_eat at h
  refine am_ev mX9_eat (by rfl) (Nat.le_of_ble_eq_true rfl) [(0, .ref 221), (1, .int x1)] rfl ?_
  refine fe_lin (pc' := 1) dX9_eat_0 rfl rfl ?_
  refine fe_ic (pc' := 2) dX9_eat_1 rfl ic_0 ?_
  refine fe_ic (pc' := 3) dX9_eat_2 rfl ic_1 ?_
  obtain ⟨q1, hq2, h⟩ := am_bd h
  refine fe_is (pc' := 6) (as := [.int x1, .int 0, .int 1]) (h1 := (sh0, g)) (r1 := some (.int (am_b q1))) (st' := [.int (am_b q1)]) dX9_eat_3 rfl cl_9_48 (Or.inl rfl) rfl rfl ⟨Nat.le_of_ble_eq_true rfl, Nat.le_of_ble_eq_true rfl⟩ (am_le0 _ _ _) (am_up (by decide) (ev_Mo_in hq2)) rfl ?_
  refine fe_bF (pc' := 9) (tgt := 11) dX9_eat_6 rfl rfl rfl (fun hc3 => ?_) (fun hc3 => ?_)
  · replace h := (if_pos hc3).symm.trans h
    refine fe_ic (pc' := 12) dX9_eat_11 rfl ic_0 ?_
    refine fe_sin (pc' := 13) (lo' := [(0, .ref 221), (1, .int x1), (2, .int 0)]) dX9_eat_12 rfl (Nat.le_of_ble_eq_true rfl) rfl ?_
    refine fe_ic (pc' := 14) dX9_eat_13 rfl ic_0 ?_
    refine fe_sin (pc' := 15) (lo' := [(0, .ref 221), (1, .int x1), (2, .int 0), (3, .int 0)]) dX9_eat_14 rfl (Nat.le_of_ble_eq_true rfl) rfl ?_
    obtain ⟨q6, hq38, h⟩ := am_bd h
    refine lp_Mo_eat_L15 _ g x1 0 0 q6 hq38 ?_
    refine fe_ic (pc' := 44) dX9_eat_43 rfl ic_1 ?_
    refine fe_sin (pc' := 45) (lo' := [(0, .ref 221), (1, .int x1), (2, .int q6), (3, .int 1)]) dX9_eat_44 rfl (Nat.le_of_ble_eq_true rfl) rfl ?_
    refine fe_ic (pc' := 46) dX9_eat_45 rfl ic_1 ?_
    refine fe_si (pc' := 48) (lo' := [(0, .ref 221), (1, .int x1), (2, .int q6), (3, .int 1), (4, .int 1)]) dX9_eat_46 rfl (Nat.le_of_ble_eq_true rfl) rfl ?_
    obtain ⟨q8, hq39, h⟩ := am_bd h
    refine lp_Mo_eat_L48 _ g x1 q6 1 1 q8 hq39 ?_
    refine fe_lan (pc' := 66) dX9_eat_65 rfl rfl ?_
    obtain ⟨q9, hq10, h⟩ := am_bd h
    refine fe_iv (pc' := 69) (as := [.ref 221]) (h1 := (sh0, q9)) (r1 := none) (st' := []) dX9_eat_66 rfl cl_9_158 rfl rfl s_221 ms_160 ⟨n_221, rfl, by decide, Nat.le_of_ble_eq_true rfl, Nat.le_of_ble_eq_true rfl⟩ (am_le0 _ _ _) (am_up (by decide) (ev_Mo_holds hq10)) rfl ?_
    refine fe_ic (pc' := 70) dX9_eat_69 rfl ic_0 ?_
    refine fe_si (pc' := 72) (lo' := [(0, .ref 221), (1, .int x1), (2, .int q6), (3, .int q8), (4, .int 0)]) dX9_eat_70 rfl (Nat.le_of_ble_eq_true rfl) rfl ?_
    refine fe_ic (pc' := 73) dX9_eat_72 rfl ic_m1 ?_
    refine fe_si (pc' := 75) (lo' := [(0, .ref 221), (1, .int x1), (2, .int q6), (3, .int q8), (4, .int 0), (5, .int (-1))]) dX9_eat_73 rfl (Nat.le_of_ble_eq_true rfl) rfl ?_
    refine fe_ic (pc' := 76) dX9_eat_75 rfl ic_0 ?_
    refine fe_si (pc' := 78) (lo' := [(0, .ref 221), (1, .int x1), (2, .int q6), (3, .int q8), (4, .int 0), (5, .int (-1)), (6, .int 0)]) dX9_eat_76 rfl (Nat.le_of_ble_eq_true rfl) rfl ?_
    refine fe_ic (pc' := 79) dX9_eat_78 rfl ic_0 ?_
    refine fe_si (pc' := 81) (lo' := [(0, .ref 221), (1, .int x1), (2, .int q6), (3, .int q8), (4, .int 0), (5, .int (-1)), (6, .int 0), (7, .int 0)]) dX9_eat_79 rfl (Nat.le_of_ble_eq_true rfl) rfl ?_
    obtain ⟨q35, hq40, h⟩ := am_bd h
    refine lp_Mo_eat_L81 _ q9 x1 q6 q8 0 (-1) 0 0 q35 hq40 ?_
    refine fe_lin (pc' := 232) dX9_eat_231 rfl rfl ?_
    refine fe_if_ne (pc' := 235) (tgt := 240) dX9_eat_232 rfl rfl (fun hc36 => ?_) (fun hc36 => ?_)
    · replace h := (if_pos hc36).symm.trans h
      refine fe_li (pc' := 237) dX9_eat_235 rfl rfl ?_
      refine fe_go (tgt := 242) dX9_eat_237 rfl ?_
      cases h
      exact fe_ri dX9_eat_242 rfl
    · replace h := (if_neg hc36).symm.trans h
      refine fe_li (pc' := 242) dX9_eat_240 rfl rfl ?_
      cases h
      exact fe_ri dX9_eat_242 rfl
  · replace h := (if_neg hc3).symm.trans h
    refine fe_ic (pc' := 10) dX9_eat_9 rfl ic_m1 ?_
    cases h
    exact fe_ri dX9_eat_10 rfl
