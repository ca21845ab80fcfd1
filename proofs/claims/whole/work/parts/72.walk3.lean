-- To_findSoonest: X7_findSoonest
set_option maxRecDepth 4000 in
theorem lp_To_findSoonest_L29 {hE : am_H} {r : Option Value} : ∀ (n : Nat) (g : am_G) (x2 : Int32) (w : am_G), To_findSoonest_L29 n g x2 = some w → am_E 18 mX7_findSoonest (78, [(0, .ref 74)], [], (sh0, w)) hE r → am_E 18 mX7_findSoonest (29, [(0, .ref 74), (2, .int x2)], [], (sh0, g)) hE r := by
  intro n
  induction n with
  | zero => intro g x2 q h; cases h
  | succ n ih =>
    intro g x2 q h k1
    replace h : _ = _ := h
    unfold To_findSoonest_L29 at h
    refine fe_lin (pc' := 30) dX7_findSoonest_29 rfl rfl ?_
    refine fe_lan (pc' := 31) dX7_findSoonest_30 rfl rfl ?_
    refine fe_gf (pc' := 34) dX7_findSoonest_31 rfl fl_7_31 n_74 gf_74_0 ?_
    refine fe_gf (pc' := 37) dX7_findSoonest_34 rfl fl_7_71 n_3 gf_3_3 ?_
    refine fe_ic_ge (pc' := 40) (tgt := 78) dX7_findSoonest_37 rfl rfl (fun hc4 => ?_) (fun hc4 => ?_)
    · replace h := (if_pos hc4).symm.trans h
      refine fe_pick [0] rfl ?_
      cases h
      exact k1
    · replace h := (if_neg hc4).symm.trans h
      refine fe_lan (pc' := 41) dX7_findSoonest_40 rfl rfl ?_
      refine fe_dup (pc' := 42) dX7_findSoonest_41 rfl rfl ?_
      refine fe_gf (pc' := 45) dX7_findSoonest_42 rfl fl_7_28 n_74 gf_74_7 ?_
      refine fe_lan (pc' := 46) dX7_findSoonest_45 rfl rfl ?_
      refine fe_gf (pc' := 49) dX7_findSoonest_46 rfl fl_7_40 n_74 gf_74_1 ?_
      refine fe_lin (pc' := 50) dX7_findSoonest_49 rfl rfl ?_
      obtain ⟨q5, hq6, h⟩ := am_bd h
      refine fe_iv (pc' := 53) (as := [.ref 77, .int x2]) (h1 := (sh0, g)) (r1 := some (.int (am_b q5))) (st' := [.int (am_b q5), .int (g.1 74 7), .ref 74]) dX7_findSoonest_50 rfl cl_7_74 rfl rfl (sc_o sc_77) ms_26 ⟨(sc_ne sc_77), rfl, by decide, Nat.le_of_ble_eq_true rfl, Nat.le_of_ble_eq_true rfl⟩ (am_le0 _ _ _) (am_up (by decide) (ev_Ca_isCarried sc_77 hq6)) rfl ?_
      obtain ⟨q10, hq19, h⟩ := am_bd h
      have K : am_E 18 mX7_findSoonest (68, [(0, .ref 74), (2, .int x2)], [.int q10, .int (g.1 74 7), .ref 74], (sh0, g)) hE r := by
        refine fe_iadd (pc' := 69) dX7_findSoonest_68 rfl ?_
        refine fe_pi (pc' := 72) dX7_findSoonest_69 rfl fl_7_28 n_74 s_74 rfl ⟨rfl, Or.inl rfl⟩ ?_
        refine fe_inc (pc' := 75) (lo' := [(0, .ref 74), (2, .int (x2 + 1))]) dX7_findSoonest_72 rfl ic_1 (Nat.le_of_ble_eq_true rfl) rfl rfl ?_
        refine fe_go (tgt := 29) dX7_findSoonest_75 rfl ?_
        exact ih (am_wr g 74 7 ((g.1 74 7) + q10)) (x2 + 1) q h k1
      replace h := hq19
      refine fe_bT (pc' := 56) (tgt := 67) dX7_findSoonest_53 rfl rfl rfl (fun hc7 => ?_) (fun hc7 => ?_)
      · replace h := (if_pos hc7).symm.trans h
        refine fe_lan (pc' := 57) dX7_findSoonest_56 rfl rfl ?_
        refine fe_gf (pc' := 60) dX7_findSoonest_57 rfl fl_7_40 n_74 gf_74_1 ?_
        refine fe_lin (pc' := 61) dX7_findSoonest_60 rfl rfl ?_
        obtain ⟨q8, hq9, h⟩ := am_bd h
        refine fe_iv (pc' := 64) (as := [.ref 77, .int x2]) (h1 := (sh0, g)) (r1 := some (.int q8)) (st' := [.int q8, .int (g.1 74 7), .ref 74]) dX7_findSoonest_61 rfl cl_7_77 rfl rfl (sc_o sc_77) ms_30 ⟨(sc_ne sc_77), rfl, by decide, Nat.le_of_ble_eq_true rfl, Nat.le_of_ble_eq_true rfl⟩ (am_le0 _ _ _) (am_up (by decide) (ev_Ca_weight sc_77 hq9)) rfl ?_
        refine fe_go (tgt := 68) dX7_findSoonest_64 rfl ?_
        cases h
        exact K
      · replace h := (if_neg hc7).symm.trans h
        refine fe_ic (pc' := 68) dX7_findSoonest_67 rfl ic_0 ?_
        cases h
        exact K
set_option maxRecDepth 4000 in
theorem lp_To_findSoonest_L82 {hE : am_H} {r : Option Value} : ∀ (n : Nat) (g : am_G) (x2 : Int32) (x3 : Int32) (w : am_G × Int32), To_findSoonest_L82 n g x2 x3 = some w → am_E 18 mX7_findSoonest (124, [(0, .ref 74), (2, .int w.2)], [], (sh0, w.1)) hE r → am_E 18 mX7_findSoonest (82, [(0, .ref 74), (2, .int x2), (3, .int x3)], [], (sh0, g)) hE r := by
  intro n
  induction n with
  | zero => intro g x2 x3 q h; cases h
  | succ n ih =>
    intro g x2 x3 q h k1
    replace h : _ = _ := h
    unfold To_findSoonest_L82 at h
    refine fe_lin (pc' := 83) dX7_findSoonest_82 rfl rfl ?_
    refine fe_lan (pc' := 84) dX7_findSoonest_83 rfl rfl ?_
    refine fe_gf (pc' := 87) dX7_findSoonest_84 rfl fl_7_31 n_74 gf_74_0 ?_
    refine fe_gf (pc' := 90) dX7_findSoonest_87 rfl fl_7_81 n_3 gf_3_0 ?_
    refine fe_ic_ge (pc' := 93) (tgt := 124) dX7_findSoonest_90 rfl rfl (fun hc12 => ?_) (fun hc12 => ?_)
    · replace h := (if_pos hc12).symm.trans h
      refine fe_pick [0, 1] rfl ?_
      cases h
      exact k1
    · replace h := (if_neg hc12).symm.trans h
      refine fe_lan (pc' := 94) dX7_findSoonest_93 rfl rfl ?_
      refine fe_gf (pc' := 97) dX7_findSoonest_94 rfl fl_7_25 n_74 gf_74_6 ?_
      refine fe_lin (pc' := 98) dX7_findSoonest_97 rfl rfl ?_
      refine fe_ic (pc' := 99) dX7_findSoonest_98 rfl ic_0 ?_
      obtain ⟨hi13, h⟩ := am_gd rfl h
      refine fe_as (pc' := 100) (j := x3.toNatClampNeg) dX7_findSoonest_99 rfl n_76 s_76 hi13 rfl ?_
      refine fe_lin (pc' := 101) dX7_findSoonest_100 rfl rfl ?_
      refine fe_lan (pc' := 102) dX7_findSoonest_101 rfl rfl ?_
      refine fe_gf (pc' := 105) dX7_findSoonest_102 rfl fl_7_40 n_74 gf_74_1 ?_
      refine fe_lin (pc' := 106) dX7_findSoonest_105 rfl rfl ?_
      refine fe_ic (pc' := 107) dX7_findSoonest_106 rfl ic_0 ?_
      refine fe_lan (pc' := 108) dX7_findSoonest_107 rfl rfl ?_
      refine fe_gf (pc' := 111) dX7_findSoonest_108 rfl fl_7_9 n_74 gf_74_2 ?_
      obtain ⟨q14, hq15, h⟩ := am_bd h
      refine fe_iv (pc' := 114) (as := [.ref 77, .int x3, .int 0, .int ((am_wr g 76 x3.toNatClampNeg 0).1 74 2)]) (h1 := (sh0, am_wr g 76 x3.toNatClampNeg 0)) (r1 := some (.int q14)) (st' := [.int q14, .int x2]) dX7_findSoonest_111 rfl cl_7_84 rfl rfl (sc_o sc_77) ms_36 ⟨(sc_ne sc_77), rfl, by decide, Nat.le_of_ble_eq_true rfl, Nat.le_of_ble_eq_true rfl⟩ (am_le0 _ _ _) (am_up (by decide) (ev_Ca_minutesFor sc_77 hq15)) rfl ?_
      refine fe_mx (pc' := 117) dX7_findSoonest_114 rfl cl_7_88 (Nat.le_of_ble_eq_true rfl) ?_
      refine fe_sin (pc' := 118) (lo' := [(0, .ref 74), (2, .int (am_mx x2 q14)), (3, .int x3)]) dX7_findSoonest_117 rfl (Nat.le_of_ble_eq_true rfl) rfl ?_
      refine fe_inc (pc' := 121) (lo' := [(0, .ref 74), (2, .int (am_mx x2 q14)), (3, .int (x3 + 1))]) dX7_findSoonest_118 rfl ic_1 (Nat.le_of_ble_eq_true rfl) rfl rfl ?_
      refine fe_go (tgt := 82) dX7_findSoonest_121 rfl ?_
      exact ih (am_wr g 76 x3.toNatClampNeg 0) (am_mx x2 q14) (x3 + 1) q h k1
set_option maxRecDepth 4000 in
theorem ev_To_findSoonest {g : am_G} {w : (am_G × Bool)} (h : To_findSoonest g  = some w) : am_Ev 19 72 [.ref 74, .ref 28] (sh0, g) (sh0, w.1) (some (.int (am_b w.2))) := by
  unfold To_findSoonest at h
  refine am_ev mX7_findSoonest (by rfl) (Nat.le_of_ble_eq_true rfl) [(0, .ref 74), (1, .ref 28)] rfl ?_
  refine fe_lan (pc' := 1) dX7_findSoonest_0 rfl rfl ?_
  refine fe_lan (pc' := 2) dX7_findSoonest_1 rfl rfl ?_
  obtain ⟨q1, hq2, h⟩ := am_bd h
  refine fe_iv (pc' := 5) (as := [.ref 74, .ref 28]) (h1 := (sh0, q1.1)) (r1 := some (.int (am_b q1.2))) (st' := [.int (am_b q1.2)]) dX7_findSoonest_2 rfl cl_7_66 rfl rfl s_74 ms_71 ⟨n_74, rfl, by decide, Nat.le_of_ble_eq_true rfl, Nat.le_of_ble_eq_true rfl⟩ (am_le0 _ _ _) (am_up (by decide) (ev_To_wake hq2)) rfl ?_
  refine fe_bF (pc' := 8) (tgt := 10) dX7_findSoonest_5 rfl rfl rfl (fun hc3 => ?_) (fun hc3 => ?_)
  · replace h := (if_pos hc3).symm.trans h
    refine fe_lan (pc' := 11) dX7_findSoonest_10 rfl rfl ?_
    refine fe_ldc (pc' := 13) dX7_findSoonest_11 rfl kc_7_70 ?_
    refine fe_pi (pc' := 16) dX7_findSoonest_13 rfl fl_7_15 n_74 s_74 rfl ⟨rfl, Or.inl rfl⟩ ?_
    refine fe_lan (pc' := 17) dX7_findSoonest_16 rfl rfl ?_
    refine fe_ldc (pc' := 19) dX7_findSoonest_17 rfl kc_7_70 ?_
    refine fe_pi (pc' := 22) dX7_findSoonest_19 rfl fl_7_18 n_74 s_74 rfl ⟨rfl, Or.inl rfl⟩ ?_
    refine fe_lan (pc' := 23) dX7_findSoonest_22 rfl rfl ?_
    refine fe_ic (pc' := 24) dX7_findSoonest_23 rfl ic_0 ?_
    refine fe_pi (pc' := 27) dX7_findSoonest_24 rfl fl_7_28 n_74 s_74 rfl ⟨rfl, Or.inl rfl⟩ ?_
    refine fe_ic (pc' := 28) dX7_findSoonest_27 rfl ic_0 ?_
    refine fe_sin (pc' := 29) (lo' := [(0, .ref 74), (1, .ref 28), (2, .int 0)]) dX7_findSoonest_28 rfl (Nat.le_of_ble_eq_true rfl) rfl ?_
    obtain ⟨q11, hq20, h⟩ := am_bd h
    refine fe_pick [0, 2] rfl ?_
    refine lp_To_findSoonest_L29 _ (am_wr (am_wr (am_wr q1.1 74 3 1000000000) 74 4 1000000000) 74 7 0) 0 q11 hq20 ?_
    refine fe_ic (pc' := 79) dX7_findSoonest_78 rfl ic_0 ?_
    refine fe_sin (pc' := 80) (lo' := [(0, .ref 74), (2, .int 0)]) dX7_findSoonest_79 rfl (Nat.le_of_ble_eq_true rfl) rfl ?_
    refine fe_ic (pc' := 81) dX7_findSoonest_80 rfl ic_0 ?_
    refine fe_sin (pc' := 82) (lo' := [(0, .ref 74), (2, .int 0), (3, .int 0)]) dX7_findSoonest_81 rfl (Nat.le_of_ble_eq_true rfl) rfl ?_
    obtain ⟨q16, hq21, h⟩ := am_bd h
    refine lp_To_findSoonest_L82 _ q11 0 0 q16 hq21 ?_
    refine fe_lan (pc' := 125) dX7_findSoonest_124 rfl rfl ?_
    refine fe_ic (pc' := 126) dX7_findSoonest_125 rfl ic_0 ?_
    refine fe_lin (pc' := 127) dX7_findSoonest_126 rfl rfl ?_
    obtain ⟨q17, hq18, h⟩ := am_bd h
    refine fe_iv (pc' := 130) (as := [.ref 74, .int 0, .int q16.2]) (h1 := (sh0, q17)) (r1 := none) (st' := []) dX7_findSoonest_127 rfl cl_7_94 rfl rfl s_74 ms_73 ⟨n_74, rfl, by decide, Nat.le_of_ble_eq_true rfl, Nat.le_of_ble_eq_true rfl⟩ (am_le0 _ _ _) (am_up (by decide) (ev_To_place 14 _ _ _ _ hq18)) rfl ?_
    refine fe_ic (pc' := 131) dX7_findSoonest_130 rfl ic_1 ?_
    cases h
    exact fe_rz _ dX7_findSoonest_131 rfl rfl
  · replace h := (if_neg hc3).symm.trans h
    refine fe_ic (pc' := 9) dX7_findSoonest_8 rfl ic_0 ?_
    cases h
    exact fe_rz _ dX7_findSoonest_9 rfl rfl
-- Tb_soonest: X8_soonest
set_option maxRecDepth 4000 in
theorem ev_Tb_soonest {g : am_G} {x1 : Int32} {w : (am_G × Int32)} (h : Tb_soonest g x1 = some w) : am_Ev 20 93 [.ref 0, .int x1] (sh0, g) (sh0, w.1) (some (.int w.2)) := by
  unfold Tb_soonest at h
  refine am_ev mX8_soonest (by rfl) (Nat.le_of_ble_eq_true rfl) [(0, .ref 0), (1, .int x1)] rfl ?_
  refine fe_lin (pc' := 1) dX8_soonest_0 rfl rfl ?_
  refine fe_bp (pc' := 3) dX8_soonest_1 rfl ib_m2 ?_
  refine fe_lan (pc' := 4) dX8_soonest_3 rfl rfl ?_
  refine fe_gf (pc' := 7) dX8_soonest_4 rfl fl_8_19 n_0 gf_0_1 ?_
  refine fe_gf (pc' := 10) dX8_soonest_7 rfl fl_8_240 n_3 gf_3_3 ?_
  refine fe_ic (pc' := 11) dX8_soonest_10 rfl ic_1 ?_
  refine fe_isub (pc' := 12) dX8_soonest_11 rfl ?_
  obtain ⟨q1, hq2, h⟩ := am_bd h
  refine fe_is (pc' := 15) (as := [.int x1, .int (-2), .int ((g.1 3 3) - 1)]) (h1 := (sh0, g)) (r1 := some (.int (am_b q1))) (st' := [.int (am_b q1)]) dX8_soonest_12 rfl cl_8_79 (Or.inl rfl) rfl rfl ⟨Nat.le_of_ble_eq_true rfl, Nat.le_of_ble_eq_true rfl⟩ (am_le0 _ _ _) (am_up (by decide) (ev_Tb_isWithin hq2)) rfl ?_
  refine fe_bF (pc' := 18) (tgt := 20) dX8_soonest_15 rfl rfl rfl (fun hc3 => ?_) (fun hc3 => ?_)
  · replace h := (if_pos hc3).symm.trans h
    refine fe_lan (pc' := 21) dX8_soonest_20 rfl rfl ?_
    refine fe_gf (pc' := 24) dX8_soonest_21 rfl fl_8_19 n_0 gf_0_1 ?_
    refine fe_gf (pc' := 27) dX8_soonest_24 rfl fl_8_243 n_3 gf_3_0 ?_
    refine fe_if_eq (pc' := 30) (tgt := 44) dX8_soonest_27 rfl rfl (fun hc4 => ?_) (fun hc4 => ?_)
    · replace h := (if_pos hc4).symm.trans h
      refine fe_bp (pc' := 46) dX8_soonest_44 rfl ib_m9 ?_
      cases h
      exact fe_ri dX8_soonest_46 rfl
    · replace h := (if_neg hc4).symm.trans h
      refine fe_lan (pc' := 31) dX8_soonest_30 rfl rfl ?_
      refine fe_gf (pc' := 34) dX8_soonest_31 rfl fl_8_57 n_0 gf_0_7 ?_
      refine fe_lan (pc' := 35) dX8_soonest_34 rfl rfl ?_
      refine fe_gf (pc' := 38) dX8_soonest_35 rfl fl_8_45 n_0 gf_0_4 ?_
      obtain ⟨q5, hq6, h⟩ := am_bd h
      refine fe_iv (pc' := 41) (as := [.ref 74, .ref 28]) (h1 := (sh0, q5.1)) (r1 := some (.int (am_b q5.2))) (st' := [.int (am_b q5.2)]) dX8_soonest_38 rfl cl_8_246 rfl rfl s_74 ms_72 ⟨n_74, rfl, by decide, Nat.le_of_ble_eq_true rfl, Nat.le_of_ble_eq_true rfl⟩ (am_le0 _ _ _) (am_up (by decide) (ev_To_findSoonest hq6)) rfl ?_
      refine fe_bF (pc' := 44) (tgt := 47) dX8_soonest_41 rfl rfl rfl (fun hc7 => ?_) (fun hc7 => ?_)
      · replace h := (if_pos hc7).symm.trans h
        refine fe_lin (pc' := 48) dX8_soonest_47 rfl rfl ?_
        refine fe_ic (pc' := 49) dX8_soonest_48 rfl ic_m1 ?_
        refine fe_ic_ne (pc' := 52) (tgt := 60) dX8_soonest_49 rfl rfl (fun hc8 => ?_) (fun hc8 => ?_)
        · replace h := (if_pos hc8).symm.trans h
          refine fe_lan (pc' := 53) dX8_soonest_52 rfl rfl ?_
          refine fe_gf (pc' := 56) dX8_soonest_53 rfl fl_8_57 n_0 gf_0_7 ?_
          refine fe_gf (pc' := 59) dX8_soonest_56 rfl fl_8_249 n_74 gf_74_3 ?_
          cases h
          exact fe_ri dX8_soonest_59 rfl
        · replace h := (if_neg hc8).symm.trans h
          refine fe_lin (pc' := 61) dX8_soonest_60 rfl rfl ?_
          refine fe_bp (pc' := 63) dX8_soonest_61 rfl ib_m2 ?_
          refine fe_ic_ne (pc' := 66) (tgt := 76) dX8_soonest_63 rfl rfl (fun hc9 => ?_) (fun hc9 => ?_)
          · replace h := (if_pos hc9).symm.trans h
            refine fe_lan (pc' := 67) dX8_soonest_66 rfl rfl ?_
            refine fe_gf (pc' := 70) dX8_soonest_67 rfl fl_8_57 n_0 gf_0_7 ?_
            refine fe_gf (pc' := 73) dX8_soonest_70 rfl fl_8_252 n_74 gf_74_4 ?_
            refine fe_go (tgt := 85) dX8_soonest_73 rfl ?_
            cases h
            exact fe_ri dX8_soonest_85 rfl
          · replace h := (if_neg hc9).symm.trans h
            refine fe_lan (pc' := 77) dX8_soonest_76 rfl rfl ?_
            refine fe_gf (pc' := 80) dX8_soonest_77 rfl fl_8_57 n_0 gf_0_7 ?_
            refine fe_gf (pc' := 83) dX8_soonest_80 rfl fl_8_255 n_74 gf_74_5 ?_
            refine fe_lin (pc' := 84) dX8_soonest_83 rfl rfl ?_
            obtain ⟨hi10, h⟩ := am_gd rfl h
            refine fe_al (pc' := 85) (j := x1.toNatClampNeg) dX8_soonest_84 rfl n_75 s_75 hi10 rfl ?_
            cases h
            exact fe_ri dX8_soonest_85 rfl
      · replace h := (if_neg hc7).symm.trans h
        refine fe_bp (pc' := 46) dX8_soonest_44 rfl ib_m9 ?_
        cases h
        exact fe_ri dX8_soonest_46 rfl
  · replace h := (if_neg hc3).symm.trans h
    refine fe_ic (pc' := 19) dX8_soonest_18 rfl ic_m1 ?_
    cases h
    exact fe_ri dX8_soonest_19 rfl
-- Ca_slowest: X2_slowest
set_option maxRecDepth 4000 in
theorem lp_Ca_slowest_L4 {c : Nat} (hc : c ∈ am_camps) {hE : am_H} {r : Option Value} : ∀ (n : Nat) (g : am_G) (x1 : Int32) (x2 : Int32) (x3 : Int32) (w : Int32), Ca_slowest_L4 n g c x1 x2 x3 = some w → am_E 3 mX2_slowest (37, [(2, .int w)], [], (sh0, g)) hE r → am_E 3 mX2_slowest (4, [(0, .ref c), (1, .int x1), (2, .int x2), (3, .int x3)], [], (sh0, g)) hE r := by
  intro n
  induction n with
  | zero => intro g x1 x2 x3 q h; cases h
  | succ n ih =>
    intro g x1 x2 x3 q h k1
    replace h : _ = _ := h
    unfold Ca_slowest_L4 at h
    refine fe_lin (pc' := 5) dX2_slowest_4 rfl rfl ?_
    refine fe_lan (pc' := 6) dX2_slowest_5 rfl rfl ?_
    refine fe_gf (pc' := 9) dX2_slowest_6 rfl fl_2_37 (sc_ne hc) (cg_0 hc) ?_
    refine fe_gf (pc' := 12) dX2_slowest_9 rfl fl_2_94 n_3 gf_3_0 ?_
    refine fe_ic_ge (pc' := 15) (tgt := 37) dX2_slowest_12 rfl rfl (fun hc1 => ?_) (fun hc1 => ?_)
    · replace h := (if_pos hc1).symm.trans h
      refine fe_pick [2] rfl ?_
      cases h
      exact k1
    · replace h := (if_neg hc1).symm.trans h
      refine fe_lin (pc' := 16) dX2_slowest_15 rfl rfl ?_
      refine fe_lan (pc' := 17) dX2_slowest_16 rfl rfl ?_
      refine fe_lin (pc' := 18) dX2_slowest_17 rfl rfl ?_
      refine fe_lan (pc' := 19) dX2_slowest_18 rfl rfl ?_
      refine fe_lin (pc' := 20) dX2_slowest_19 rfl rfl ?_
      obtain ⟨q2, hq3, h⟩ := am_bd h
      refine fe_iv (pc' := 23) (as := [.ref c, .int x3]) (h1 := (sh0, g)) (r1 := some (.int q2)) (st' := [.int q2, .int x3, .ref c, .int x2]) dX2_slowest_20 rfl cl_2_97 rfl rfl (sc_o hc) ms_31 ⟨(sc_ne hc), rfl, by decide, Nat.le_of_ble_eq_true rfl, Nat.le_of_ble_eq_true rfl⟩ (am_le0 _ _ _) (am_up (by decide) (ev_Ca_load hc hq3)) rfl ?_
      refine fe_lin (pc' := 24) dX2_slowest_23 rfl rfl ?_
      obtain ⟨q4, hq5, h⟩ := am_bd h
      refine fe_iv (pc' := 27) (as := [.ref c, .int x3, .int q2, .int x1]) (h1 := (sh0, g)) (r1 := some (.int q4)) (st' := [.int q4, .int x2]) dX2_slowest_24 rfl cl_2_100 rfl rfl (sc_o hc) ms_36 ⟨(sc_ne hc), rfl, by decide, Nat.le_of_ble_eq_true rfl, Nat.le_of_ble_eq_true rfl⟩ (am_le0 _ _ _) (am_up (by decide) (ev_Ca_minutesFor hc hq5)) rfl ?_
      refine fe_mx (pc' := 30) dX2_slowest_27 rfl cl_2_88 (Nat.le_of_ble_eq_true rfl) ?_
      refine fe_sin (pc' := 31) (lo' := [(0, .ref c), (1, .int x1), (2, .int (am_mx x2 q4)), (3, .int x3)]) dX2_slowest_30 rfl (Nat.le_of_ble_eq_true rfl) rfl ?_
      refine fe_inc (pc' := 34) (lo' := [(0, .ref c), (1, .int x1), (2, .int (am_mx x2 q4)), (3, .int (x3 + 1))]) dX2_slowest_31 rfl ic_1 (Nat.le_of_ble_eq_true rfl) rfl rfl ?_
      refine fe_go (tgt := 4) dX2_slowest_34 rfl ?_
      exact ih g x1 (am_mx x2 q4) (x3 + 1) q h k1
set_option maxRecDepth 4000 in
theorem ev_Ca_slowest {g : am_G} {c : Nat} {x1 : Int32} {w : Int32} (hc : c ∈ am_camps) (h : Ca_slowest g c x1 = some w) : am_Ev 4 37 [.ref c, .int x1] (sh0, g) (sh0, g) (some (.int w)) := by
  unfold Ca_slowest at h
  refine am_ev mX2_slowest (by rfl) (Nat.le_of_ble_eq_true rfl) [(0, .ref c), (1, .int x1)] rfl ?_
  refine fe_ic (pc' := 1) dX2_slowest_0 rfl ic_0 ?_
  refine fe_sin (pc' := 2) (lo' := [(0, .ref c), (1, .int x1), (2, .int 0)]) dX2_slowest_1 rfl (Nat.le_of_ble_eq_true rfl) rfl ?_
  refine fe_ic (pc' := 3) dX2_slowest_2 rfl ic_0 ?_
  refine fe_sin (pc' := 4) (lo' := [(0, .ref c), (1, .int x1), (2, .int 0), (3, .int 0)]) dX2_slowest_3 rfl (Nat.le_of_ble_eq_true rfl) rfl ?_
  obtain ⟨q6, hq7, h⟩ := am_bd h
  refine lp_Ca_slowest_L4 hc _ g x1 0 0 q6 hq7 ?_
  refine fe_lin (pc' := 38) dX2_slowest_37 rfl rfl ?_
  cases h
  exact fe_ri dX2_slowest_38 rfl
-- To_bestGift: X7_bestGift
set_option maxRecDepth 4000 in
theorem lp_To_bestGift_L44 {hE : am_H} {r : Option Value} : ∀ (n : Nat) (g : am_G) (x2 : Int32) (x3 : Int32) (x4 : Int32) (x5 : Int32) (w : am_G × Int32 × Int32), To_bestGift_L44 n g x2 x3 x4 x5 = some w → am_E 4 mX7_bestGift (116, [(0, .ref 74), (1, .ref 28), (2, .int w.2.1), (3, .int w.2.2), (4, .int x4)], [], (sh0, w.1)) hE r → am_E 4 mX7_bestGift (44, [(0, .ref 74), (1, .ref 28), (2, .int x2), (3, .int x3), (4, .int x4), (5, .int x5)], [], (sh0, g)) hE r := by
  intro n
  induction n with
  | zero => intro g x2 x3 x4 x5 q h; cases h
  | succ n ih =>
    intro g x2 x3 x4 x5 q h k1
    replace h : _ = _ := h
    unfold To_bestGift_L44 at h
    refine fe_li (pc' := 46) dX7_bestGift_44 rfl rfl ?_
    refine fe_lan (pc' := 47) dX7_bestGift_46 rfl rfl ?_
    refine fe_gf (pc' := 50) dX7_bestGift_47 rfl fl_7_31 n_74 gf_74_0 ?_
    refine fe_gf (pc' := 53) dX7_bestGift_50 rfl fl_7_81 n_3 gf_3_0 ?_
    refine fe_ic_ge (pc' := 56) (tgt := 116) dX7_bestGift_53 rfl rfl (fun hc7 => ?_) (fun hc7 => ?_)
    · replace h := (if_pos hc7).symm.trans h
      refine fe_pick [0, 1, 2, 3, 4] rfl ?_
      cases h
      exact k1
    · replace h := (if_neg hc7).symm.trans h
      refine fe_lan (pc' := 57) dX7_bestGift_56 rfl rfl ?_
      refine fe_li (pc' := 59) dX7_bestGift_57 rfl rfl ?_
      refine fe_li (pc' := 61) dX7_bestGift_59 rfl rfl ?_
      obtain ⟨q8, hq9, h⟩ := am_bd h
      refine fe_iv (pc' := 64) (as := [.ref 28, .int x4, .int x5]) (h1 := (sh0, g)) (r1 := some (.int (am_b q8))) (st' := [.int (am_b q8)]) dX7_bestGift_61 rfl cl_7_121 rfl rfl (sc_o sc_28) ms_27 ⟨(sc_ne sc_28), rfl, by decide, Nat.le_of_ble_eq_true rfl, Nat.le_of_ble_eq_true rfl⟩ (am_le0 _ _ _) (am_up (by decide) (ev_Ca_canBeGiven sc_28 hq9)) rfl ?_
      obtain ⟨q15, hq19, h⟩ := am_bd h
      have K : am_E 4 mX7_bestGift (110, [(0, .ref 74), (1, .ref 28), (2, .int q15.2.1), (3, .int q15.2.2), (4, .int x4), (5, .int x5)], [], (sh0, q15.1)) hE r := by
        refine fe_inc (pc' := 113) (lo' := [(0, .ref 74), (1, .ref 28), (2, .int q15.2.1), (3, .int q15.2.2), (4, .int x4), (5, .int (x5 + 1))]) dX7_bestGift_110 rfl ic_1 (Nat.le_of_ble_eq_true rfl) rfl rfl ?_
        refine fe_go (tgt := 44) dX7_bestGift_113 rfl ?_
        exact ih q15.1 q15.2.1 q15.2.2 x4 (x5 + 1) q h k1
      replace h := hq19
      refine fe_bT (pc' := 67) (tgt := 110) dX7_bestGift_64 rfl rfl rfl (fun hc10 => ?_) (fun hc10 => ?_)
      · replace h := (if_pos hc10).symm.trans h
        refine fe_lan (pc' := 68) dX7_bestGift_67 rfl rfl ?_
        refine fe_gf (pc' := 71) dX7_bestGift_68 rfl fl_7_40 n_74 gf_74_1 ?_
        refine fe_gf (pc' := 74) dX7_bestGift_71 rfl fl_7_102 (sc_ne sc_77) (cg_6 sc_77) ?_
        refine fe_li (pc' := 76) dX7_bestGift_74 rfl rfl ?_
        refine fe_li (pc' := 78) dX7_bestGift_76 rfl rfl ?_
        obtain ⟨hi11, h⟩ := am_gd rfl h
        refine fe_as (pc' := 79) (j := x4.toNatClampNeg) dX7_bestGift_78 rfl (sc_n1 sc_77) (sc_1 sc_77) hi11 rfl ?_
        refine fe_lan (pc' := 80) dX7_bestGift_79 rfl rfl ?_
        refine fe_gf (pc' := 83) dX7_bestGift_80 rfl fl_7_40 n_74 gf_74_1 ?_
        refine fe_lan (pc' := 84) dX7_bestGift_83 rfl rfl ?_
        refine fe_gf (pc' := 87) dX7_bestGift_84 rfl fl_7_9 n_74 gf_74_2 ?_
        obtain ⟨q12, hq13, h⟩ := am_bd h
        refine fe_iv (pc' := 90) (as := [.ref 77, .int ((am_wr g (77 + 1) x4.toNatClampNeg x5).1 74 2)]) (h1 := (sh0, am_wr g (77 + 1) x4.toNatClampNeg x5)) (r1 := some (.int q12)) (st' := [.int q12]) dX7_bestGift_87 rfl cl_7_118 rfl rfl (sc_o sc_77) ms_37 ⟨(sc_ne sc_77), rfl, by decide, Nat.le_of_ble_eq_true rfl, Nat.le_of_ble_eq_true rfl⟩ (am_le0 _ _ _) (am_up (by decide) (ev_Ca_slowest sc_77 hq13)) rfl ?_
        refine fe_si (pc' := 92) (lo' := [(0, .ref 74), (1, .ref 28), (2, .int x2), (3, .int x3), (4, .int x4), (5, .int x5), (6, .int q12)]) dX7_bestGift_90 rfl (Nat.le_of_ble_eq_true rfl) rfl ?_
        refine fe_li (pc' := 94) dX7_bestGift_92 rfl rfl ?_
        refine fe_lin (pc' := 95) dX7_bestGift_94 rfl rfl ?_
        refine fe_ic_ge (pc' := 98) (tgt := 110) dX7_bestGift_95 rfl rfl (fun hc14 => ?_) (fun hc14 => ?_)
        · replace h := (if_pos hc14).symm.trans h
          refine fe_pick [0, 1, 2, 3, 4, 5] rfl ?_
          cases h
          exact K
        · replace h := (if_neg hc14).symm.trans h
          refine fe_li (pc' := 100) dX7_bestGift_98 rfl rfl ?_
          refine fe_sin (pc' := 101) (lo' := [(0, .ref 74), (1, .ref 28), (2, .int q12), (3, .int x3), (4, .int x4), (5, .int x5), (6, .int q12)]) dX7_bestGift_100 rfl (Nat.le_of_ble_eq_true rfl) rfl ?_
          refine fe_bp (pc' := 103) dX7_bestGift_101 rfl ib_10 ?_
          refine fe_li (pc' := 105) dX7_bestGift_103 rfl rfl ?_
          refine fe_imul (pc' := 106) dX7_bestGift_105 rfl ?_
          refine fe_li (pc' := 108) dX7_bestGift_106 rfl rfl ?_
          refine fe_iadd (pc' := 109) dX7_bestGift_108 rfl ?_
          refine fe_sin (pc' := 110) (lo' := [(0, .ref 74), (1, .ref 28), (2, .int q12), (3, .int ((10 * x4) + x5)), (4, .int x4), (5, .int x5), (6, .int q12)]) dX7_bestGift_109 rfl (Nat.le_of_ble_eq_true rfl) rfl ?_
          refine fe_pick [0, 1, 2, 3, 4, 5] rfl ?_
          cases h
          exact K
      · replace h := (if_neg hc10).symm.trans h
        cases h
        exact K
set_option maxRecDepth 4000 in
theorem lp_To_bestGift_L29 {hE : am_H} {r : Option Value} : ∀ (n : Nat) (g : am_G) (x2 : Int32) (x3 : Int32) (x4 : Int32) (w : am_G × Int32), To_bestGift_L29 n g x2 x3 x4 = some w → am_E 4 mX7_bestGift (139, [(3, .int w.2)], [], (sh0, w.1)) hE r → am_E 4 mX7_bestGift (29, [(0, .ref 74), (1, .ref 28), (2, .int x2), (3, .int x3), (4, .int x4)], [], (sh0, g)) hE r := by
  intro n
  induction n with
  | zero => intro g x2 x3 x4 q h; cases h
  | succ n ih =>
    intro g x2 x3 x4 q h k1
    replace h : _ = _ := h
    unfold To_bestGift_L29 at h
    refine fe_li (pc' := 31) dX7_bestGift_29 rfl rfl ?_
    refine fe_lan (pc' := 32) dX7_bestGift_31 rfl rfl ?_
    refine fe_gf (pc' := 35) dX7_bestGift_32 rfl fl_7_31 n_74 gf_74_0 ?_
    refine fe_gf (pc' := 38) dX7_bestGift_35 rfl fl_7_71 n_3 gf_3_3 ?_
    refine fe_ic_ge (pc' := 41) (tgt := 139) dX7_bestGift_38 rfl rfl (fun hc6 => ?_) (fun hc6 => ?_)
    · replace h := (if_pos hc6).symm.trans h
      refine fe_pick [3] rfl ?_
      cases h
      exact k1
    · replace h := (if_neg hc6).symm.trans h
      refine fe_ic (pc' := 42) dX7_bestGift_41 rfl ic_0 ?_
      refine fe_si (pc' := 44) (lo' := [(0, .ref 74), (1, .ref 28), (2, .int x2), (3, .int x3), (4, .int x4), (5, .int 0)]) dX7_bestGift_42 rfl (Nat.le_of_ble_eq_true rfl) rfl ?_
      obtain ⟨q16, hq20, h⟩ := am_bd h
      refine lp_To_bestGift_L44 _ g x2 x3 x4 0 q16 hq20 ?_
      refine fe_lan (pc' := 117) dX7_bestGift_116 rfl rfl ?_
      refine fe_gf (pc' := 120) dX7_bestGift_117 rfl fl_7_40 n_74 gf_74_1 ?_
      refine fe_gf (pc' := 123) dX7_bestGift_120 rfl fl_7_102 (sc_ne sc_77) (cg_6 sc_77) ?_
      refine fe_li (pc' := 125) dX7_bestGift_123 rfl rfl ?_
      refine fe_lan (pc' := 126) dX7_bestGift_125 rfl rfl ?_
      refine fe_gf (pc' := 129) dX7_bestGift_126 rfl fl_7_102 (sc_ne sc_28) (cg_6 sc_28) ?_
      refine fe_li (pc' := 131) dX7_bestGift_129 rfl rfl ?_
      obtain ⟨hi17, h⟩ := am_gd rfl h
      refine fe_al (pc' := 132) (j := x4.toNatClampNeg) dX7_bestGift_131 rfl (sc_n1 sc_28) (sc_1 sc_28) hi17 rfl ?_
      refine fe_as (pc' := 133) (j := x4.toNatClampNeg) dX7_bestGift_132 rfl (sc_n1 sc_77) (sc_1 sc_77) hi17 rfl ?_
      refine fe_inc (pc' := 136) (lo' := [(0, .ref 74), (1, .ref 28), (2, .int q16.2.1), (3, .int q16.2.2), (4, .int (x4 + 1))]) dX7_bestGift_133 rfl ic_1 (Nat.le_of_ble_eq_true rfl) rfl rfl ?_
      refine fe_go (tgt := 29) dX7_bestGift_136 rfl ?_
      exact ih (am_wr q16.1 (77 + 1) x4.toNatClampNeg (q16.1.1 (28 + 1) x4.toNatClampNeg)) q16.2.1 q16.2.2 (x4 + 1) q h k1
set_option maxRecDepth 4000 in
theorem ev_To_bestGift {g : am_G} {w : (am_G × Int32)} (h : To_bestGift g  = some w) : am_Ev 5 76 [.ref 74, .ref 28] (sh0, g) (sh0, w.1) (some (.int w.2)) := by
  unfold To_bestGift at h
  refine am_ev mX7_bestGift (by rfl) (Nat.le_of_ble_eq_true rfl) [(0, .ref 74), (1, .ref 28)] rfl ?_
  refine fe_lan (pc' := 1) dX7_bestGift_0 rfl rfl ?_
  refine fe_lan (pc' := 2) dX7_bestGift_1 rfl rfl ?_
  obtain ⟨q1, hq2, h⟩ := am_bd h
  refine fe_iv (pc' := 5) (as := [.ref 74, .ref 28]) (h1 := (sh0, q1.1)) (r1 := some (.int (am_b q1.2))) (st' := [.int (am_b q1.2)]) dX7_bestGift_2 rfl cl_7_66 rfl rfl s_74 ms_71 ⟨n_74, rfl, by decide, Nat.le_of_ble_eq_true rfl, Nat.le_of_ble_eq_true rfl⟩ (am_le0 _ _ _) (am_up (by decide) (ev_To_wake hq2)) rfl ?_
  refine fe_bF (pc' := 8) (tgt := 11) dX7_bestGift_5 rfl rfl rfl (fun hc3 => ?_) (fun hc3 => ?_)
  · replace h := (if_pos hc3).symm.trans h
    refine fe_lan (pc' := 12) dX7_bestGift_11 rfl rfl ?_
    refine fe_gf (pc' := 15) dX7_bestGift_12 rfl fl_7_40 n_74 gf_74_1 ?_
    refine fe_lan (pc' := 16) dX7_bestGift_15 rfl rfl ?_
    refine fe_gf (pc' := 19) dX7_bestGift_16 rfl fl_7_9 n_74 gf_74_2 ?_
    obtain ⟨q4, hq5, h⟩ := am_bd h
    refine fe_iv (pc' := 22) (as := [.ref 77, .int (q1.1.1 74 2)]) (h1 := (sh0, q1.1)) (r1 := some (.int q4)) (st' := [.int q4]) dX7_bestGift_19 rfl cl_7_118 rfl rfl (sc_o sc_77) ms_37 ⟨(sc_ne sc_77), rfl, by decide, Nat.le_of_ble_eq_true rfl, Nat.le_of_ble_eq_true rfl⟩ (am_le0 _ _ _) (am_up (by decide) (ev_Ca_slowest sc_77 hq5)) rfl ?_
    refine fe_sin (pc' := 23) (lo' := [(0, .ref 74), (1, .ref 28), (2, .int q4)]) dX7_bestGift_22 rfl (Nat.le_of_ble_eq_true rfl) rfl ?_
    refine fe_bp (pc' := 25) dX7_bestGift_23 rfl ib_m9 ?_
    refine fe_sin (pc' := 26) (lo' := [(0, .ref 74), (1, .ref 28), (2, .int q4), (3, .int (-9))]) dX7_bestGift_25 rfl (Nat.le_of_ble_eq_true rfl) rfl ?_
    refine fe_ic (pc' := 27) dX7_bestGift_26 rfl ic_0 ?_
    refine fe_si (pc' := 29) (lo' := [(0, .ref 74), (1, .ref 28), (2, .int q4), (3, .int (-9)), (4, .int 0)]) dX7_bestGift_27 rfl (Nat.le_of_ble_eq_true rfl) rfl ?_
    obtain ⟨q18, hq21, h⟩ := am_bd h
    refine lp_To_bestGift_L29 _ q1.1 q4 (-9) 0 q18 hq21 ?_
    refine fe_lin (pc' := 140) dX7_bestGift_139 rfl rfl ?_
    cases h
    exact fe_ri dX7_bestGift_140 rfl
  · replace h := (if_neg hc3).symm.trans h
    refine fe_bp (pc' := 10) dX7_bestGift_8 rfl ib_m9 ?_
    cases h
    exact fe_ri dX7_bestGift_10 rfl
-- Tb_helps: X8_helps
set_option maxRecDepth 4000 in
theorem ev_Tb_helps {g : am_G} {w : (am_G × Int32)} (h : Tb_helps g  = some w) : am_Ev 6 94 [.ref 0] (sh0, g) (sh0, w.1) (some (.int w.2)) := by
  unfold Tb_helps at h
  refine am_ev mX8_helps (by rfl) (Nat.le_of_ble_eq_true rfl) [(0, .ref 0)] rfl ?_
  refine fe_lan (pc' := 1) dX8_helps_0 rfl rfl ?_
  refine fe_gf (pc' := 4) dX8_helps_1 rfl fl_8_57 n_0 gf_0_7 ?_
  refine fe_lan (pc' := 5) dX8_helps_4 rfl rfl ?_
  refine fe_gf (pc' := 8) dX8_helps_5 rfl fl_8_45 n_0 gf_0_4 ?_
  obtain ⟨q1, hq2, h⟩ := am_bd h
  refine fe_iv (pc' := 11) (as := [.ref 74, .ref 28]) (h1 := (sh0, q1.1)) (r1 := some (.int q1.2)) (st' := [.int q1.2]) dX8_helps_8 rfl cl_8_258 rfl rfl s_74 ms_76 ⟨n_74, rfl, by decide, Nat.le_of_ble_eq_true rfl, Nat.le_of_ble_eq_true rfl⟩ (am_le0 _ _ _) (am_up (by decide) (ev_To_bestGift hq2)) rfl ?_
  cases h
  exact fe_ri dX8_helps_11 rfl
-- Ca_leftOf: X2_leftOf
set_option maxRecDepth 4000 in
theorem lp_Ca_leftOf_L4 {c : Nat} (hc : c ∈ am_camps) {hE : am_H} {r : Option Value} : ∀ (n : Nat) (g : am_G) (x1 : Int32) (x2 : Int32) (x3 : Int32) (w : Int32), Ca_leftOf_L4 n g c x1 x2 x3 = some w → am_E 0 mX2_leftOf (39, [(2, .int w)], [], (sh0, g)) hE r → am_E 0 mX2_leftOf (4, [(0, .ref c), (1, .int x1), (2, .int x2), (3, .int x3)], [], (sh0, g)) hE r := by
  intro n
  induction n with
  | zero => intro g x1 x2 x3 q h; cases h
  | succ n ih =>
    intro g x1 x2 x3 q h k1
    replace h : _ = _ := h
    unfold Ca_leftOf_L4 at h
    refine fe_lin (pc' := 5) dX2_leftOf_4 rfl rfl ?_
    refine fe_lan (pc' := 6) dX2_leftOf_5 rfl rfl ?_
    refine fe_gf (pc' := 9) dX2_leftOf_6 rfl fl_2_37 (sc_ne hc) (cg_0 hc) ?_
    refine fe_gf (pc' := 12) dX2_leftOf_9 rfl fl_2_69 n_3 gf_3_3 ?_
    refine fe_ic_ge (pc' := 15) (tgt := 39) dX2_leftOf_12 rfl rfl (fun hc1 => ?_) (fun hc1 => ?_)
    · replace h := (if_pos hc1).symm.trans h
      refine fe_pick [2] rfl ?_
      cases h
      exact k1
    · replace h := (if_neg hc1).symm.trans h
      refine fe_lin (pc' := 16) dX2_leftOf_15 rfl rfl ?_
      refine fe_lin (pc' := 17) dX2_leftOf_16 rfl rfl ?_
      refine fe_ishr (pc' := 18) dX2_leftOf_17 rfl ?_
      refine fe_ic (pc' := 19) dX2_leftOf_18 rfl ic_1 ?_
      refine fe_iand (pc' := 20) dX2_leftOf_19 rfl ?_
      refine fe_ic (pc' := 21) dX2_leftOf_20 rfl ic_1 ?_
      obtain ⟨q4, hq6, h⟩ := am_bd h
      have K : am_E 0 mX2_leftOf (33, [(0, .ref c), (1, .int x1), (2, .int q4), (3, .int x3)], [], (sh0, g)) hE r := by
        refine fe_inc (pc' := 36) (lo' := [(0, .ref c), (1, .int x1), (2, .int q4), (3, .int (x3 + 1))]) dX2_leftOf_33 rfl ic_1 (Nat.le_of_ble_eq_true rfl) rfl rfl ?_
        refine fe_go (tgt := 4) dX2_leftOf_36 rfl ?_
        exact ih g x1 q4 (x3 + 1) q h k1
      replace h := hq6
      refine fe_ic_ne (pc' := 24) (tgt := 33) dX2_leftOf_21 rfl rfl (fun hc2 => ?_) (fun hc2 => ?_)
      · replace h := (if_pos hc2).symm.trans h
        refine fe_lin (pc' := 25) dX2_leftOf_24 rfl rfl ?_
        refine fe_lan (pc' := 26) dX2_leftOf_25 rfl rfl ?_
        refine fe_gf (pc' := 29) dX2_leftOf_26 rfl fl_2_31 (sc_ne hc) (cg_7 hc) ?_
        refine fe_lin (pc' := 30) dX2_leftOf_29 rfl rfl ?_
        obtain ⟨hi3, h⟩ := am_gd rfl h
        refine fe_al (pc' := 31) (j := x3.toNatClampNeg) dX2_leftOf_30 rfl (sc_n2 hc) (sc_2 hc) hi3 rfl ?_
        refine fe_iadd (pc' := 32) dX2_leftOf_31 rfl ?_
        refine fe_sin (pc' := 33) (lo' := [(0, .ref c), (1, .int x1), (2, .int (x2 + (g.1 (c + 2) x3.toNatClampNeg))), (3, .int x3)]) dX2_leftOf_32 rfl (Nat.le_of_ble_eq_true rfl) rfl ?_
        cases h
        exact K
      · replace h := (if_neg hc2).symm.trans h
        cases h
        exact K
set_option maxRecDepth 4000 in
theorem ev_Ca_leftOf {g : am_G} {c : Nat} {x1 : Int32} {w : Int32} (hc : c ∈ am_camps) (h : Ca_leftOf g c x1 = some w) : am_Ev 1 33 [.ref c, .int x1] (sh0, g) (sh0, g) (some (.int w)) := by
  unfold Ca_leftOf at h
  refine am_ev mX2_leftOf (by rfl) (Nat.le_of_ble_eq_true rfl) [(0, .ref c), (1, .int x1)] rfl ?_
  refine fe_ic (pc' := 1) dX2_leftOf_0 rfl ic_0 ?_
  refine fe_sin (pc' := 2) (lo' := [(0, .ref c), (1, .int x1), (2, .int 0)]) dX2_leftOf_1 rfl (Nat.le_of_ble_eq_true rfl) rfl ?_
  refine fe_ic (pc' := 3) dX2_leftOf_2 rfl ic_0 ?_
  refine fe_sin (pc' := 4) (lo' := [(0, .ref c), (1, .int x1), (2, .int 0), (3, .int 0)]) dX2_leftOf_3 rfl (Nat.le_of_ble_eq_true rfl) rfl ?_
  obtain ⟨q5, hq7, h⟩ := am_bd h
  refine lp_Ca_leftOf_L4 hc _ g x1 0 0 q5 hq7 ?_
  refine fe_lin (pc' := 40) dX2_leftOf_39 rfl rfl ?_
  cases h
  exact fe_ri dX2_leftOf_40 rfl
-- To_isQuickWithout: X7_isQuickWithout
set_option maxRecDepth 4000 in
theorem lp_To_isQuickWithout_L3 {hE : am_H} {r : Option Value} : ∀ (n : Nat) (g : am_G) (x2 : Int32) (x3 : Int32) (x4 : Int32) (q : ((am_G) ⊕ (am_G × Bool))), To_isQuickWithout_L3 n g x2 x3 x4 = some q → (∀ w, q = .inl w → am_E 4 mX7_isQuickWithout (95, [(0, .ref 74), (3, .int x3)], [], (sh0, w)) hE r) → (∀ w, q = .inr w → hE = (sh0, w.1) ∧ r = some (.int (am_b w.2))) → am_E 4 mX7_isQuickWithout (3, [(0, .ref 74), (1, .ref 28), (2, .int x2), (3, .int x3), (4, .int x4)], [], (sh0, g)) hE r := by
  intro n
  induction n with
  | zero => intro g x2 x3 x4 q h; cases h
  | succ n ih =>
    intro g x2 x3 x4 q h k1 kr
    replace h : _ = _ := h
    unfold To_isQuickWithout_L3 at h
    refine fe_li (pc' := 5) dX7_isQuickWithout_3 rfl rfl ?_
    refine fe_lan (pc' := 6) dX7_isQuickWithout_5 rfl rfl ?_
    refine fe_gf (pc' := 9) dX7_isQuickWithout_6 rfl fl_7_31 n_74 gf_74_0 ?_
    refine fe_gf (pc' := 12) dX7_isQuickWithout_9 rfl fl_7_71 n_3 gf_3_3 ?_
    refine fe_ic_ge (pc' := 15) (tgt := 95) dX7_isQuickWithout_12 rfl rfl (fun hc1 => ?_) (fun hc1 => ?_)
    · replace h := (if_pos hc1).symm.trans h
      refine fe_pick [0, 3] rfl ?_
      cases h
      exact k1 _ rfl
    · replace h := (if_neg hc1).symm.trans h
      refine fe_lin (pc' := 16) dX7_isQuickWithout_15 rfl rfl ?_
      refine fe_li (pc' := 18) dX7_isQuickWithout_16 rfl rfl ?_
      refine fe_ishr (pc' := 19) dX7_isQuickWithout_18 rfl ?_
      refine fe_ic (pc' := 20) dX7_isQuickWithout_19 rfl ic_1 ?_
      refine fe_iand (pc' := 21) dX7_isQuickWithout_20 rfl ?_
      refine fe_ic (pc' := 22) dX7_isQuickWithout_21 rfl ic_1 ?_
      have K : am_E 4 mX7_isQuickWithout (30, [(0, .ref 74), (1, .ref 28), (2, .int x2), (3, .int x3), (4, .int x4)], [.int (if ((x2 >>> (x4 &&& 31)) &&& 1) = 1 then 1 else 0 : Int32)], (sh0, g)) hE r := by
        refine fe_si (pc' := 32) (lo' := [(0, .ref 74), (1, .ref 28), (2, .int x2), (3, .int x3), (4, .int x4), (5, .int (if ((x2 >>> (x4 &&& 31)) &&& 1) = 1 then 1 else 0 : Int32))]) dX7_isQuickWithout_30 rfl (Nat.le_of_ble_eq_true rfl) rfl ?_
        refine fe_li (pc' := 34) dX7_isQuickWithout_32 rfl rfl ?_
        refine fe_if_eq (pc' := 37) (tgt := 62) dX7_isQuickWithout_34 rfl rfl (fun hc4 => ?_) (fun hc4 => ?_)
        · replace h := (if_pos hc4).symm.trans h
          refine fe_lan (pc' := 63) dX7_isQuickWithout_62 rfl rfl ?_
          refine fe_gf (pc' := 66) dX7_isQuickWithout_63 rfl fl_7_40 n_74 gf_74_1 ?_
          refine fe_gf (pc' := 69) dX7_isQuickWithout_66 rfl fl_7_102 (sc_ne sc_77) (cg_6 sc_77) ?_
          refine fe_li (pc' := 71) dX7_isQuickWithout_69 rfl rfl ?_
          refine fe_li (pc' := 73) dX7_isQuickWithout_71 rfl rfl ?_
          refine fe_if_eq (pc' := 76) (tgt := 81) dX7_isQuickWithout_73 rfl rfl (fun _ => ?_) (fun q => absurd hc4 q)
          refine fe_lan (pc' := 82) dX7_isQuickWithout_81 rfl rfl ?_
          refine fe_gf (pc' := 85) dX7_isQuickWithout_82 rfl fl_7_102 (sc_ne sc_28) (cg_6 sc_28) ?_
          refine fe_li (pc' := 87) dX7_isQuickWithout_85 rfl rfl ?_
          obtain ⟨hi6, h⟩ := am_gd rfl h
          refine fe_al (pc' := 88) (j := x4.toNatClampNeg) dX7_isQuickWithout_87 rfl (sc_n1 sc_28) (sc_1 sc_28) hi6 rfl ?_
          refine fe_as (pc' := 89) (j := x4.toNatClampNeg) dX7_isQuickWithout_88 rfl (sc_n1 sc_77) (sc_1 sc_77) hi6 rfl ?_
          refine fe_inc (pc' := 92) (lo' := [(0, .ref 74), (1, .ref 28), (2, .int x2), (3, .int x3), (4, .int (x4 + 1)), (5, .int (if ((x2 >>> (x4 &&& 31)) &&& 1) = 1 then 1 else 0 : Int32))]) dX7_isQuickWithout_89 rfl ic_1 (Nat.le_of_ble_eq_true rfl) rfl rfl ?_
          refine fe_go (tgt := 3) dX7_isQuickWithout_92 rfl ?_
          refine fe_pick [0, 1, 2, 3, 4] rfl ?_
          exact ih (am_wr g (77 + 1) x4.toNatClampNeg (g.1 (28 + 1) x4.toNatClampNeg)) x2 x3 (x4 + 1) q h k1 kr
        · replace h := (if_neg hc4).symm.trans h
          refine fe_lan (pc' := 38) dX7_isQuickWithout_37 rfl rfl ?_
          refine fe_gf (pc' := 41) dX7_isQuickWithout_38 rfl fl_7_31 n_74 gf_74_0 ?_
          refine fe_gf (pc' := 44) dX7_isQuickWithout_41 rfl fl_7_131 n_3 gf_3_6 ?_
          refine fe_li (pc' := 46) dX7_isQuickWithout_44 rfl rfl ?_
          obtain ⟨hi7, h⟩ := am_gd rfl h
          refine fe_al (pc' := 47) (j := x4.toNatClampNeg) dX7_isQuickWithout_46 rfl n_8 s_8 hi7 rfl ?_
          refine fe_ic (pc' := 48) dX7_isQuickWithout_47 rfl ic_1 ?_
          refine fe_ic_eq (pc' := 51) (tgt := 60) dX7_isQuickWithout_48 rfl rfl (fun hc8 => ?_) (fun hc8 => ?_)
          · replace h := (if_pos hc8).symm.trans h
            refine fe_ic (pc' := 61) dX7_isQuickWithout_60 rfl ic_0 ?_
            cases h
            obtain ⟨e1, e2⟩ := kr _ rfl
            subst e1; subst e2
            exact fe_rz _ dX7_isQuickWithout_61 rfl rfl
          · replace h := (if_neg hc8).symm.trans h
            refine fe_lan (pc' := 52) dX7_isQuickWithout_51 rfl rfl ?_
            refine fe_li (pc' := 54) dX7_isQuickWithout_52 rfl rfl ?_
            obtain ⟨q9, hq10, h⟩ := am_bd h
            refine fe_iv (pc' := 57) (as := [.ref 28, .int x4]) (h1 := (sh0, g)) (r1 := some (.int (am_b q9))) (st' := [.int (am_b q9)]) dX7_isQuickWithout_54 rfl cl_7_74 rfl rfl (sc_o sc_28) ms_26 ⟨(sc_ne sc_28), rfl, by decide, Nat.le_of_ble_eq_true rfl, Nat.le_of_ble_eq_true rfl⟩ (am_le0 _ _ _) (am_up (by decide) (ev_Ca_isCarried sc_28 hq10)) rfl ?_
            refine fe_bF (pc' := 60) (tgt := 62) dX7_isQuickWithout_57 rfl rfl rfl (fun hc11 => ?_) (fun hc11 => ?_)
            · replace h := (if_pos hc11).symm.trans h
              refine fe_lan (pc' := 63) dX7_isQuickWithout_62 rfl rfl ?_
              refine fe_gf (pc' := 66) dX7_isQuickWithout_63 rfl fl_7_40 n_74 gf_74_1 ?_
              refine fe_gf (pc' := 69) dX7_isQuickWithout_66 rfl fl_7_102 (sc_ne sc_77) (cg_6 sc_77) ?_
              refine fe_li (pc' := 71) dX7_isQuickWithout_69 rfl rfl ?_
              refine fe_li (pc' := 73) dX7_isQuickWithout_71 rfl rfl ?_
              refine fe_if_eq (pc' := 76) (tgt := 81) dX7_isQuickWithout_73 rfl rfl (fun q => absurd q hc4) (fun _ => ?_)
              refine fe_bp (pc' := 78) dX7_isQuickWithout_76 rfl ib_9 ?_
              refine fe_go (tgt := 88) dX7_isQuickWithout_78 rfl ?_
              refine fe_as (pc' := 89) (j := x4.toNatClampNeg) dX7_isQuickWithout_88 rfl (sc_n1 sc_77) (sc_1 sc_77) hi7 rfl ?_
              refine fe_inc (pc' := 92) (lo' := [(0, .ref 74), (1, .ref 28), (2, .int x2), (3, .int x3), (4, .int (x4 + 1)), (5, .int (if ((x2 >>> (x4 &&& 31)) &&& 1) = 1 then 1 else 0 : Int32))]) dX7_isQuickWithout_89 rfl ic_1 (Nat.le_of_ble_eq_true rfl) rfl rfl ?_
              refine fe_go (tgt := 3) dX7_isQuickWithout_92 rfl ?_
              refine fe_pick [0, 1, 2, 3, 4] rfl ?_
              exact ih (am_wr g (77 + 1) x4.toNatClampNeg 9) x2 x3 (x4 + 1) q h k1 kr
            · replace h := (if_neg hc11).symm.trans h
              refine fe_ic (pc' := 61) dX7_isQuickWithout_60 rfl ic_0 ?_
              cases h
              obtain ⟨e1, e2⟩ := kr _ rfl
              subst e1; subst e2
              exact fe_rz _ dX7_isQuickWithout_61 rfl rfl
      refine fe_ic_ne (pc' := 25) (tgt := 29) dX7_isQuickWithout_22 rfl rfl (fun hc2 => ?_) (fun hc2 => ?_)
      · refine fe_ic (pc' := 26) dX7_isQuickWithout_25 rfl ic_1 ?_
        refine fe_go (tgt := 30) dX7_isQuickWithout_26 rfl ?_
        simp only [if_pos hc2] at K ⊢
        exact K
      · refine fe_ic (pc' := 30) dX7_isQuickWithout_29 rfl ic_0 ?_
        simp only [if_neg hc2] at K ⊢
        exact K
set_option maxRecDepth 4000 in
theorem ev_To_isQuickWithout {g : am_G} {x2 x3 : Int32} {w : (am_G × Bool)} (h : To_isQuickWithout g x2 x3 = some w) : am_Ev 5 78 [.ref 74, .ref 28, .int x2, .int x3] (sh0, g) (sh0, w.1) (some (.int (am_b w.2))) := by
  unfold To_isQuickWithout at h
  refine am_ev mX7_isQuickWithout (by rfl) (Nat.le_of_ble_eq_true rfl) [(0, .ref 74), (1, .ref 28), (2, .int x2), (3, .int x3)] rfl ?_
  refine fe_ic (pc' := 1) dX7_isQuickWithout_0 rfl ic_0 ?_
  refine fe_si (pc' := 3) (lo' := [(0, .ref 74), (1, .ref 28), (2, .int x2), (3, .int x3), (4, .int 0)]) dX7_isQuickWithout_1 rfl (Nat.le_of_ble_eq_true rfl) rfl ?_
  obtain ⟨q13, hq18, h⟩ := am_bd h
  refine lp_To_isQuickWithout_L3 _ g x2 x3 0 q13 hq18 (fun w14 e => ?_) (fun w e => ?_)
  · subst e
    replace h : _ = _ := h
    refine fe_lan (pc' := 96) dX7_isQuickWithout_95 rfl rfl ?_
    refine fe_gf (pc' := 99) dX7_isQuickWithout_96 rfl fl_7_40 n_74 gf_74_1 ?_
    refine fe_lan (pc' := 100) dX7_isQuickWithout_99 rfl rfl ?_
    refine fe_gf (pc' := 103) dX7_isQuickWithout_100 rfl fl_7_9 n_74 gf_74_2 ?_
    obtain ⟨q15, hq16, h⟩ := am_bd h
    refine fe_iv (pc' := 106) (as := [.ref 77, .int (w14.1 74 2)]) (h1 := (sh0, w14)) (r1 := some (.int q15)) (st' := [.int q15]) dX7_isQuickWithout_103 rfl cl_7_118 rfl rfl (sc_o sc_77) ms_37 ⟨(sc_ne sc_77), rfl, by decide, Nat.le_of_ble_eq_true rfl, Nat.le_of_ble_eq_true rfl⟩ (am_le0 _ _ _) (am_up (by decide) (ev_Ca_slowest sc_77 hq16)) rfl ?_
    refine fe_lin (pc' := 107) dX7_isQuickWithout_106 rfl rfl ?_
    refine fe_ic_gt (pc' := 110) (tgt := 114) dX7_isQuickWithout_107 rfl rfl (fun hc17 => ?_) (fun hc17 => ?_)
    · replace h := (if_pos hc17).symm.trans h
      refine fe_ic (pc' := 115) dX7_isQuickWithout_114 rfl ic_0 ?_
      cases h
      exact fe_rz _ dX7_isQuickWithout_115 rfl rfl
    · replace h := (if_neg hc17).symm.trans h
      refine fe_ic (pc' := 111) dX7_isQuickWithout_110 rfl ic_1 ?_
      refine fe_go (tgt := 115) dX7_isQuickWithout_111 rfl ?_
      cases h
      exact fe_rz _ dX7_isQuickWithout_115 rfl rfl
  · subst e
    cases h
    exact ⟨rfl, rfl⟩
-- To_lightestSet: X7_lightestSet
set_option maxRecDepth 4000 in
theorem lp_To_lightestSet_L21 {hE : am_H} {r : Option Value} : ∀ (n : Nat) (g : am_G) (x2 : Int32) (x3 : Int32) (x4 : Int32) (x5 : Int32) (w : am_G × Int32), To_lightestSet_L21 n g x2 x3 x4 x5 = some w → am_E 5 mX7_lightestSet (73, [(4, .int w.2)], [], (sh0, w.1)) hE r → am_E 5 mX7_lightestSet (21, [(0, .ref 74), (1, .ref 28), (2, .int x2), (3, .int x3), (4, .int x4), (5, .int x5)], [], (sh0, g)) hE r := by
  intro n
  induction n with
  | zero => intro g x2 x3 x4 x5 q h; cases h
  | succ n ih =>
    intro g x2 x3 x4 x5 q h k1
    replace h : _ = _ := h
    unfold To_lightestSet_L21 at h
    refine fe_li (pc' := 23) dX7_lightestSet_21 rfl rfl ?_
    refine fe_ic (pc' := 24) dX7_lightestSet_23 rfl ic_1 ?_
    refine fe_lan (pc' := 25) dX7_lightestSet_24 rfl rfl ?_
    refine fe_gf (pc' := 28) dX7_lightestSet_25 rfl fl_7_31 n_74 gf_74_0 ?_
    refine fe_gf (pc' := 31) dX7_lightestSet_28 rfl fl_7_71 n_3 gf_3_3 ?_
    refine fe_ishl (pc' := 32) dX7_lightestSet_31 rfl ?_
    refine fe_ic_ge (pc' := 35) (tgt := 73) dX7_lightestSet_32 rfl rfl (fun hc4 => ?_) (fun hc4 => ?_)
    · replace h := (if_pos hc4).symm.trans h
      refine fe_pick [4] rfl ?_
      cases h
      exact k1
    · replace h := (if_neg hc4).symm.trans h
      refine fe_lan (pc' := 36) dX7_lightestSet_35 rfl rfl ?_
      refine fe_li (pc' := 38) dX7_lightestSet_36 rfl rfl ?_
      obtain ⟨q5, hq6, h⟩ := am_bd h
      refine fe_iv (pc' := 41) (as := [.ref 28, .int x5]) (h1 := (sh0, g)) (r1 := some (.int q5)) (st' := [.int q5]) dX7_lightestSet_38 rfl cl_7_124 rfl rfl (sc_o sc_28) ms_33 ⟨(sc_ne sc_28), rfl, by decide, Nat.le_of_ble_eq_true rfl, Nat.le_of_ble_eq_true rfl⟩ (am_le0 _ _ _) (am_up (by decide) (ev_Ca_leftOf sc_28 hq6)) rfl ?_
      refine fe_si (pc' := 43) (lo' := [(0, .ref 74), (1, .ref 28), (2, .int x2), (3, .int x3), (4, .int x4), (5, .int x5), (6, .int q5)]) dX7_lightestSet_41 rfl (Nat.le_of_ble_eq_true rfl) rfl ?_
      refine fe_li (pc' := 45) dX7_lightestSet_43 rfl rfl ?_
      refine fe_lin (pc' := 46) dX7_lightestSet_45 rfl rfl ?_
      obtain ⟨q11, hq13, h⟩ := am_bd h
      have K : am_E 5 mX7_lightestSet (67, [(0, .ref 74), (1, .ref 28), (2, .int x2), (3, .int q11.2.1), (4, .int q11.2.2), (5, .int x5)], [], (sh0, q11.1)) hE r := by
        refine fe_inc (pc' := 70) (lo' := [(0, .ref 74), (1, .ref 28), (2, .int x2), (3, .int q11.2.1), (4, .int q11.2.2), (5, .int (x5 + 1))]) dX7_lightestSet_67 rfl ic_1 (Nat.le_of_ble_eq_true rfl) rfl rfl ?_
        refine fe_go (tgt := 21) dX7_lightestSet_70 rfl ?_
        exact ih q11.1 x2 q11.2.1 q11.2.2 (x5 + 1) q h k1
      replace h := hq13
      refine fe_ic_ge (pc' := 49) (tgt := 67) dX7_lightestSet_46 rfl rfl (fun hc7 => ?_) (fun hc7 => ?_)
      · replace h := (if_pos hc7).symm.trans h
        refine fe_pick [0, 1, 2, 3, 4, 5] rfl ?_
        cases h
        exact K
      · replace h := (if_neg hc7).symm.trans h
        refine fe_lan (pc' := 50) dX7_lightestSet_49 rfl rfl ?_
        refine fe_lan (pc' := 51) dX7_lightestSet_50 rfl rfl ?_
        refine fe_li (pc' := 53) dX7_lightestSet_51 rfl rfl ?_
        refine fe_lin (pc' := 54) dX7_lightestSet_53 rfl rfl ?_
        obtain ⟨q8, hq9, h⟩ := am_bd h
        refine fe_iv (pc' := 57) (as := [.ref 74, .ref 28, .int x5, .int x2]) (h1 := (sh0, q8.1)) (r1 := some (.int (am_b q8.2))) (st' := [.int (am_b q8.2)]) dX7_lightestSet_54 rfl cl_7_127 rfl rfl s_74 ms_78 ⟨n_74, rfl, by decide, Nat.le_of_ble_eq_true rfl, Nat.le_of_ble_eq_true rfl⟩ (am_le0 _ _ _) (am_up (by decide) (ev_To_isQuickWithout hq9)) rfl ?_
        refine fe_bT (pc' := 60) (tgt := 67) dX7_lightestSet_57 rfl rfl rfl (fun hc10 => ?_) (fun hc10 => ?_)
        · replace h := (if_pos hc10).symm.trans h
          refine fe_li (pc' := 62) dX7_lightestSet_60 rfl rfl ?_
          refine fe_sin (pc' := 63) (lo' := [(0, .ref 74), (1, .ref 28), (2, .int x2), (3, .int q5), (4, .int x4), (5, .int x5), (6, .int q5)]) dX7_lightestSet_62 rfl (Nat.le_of_ble_eq_true rfl) rfl ?_
          refine fe_li (pc' := 65) dX7_lightestSet_63 rfl rfl ?_
          refine fe_si (pc' := 67) (lo' := [(0, .ref 74), (1, .ref 28), (2, .int x2), (3, .int q5), (4, .int x5), (5, .int x5), (6, .int q5)]) dX7_lightestSet_65 rfl (Nat.le_of_ble_eq_true rfl) rfl ?_
          refine fe_pick [0, 1, 2, 3, 4, 5] rfl ?_
          cases h
          exact K
        · replace h := (if_neg hc10).symm.trans h
          refine fe_pick [0, 1, 2, 3, 4, 5] rfl ?_
          cases h
          exact K
set_option maxRecDepth 4000 in
theorem ev_To_lightestSet {g : am_G} {x2 : Int32} {w : (am_G × Int32)} (h : To_lightestSet g x2 = some w) : am_Ev 6 77 [.ref 74, .ref 28, .int x2] (sh0, g) (sh0, w.1) (some (.int w.2)) := by
  unfold To_lightestSet at h
  refine am_ev mX7_lightestSet (by rfl) (Nat.le_of_ble_eq_true rfl) [(0, .ref 74), (1, .ref 28), (2, .int x2)] rfl ?_
  refine fe_lan (pc' := 1) dX7_lightestSet_0 rfl rfl ?_
  refine fe_lan (pc' := 2) dX7_lightestSet_1 rfl rfl ?_
  obtain ⟨q1, hq2, h⟩ := am_bd h
  refine fe_iv (pc' := 5) (as := [.ref 74, .ref 28]) (h1 := (sh0, q1.1)) (r1 := some (.int (am_b q1.2))) (st' := [.int (am_b q1.2)]) dX7_lightestSet_2 rfl cl_7_66 rfl rfl s_74 ms_71 ⟨n_74, rfl, by decide, Nat.le_of_ble_eq_true rfl, Nat.le_of_ble_eq_true rfl⟩ (am_le0 _ _ _) (am_up (by decide) (ev_To_wake hq2)) rfl ?_
  refine fe_bF (pc' := 8) (tgt := 11) dX7_lightestSet_5 rfl rfl rfl (fun hc3 => ?_) (fun hc3 => ?_)
  · replace h := (if_pos hc3).symm.trans h
    refine fe_ldc (pc' := 13) dX7_lightestSet_11 rfl kc_7_70 ?_
    refine fe_sin (pc' := 14) (lo' := [(0, .ref 74), (1, .ref 28), (2, .int x2), (3, .int 1000000000)]) dX7_lightestSet_13 rfl (Nat.le_of_ble_eq_true rfl) rfl ?_
    refine fe_bp (pc' := 16) dX7_lightestSet_14 rfl ib_m9 ?_
    refine fe_si (pc' := 18) (lo' := [(0, .ref 74), (1, .ref 28), (2, .int x2), (3, .int 1000000000), (4, .int (-9))]) dX7_lightestSet_16 rfl (Nat.le_of_ble_eq_true rfl) rfl ?_
    refine fe_ic (pc' := 19) dX7_lightestSet_18 rfl ic_0 ?_
    refine fe_si (pc' := 21) (lo' := [(0, .ref 74), (1, .ref 28), (2, .int x2), (3, .int 1000000000), (4, .int (-9)), (5, .int 0)]) dX7_lightestSet_19 rfl (Nat.le_of_ble_eq_true rfl) rfl ?_
    obtain ⟨q12, hq14, h⟩ := am_bd h
    refine lp_To_lightestSet_L21 _ q1.1 x2 1000000000 (-9) 0 q12 hq14 ?_
    refine fe_li (pc' := 75) dX7_lightestSet_73 rfl rfl ?_
    cases h
    exact fe_ri dX7_lightestSet_75 rfl
  · replace h := (if_neg hc3).symm.trans h
    refine fe_bp (pc' := 10) dX7_lightestSet_8 rfl ib_m9 ?_
    cases h
    exact fe_ri dX7_lightestSet_10 rfl
-- Tb_leave: X8_leave
set_option maxRecDepth 4000 in
theorem ev_Tb_leave {g : am_G} {x1 x2 : Int32} {w : (am_G × Int32)} (h : Tb_leave g x1 x2 = some w) : am_Ev 7 95 [.ref 0, .int x1, .int x2] (sh0, g) (sh0, w.1) (some (.int w.2)) := by
  unfold Tb_leave at h
  refine am_ev mX8_leave (by rfl) (Nat.le_of_ble_eq_true rfl) [(0, .ref 0), (1, .int x1), (2, .int x2)] rfl ?_
  refine fe_lin (pc' := 1) dX8_leave_0 rfl rfl ?_
  refine fe_ic (pc' := 2) dX8_leave_1 rfl ic_0 ?_
  refine fe_sp (pc' := 5) dX8_leave_2 rfl is_999 ?_
  obtain ⟨q1, hq2, h⟩ := am_bd h
  refine fe_is (pc' := 8) (as := [.int x1, .int 0, .int 999]) (h1 := (sh0, g)) (r1 := some (.int (am_b q1))) (st' := [.int (am_b q1)]) dX8_leave_5 rfl cl_8_79 (Or.inl rfl) rfl rfl ⟨Nat.le_of_ble_eq_true rfl, Nat.le_of_ble_eq_true rfl⟩ (am_le0 _ _ _) (am_up (by decide) (ev_Tb_isWithin hq2)) rfl ?_
  refine fe_bT (pc' := 11) (tgt := 18) dX8_leave_8 rfl rfl rfl (fun hc3 => ?_) (fun hc3 => ?_)
  · replace h := (if_pos hc3).symm.trans h
    refine fe_lin (pc' := 12) dX8_leave_11 rfl rfl ?_
    obtain ⟨q4, hq5, h⟩ := am_bd h
    refine fe_is (pc' := 15) (as := [.int x2]) (h1 := (sh0, g)) (r1 := some (.int (am_b q4))) (st' := [.int (am_b q4)]) dX8_leave_12 rfl cl_8_223 (Or.inl rfl) rfl rfl ⟨Nat.le_of_ble_eq_true rfl, Nat.le_of_ble_eq_true rfl⟩ (am_le0 _ _ _) (am_up (by decide) (ev_Tb_isEither hq5)) rfl ?_
    refine fe_bF (pc' := 18) (tgt := 20) dX8_leave_15 rfl rfl rfl (fun hc6 => ?_) (fun hc6 => ?_)
    · replace h := (if_pos hc6).symm.trans h
      refine fe_lan (pc' := 21) dX8_leave_20 rfl rfl ?_
      refine fe_gf (pc' := 24) dX8_leave_21 rfl fl_8_57 n_0 gf_0_7 ?_
      refine fe_lan (pc' := 25) dX8_leave_24 rfl rfl ?_
      refine fe_gf (pc' := 28) dX8_leave_25 rfl fl_8_45 n_0 gf_0_4 ?_
      refine fe_lin (pc' := 29) dX8_leave_28 rfl rfl ?_
      obtain ⟨q7, hq8, h⟩ := am_bd h
      refine fe_iv (pc' := 32) (as := [.ref 74, .ref 28, .int x1]) (h1 := (sh0, q7.1)) (r1 := some (.int q7.2)) (st' := [.int q7.2]) dX8_leave_29 rfl cl_8_262 rfl rfl s_74 ms_77 ⟨n_74, rfl, by decide, Nat.le_of_ble_eq_true rfl, Nat.le_of_ble_eq_true rfl⟩ (am_le0 _ _ _) (am_up (by decide) (ev_To_lightestSet hq8)) rfl ?_
      refine fe_sin (pc' := 33) (lo' := [(0, .ref 0), (1, .int x1), (2, .int x2), (3, .int q7.2)]) dX8_leave_32 rfl (Nat.le_of_ble_eq_true rfl) rfl ?_
      refine fe_lin (pc' := 34) dX8_leave_33 rfl rfl ?_
      refine fe_bp (pc' := 36) dX8_leave_34 rfl ib_m9 ?_
      refine fe_ic_eq (pc' := 39) (tgt := 43) dX8_leave_36 rfl rfl (fun hc9 => ?_) (fun hc9 => ?_)
      · replace h := (if_pos hc9).symm.trans h
        refine fe_lin (pc' := 44) dX8_leave_43 rfl rfl ?_
        refine fe_go (tgt := 55) dX8_leave_44 rfl ?_
        cases h
        exact fe_ri dX8_leave_55 rfl
      · replace h := (if_neg hc9).symm.trans h
        refine fe_lin (pc' := 40) dX8_leave_39 rfl rfl ?_
        refine fe_if_ne (pc' := 43) (tgt := 47) dX8_leave_40 rfl rfl (fun hc10 => ?_) (fun hc10 => ?_)
        · replace h := (if_pos hc10).symm.trans h
          refine fe_lin (pc' := 44) dX8_leave_43 rfl rfl ?_
          refine fe_go (tgt := 55) dX8_leave_44 rfl ?_
          cases h
          exact fe_ri dX8_leave_55 rfl
        · replace h := (if_neg hc10).symm.trans h
          refine fe_lan (pc' := 48) dX8_leave_47 rfl rfl ?_
          refine fe_gf (pc' := 51) dX8_leave_48 rfl fl_8_45 n_0 gf_0_4 ?_
          refine fe_lin (pc' := 52) dX8_leave_51 rfl rfl ?_
          obtain ⟨q11, hq12, h⟩ := am_bd h
          refine fe_iv (pc' := 55) (as := [.ref 28, .int q7.2]) (h1 := (sh0, q7.1)) (r1 := some (.int q11)) (st' := [.int q11]) dX8_leave_52 rfl cl_8_266 rfl rfl (sc_o sc_28) ms_33 ⟨(sc_ne sc_28), rfl, by decide, Nat.le_of_ble_eq_true rfl, Nat.le_of_ble_eq_true rfl⟩ (am_le0 _ _ _) (am_up (by decide) (ev_Ca_leftOf sc_28 hq12)) rfl ?_
          cases h
          exact fe_ri dX8_leave_55 rfl
    · replace h := (if_neg hc6).symm.trans h
      refine fe_ic (pc' := 19) dX8_leave_18 rfl ic_m1 ?_
      cases h
      exact fe_ri dX8_leave_19 rfl
  · replace h := (if_neg hc3).symm.trans h
    refine fe_ic (pc' := 19) dX8_leave_18 rfl ic_m1 ?_
    cases h
    exact fe_ri dX8_leave_19 rfl
-- Ah_lowestRow: X0_lowestRow
set_option maxRecDepth 4000 in
theorem lp_Ah_lowestRow_L7 {hE : am_H} {r : Option Value} : ∀ (n : Nat) (g : am_G) (x1 : Int32) (w : am_G), Ah_lowestRow_L7 n g x1 = some w → am_E 0 mX0_lowestRow (57, [], [], (sh0, w)) hE r → am_E 0 mX0_lowestRow (7, [(0, .ref 81), (1, .int x1)], [], (sh0, g)) hE r := by
  intro n
  induction n with
  | zero => intro g x1 q h; cases h
  | succ n ih =>
    intro g x1 q h k1
    replace h : _ = _ := h
    unfold Ah_lowestRow_L7 at h
    refine fe_lin (pc' := 8) dX0_lowestRow_7 rfl rfl ?_
    refine fe_lan (pc' := 9) dX0_lowestRow_8 rfl rfl ?_
    refine fe_gf (pc' := 12) dX0_lowestRow_9 rfl fl_0_47 n_81 gf_81_0 ?_
    refine fe_gf (pc' := 15) dX0_lowestRow_12 rfl fl_0_129 n_3 gf_3_3 ?_
    refine fe_ic_ge (pc' := 18) (tgt := 57) dX0_lowestRow_15 rfl rfl (fun hc1 => ?_) (fun hc1 => ?_)
    · replace h := (if_pos hc1).symm.trans h
      refine fe_pick [] rfl ?_
      cases h
      exact k1
    · replace h := (if_neg hc1).symm.trans h
      refine fe_lan (pc' := 19) dX0_lowestRow_18 rfl rfl ?_
      refine fe_gf (pc' := 22) dX0_lowestRow_19 rfl fl_0_47 n_81 gf_81_0 ?_
      refine fe_gf (pc' := 25) dX0_lowestRow_22 rfl fl_0_132 n_3 gf_3_6 ?_
      refine fe_lin (pc' := 26) dX0_lowestRow_25 rfl rfl ?_
      obtain ⟨hi2, h⟩ := am_gd rfl h
      refine fe_al (pc' := 27) (j := x1.toNatClampNeg) dX0_lowestRow_26 rfl n_8 s_8 hi2 rfl ?_
      refine fe_ic (pc' := 28) dX0_lowestRow_27 rfl ic_1 ?_
      obtain ⟨q5, hq7, h⟩ := am_bd h
      have K : am_E 0 mX0_lowestRow (51, [(0, .ref 81), (1, .int x1)], [], (sh0, q5)) hE r := by
        refine fe_inc (pc' := 54) (lo' := [(0, .ref 81), (1, .int (x1 + 1))]) dX0_lowestRow_51 rfl ic_1 (Nat.le_of_ble_eq_true rfl) rfl rfl ?_
        refine fe_go (tgt := 7) dX0_lowestRow_54 rfl ?_
        exact ih q5 (x1 + 1) q h k1
      replace h := hq7
      refine fe_ic_ne (pc' := 31) (tgt := 51) dX0_lowestRow_28 rfl rfl (fun hc3 => ?_) (fun hc3 => ?_)
      · replace h := (if_pos hc3).symm.trans h
        refine fe_lan (pc' := 32) dX0_lowestRow_31 rfl rfl ?_
        refine fe_gf (pc' := 35) dX0_lowestRow_32 rfl fl_0_37 n_81 gf_81_8 ?_
        refine fe_lan (pc' := 36) dX0_lowestRow_35 rfl rfl ?_
        refine fe_gf (pc' := 39) dX0_lowestRow_36 rfl fl_0_41 n_81 gf_81_9 ?_
        refine fe_lin (pc' := 40) dX0_lowestRow_39 rfl rfl ?_
        obtain ⟨hi4, h⟩ := am_gd rfl h
        refine fe_as (pc' := 41) (j := (g.1 81 9).toNatClampNeg) dX0_lowestRow_40 rfl n_83 s_83 hi4 rfl ?_
        refine fe_lan (pc' := 42) dX0_lowestRow_41 rfl rfl ?_
        refine fe_dup (pc' := 43) dX0_lowestRow_42 rfl rfl ?_
        refine fe_gf (pc' := 46) dX0_lowestRow_43 rfl fl_0_41 n_81 gf_81_9 ?_
        refine fe_ic (pc' := 47) dX0_lowestRow_46 rfl ic_1 ?_
        refine fe_iadd (pc' := 48) dX0_lowestRow_47 rfl ?_
        refine fe_pi (pc' := 51) dX0_lowestRow_48 rfl fl_0_41 n_81 s_81 rfl ⟨rfl, Or.inl rfl⟩ ?_
        cases h
        exact K
      · replace h := (if_neg hc3).symm.trans h
        cases h
        exact K
set_option maxRecDepth 4000 in
theorem ev_Ah_lowestRow {g : am_G} {w : am_G} (h : Ah_lowestRow g  = some w) : am_Ev 1 9 [.ref 81] (sh0, g) (sh0, w) (none) := by
  unfold Ah_lowestRow at h
  refine am_ev mX0_lowestRow (by rfl) (Nat.le_of_ble_eq_true rfl) [(0, .ref 81)] rfl ?_
  refine fe_lan (pc' := 1) dX0_lowestRow_0 rfl rfl ?_
  refine fe_ic (pc' := 2) dX0_lowestRow_1 rfl ic_0 ?_
  refine fe_pi (pc' := 5) dX0_lowestRow_2 rfl fl_0_41 n_81 s_81 rfl ⟨rfl, Or.inl rfl⟩ ?_
  refine fe_ic (pc' := 6) dX0_lowestRow_5 rfl ic_0 ?_
  refine fe_sin (pc' := 7) (lo' := [(0, .ref 81), (1, .int 0)]) dX0_lowestRow_6 rfl (Nat.le_of_ble_eq_true rfl) rfl ?_
  obtain ⟨q6, hq8, h⟩ := am_bd h
  refine lp_Ah_lowestRow_L7 _ (am_wr g 81 9 0) 0 q6 hq8 ?_
  cases h
  exact fe_rv dX0_lowestRow_57 rfl
-- Ah_judge: X0_judge
set_option maxRecDepth 4000 in
theorem lp_Ah_judge_L20 {hE : am_H} {r : Option Value} : ∀ (n : Nat) (g : am_G) (x2 : Int32) (w : am_G), Ah_judge_L20 n g x2 = some w → am_E 0 mX0_judge (54, [], [], (sh0, w)) hE r → am_E 0 mX0_judge (20, [(0, .ref 81), (2, .int x2)], [], (sh0, g)) hE r := by
  intro n
  induction n with
  | zero => intro g x2 q h; cases h
  | succ n ih =>
    intro g x2 q h k1
    replace h : _ = _ := h
    unfold Ah_judge_L20 at h
    refine fe_lin (pc' := 21) dX0_judge_20 rfl rfl ?_
    refine fe_lan (pc' := 22) dX0_judge_21 rfl rfl ?_
    refine fe_gf (pc' := 25) dX0_judge_22 rfl fl_0_41 n_81 gf_81_9 ?_
    refine fe_ic_ge (pc' := 28) (tgt := 54) dX0_judge_25 rfl rfl (fun hc2 => ?_) (fun hc2 => ?_)
    · replace h := (if_pos hc2).symm.trans h
      refine fe_pick [] rfl ?_
      cases h
      exact k1
    · replace h := (if_neg hc2).symm.trans h
      refine fe_lan (pc' := 29) dX0_judge_28 rfl rfl ?_
      refine fe_bp (pc' := 31) dX0_judge_29 rfl ib_10 ?_
      refine fe_lan (pc' := 32) dX0_judge_31 rfl rfl ?_
      refine fe_gf (pc' := 35) dX0_judge_32 rfl fl_0_31 n_81 gf_81_6 ?_
      refine fe_imul (pc' := 36) dX0_judge_35 rfl ?_
      refine fe_lan (pc' := 37) dX0_judge_36 rfl rfl ?_
      refine fe_gf (pc' := 40) dX0_judge_37 rfl fl_0_37 n_81 gf_81_8 ?_
      refine fe_lin (pc' := 41) dX0_judge_40 rfl rfl ?_
      obtain ⟨hi3, h⟩ := am_gd rfl h
      refine fe_al (pc' := 42) (j := x2.toNatClampNeg) dX0_judge_41 rfl n_83 s_83 hi3 rfl ?_
      refine fe_iadd (pc' := 43) dX0_judge_42 rfl ?_
      refine fe_ic (pc' := 44) dX0_judge_43 rfl ic_1 ?_
      refine fe_iadd (pc' := 45) dX0_judge_44 rfl ?_
      refine fe_pi (pc' := 48) dX0_judge_45 rfl fl_0_31 n_81 s_81 rfl ⟨rfl, Or.inl rfl⟩ ?_
      refine fe_inc (pc' := 51) (lo' := [(0, .ref 81), (2, .int (x2 + 1))]) dX0_judge_48 rfl ic_1 (Nat.le_of_ble_eq_true rfl) rfl rfl ?_
      refine fe_go (tgt := 20) dX0_judge_51 rfl ?_
      exact ih (am_wr g 81 6 (((10 * (g.1 81 6)) + (g.1 83 x2.toNatClampNeg)) + 1)) (x2 + 1) q h k1
set_option maxRecDepth 4000 in
theorem ev_Ah_judge {g : am_G} {x1 : Int32} {w : am_G} (h : Ah_judge g x1 = some w) : am_Ev 1 12 [.ref 81, .int x1] (sh0, g) (sh0, w) (none) := by
  unfold Ah_judge at h
  refine am_ev mX0_judge (by rfl) (Nat.le_of_ble_eq_true rfl) [(0, .ref 81), (1, .int x1)] rfl ?_
  refine fe_lin (pc' := 1) dX0_judge_0 rfl rfl ?_
  refine fe_lan (pc' := 2) dX0_judge_1 rfl rfl ?_
  refine fe_gf (pc' := 5) dX0_judge_2 rfl fl_0_34 n_81 gf_81_7 ?_
  refine fe_ic_ge (pc' := 8) (tgt := 54) dX0_judge_5 rfl rfl (fun hc1 => ?_) (fun hc1 => ?_)
  · replace h := (if_pos hc1).symm.trans h
    cases h
    exact fe_rv dX0_judge_54 rfl
  · replace h := (if_neg hc1).symm.trans h
    refine fe_lan (pc' := 9) dX0_judge_8 rfl rfl ?_
    refine fe_lin (pc' := 10) dX0_judge_9 rfl rfl ?_
    refine fe_pi (pc' := 13) dX0_judge_10 rfl fl_0_34 n_81 s_81 rfl ⟨rfl, Or.inl rfl⟩ ?_
    refine fe_lan (pc' := 14) dX0_judge_13 rfl rfl ?_
    refine fe_ic (pc' := 15) dX0_judge_14 rfl ic_0 ?_
    refine fe_pi (pc' := 18) dX0_judge_15 rfl fl_0_31 n_81 s_81 rfl ⟨rfl, Or.inl rfl⟩ ?_
    refine fe_ic (pc' := 19) dX0_judge_18 rfl ic_0 ?_
    refine fe_sin (pc' := 20) (lo' := [(0, .ref 81), (1, .int x1), (2, .int 0)]) dX0_judge_19 rfl (Nat.le_of_ble_eq_true rfl) rfl ?_
    obtain ⟨q4, hq5, h⟩ := am_bd h
    refine fe_pick [0, 2] rfl ?_
    refine lp_Ah_judge_L20 _ (am_wr (am_wr g 81 7 x1) 81 6 0) 0 q4 hq5 ?_
    cases h
    exact fe_rv dX0_judge_54 rfl
-- Ca_feed_r: X2_feed
set_option maxRecDepth 4000 in
theorem lp_Ca_feed_r_L16 {c : Nat} (hc : c ∈ am_camps) {hE : am_H} {r : Option Value} : ∀ (n : Nat) (g : am_G) (x2 : Int32) (x3 : Int32) (x4 : Int32) (x5 : Int32) (w : am_G × Int32 × Int32), Ca_feed_r_L16 n g c x2 x3 x4 x5 = some w → am_E 1 mX2_feed (107, [(0, .ref c), (3, .int w.2.1), (4, .int w.2.2)], [], (sh0, w.1)) hE r → am_E 1 mX2_feed (16, [(0, .ref c), (1, .ref 83), (2, .int x2), (3, .int x3), (4, .int x4), (5, .int x5)], [], (sh0, g)) hE r := by
  intro n
  induction n with
  | zero => intro g x2 x3 x4 x5 q h; cases h
  | succ n ih =>
    intro g x2 x3 x4 x5 q h k1
    replace h : _ = _ := h
    unfold Ca_feed_r_L16 at h
    refine fe_li (pc' := 18) dX2_feed_16 rfl rfl ?_
    refine fe_lin (pc' := 19) dX2_feed_18 rfl rfl ?_
    refine fe_ic_ge (pc' := 22) (tgt := 107) dX2_feed_19 rfl rfl (fun hc1 => ?_) (fun hc1 => ?_)
    · replace h := (if_pos hc1).symm.trans h
      refine fe_pick [0, 3, 4] rfl ?_
      cases h
      exact k1
    · replace h := (if_neg hc1).symm.trans h
      refine fe_lin (pc' := 23) dX2_feed_22 rfl rfl ?_
      refine fe_if_le (pc' := 26) (tgt := 107) dX2_feed_23 rfl rfl (fun hc2 => ?_) (fun hc2 => ?_)
      · replace h := (if_pos hc2).symm.trans h
        refine fe_pick [0, 3, 4] rfl ?_
        cases h
        exact k1
      · replace h := (if_neg hc2).symm.trans h
        refine fe_lan (pc' := 27) dX2_feed_26 rfl rfl ?_
        refine fe_li (pc' := 29) dX2_feed_27 rfl rfl ?_
        obtain ⟨hi3, h⟩ := am_gd rfl h
        refine fe_al (pc' := 30) (j := x5.toNatClampNeg) dX2_feed_29 rfl n_83 s_83 hi3 rfl ?_
        refine fe_si (pc' := 32) (lo' := [(0, .ref c), (1, .ref 83), (2, .int x2), (3, .int x3), (4, .int x4), (5, .int x5), (6, .int (g.1 83 x5.toNatClampNeg))]) dX2_feed_30 rfl (Nat.le_of_ble_eq_true rfl) rfl ?_
        refine fe_lan (pc' := 33) dX2_feed_32 rfl rfl ?_
        refine fe_gf (pc' := 36) dX2_feed_33 rfl fl_2_37 (sc_ne hc) (cg_0 hc) ?_
        refine fe_gf (pc' := 39) dX2_feed_36 rfl fl_2_140 n_3 gf_3_6 ?_
        refine fe_li (pc' := 41) dX2_feed_39 rfl rfl ?_
        obtain ⟨hi4, h⟩ := am_gd rfl h
        refine fe_al (pc' := 42) (j := (g.1 83 x5.toNatClampNeg).toNatClampNeg) dX2_feed_41 rfl n_8 s_8 hi4 rfl ?_
        refine fe_ic (pc' := 43) dX2_feed_42 rfl ic_1 ?_
        obtain ⟨q10, hq12, h⟩ := am_bd h
        have K : am_E 1 mX2_feed (101, [(0, .ref c), (1, .ref 83), (2, .int x2), (3, .int q10.2.1), (4, .int q10.2.2), (5, .int x5)], [], (sh0, q10.1)) hE r := by
          refine fe_inc (pc' := 104) (lo' := [(0, .ref c), (1, .ref 83), (2, .int x2), (3, .int q10.2.1), (4, .int q10.2.2), (5, .int (x5 + 1))]) dX2_feed_101 rfl ic_1 (Nat.le_of_ble_eq_true rfl) rfl rfl ?_
          refine fe_go (tgt := 16) dX2_feed_104 rfl ?_
          exact ih q10.1 x2 q10.2.1 q10.2.2 (x5 + 1) q h k1
        replace h := hq12
        refine fe_ic_ne (pc' := 46) (tgt := 101) dX2_feed_43 rfl rfl (fun hc5 => ?_) (fun hc5 => ?_)
        · replace h := (if_pos hc5).symm.trans h
          refine fe_lan (pc' := 47) dX2_feed_46 rfl rfl ?_
          refine fe_li (pc' := 49) dX2_feed_47 rfl rfl ?_
          obtain ⟨q6, hq7, h⟩ := am_bd h
          refine fe_iv (pc' := 52) (as := [.ref c, .int (g.1 83 x5.toNatClampNeg)]) (h1 := (sh0, g)) (r1 := some (.int (am_b q6))) (st' := [.int (am_b q6)]) dX2_feed_49 rfl cl_2_53 rfl rfl (sc_o hc) ms_26 ⟨(sc_ne hc), rfl, by decide, Nat.le_of_ble_eq_true rfl, Nat.le_of_ble_eq_true rfl⟩ (am_le0 _ _ _) (am_up (by decide) (ev_Ca_isCarried hc hq7)) rfl ?_
          refine fe_bT (pc' := 55) (tgt := 101) dX2_feed_52 rfl rfl rfl (fun hc8 => ?_) (fun hc8 => ?_)
          · replace h := (if_pos hc8).symm.trans h
            refine fe_lan (pc' := 56) dX2_feed_55 rfl rfl ?_
            refine fe_gf (pc' := 59) dX2_feed_56 rfl fl_2_31 (sc_ne hc) (cg_7 hc) ?_
            refine fe_li (pc' := 61) dX2_feed_59 rfl rfl ?_
            refine fe_al (pc' := 62) (j := (g.1 83 x5.toNatClampNeg).toNatClampNeg) dX2_feed_61 rfl (sc_n2 hc) (sc_2 hc) hi4 rfl ?_
            refine fe_if_le (pc' := 65) (tgt := 101) dX2_feed_62 rfl rfl (fun hc9 => ?_) (fun hc9 => ?_)
            · replace h := (if_pos hc9).symm.trans h
              refine fe_pick [0, 1, 2, 3, 4, 5] rfl ?_
              cases h
              exact K
            · replace h := (if_neg hc9).symm.trans h
              refine fe_lin (pc' := 66) dX2_feed_65 rfl rfl ?_
              refine fe_lan (pc' := 67) dX2_feed_66 rfl rfl ?_
              refine fe_gf (pc' := 70) dX2_feed_67 rfl fl_2_31 (sc_ne hc) (cg_7 hc) ?_
              refine fe_li (pc' := 72) dX2_feed_70 rfl rfl ?_
              refine fe_al (pc' := 73) (j := (g.1 83 x5.toNatClampNeg).toNatClampNeg) dX2_feed_72 rfl (sc_n2 hc) (sc_2 hc) hi4 rfl ?_
              refine fe_mn (pc' := 76) dX2_feed_73 rfl cl_2_82 (Nat.le_of_ble_eq_true rfl) ?_
              refine fe_si (pc' := 78) (lo' := [(0, .ref c), (1, .ref 83), (2, .int x2), (3, .int x3), (4, .int x4), (5, .int x5), (6, .int (g.1 83 x5.toNatClampNeg)), (7, .int (am_mn x3 (g.1 (c + 2) (g.1 83 x5.toNatClampNeg).toNatClampNeg)))]) dX2_feed_76 rfl (Nat.le_of_ble_eq_true rfl) rfl ?_
              refine fe_lan (pc' := 79) dX2_feed_78 rfl rfl ?_
              refine fe_gf (pc' := 82) dX2_feed_79 rfl fl_2_31 (sc_ne hc) (cg_7 hc) ?_
              refine fe_li (pc' := 84) dX2_feed_82 rfl rfl ?_
              refine fe_dup2 (pc' := 85) dX2_feed_84 rfl ⟨rfl, rfl⟩ ?_
              refine fe_al (pc' := 86) (j := (g.1 83 x5.toNatClampNeg).toNatClampNeg) dX2_feed_85 rfl (sc_n2 hc) (sc_2 hc) hi4 rfl ?_
              refine fe_li (pc' := 88) dX2_feed_86 rfl rfl ?_
              refine fe_isub (pc' := 89) dX2_feed_88 rfl ?_
              refine fe_as (pc' := 90) (j := (g.1 83 x5.toNatClampNeg).toNatClampNeg) dX2_feed_89 rfl (sc_n2 hc) (sc_2 hc) hi4 rfl ?_
              refine fe_lin (pc' := 91) dX2_feed_90 rfl rfl ?_
              refine fe_li (pc' := 93) dX2_feed_91 rfl rfl ?_
              refine fe_isub (pc' := 94) dX2_feed_93 rfl ?_
              refine fe_sin (pc' := 95) (lo' := [(0, .ref c), (1, .ref 83), (2, .int x2), (3, .int (x3 - (am_mn x3 (g.1 (c + 2) (g.1 83 x5.toNatClampNeg).toNatClampNeg)))), (4, .int x4), (5, .int x5), (6, .int (g.1 83 x5.toNatClampNeg)), (7, .int (am_mn x3 (g.1 (c + 2) (g.1 83 x5.toNatClampNeg).toNatClampNeg)))]) dX2_feed_94 rfl (Nat.le_of_ble_eq_true rfl) rfl ?_
              refine fe_li (pc' := 97) dX2_feed_95 rfl rfl ?_
              refine fe_ic (pc' := 98) dX2_feed_97 rfl ic_1 ?_
              refine fe_iadd (pc' := 99) dX2_feed_98 rfl ?_
              refine fe_si (pc' := 101) (lo' := [(0, .ref c), (1, .ref 83), (2, .int x2), (3, .int (x3 - (am_mn x3 (g.1 (c + 2) (g.1 83 x5.toNatClampNeg).toNatClampNeg)))), (4, .int (x5 + 1)), (5, .int x5), (6, .int (g.1 83 x5.toNatClampNeg)), (7, .int (am_mn x3 (g.1 (c + 2) (g.1 83 x5.toNatClampNeg).toNatClampNeg)))]) dX2_feed_99 rfl (Nat.le_of_ble_eq_true rfl) rfl ?_
              refine fe_pick [0, 1, 2, 3, 4, 5] rfl ?_
              cases h
              exact K
          · replace h := (if_neg hc8).symm.trans h
            refine fe_pick [0, 1, 2, 3, 4, 5] rfl ?_
            cases h
            exact K
        · replace h := (if_neg hc5).symm.trans h
          refine fe_pick [0, 1, 2, 3, 4, 5] rfl ?_
          cases h
          exact K
set_option maxRecDepth 4000 in
theorem ev_Ca_feed_r {g : am_G} {c : Nat} {x2 : Int32} {w : (am_G × Int32)} (hc : c ∈ am_camps) (h : Ca_feed_r g c x2 = some w) : am_Ev 2 44 [.ref c, .ref 83, .int x2] (sh0, g) (sh0, w.1) (some (.int w.2)) := by
  unfold Ca_feed_r at h
  refine am_ev mX2_feed (by rfl) (Nat.le_of_ble_eq_true rfl) [(0, .ref c), (1, .ref 83), (2, .int x2)] rfl ?_
  refine fe_ic (pc' := 1) dX2_feed_0 rfl ic_2 ?_
  refine fe_lan (pc' := 2) dX2_feed_1 rfl rfl ?_
  refine fe_gf (pc' := 5) dX2_feed_2 rfl fl_2_37 (sc_ne hc) (cg_0 hc) ?_
  refine fe_gf (pc' := 8) dX2_feed_5 rfl fl_2_94 n_3 gf_3_0 ?_
  refine fe_imul (pc' := 9) dX2_feed_8 rfl ?_
  refine fe_sin (pc' := 10) (lo' := [(0, .ref c), (1, .ref 83), (2, .int x2), (3, .int (2 * (g.1 3 0)))]) dX2_feed_9 rfl (Nat.le_of_ble_eq_true rfl) rfl ?_
  refine fe_ic (pc' := 11) dX2_feed_10 rfl ic_0 ?_
  refine fe_si (pc' := 13) (lo' := [(0, .ref c), (1, .ref 83), (2, .int x2), (3, .int (2 * (g.1 3 0))), (4, .int 0)]) dX2_feed_11 rfl (Nat.le_of_ble_eq_true rfl) rfl ?_
  refine fe_ic (pc' := 14) dX2_feed_13 rfl ic_0 ?_
  refine fe_si (pc' := 16) (lo' := [(0, .ref c), (1, .ref 83), (2, .int x2), (3, .int (2 * (g.1 3 0))), (4, .int 0), (5, .int 0)]) dX2_feed_14 rfl (Nat.le_of_ble_eq_true rfl) rfl ?_
  obtain ⟨q11, hq13, h⟩ := am_bd h
  refine lp_Ca_feed_r_L16 hc _ g x2 (2 * (g.1 3 0)) 0 0 q11 hq13 ?_
  refine fe_lan (pc' := 108) dX2_feed_107 rfl rfl ?_
  refine fe_dup (pc' := 109) dX2_feed_108 rfl rfl ?_
  refine fe_gf (pc' := 112) dX2_feed_109 rfl fl_2_18 (sc_ne hc) (cg_3 hc) ?_
  refine fe_lin (pc' := 113) dX2_feed_112 rfl rfl ?_
  refine fe_iadd (pc' := 114) dX2_feed_113 rfl ?_
  refine fe_pi (pc' := 117) dX2_feed_114 rfl fl_2_18 (sc_ne hc) (sc_o hc) rfl ⟨rfl, Or.inl rfl⟩ ?_
  refine fe_li (pc' := 119) dX2_feed_117 rfl rfl ?_
  cases h
  exact fe_ri dX2_feed_119 rfl
-- Ah_toldAsTurned: X0_toldAsTurned
set_option maxRecDepth 4000 in
theorem lp_Ah_toldAsTurned_L18 {hE : am_H} {r : Option Value} : ∀ (n : Nat) (g : am_G) (x1 : Int32) (x2 : Int32) (x3 : Int32) (q : ((Unit) ⊕ Int32)), Ah_toldAsTurned_L18 n g x1 x2 x3 = some q → (∀ w, q = .inl w → am_E 0 mX0_toldAsTurned (90, [], [], (sh0, g)) hE r) → (∀ w, q = .inr w → hE = (sh0, g) ∧ r = some (.int w)) → am_E 0 mX0_toldAsTurned (18, [(0, .ref 81), (1, .int x1), (2, .int x2), (3, .int x3)], [], (sh0, g)) hE r := by
  intro n
  induction n with
  | zero => intro g x1 x2 x3 q h; cases h
  | succ n ih =>
    intro g x1 x2 x3 q h k1 kr
    replace h : _ = _ := h
    unfold Ah_toldAsTurned_L18 at h
    refine fe_lin (pc' := 19) dX0_toldAsTurned_18 rfl rfl ?_
    refine fe_lin (pc' := 20) dX0_toldAsTurned_19 rfl rfl ?_
    refine fe_ic_ge (pc' := 23) (tgt := 90) dX0_toldAsTurned_20 rfl rfl (fun hc3 => ?_) (fun hc3 => ?_)
    · replace h := (if_pos hc3).symm.trans h
      refine fe_pick [] rfl ?_
      cases h
      exact k1 _ rfl
    · replace h := (if_neg hc3).symm.trans h
      refine fe_lin (pc' := 24) dX0_toldAsTurned_23 rfl rfl ?_
      refine fe_lin (pc' := 25) dX0_toldAsTurned_24 rfl rfl ?_
      refine fe_ic (pc' := 26) dX0_toldAsTurned_25 rfl ic_1 ?_
      refine fe_isub (pc' := 27) dX0_toldAsTurned_26 rfl ?_
      obtain ⟨q9, hq16, h⟩ := am_bd h
      have K : am_E 0 mX0_toldAsTurned (56, [(0, .ref 81), (1, .int x1), (2, .int x2), (3, .int x3)], [.int q9], (sh0, g)) hE r := by
        refine fe_si (pc' := 58) (lo' := [(0, .ref 81), (1, .int x1), (2, .int x2), (3, .int x3), (4, .int q9)]) dX0_toldAsTurned_56 rfl (Nat.le_of_ble_eq_true rfl) rfl ?_
        refine fe_li (pc' := 60) dX0_toldAsTurned_58 rfl rfl ?_
        refine fe_if_eq (pc' := 63) (tgt := 84) dX0_toldAsTurned_60 rfl rfl (fun hc10 => ?_) (fun hc10 => ?_)
        · replace h := (if_pos hc10).symm.trans h
          refine fe_inc (pc' := 87) (lo' := [(0, .ref 81), (1, .int x1), (2, .int x2), (3, .int (x3 + 1)), (4, .int q9)]) dX0_toldAsTurned_84 rfl ic_1 (Nat.le_of_ble_eq_true rfl) rfl rfl ?_
          refine fe_go (tgt := 18) dX0_toldAsTurned_87 rfl ?_
          refine fe_pick [0, 1, 2, 3] rfl ?_
          exact ih g x1 x2 (x3 + 1) q h k1 kr
        · replace h := (if_neg hc10).symm.trans h
          refine fe_lan (pc' := 64) dX0_toldAsTurned_63 rfl rfl ?_
          refine fe_gf (pc' := 67) dX0_toldAsTurned_64 rfl fl_0_37 n_81 gf_81_8 ?_
          refine fe_lin (pc' := 68) dX0_toldAsTurned_67 rfl rfl ?_
          obtain ⟨hi11, h⟩ := am_gd rfl h
          refine fe_al (pc' := 69) (j := x3.toNatClampNeg) dX0_toldAsTurned_68 rfl n_83 s_83 hi11 rfl ?_
          refine fe_lan (pc' := 70) dX0_toldAsTurned_69 rfl rfl ?_
          refine fe_gf (pc' := 73) dX0_toldAsTurned_70 rfl fl_0_37 n_81 gf_81_8 ?_
          refine fe_lin (pc' := 74) dX0_toldAsTurned_73 rfl rfl ?_
          refine fe_ic (pc' := 75) dX0_toldAsTurned_74 rfl ic_1 ?_
          refine fe_isub (pc' := 76) dX0_toldAsTurned_75 rfl ?_
          obtain ⟨hi12, h⟩ := am_gd rfl h
          refine fe_al (pc' := 77) (j := (x3 - 1).toNatClampNeg) dX0_toldAsTurned_76 rfl n_83 s_83 hi12 rfl ?_
          refine fe_ic_ge (pc' := 80) (tgt := 84) dX0_toldAsTurned_77 rfl rfl (fun hc13 => ?_) (fun hc13 => ?_)
          · replace h := (if_pos hc13).symm.trans h
            refine fe_inc (pc' := 87) (lo' := [(0, .ref 81), (1, .int x1), (2, .int x2), (3, .int (x3 + 1)), (4, .int q9)]) dX0_toldAsTurned_84 rfl ic_1 (Nat.le_of_ble_eq_true rfl) rfl rfl ?_
            refine fe_go (tgt := 18) dX0_toldAsTurned_87 rfl ?_
            refine fe_pick [0, 1, 2, 3] rfl ?_
            exact ih g x1 x2 (x3 + 1) q h k1 kr
          · replace h := (if_neg hc13).symm.trans h
            refine fe_lin (pc' := 81) dX0_toldAsTurned_80 rfl rfl ?_
            refine fe_ic (pc' := 82) dX0_toldAsTurned_81 rfl ic_1 ?_
            refine fe_iadd (pc' := 83) dX0_toldAsTurned_82 rfl ?_
            cases h
            obtain ⟨e1, e2⟩ := kr _ rfl
            subst e1; subst e2
            exact fe_ri dX0_toldAsTurned_83 rfl
      replace h := hq16
      refine fe_ic_lt (pc' := 30) (tgt := 51) dX0_toldAsTurned_27 rfl rfl (fun hc4 => ?_) (fun hc4 => ?_)
      · replace h := (if_pos hc4).symm.trans h
        refine fe_ic (pc' := 52) dX0_toldAsTurned_51 rfl ic_1 ?_
        refine fe_go (tgt := 56) dX0_toldAsTurned_52 rfl ?_
        cases h
        exact K
      · replace h := (if_neg hc4).symm.trans h
        refine fe_lan (pc' := 31) dX0_toldAsTurned_30 rfl rfl ?_
        refine fe_gf (pc' := 34) dX0_toldAsTurned_31 rfl fl_0_11 n_81 gf_81_1 ?_
        refine fe_lin (pc' := 35) dX0_toldAsTurned_34 rfl rfl ?_
        refine fe_ic (pc' := 36) dX0_toldAsTurned_35 rfl ic_1 ?_
        refine fe_iadd (pc' := 37) dX0_toldAsTurned_36 rfl ?_
        obtain ⟨hi5, h⟩ := am_gd rfl h
        refine fe_rl (pc' := 38) (b := 85 + 4 * (x1 + 1).toNatClampNeg) dX0_toldAsTurned_37 rfl n_82 s_82 (Or.inl rfl) hi5 (ss_r hi5) (sc_ne (ss_c hi5)) ?_
        refine fe_gf (pc' := 41) dX0_toldAsTurned_38 rfl fl_0_159 (sc_ne (ss_c hi5)) (cg_7 (ss_c hi5)) ?_
        refine fe_lan (pc' := 42) dX0_toldAsTurned_41 rfl rfl ?_
        refine fe_gf (pc' := 45) dX0_toldAsTurned_42 rfl fl_0_37 n_81 gf_81_8 ?_
        refine fe_lin (pc' := 46) dX0_toldAsTurned_45 rfl rfl ?_
        obtain ⟨hi6, h⟩ := am_gd rfl h
        refine fe_al (pc' := 47) (j := x3.toNatClampNeg) dX0_toldAsTurned_46 rfl n_83 s_83 hi6 rfl ?_
        obtain ⟨hi7, h⟩ := am_gd rfl h
        refine fe_al (pc' := 48) (j := (g.1 83 x3.toNatClampNeg).toNatClampNeg) dX0_toldAsTurned_47 rfl (sc_n2 (ss_c hi5)) (sc_2 (ss_c hi5)) hi7 rfl ?_
        refine fe_if_ne (pc' := 51) (tgt := 55) dX0_toldAsTurned_48 rfl rfl (fun hc8 => ?_) (fun hc8 => ?_)
        · replace h := (if_pos hc8).symm.trans h
          refine fe_ic (pc' := 52) dX0_toldAsTurned_51 rfl ic_1 ?_
          refine fe_go (tgt := 56) dX0_toldAsTurned_52 rfl ?_
          cases h
          exact K
        · replace h := (if_neg hc8).symm.trans h
          refine fe_ic (pc' := 56) dX0_toldAsTurned_55 rfl ic_0 ?_
          cases h
          exact K
set_option maxRecDepth 4000 in
theorem ev_Ah_toldAsTurned {g : am_G} {x1 : Int32} {w : Int32} (h : Ah_toldAsTurned g x1 = some w) : am_Ev 1 11 [.ref 81, .int x1] (sh0, g) (sh0, g) (some (.int w)) := by
  unfold Ah_toldAsTurned at h
  refine am_ev mX0_toldAsTurned (by rfl) (Nat.le_of_ble_eq_true rfl) [(0, .ref 81), (1, .int x1)] rfl ?_
  refine fe_lan (pc' := 1) dX0_toldAsTurned_0 rfl rfl ?_
  refine fe_gf (pc' := 4) dX0_toldAsTurned_1 rfl fl_0_44 n_81 gf_81_10 ?_
  refine fe_lin (pc' := 5) dX0_toldAsTurned_4 rfl rfl ?_
  refine fe_ic (pc' := 6) dX0_toldAsTurned_5 rfl ic_1 ?_
  refine fe_iadd (pc' := 7) dX0_toldAsTurned_6 rfl ?_
  obtain ⟨hi1, h⟩ := am_gd rfl h
  refine fe_al (pc' := 8) (j := (x1 + 1).toNatClampNeg) dX0_toldAsTurned_7 rfl n_84 s_84 hi1 rfl ?_
  refine fe_sin (pc' := 9) (lo' := [(0, .ref 81), (1, .int x1), (2, .int (g.1 84 (x1 + 1).toNatClampNeg))]) dX0_toldAsTurned_8 rfl (Nat.le_of_ble_eq_true rfl) rfl ?_
  refine fe_lan (pc' := 10) dX0_toldAsTurned_9 rfl rfl ?_
  refine fe_gf (pc' := 13) dX0_toldAsTurned_10 rfl fl_0_44 n_81 gf_81_10 ?_
  refine fe_lin (pc' := 14) dX0_toldAsTurned_13 rfl rfl ?_
  obtain ⟨hi2, h⟩ := am_gd rfl h
  refine fe_al (pc' := 15) (j := x1.toNatClampNeg) dX0_toldAsTurned_14 rfl n_84 s_84 hi2 rfl ?_
  refine fe_ic (pc' := 16) dX0_toldAsTurned_15 rfl ic_1 ?_
  refine fe_iadd (pc' := 17) dX0_toldAsTurned_16 rfl ?_
  refine fe_sin (pc' := 18) (lo' := [(0, .ref 81), (1, .int x1), (2, .int (g.1 84 (x1 + 1).toNatClampNeg)), (3, .int ((g.1 84 x1.toNatClampNeg) + 1))]) dX0_toldAsTurned_17 rfl (Nat.le_of_ble_eq_true rfl) rfl ?_
  obtain ⟨q14, hq17, h⟩ := am_bd h
  refine lp_Ah_toldAsTurned_L18 _ g x1 (g.1 84 (x1 + 1).toNatClampNeg) ((g.1 84 x1.toNatClampNeg) + 1) q14 hq17 (fun w15 e => ?_) (fun w e => ?_)
  · subst e
    replace h : _ = _ := h
    refine fe_ic (pc' := 91) dX0_toldAsTurned_90 rfl ic_0 ?_
    cases h
    exact fe_ri dX0_toldAsTurned_91 rfl
  · subst e
    cases h
    exact ⟨rfl, rfl⟩
-- Ah_followRow: X0_followRow
set_option maxRecDepth 4000 in
theorem lp_Ah_followRow_L25 {hE : am_H} {r : Option Value} : ∀ (n : Nat) (g : am_G) (x2 : Int32) (x3 : Int32) (q : ((am_G) ⊕ (am_G × Int32))), Ah_followRow_L25 n g x2 x3 = some q → (∀ w, q = .inl w → am_E 4 mX0_followRow (165, [(0, .ref 81)], [], (sh0, w)) hE r) → (∀ w, q = .inr w → hE = (sh0, w.1) ∧ r = some (.int w.2)) → am_E 4 mX0_followRow (25, [(0, .ref 81), (2, .int x2), (3, .int x3)], [], (sh0, g)) hE r := by
  intro n
  induction n with
  | zero => intro g x2 x3 q h; cases h
  | succ n ih =>
    intro g x2 x3 q h k1 kr
    replace h : _ = _ := h
    unfold Ah_followRow_L25 at h
    refine fe_lin (pc' := 26) dX0_followRow_25 rfl rfl ?_
    refine fe_lin (pc' := 27) dX0_followRow_26 rfl rfl ?_
    refine fe_ic_ge (pc' := 30) (tgt := 165) dX0_followRow_27 rfl rfl (fun hc1 => ?_) (fun hc1 => ?_)
    · replace h := (if_pos hc1).symm.trans h
      refine fe_pick [0] rfl ?_
      cases h
      exact k1 _ rfl
    · replace h := (if_neg hc1).symm.trans h
      refine fe_lan (pc' := 31) dX0_followRow_30 rfl rfl ?_
      refine fe_gf (pc' := 34) dX0_followRow_31 rfl fl_0_11 n_81 gf_81_1 ?_
      refine fe_lin (pc' := 35) dX0_followRow_34 rfl rfl ?_
      refine fe_ic (pc' := 36) dX0_followRow_35 rfl ic_1 ?_
      refine fe_iadd (pc' := 37) dX0_followRow_36 rfl ?_
      obtain ⟨hi2, h⟩ := am_gd rfl h
      refine fe_rl (pc' := 38) (b := 85 + 4 * (x3 + 1).toNatClampNeg) dX0_followRow_37 rfl n_82 s_82 (Or.inl rfl) hi2 (ss_r hi2) (sc_ne (ss_c hi2)) ?_
      refine fe_sa (pc' := 40) (lo' := [(0, .ref 81), (2, .int x2), (3, .int x3), (4, .ref (85 + 4 * (x3 + 1).toNatClampNeg))]) dX0_followRow_38 rfl (Nat.le_of_ble_eq_true rfl) rfl ?_
      refine fe_la (pc' := 42) dX0_followRow_40 rfl rfl ?_
      refine fe_lan (pc' := 43) dX0_followRow_42 rfl rfl ?_
      refine fe_gf (pc' := 46) dX0_followRow_43 rfl fl_0_11 n_81 gf_81_1 ?_
      refine fe_lin (pc' := 47) dX0_followRow_46 rfl rfl ?_
      obtain ⟨hi3, h⟩ := am_gd rfl h
      refine fe_rl (pc' := 48) (b := 85 + 4 * x3.toNatClampNeg) dX0_followRow_47 rfl n_82 s_82 (Or.inl rfl) hi3 (ss_r hi3) (sc_ne (ss_c hi3)) ?_
      obtain ⟨q4, hq5, h⟩ := am_bd h
      refine fe_iv (pc' := 51) (as := [.ref (85 + 4 * (x3 + 1).toNatClampNeg), .ref (85 + 4 * x3.toNatClampNeg)]) (h1 := (sh0, q4)) (r1 := none) (st' := []) dX0_followRow_48 rfl cl_0_54 rfl rfl (sc_o (ss_c hi2)) ms_24 ⟨(sc_ne (ss_c hi2)), rfl, by decide, Nat.le_of_ble_eq_true rfl, Nat.le_of_ble_eq_true rfl⟩ (am_le0 _ _ _) (am_up (by decide) (ev_Ca_copyFrom (ss_c hi2) (ss_c hi3) hq5)) rfl ?_
      refine fe_lan (pc' := 52) dX0_followRow_51 rfl rfl ?_
      refine fe_gf (pc' := 55) dX0_followRow_52 rfl fl_0_47 n_81 gf_81_0 ?_
      refine fe_la (pc' := 57) dX0_followRow_55 rfl rfl ?_
      refine fe_gf (pc' := 60) dX0_followRow_57 rfl fl_0_68 (sc_ne (ss_c hi2)) (cg_1 (ss_c hi2)) ?_
      obtain ⟨q6, hq7, h⟩ := am_bd h
      refine fe_iv (pc' := 63) (as := [.ref 3, .int (q4.1 (85 + 4 * (x3 + 1).toNatClampNeg) 1)]) (h1 := (sh0, q4)) (r1 := some (.int (am_b q6))) (st' := [.int (am_b q6)]) dX0_followRow_60 rfl cl_0_76 rfl rfl s_3 ms_61 ⟨n_3, rfl, by decide, Nat.le_of_ble_eq_true rfl, Nat.le_of_ble_eq_true rfl⟩ (am_le0 _ _ _) (am_up (by decide) (ev_Ta_rains hq7)) rfl ?_
      refine fe_si (pc' := 65) (lo' := [(0, .ref 81), (2, .int x2), (3, .int x3), (4, .ref (85 + 4 * (x3 + 1).toNatClampNeg)), (5, .int (am_b q6))]) dX0_followRow_63 rfl (Nat.le_of_ble_eq_true rfl) rfl ?_
      refine fe_la (pc' := 67) dX0_followRow_65 rfl rfl ?_
      refine fe_li (pc' := 69) dX0_followRow_67 rfl rfl ?_
      obtain ⟨q8, hq9, h⟩ := am_bd h
      refine fe_iv (pc' := 72) (as := [.ref (85 + 4 * (x3 + 1).toNatClampNeg), .int (am_b q6)]) (h1 := (sh0, q8)) (r1 := none) (st' := []) dX0_followRow_69 rfl cl_0_140 rfl rfl (sc_o (ss_c hi2)) ms_41 ⟨(sc_ne (ss_c hi2)), rfl, by decide, Nat.le_of_ble_eq_true rfl, Nat.le_of_ble_eq_true rfl⟩ (am_le0 _ _ _) (am_up (by decide) (ev_Ca_march (ss_c hi2) hq9)) rfl ?_
      refine fe_la (pc' := 74) dX0_followRow_72 rfl rfl ?_
      refine fe_gf (pc' := 77) dX0_followRow_74 rfl fl_0_58 (sc_ne (ss_c hi2)) (cg_2 (ss_c hi2)) ?_
      refine fe_lan (pc' := 78) dX0_followRow_77 rfl rfl ?_
      refine fe_gf (pc' := 81) dX0_followRow_78 rfl fl_0_34 n_81 gf_81_7 ?_
      refine fe_ic_ge (pc' := 84) (tgt := 91) dX0_followRow_81 rfl rfl (fun hc10 => ?_) (fun hc10 => ?_)
      · replace h := (if_pos hc10).symm.trans h
        refine fe_lan (pc' := 92) dX0_followRow_91 rfl rfl ?_
        refine fe_la (pc' := 94) dX0_followRow_92 rfl rfl ?_
        refine fe_gf (pc' := 97) dX0_followRow_94 rfl fl_0_58 (sc_ne (ss_c hi2)) (cg_2 (ss_c hi2)) ?_
        obtain ⟨q11, hq12, h⟩ := am_bd h
        refine fe_iv (pc' := 100) (as := [.ref 81, .int (q8.1 (85 + 4 * (x3 + 1).toNatClampNeg) 2)]) (h1 := (sh0, q11)) (r1 := none) (st' := []) dX0_followRow_97 rfl cl_0_143 rfl rfl s_81 ms_12 ⟨n_81, rfl, by decide, Nat.le_of_ble_eq_true rfl, Nat.le_of_ble_eq_true rfl⟩ (am_le0 _ _ _) (am_up (by decide) (ev_Ah_judge hq12)) rfl ?_
        refine fe_lan (pc' := 101) dX0_followRow_100 rfl rfl ?_
        refine fe_gf (pc' := 104) dX0_followRow_101 rfl fl_0_44 n_81 gf_81_10 ?_
        refine fe_lin (pc' := 105) dX0_followRow_104 rfl rfl ?_
        refine fe_al (pc' := 106) (j := x3.toNatClampNeg) dX0_followRow_105 rfl n_84 s_84 hi3 rfl ?_
        cases h
        obtain ⟨e1, e2⟩ := kr _ rfl
        subst e1; subst e2
        exact fe_ri dX0_followRow_106 rfl
      · replace h := (if_neg hc10).symm.trans h
        refine fe_lin (pc' := 85) dX0_followRow_84 rfl rfl ?_
        refine fe_lin (pc' := 86) dX0_followRow_85 rfl rfl ?_
        refine fe_ic (pc' := 87) dX0_followRow_86 rfl ic_1 ?_
        refine fe_isub (pc' := 88) dX0_followRow_87 rfl ?_
        refine fe_ic_ne (pc' := 91) (tgt := 107) dX0_followRow_88 rfl rfl (fun hc13 => ?_) (fun hc13 => ?_)
        · replace h := (if_pos hc13).symm.trans h
          refine fe_lan (pc' := 92) dX0_followRow_91 rfl rfl ?_
          refine fe_la (pc' := 94) dX0_followRow_92 rfl rfl ?_
          refine fe_gf (pc' := 97) dX0_followRow_94 rfl fl_0_58 (sc_ne (ss_c hi2)) (cg_2 (ss_c hi2)) ?_
          obtain ⟨q14, hq15, h⟩ := am_bd h
          refine fe_iv (pc' := 100) (as := [.ref 81, .int (q8.1 (85 + 4 * (x3 + 1).toNatClampNeg) 2)]) (h1 := (sh0, q14)) (r1 := none) (st' := []) dX0_followRow_97 rfl cl_0_143 rfl rfl s_81 ms_12 ⟨n_81, rfl, by decide, Nat.le_of_ble_eq_true rfl, Nat.le_of_ble_eq_true rfl⟩ (am_le0 _ _ _) (am_up (by decide) (ev_Ah_judge hq15)) rfl ?_
          refine fe_lan (pc' := 101) dX0_followRow_100 rfl rfl ?_
          refine fe_gf (pc' := 104) dX0_followRow_101 rfl fl_0_44 n_81 gf_81_10 ?_
          refine fe_lin (pc' := 105) dX0_followRow_104 rfl rfl ?_
          refine fe_al (pc' := 106) (j := x3.toNatClampNeg) dX0_followRow_105 rfl n_84 s_84 hi3 rfl ?_
          cases h
          obtain ⟨e1, e2⟩ := kr _ rfl
          subst e1; subst e2
          exact fe_ri dX0_followRow_106 rfl
        · replace h := (if_neg hc13).symm.trans h
          refine fe_lan (pc' := 108) dX0_followRow_107 rfl rfl ?_
          refine fe_gf (pc' := 111) dX0_followRow_108 rfl fl_0_44 n_81 gf_81_10 ?_
          refine fe_lin (pc' := 112) dX0_followRow_111 rfl rfl ?_
          refine fe_ic (pc' := 113) dX0_followRow_112 rfl ic_1 ?_
          refine fe_iadd (pc' := 114) dX0_followRow_113 rfl ?_
          refine fe_lan (pc' := 115) dX0_followRow_114 rfl rfl ?_
          refine fe_gf (pc' := 118) dX0_followRow_115 rfl fl_0_44 n_81 gf_81_10 ?_
          refine fe_lin (pc' := 119) dX0_followRow_118 rfl rfl ?_
          refine fe_al (pc' := 120) (j := x3.toNatClampNeg) dX0_followRow_119 rfl n_84 s_84 hi3 rfl ?_
          refine fe_la (pc' := 122) dX0_followRow_120 rfl rfl ?_
          refine fe_lan (pc' := 123) dX0_followRow_122 rfl rfl ?_
          refine fe_gf (pc' := 126) dX0_followRow_123 rfl fl_0_37 n_81 gf_81_8 ?_
          refine fe_lan (pc' := 127) dX0_followRow_126 rfl rfl ?_
          refine fe_gf (pc' := 130) dX0_followRow_127 rfl fl_0_41 n_81 gf_81_9 ?_
          obtain ⟨q16, hq17, h⟩ := am_bd h
          refine fe_iv (pc' := 133) (as := [.ref (85 + 4 * (x3 + 1).toNatClampNeg), .ref 83, .int (q8.1 81 9)]) (h1 := (sh0, q16.1)) (r1 := some (.int q16.2)) (st' := [.int q16.2, .int (q8.1 84 x3.toNatClampNeg), .int (x3 + 1), .ref 84]) dX0_followRow_130 rfl cl_0_146 rfl rfl (sc_o (ss_c hi2)) ms_44 ⟨(sc_ne (ss_c hi2)), rfl, by decide, Nat.le_of_ble_eq_true rfl, Nat.le_of_ble_eq_true rfl⟩ (am_le0 _ _ _) (am_up (by decide) (ev_Ca_feed_r (ss_c hi2) hq17)) rfl ?_
          refine fe_mx (pc' := 136) dX0_followRow_133 rfl cl_0_150 (Nat.le_of_ble_eq_true rfl) ?_
          refine fe_as (pc' := 137) (j := (x3 + 1).toNatClampNeg) dX0_followRow_136 rfl n_84 s_84 hi2 rfl ?_
          refine fe_lan (pc' := 138) dX0_followRow_137 rfl rfl ?_
          refine fe_lin (pc' := 139) dX0_followRow_138 rfl rfl ?_
          obtain ⟨q18, hq19, h⟩ := am_bd h
          refine fe_iv (pc' := 142) (as := [.ref 81, .int x3]) (h1 := (sh0, am_wr q16.1 84 (x3 + 1).toNatClampNeg (am_mx (q8.1 84 x3.toNatClampNeg) q16.2))) (r1 := some (.int q18)) (st' := [.int q18]) dX0_followRow_139 rfl cl_0_153 rfl rfl s_81 ms_11 ⟨n_81, rfl, by decide, Nat.le_of_ble_eq_true rfl, Nat.le_of_ble_eq_true rfl⟩ (am_le0 _ _ _) (am_up (by decide) (ev_Ah_toldAsTurned hq19)) rfl ?_
          refine fe_si (pc' := 144) (lo' := [(0, .ref 81), (2, .int x2), (3, .int x3), (4, .ref (85 + 4 * (x3 + 1).toNatClampNeg)), (5, .int (am_b q6)), (6, .int q18)]) dX0_followRow_142 rfl (Nat.le_of_ble_eq_true rfl) rfl ?_
          refine fe_li (pc' := 146) dX0_followRow_144 rfl rfl ?_
          refine fe_if_le (pc' := 149) (tgt := 152) dX0_followRow_146 rfl rfl (fun hc20 => ?_) (fun hc20 => ?_)
          · replace h := (if_pos hc20).symm.trans h
            refine fe_la (pc' := 154) dX0_followRow_152 rfl rfl ?_
            refine fe_li (pc' := 156) dX0_followRow_154 rfl rfl ?_
            obtain ⟨q21, hq22, h⟩ := am_bd h
            refine fe_iv (pc' := 159) (as := [.ref (85 + 4 * (x3 + 1).toNatClampNeg), .int (am_b q6)]) (h1 := (sh0, q21)) (r1 := none) (st' := []) dX0_followRow_156 rfl cl_0_156 rfl rfl (sc_o (ss_c hi2)) ms_45 ⟨(sc_ne (ss_c hi2)), rfl, by decide, Nat.le_of_ble_eq_true rfl, Nat.le_of_ble_eq_true rfl⟩ (am_le0 _ _ _) (am_up (by decide) (ev_Ca_settle (ss_c hi2) hq22)) rfl ?_
            refine fe_inc (pc' := 162) (lo' := [(0, .ref 81), (2, .int x2), (3, .int (x3 + 1)), (4, .ref (85 + 4 * (x3 + 1).toNatClampNeg)), (5, .int (am_b q6)), (6, .int q18)]) dX0_followRow_159 rfl ic_1 (Nat.le_of_ble_eq_true rfl) rfl rfl ?_
            refine fe_go (tgt := 25) dX0_followRow_162 rfl ?_
            refine fe_pick [0, 1, 2] rfl ?_
            exact ih q21 x2 (x3 + 1) q h k1 kr
          · replace h := (if_neg hc20).symm.trans h
            refine fe_li (pc' := 151) dX0_followRow_149 rfl rfl ?_
            cases h
            obtain ⟨e1, e2⟩ := kr _ rfl
            subst e1; subst e2
            exact fe_ri dX0_followRow_151 rfl
set_option maxRecDepth 4000 in
theorem ev_Ah_followRow {g : am_G} {x1 : Int32} {w : (am_G × Int32)} (h : Ah_followRow g x1 = some w) : am_Ev 5 10 [.ref 81, .int x1] (sh0, g) (sh0, w.1) (some (.int w.2)) := by
  unfold Ah_followRow at h
  refine am_ev mX0_followRow (by rfl) (Nat.le_of_ble_eq_true rfl) [(0, .ref 81), (1, .int x1)] rfl ?_
  refine fe_bp (pc' := 2) dX0_followRow_0 rfl ib_8 ?_
  refine fe_lan (pc' := 3) dX0_followRow_2 rfl rfl ?_
  refine fe_gf (pc' := 6) dX0_followRow_3 rfl fl_0_47 n_81 gf_81_0 ?_
  refine fe_gf (pc' := 9) dX0_followRow_6 rfl fl_0_71 n_3 gf_3_9 ?_
  refine fe_lan (pc' := 10) dX0_followRow_9 rfl rfl ?_
  refine fe_gf (pc' := 13) dX0_followRow_10 rfl fl_0_11 n_81 gf_81_1 ?_
  refine fe_ic (pc' := 14) dX0_followRow_13 rfl ic_0 ?_
  refine fe_rl (pc' := 15) (b := 85) dX0_followRow_14 rfl n_82 s_82 (Or.inl rfl) (by decide : am_in 0 9 = true) (by decide) (sc_ne sc_85) ?_
  refine fe_gf (pc' := 18) dX0_followRow_15 rfl fl_0_68 (sc_ne sc_85) (cg_1 sc_85) ?_
  refine fe_isub (pc' := 19) dX0_followRow_18 rfl ?_
  refine fe_mn (pc' := 22) dX0_followRow_19 rfl cl_0_135 (Nat.le_of_ble_eq_true rfl) ?_
  refine fe_sin (pc' := 23) (lo' := [(0, .ref 81), (1, .int x1), (2, .int (am_mn 8 ((g.1 3 9) - (g.1 85 1))))]) dX0_followRow_22 rfl (Nat.le_of_ble_eq_true rfl) rfl ?_
  refine fe_lin (pc' := 24) dX0_followRow_23 rfl rfl ?_
  refine fe_sin (pc' := 25) (lo' := [(0, .ref 81), (1, .int x1), (2, .int (am_mn 8 ((g.1 3 9) - (g.1 85 1)))), (3, .int x1)]) dX0_followRow_24 rfl (Nat.le_of_ble_eq_true rfl) rfl ?_
  obtain ⟨q23, hq27, h⟩ := am_bd h
  refine fe_pick [0, 2, 3] rfl ?_
  refine lp_Ah_followRow_L25 _ g (am_mn 8 ((g.1 3 9) - (g.1 85 1))) x1 q23 hq27 (fun w24 e => ?_) (fun w e => ?_)
  · subst e
    replace h : _ = _ := h
    refine fe_lan (pc' := 166) dX0_followRow_165 rfl rfl ?_
    refine fe_ic (pc' := 167) dX0_followRow_166 rfl ic_0 ?_
    obtain ⟨q25, hq26, h⟩ := am_bd h
    refine fe_iv (pc' := 170) (as := [.ref 81, .int 0]) (h1 := (sh0, q25)) (r1 := none) (st' := []) dX0_followRow_167 rfl cl_0_143 rfl rfl s_81 ms_12 ⟨n_81, rfl, by decide, Nat.le_of_ble_eq_true rfl, Nat.le_of_ble_eq_true rfl⟩ (am_le0 _ _ _) (am_up (by decide) (ev_Ah_judge hq26)) rfl ?_
    refine fe_ic (pc' := 171) dX0_followRow_170 rfl ic_0 ?_
    cases h
    exact fe_ri dX0_followRow_171 rfl
  · subst e
    cases h
    exact ⟨rfl, rfl⟩
-- Ah_placeOfNextAbove: X0_placeOfNextAbove
set_option maxRecDepth 4000 in
theorem lp_Ah_placeOfNextAbove_L6 {hE : am_H} {r : Option Value} : ∀ (n : Nat) (g : am_G) (x1 : Int32) (x2 : Int32) (x3 : Int32) (w : Int32), Ah_placeOfNextAbove_L6 n g x1 x2 x3 = some w → am_E 0 mX0_placeOfNextAbove (56, [(2, .int w)], [], (sh0, g)) hE r → am_E 0 mX0_placeOfNextAbove (6, [(0, .ref 81), (1, .int x1), (2, .int x2), (3, .int x3)], [], (sh0, g)) hE r := by
  intro n
  induction n with
  | zero => intro g x1 x2 x3 q h; cases h
  | succ n ih =>
    intro g x1 x2 x3 q h k1
    replace h : _ = _ := h
    unfold Ah_placeOfNextAbove_L6 at h
    refine fe_lin (pc' := 7) dX0_placeOfNextAbove_6 rfl rfl ?_
    refine fe_lan (pc' := 8) dX0_placeOfNextAbove_7 rfl rfl ?_
    refine fe_gf (pc' := 11) dX0_placeOfNextAbove_8 rfl fl_0_41 n_81 gf_81_9 ?_
    refine fe_ic_ge (pc' := 14) (tgt := 56) dX0_placeOfNextAbove_11 rfl rfl (fun hc1 => ?_) (fun hc1 => ?_)
    · replace h := (if_pos hc1).symm.trans h
      refine fe_pick [2] rfl ?_
      cases h
      exact k1
    · replace h := (if_neg hc1).symm.trans h
      refine fe_lan (pc' := 15) dX0_placeOfNextAbove_14 rfl rfl ?_
      refine fe_gf (pc' := 18) dX0_placeOfNextAbove_15 rfl fl_0_37 n_81 gf_81_8 ?_
      refine fe_lin (pc' := 19) dX0_placeOfNextAbove_18 rfl rfl ?_
      obtain ⟨hi2, h⟩ := am_gd rfl h
      refine fe_al (pc' := 20) (j := x3.toNatClampNeg) dX0_placeOfNextAbove_19 rfl n_83 s_83 hi2 rfl ?_
      refine fe_lan (pc' := 21) dX0_placeOfNextAbove_20 rfl rfl ?_
      refine fe_gf (pc' := 24) dX0_placeOfNextAbove_21 rfl fl_0_37 n_81 gf_81_8 ?_
      refine fe_lin (pc' := 25) dX0_placeOfNextAbove_24 rfl rfl ?_
      obtain ⟨hi3, h⟩ := am_gd rfl h
      refine fe_al (pc' := 26) (j := x1.toNatClampNeg) dX0_placeOfNextAbove_25 rfl n_83 s_83 hi3 rfl ?_
      obtain ⟨q8, hq10, h⟩ := am_bd h
      have K : am_E 0 mX0_placeOfNextAbove (50, [(0, .ref 81), (1, .int x1), (2, .int q8), (3, .int x3)], [], (sh0, g)) hE r := by
        refine fe_inc (pc' := 53) (lo' := [(0, .ref 81), (1, .int x1), (2, .int q8), (3, .int (x3 + 1))]) dX0_placeOfNextAbove_50 rfl ic_1 (Nat.le_of_ble_eq_true rfl) rfl rfl ?_
        refine fe_go (tgt := 6) dX0_placeOfNextAbove_53 rfl ?_
        exact ih g x1 q8 (x3 + 1) q h k1
      replace h := hq10
      refine fe_ic_le (pc' := 29) (tgt := 50) dX0_placeOfNextAbove_26 rfl rfl (fun hc4 => ?_) (fun hc4 => ?_)
      · replace h := (if_pos hc4).symm.trans h
        cases h
        exact K
      · replace h := (if_neg hc4).symm.trans h
        refine fe_lin (pc' := 30) dX0_placeOfNextAbove_29 rfl rfl ?_
        refine fe_if_lt (pc' := 33) (tgt := 48) dX0_placeOfNextAbove_30 rfl rfl (fun hc5 => ?_) (fun hc5 => ?_)
        · replace h := (if_pos hc5).symm.trans h
          refine fe_lin (pc' := 49) dX0_placeOfNextAbove_48 rfl rfl ?_
          refine fe_sin (pc' := 50) (lo' := [(0, .ref 81), (1, .int x1), (2, .int x3), (3, .int x3)]) dX0_placeOfNextAbove_49 rfl (Nat.le_of_ble_eq_true rfl) rfl ?_
          cases h
          exact K
        · replace h := (if_neg hc5).symm.trans h
          refine fe_lan (pc' := 34) dX0_placeOfNextAbove_33 rfl rfl ?_
          refine fe_gf (pc' := 37) dX0_placeOfNextAbove_34 rfl fl_0_37 n_81 gf_81_8 ?_
          refine fe_lin (pc' := 38) dX0_placeOfNextAbove_37 rfl rfl ?_
          refine fe_al (pc' := 39) (j := x3.toNatClampNeg) dX0_placeOfNextAbove_38 rfl n_83 s_83 hi2 rfl ?_
          refine fe_lan (pc' := 40) dX0_placeOfNextAbove_39 rfl rfl ?_
          refine fe_gf (pc' := 43) dX0_placeOfNextAbove_40 rfl fl_0_37 n_81 gf_81_8 ?_
          refine fe_lin (pc' := 44) dX0_placeOfNextAbove_43 rfl rfl ?_
          obtain ⟨hi6, h⟩ := am_gd rfl h
          refine fe_al (pc' := 45) (j := x2.toNatClampNeg) dX0_placeOfNextAbove_44 rfl n_83 s_83 hi6 rfl ?_
          refine fe_ic_ge (pc' := 48) (tgt := 50) dX0_placeOfNextAbove_45 rfl rfl (fun hc7 => ?_) (fun hc7 => ?_)
          · replace h := (if_pos hc7).symm.trans h
            cases h
            exact K
          · replace h := (if_neg hc7).symm.trans h
            refine fe_lin (pc' := 49) dX0_placeOfNextAbove_48 rfl rfl ?_
            refine fe_sin (pc' := 50) (lo' := [(0, .ref 81), (1, .int x1), (2, .int x3), (3, .int x3)]) dX0_placeOfNextAbove_49 rfl (Nat.le_of_ble_eq_true rfl) rfl ?_
            cases h
            exact K
set_option maxRecDepth 4000 in
theorem ev_Ah_placeOfNextAbove {g : am_G} {x1 : Int32} {w : Int32} (h : Ah_placeOfNextAbove g x1 = some w) : am_Ev 1 14 [.ref 81, .int x1] (sh0, g) (sh0, g) (some (.int w)) := by
  unfold Ah_placeOfNextAbove at h
  refine am_ev mX0_placeOfNextAbove (by rfl) (Nat.le_of_ble_eq_true rfl) [(0, .ref 81), (1, .int x1)] rfl ?_
  refine fe_ic (pc' := 1) dX0_placeOfNextAbove_0 rfl ic_m1 ?_
  refine fe_sin (pc' := 2) (lo' := [(0, .ref 81), (1, .int x1), (2, .int (-1))]) dX0_placeOfNextAbove_1 rfl (Nat.le_of_ble_eq_true rfl) rfl ?_
  refine fe_lin (pc' := 3) dX0_placeOfNextAbove_2 rfl rfl ?_
  refine fe_ic (pc' := 4) dX0_placeOfNextAbove_3 rfl ic_1 ?_
  refine fe_iadd (pc' := 5) dX0_placeOfNextAbove_4 rfl ?_
  refine fe_sin (pc' := 6) (lo' := [(0, .ref 81), (1, .int x1), (2, .int (-1)), (3, .int (x1 + 1))]) dX0_placeOfNextAbove_5 rfl (Nat.le_of_ble_eq_true rfl) rfl ?_
  obtain ⟨q9, hq11, h⟩ := am_bd h
  refine lp_Ah_placeOfNextAbove_L6 _ g x1 (-1) (x1 + 1) q9 hq11 ?_
  refine fe_lin (pc' := 57) dX0_placeOfNextAbove_56 rfl rfl ?_
  cases h
  exact fe_ri dX0_placeOfNextAbove_57 rfl
-- Ah_swap: X0_swap
set_option maxRecDepth 4000 in
theorem ev_Ah_swap {g : am_G} {x1 x2 : Int32} {w : am_G} (h : Ah_swap g x1 x2 = some w) : am_Ev 1 16 [.ref 81, .int x1, .int x2] (sh0, g) (sh0, w) (none) := by
  unfold Ah_swap at h
  refine am_ev mX0_swap (by rfl) (Nat.le_of_ble_eq_true rfl) [(0, .ref 81), (1, .int x1), (2, .int x2)] rfl ?_
  refine fe_lan (pc' := 1) dX0_swap_0 rfl rfl ?_
  refine fe_gf (pc' := 4) dX0_swap_1 rfl fl_0_37 n_81 gf_81_8 ?_
  refine fe_lin (pc' := 5) dX0_swap_4 rfl rfl ?_
  obtain ⟨hi1, h⟩ := am_gd rfl h
  refine fe_al (pc' := 6) (j := x1.toNatClampNeg) dX0_swap_5 rfl n_83 s_83 hi1 rfl ?_
  refine fe_sin (pc' := 7) (lo' := [(0, .ref 81), (1, .int x1), (2, .int x2), (3, .int (g.1 83 x1.toNatClampNeg))]) dX0_swap_6 rfl (Nat.le_of_ble_eq_true rfl) rfl ?_
  refine fe_lan (pc' := 8) dX0_swap_7 rfl rfl ?_
  refine fe_gf (pc' := 11) dX0_swap_8 rfl fl_0_37 n_81 gf_81_8 ?_
  refine fe_lin (pc' := 12) dX0_swap_11 rfl rfl ?_
  refine fe_lan (pc' := 13) dX0_swap_12 rfl rfl ?_
  refine fe_gf (pc' := 16) dX0_swap_13 rfl fl_0_37 n_81 gf_81_8 ?_
  refine fe_lin (pc' := 17) dX0_swap_16 rfl rfl ?_
  obtain ⟨hi2, h⟩ := am_gd rfl h
  refine fe_al (pc' := 18) (j := x2.toNatClampNeg) dX0_swap_17 rfl n_83 s_83 hi2 rfl ?_
  refine fe_as (pc' := 19) (j := x1.toNatClampNeg) dX0_swap_18 rfl n_83 s_83 hi1 rfl ?_
  refine fe_lan (pc' := 20) dX0_swap_19 rfl rfl ?_
  refine fe_gf (pc' := 23) dX0_swap_20 rfl fl_0_37 n_81 gf_81_8 ?_
  refine fe_lin (pc' := 24) dX0_swap_23 rfl rfl ?_
  refine fe_lin (pc' := 25) dX0_swap_24 rfl rfl ?_
  refine fe_as (pc' := 26) (j := x2.toNatClampNeg) dX0_swap_25 rfl n_83 s_83 hi2 rfl ?_
  cases h
  exact fe_rv dX0_swap_26 rfl
-- Ah_sortFrom: X0_sortFrom
set_option maxRecDepth 4000 in
theorem lp_Ah_sortFrom_L14 {hE : am_H} {r : Option Value} : ∀ (n : Nat) (g : am_G) (x2 : Int32) (x3 : Int32) (w : am_G), Ah_sortFrom_L14 n g x2 x3 = some w → am_E 1 mX0_sortFrom (49, [(0, .ref 81), (2, .int x2)], [], (sh0, w)) hE r → am_E 1 mX0_sortFrom (14, [(0, .ref 81), (2, .int x2), (3, .int x3)], [], (sh0, g)) hE r := by
  intro n
  induction n with
  | zero => intro g x2 x3 q h; cases h
  | succ n ih =>
    intro g x2 x3 q h k1
    replace h : _ = _ := h
    unfold Ah_sortFrom_L14 at h
    refine fe_lin (pc' := 15) dX0_sortFrom_14 rfl rfl ?_
    refine fe_lan (pc' := 16) dX0_sortFrom_15 rfl rfl ?_
    refine fe_gf (pc' := 19) dX0_sortFrom_16 rfl fl_0_41 n_81 gf_81_9 ?_
    refine fe_ic_ge (pc' := 22) (tgt := 49) dX0_sortFrom_19 rfl rfl (fun hc2 => ?_) (fun hc2 => ?_)
    · replace h := (if_pos hc2).symm.trans h
      refine fe_pick [0, 1] rfl ?_
      cases h
      exact k1
    · replace h := (if_neg hc2).symm.trans h
      refine fe_lan (pc' := 23) dX0_sortFrom_22 rfl rfl ?_
      refine fe_gf (pc' := 26) dX0_sortFrom_23 rfl fl_0_37 n_81 gf_81_8 ?_
      refine fe_lin (pc' := 27) dX0_sortFrom_26 rfl rfl ?_
      obtain ⟨hi3, h⟩ := am_gd rfl h
      refine fe_al (pc' := 28) (j := x3.toNatClampNeg) dX0_sortFrom_27 rfl n_83 s_83 hi3 rfl ?_
      refine fe_lan (pc' := 29) dX0_sortFrom_28 rfl rfl ?_
      refine fe_gf (pc' := 32) dX0_sortFrom_29 rfl fl_0_37 n_81 gf_81_8 ?_
      refine fe_lin (pc' := 33) dX0_sortFrom_32 rfl rfl ?_
      obtain ⟨hi4, h⟩ := am_gd rfl h
      refine fe_al (pc' := 34) (j := x2.toNatClampNeg) dX0_sortFrom_33 rfl n_83 s_83 hi4 rfl ?_
      obtain ⟨q8, hq11, h⟩ := am_bd h
      have K : am_E 1 mX0_sortFrom (43, [(0, .ref 81), (2, .int x2), (3, .int x3)], [], (sh0, q8)) hE r := by
        refine fe_inc (pc' := 46) (lo' := [(0, .ref 81), (2, .int x2), (3, .int (x3 + 1))]) dX0_sortFrom_43 rfl ic_1 (Nat.le_of_ble_eq_true rfl) rfl rfl ?_
        refine fe_go (tgt := 14) dX0_sortFrom_46 rfl ?_
        exact ih q8 x2 (x3 + 1) q h k1
      replace h := hq11
      refine fe_ic_ge (pc' := 37) (tgt := 43) dX0_sortFrom_34 rfl rfl (fun hc5 => ?_) (fun hc5 => ?_)
      · replace h := (if_pos hc5).symm.trans h
        cases h
        exact K
      · replace h := (if_neg hc5).symm.trans h
        refine fe_lan (pc' := 38) dX0_sortFrom_37 rfl rfl ?_
        refine fe_lin (pc' := 39) dX0_sortFrom_38 rfl rfl ?_
        refine fe_lin (pc' := 40) dX0_sortFrom_39 rfl rfl ?_
        obtain ⟨q6, hq7, h⟩ := am_bd h
        refine fe_iv (pc' := 43) (as := [.ref 81, .int x2, .int x3]) (h1 := (sh0, q6)) (r1 := none) (st' := []) dX0_sortFrom_40 rfl cl_0_165 rfl rfl s_81 ms_16 ⟨n_81, rfl, by decide, Nat.le_of_ble_eq_true rfl, Nat.le_of_ble_eq_true rfl⟩ (am_le0 _ _ _) (am_up (by decide) (ev_Ah_swap hq7)) rfl ?_
        cases h
        exact K
set_option maxRecDepth 4000 in
theorem lp_Ah_sortFrom_L2 {hE : am_H} {r : Option Value} : ∀ (n : Nat) (g : am_G) (x2 : Int32) (w : am_G), Ah_sortFrom_L2 n g x2 = some w → am_E 1 mX0_sortFrom (55, [], [], (sh0, w)) hE r → am_E 1 mX0_sortFrom (2, [(0, .ref 81), (2, .int x2)], [], (sh0, g)) hE r := by
  intro n
  induction n with
  | zero => intro g x2 q h; cases h
  | succ n ih =>
    intro g x2 q h k1
    replace h : _ = _ := h
    unfold Ah_sortFrom_L2 at h
    refine fe_lin (pc' := 3) dX0_sortFrom_2 rfl rfl ?_
    refine fe_lan (pc' := 4) dX0_sortFrom_3 rfl rfl ?_
    refine fe_gf (pc' := 7) dX0_sortFrom_4 rfl fl_0_41 n_81 gf_81_9 ?_
    refine fe_ic_ge (pc' := 10) (tgt := 55) dX0_sortFrom_7 rfl rfl (fun hc1 => ?_) (fun hc1 => ?_)
    · replace h := (if_pos hc1).symm.trans h
      refine fe_pick [] rfl ?_
      cases h
      exact k1
    · replace h := (if_neg hc1).symm.trans h
      refine fe_lin (pc' := 11) dX0_sortFrom_10 rfl rfl ?_
      refine fe_ic (pc' := 12) dX0_sortFrom_11 rfl ic_1 ?_
      refine fe_iadd (pc' := 13) dX0_sortFrom_12 rfl ?_
      refine fe_sin (pc' := 14) (lo' := [(0, .ref 81), (2, .int x2), (3, .int (x2 + 1))]) dX0_sortFrom_13 rfl (Nat.le_of_ble_eq_true rfl) rfl ?_
      obtain ⟨q9, hq12, h⟩ := am_bd h
      refine lp_Ah_sortFrom_L14 _ g x2 (x2 + 1) q9 hq12 ?_
      refine fe_inc (pc' := 52) (lo' := [(0, .ref 81), (2, .int (x2 + 1))]) dX0_sortFrom_49 rfl ic_1 (Nat.le_of_ble_eq_true rfl) rfl rfl ?_
      refine fe_go (tgt := 2) dX0_sortFrom_52 rfl ?_
      exact ih q9 (x2 + 1) q h k1
set_option maxRecDepth 4000 in
theorem ev_Ah_sortFrom {g : am_G} {x1 : Int32} {w : am_G} (h : Ah_sortFrom g x1 = some w) : am_Ev 2 15 [.ref 81, .int x1] (sh0, g) (sh0, w) (none) := by
  unfold Ah_sortFrom at h
  refine am_ev mX0_sortFrom (by rfl) (Nat.le_of_ble_eq_true rfl) [(0, .ref 81), (1, .int x1)] rfl ?_
  refine fe_lin (pc' := 1) dX0_sortFrom_0 rfl rfl ?_
  refine fe_sin (pc' := 2) (lo' := [(0, .ref 81), (1, .int x1), (2, .int x1)]) dX0_sortFrom_1 rfl (Nat.le_of_ble_eq_true rfl) rfl ?_
  obtain ⟨q10, hq13, h⟩ := am_bd h
  refine fe_pick [0, 2] rfl ?_
  refine lp_Ah_sortFrom_L2 _ g x1 q10 hq13 ?_
  cases h
  exact fe_rv dX0_sortFrom_55 rfl
-- Ah_nextRow: X0_nextRow
set_option maxRecDepth 4000 in
theorem lp_Ah_nextRow_L11 {hE : am_H} {r : Option Value} : ∀ (n : Nat) (g : am_G) (x2 : Int32) (q : ((Unit) ⊕ (am_G × Int32))), Ah_nextRow_L11 n g x2 = some q → (∀ w, q = .inl w → am_E 2 mX0_nextRow (46, [], [], (sh0, g)) hE r) → (∀ w, q = .inr w → hE = (sh0, w.1) ∧ r = some (.int w.2)) → am_E 2 mX0_nextRow (11, [(0, .ref 81), (2, .int x2)], [], (sh0, g)) hE r := by
  intro n
  induction n with
  | zero => intro g x2 q h; cases h
  | succ n ih =>
    intro g x2 q h k1 kr
    replace h : _ = _ := h
    unfold Ah_nextRow_L11 at h
    refine fe_lin (pc' := 12) dX0_nextRow_11 rfl rfl ?_
    refine fe_if_lt (pc' := 15) (tgt := 46) dX0_nextRow_12 rfl rfl (fun hc1 => ?_) (fun hc1 => ?_)
    · replace h := (if_pos hc1).symm.trans h
      refine fe_pick [] rfl ?_
      cases h
      exact k1 _ rfl
    · replace h := (if_neg hc1).symm.trans h
      refine fe_lan (pc' := 16) dX0_nextRow_15 rfl rfl ?_
      refine fe_lin (pc' := 17) dX0_nextRow_16 rfl rfl ?_
      obtain ⟨q2, hq3, h⟩ := am_bd h
      refine fe_iv (pc' := 20) (as := [.ref 81, .int x2]) (h1 := (sh0, g)) (r1 := some (.int q2)) (st' := [.int q2]) dX0_nextRow_17 rfl cl_0_162 rfl rfl s_81 ms_14 ⟨n_81, rfl, by decide, Nat.le_of_ble_eq_true rfl, Nat.le_of_ble_eq_true rfl⟩ (am_le0 _ _ _) (am_up (by decide) (ev_Ah_placeOfNextAbove hq3)) rfl ?_
      refine fe_sin (pc' := 21) (lo' := [(0, .ref 81), (2, .int x2), (3, .int q2)]) dX0_nextRow_20 rfl (Nat.le_of_ble_eq_true rfl) rfl ?_
      refine fe_lin (pc' := 22) dX0_nextRow_21 rfl rfl ?_
      refine fe_if_lt (pc' := 25) (tgt := 40) dX0_nextRow_22 rfl rfl (fun hc4 => ?_) (fun hc4 => ?_)
      · replace h := (if_pos hc4).symm.trans h
        refine fe_inc (pc' := 43) (lo' := [(0, .ref 81), (2, .int (x2 + (-1))), (3, .int q2)]) dX0_nextRow_40 rfl ic_m1 (Nat.le_of_ble_eq_true rfl) rfl rfl ?_
        refine fe_go (tgt := 11) dX0_nextRow_43 rfl ?_
        refine fe_pick [0, 1] rfl ?_
        exact ih g (x2 + (-1)) q h k1 kr
      · replace h := (if_neg hc4).symm.trans h
        refine fe_lan (pc' := 26) dX0_nextRow_25 rfl rfl ?_
        refine fe_lin (pc' := 27) dX0_nextRow_26 rfl rfl ?_
        refine fe_lin (pc' := 28) dX0_nextRow_27 rfl rfl ?_
        obtain ⟨q5, hq6, h⟩ := am_bd h
        refine fe_iv (pc' := 31) (as := [.ref 81, .int x2, .int q2]) (h1 := (sh0, q5)) (r1 := none) (st' := []) dX0_nextRow_28 rfl cl_0_165 rfl rfl s_81 ms_16 ⟨n_81, rfl, by decide, Nat.le_of_ble_eq_true rfl, Nat.le_of_ble_eq_true rfl⟩ (am_le0 _ _ _) (am_up (by decide) (ev_Ah_swap hq6)) rfl ?_
        refine fe_lan (pc' := 32) dX0_nextRow_31 rfl rfl ?_
        refine fe_lin (pc' := 33) dX0_nextRow_32 rfl rfl ?_
        refine fe_ic (pc' := 34) dX0_nextRow_33 rfl ic_1 ?_
        refine fe_iadd (pc' := 35) dX0_nextRow_34 rfl ?_
        obtain ⟨q7, hq8, h⟩ := am_bd h
        refine fe_iv (pc' := 38) (as := [.ref 81, .int (x2 + 1)]) (h1 := (sh0, q7)) (r1 := none) (st' := []) dX0_nextRow_35 rfl cl_0_169 rfl rfl s_81 ms_15 ⟨n_81, rfl, by decide, Nat.le_of_ble_eq_true rfl, Nat.le_of_ble_eq_true rfl⟩ (am_le0 _ _ _) (am_up (by decide) (ev_Ah_sortFrom hq8)) rfl ?_
        refine fe_lin (pc' := 39) dX0_nextRow_38 rfl rfl ?_
        cases h
        obtain ⟨e1, e2⟩ := kr _ rfl
        subst e1; subst e2
        exact fe_ri dX0_nextRow_39 rfl
set_option maxRecDepth 4000 in
theorem ev_Ah_nextRow {g : am_G} {x1 : Int32} {w : (am_G × Int32)} (h : Ah_nextRow g x1 = some w) : am_Ev 3 13 [.ref 81, .int x1] (sh0, g) (sh0, w.1) (some (.int w.2)) := by
  unfold Ah_nextRow at h
  refine am_ev mX0_nextRow (by rfl) (Nat.le_of_ble_eq_true rfl) [(0, .ref 81), (1, .int x1)] rfl ?_
  refine fe_lin (pc' := 1) dX0_nextRow_0 rfl rfl ?_
  refine fe_lan (pc' := 2) dX0_nextRow_1 rfl rfl ?_
  refine fe_gf (pc' := 5) dX0_nextRow_2 rfl fl_0_41 n_81 gf_81_9 ?_
  refine fe_mn (pc' := 8) dX0_nextRow_5 rfl cl_0_135 (Nat.le_of_ble_eq_true rfl) ?_
  refine fe_ic (pc' := 9) dX0_nextRow_8 rfl ic_1 ?_
  refine fe_isub (pc' := 10) dX0_nextRow_9 rfl ?_
  refine fe_sin (pc' := 11) (lo' := [(0, .ref 81), (1, .int x1), (2, .int ((am_mn x1 (g.1 81 9)) - 1))]) dX0_nextRow_10 rfl (Nat.le_of_ble_eq_true rfl) rfl ?_
  obtain ⟨q9, hq11, h⟩ := am_bd h
  refine fe_pick [0, 2] rfl ?_
  refine lp_Ah_nextRow_L11 _ g ((am_mn x1 (g.1 81 9)) - 1) q9 hq11 (fun w10 e => ?_) (fun w e => ?_)
  · subst e
    replace h : _ = _ := h
    refine fe_ic (pc' := 47) dX0_nextRow_46 rfl ic_m1 ?_
    cases h
    exact fe_ri dX0_nextRow_47 rfl
  · subst e
    cases h
    exact ⟨rfl, rfl⟩
-- Ah_stepBefore: X0_stepBefore
set_option maxRecDepth 4000 in
theorem lp_Ah_stepBefore_L4 {hE : am_H} {r : Option Value} : ∀ (n : Nat) (g : am_G) (x1 : Int32) (x2 : Int32) (x3 : Int32) (w : Int32), Ah_stepBefore_L4 n g x1 x2 x3 = some w → am_E 0 mX0_stepBefore (39, [(2, .int w)], [], (sh0, g)) hE r → am_E 0 mX0_stepBefore (4, [(0, .ref 81), (1, .int x1), (2, .int x2), (3, .int x3)], [], (sh0, g)) hE r := by
  intro n
  induction n with
  | zero => intro g x1 x2 x3 q h; cases h
  | succ n ih =>
    intro g x1 x2 x3 q h k1
    replace h : _ = _ := h
    unfold Ah_stepBefore_L4 at h
    refine fe_lin (pc' := 5) dX0_stepBefore_4 rfl rfl ?_
    refine fe_bp (pc' := 7) dX0_stepBefore_5 rfl ib_8 ?_
    refine fe_ic_gt (pc' := 10) (tgt := 39) dX0_stepBefore_7 rfl rfl (fun hc1 => ?_) (fun hc1 => ?_)
    · replace h := (if_pos hc1).symm.trans h
      refine fe_pick [2] rfl ?_
      cases h
      exact k1
    · replace h := (if_neg hc1).symm.trans h
      refine fe_lin (pc' := 11) dX0_stepBefore_10 rfl rfl ?_
      refine fe_if_lt (pc' := 14) (tgt := 39) dX0_stepBefore_11 rfl rfl (fun hc2 => ?_) (fun hc2 => ?_)
      · replace h := (if_pos hc2).symm.trans h
        refine fe_pick [2] rfl ?_
        cases h
        exact k1
      · replace h := (if_neg hc2).symm.trans h
        refine fe_lan (pc' := 15) dX0_stepBefore_14 rfl rfl ?_
        refine fe_gf (pc' := 18) dX0_stepBefore_15 rfl fl_0_44 n_81 gf_81_10 ?_
        refine fe_lin (pc' := 19) dX0_stepBefore_18 rfl rfl ?_
        obtain ⟨hi3, h⟩ := am_gd rfl h
        refine fe_al (pc' := 20) (j := x3.toNatClampNeg) dX0_stepBefore_19 rfl n_84 s_84 hi3 rfl ?_
        refine fe_lin (pc' := 21) dX0_stepBefore_20 rfl rfl ?_
        have K : am_E 0 mX0_stepBefore (33, [(0, .ref 81), (1, .int x1), (2, .int (if x1 < (g.1 84 x3.toNatClampNeg) then x2 else if x3 = (x2 + 1) then x3 else x2 : Int32)), (3, .int x3)], [], (sh0, g)) hE r := by
          refine fe_inc (pc' := 36) (lo' := [(0, .ref 81), (1, .int x1), (2, .int (if x1 < (g.1 84 x3.toNatClampNeg) then x2 else if x3 = (x2 + 1) then x3 else x2 : Int32)), (3, .int (x3 + 1))]) dX0_stepBefore_33 rfl ic_1 (Nat.le_of_ble_eq_true rfl) rfl rfl ?_
          refine fe_go (tgt := 4) dX0_stepBefore_36 rfl ?_
          exact ih g x1 (if x1 < (g.1 84 x3.toNatClampNeg) then x2 else if x3 = (x2 + 1) then x3 else x2 : Int32) (x3 + 1) q h k1
        refine fe_ic_gt (pc' := 24) (tgt := 33) dX0_stepBefore_21 rfl rfl (fun hc4 => ?_) (fun hc4 => ?_)
        · simp only [if_pos hc4] at K ⊢
          exact K
        · refine fe_lin (pc' := 25) dX0_stepBefore_24 rfl rfl ?_
          refine fe_lin (pc' := 26) dX0_stepBefore_25 rfl rfl ?_
          refine fe_ic (pc' := 27) dX0_stepBefore_26 rfl ic_1 ?_
          refine fe_iadd (pc' := 28) dX0_stepBefore_27 rfl ?_
          refine fe_ic_ne (pc' := 31) (tgt := 33) dX0_stepBefore_28 rfl rfl (fun hc5 => ?_) (fun hc5 => ?_)
          · refine fe_lin (pc' := 32) dX0_stepBefore_31 rfl rfl ?_
            refine fe_sin (pc' := 33) (lo' := [(0, .ref 81), (1, .int x1), (2, .int x3), (3, .int x3)]) dX0_stepBefore_32 rfl (Nat.le_of_ble_eq_true rfl) rfl ?_
            simp only [if_neg hc4, if_pos hc5] at K ⊢
            exact K
          · simp only [if_neg hc4, if_neg hc5] at K ⊢
            exact K
set_option maxRecDepth 4000 in
theorem ev_Ah_stepBefore {g : am_G} {x1 : Int32} {w : Int32} (h : Ah_stepBefore g x1 = some w) : am_Ev 1 17 [.ref 81, .int x1] (sh0, g) (sh0, g) (some (.int w)) := by
  unfold Ah_stepBefore at h
  refine am_ev mX0_stepBefore (by rfl) (Nat.le_of_ble_eq_true rfl) [(0, .ref 81), (1, .int x1)] rfl ?_
  refine fe_ic (pc' := 1) dX0_stepBefore_0 rfl ic_m1 ?_
  refine fe_sin (pc' := 2) (lo' := [(0, .ref 81), (1, .int x1), (2, .int (-1))]) dX0_stepBefore_1 rfl (Nat.le_of_ble_eq_true rfl) rfl ?_
  refine fe_ic (pc' := 3) dX0_stepBefore_2 rfl ic_0 ?_
  refine fe_sin (pc' := 4) (lo' := [(0, .ref 81), (1, .int x1), (2, .int (-1)), (3, .int 0)]) dX0_stepBefore_3 rfl (Nat.le_of_ble_eq_true rfl) rfl ?_
  obtain ⟨q7, hq8, h⟩ := am_bd h
  refine lp_Ah_stepBefore_L4 _ g x1 (-1) 0 q7 hq8 ?_
  refine fe_lin (pc' := 40) dX0_stepBefore_39 rfl rfl ?_
  cases h
  exact fe_ri dX0_stepBefore_40 rfl
-- Ah_findRow: X0_findRow
set_option maxRecDepth 4000 in
theorem lp_Ah_findRow_L32 {hE : am_H} {r : Option Value} : ∀ (n : Nat) (g : am_G) (x2 : Int32) (x3 : Int32) (w : am_G), Ah_findRow_L32 n g x2 x3 = some w → am_E 5 mX0_findRow (67, [], [], (sh0, w)) hE r → am_E 5 mX0_findRow (32, [(0, .ref 81), (2, .int x2), (3, .int x3)], [], (sh0, g)) hE r := by
  intro n
  induction n with
  | zero => intro g x2 x3 q h; cases h
  | succ n ih =>
    intro g x2 x3 q h k1
    replace h : _ = _ := h
    unfold Ah_findRow_L32 at h
    refine fe_lin (pc' := 33) dX0_findRow_32 rfl rfl ?_
    refine fe_sp (pc' := 36) dX0_findRow_33 rfl is_5040 ?_
    refine fe_ic_ge (pc' := 39) (tgt := 67) dX0_findRow_36 rfl rfl (fun hc5 => ?_) (fun hc5 => ?_)
    · replace h := (if_pos hc5).symm.trans h
      refine fe_pick [] rfl ?_
      cases h
      exact k1
    · replace h := (if_neg hc5).symm.trans h
      refine fe_lin (pc' := 40) dX0_findRow_39 rfl rfl ?_
      refine fe_if_lt (pc' := 43) (tgt := 67) dX0_findRow_40 rfl rfl (fun hc6 => ?_) (fun hc6 => ?_)
      · replace h := (if_pos hc6).symm.trans h
        refine fe_pick [] rfl ?_
        cases h
        exact k1
      · replace h := (if_neg hc6).symm.trans h
        refine fe_lan (pc' := 44) dX0_findRow_43 rfl rfl ?_
        refine fe_lin (pc' := 45) dX0_findRow_44 rfl rfl ?_
        obtain ⟨q7, hq8, h⟩ := am_bd h
        refine fe_iv (pc' := 48) (as := [.ref 81, .int x2]) (h1 := (sh0, q7.1)) (r1 := some (.int q7.2)) (st' := [.int q7.2]) dX0_findRow_45 rfl cl_0_120 rfl rfl s_81 ms_10 ⟨n_81, rfl, by decide, Nat.le_of_ble_eq_true rfl, Nat.le_of_ble_eq_true rfl⟩ (am_le0 _ _ _) (am_up (by decide) (ev_Ah_followRow hq8)) rfl ?_
        refine fe_si (pc' := 50) (lo' := [(0, .ref 81), (2, .int x2), (3, .int x3), (4, .int q7.2)]) dX0_findRow_48 rfl (Nat.le_of_ble_eq_true rfl) rfl ?_
        refine fe_lan (pc' := 51) dX0_findRow_50 rfl rfl ?_
        refine fe_lan (pc' := 52) dX0_findRow_51 rfl rfl ?_
        refine fe_li (pc' := 54) dX0_findRow_52 rfl rfl ?_
        obtain ⟨q9, hq10, h⟩ := am_bd h
        refine fe_iv (pc' := 57) (as := [.ref 81, .int q7.2]) (h1 := (sh0, q9.1)) (r1 := some (.int q9.2)) (st' := [.int q9.2, .ref 81]) dX0_findRow_54 rfl cl_0_123 rfl rfl s_81 ms_13 ⟨n_81, rfl, by decide, Nat.le_of_ble_eq_true rfl, Nat.le_of_ble_eq_true rfl⟩ (am_le0 _ _ _) (am_up (by decide) (ev_Ah_nextRow hq10)) rfl ?_
        obtain ⟨q11, hq12, h⟩ := am_bd h
        refine fe_iv (pc' := 60) (as := [.ref 81, .int q9.2]) (h1 := (sh0, q9.1)) (r1 := some (.int q11)) (st' := [.int q11]) dX0_findRow_57 rfl cl_0_126 rfl rfl s_81 ms_17 ⟨n_81, rfl, by decide, Nat.le_of_ble_eq_true rfl, Nat.le_of_ble_eq_true rfl⟩ (am_le0 _ _ _) (am_up (by decide) (ev_Ah_stepBefore hq12)) rfl ?_
        refine fe_sin (pc' := 61) (lo' := [(0, .ref 81), (2, .int q11), (3, .int x3), (4, .int q7.2)]) dX0_findRow_60 rfl (Nat.le_of_ble_eq_true rfl) rfl ?_
        refine fe_inc (pc' := 64) (lo' := [(0, .ref 81), (2, .int q11), (3, .int (x3 + 1)), (4, .int q7.2)]) dX0_findRow_61 rfl ic_1 (Nat.le_of_ble_eq_true rfl) rfl rfl ?_
        refine fe_go (tgt := 32) dX0_findRow_64 rfl ?_
        refine fe_pick [0, 1, 2] rfl ?_
        exact ih q9.1 q11 (x3 + 1) q h k1
set_option maxRecDepth 4000 in
theorem ev_Ah_findRow {g : am_G} {w : am_G} (h : Ah_findRow g  = some w) : am_Ev 6 8 [.ref 81, .ref 28] (sh0, g) (sh0, w) (none) := by
  unfold Ah_findRow at h
  refine am_ev mX0_findRow (by rfl) (Nat.le_of_ble_eq_true rfl) [(0, .ref 81), (1, .ref 28)] rfl ?_
  refine fe_lan (pc' := 1) dX0_findRow_0 rfl rfl ?_
  obtain ⟨q1, hq2, h⟩ := am_bd h
  refine fe_iv (pc' := 4) (as := [.ref 81]) (h1 := (sh0, q1)) (r1 := none) (st' := []) dX0_findRow_1 rfl cl_0_116 rfl rfl s_81 ms_9 ⟨n_81, rfl, by decide, Nat.le_of_ble_eq_true rfl, Nat.le_of_ble_eq_true rfl⟩ (am_le0 _ _ _) (am_up (by decide) (ev_Ah_lowestRow hq2)) rfl ?_
  refine fe_lan (pc' := 5) dX0_findRow_4 rfl rfl ?_
  refine fe_lan (pc' := 6) dX0_findRow_5 rfl rfl ?_
  obtain ⟨q3, hq4, h⟩ := am_bd h
  refine fe_iv (pc' := 9) (as := [.ref 81, .ref 28]) (h1 := (sh0, q3)) (r1 := some (.ref 85)) (st' := [.ref 85]) dX0_findRow_6 rfl cl_0_64 rfl rfl s_81 ms_1 ⟨n_81, rfl, by decide, Nat.le_of_ble_eq_true rfl, Nat.le_of_ble_eq_true rfl⟩ (am_le0 _ _ _) (am_up (by decide) (ev_Ah_setOut hq4)) rfl ?_
  refine fe_pop (pc' := 10) dX0_findRow_9 rfl rfl ?_
  refine fe_lan (pc' := 11) dX0_findRow_10 rfl rfl ?_
  refine fe_gf (pc' := 14) dX0_findRow_11 rfl fl_0_44 n_81 gf_81_10 ?_
  refine fe_ic (pc' := 15) dX0_findRow_14 rfl ic_0 ?_
  refine fe_ic (pc' := 16) dX0_findRow_15 rfl ic_0 ?_
  refine fe_as (pc' := 17) (j := 0) dX0_findRow_16 rfl n_84 s_84 (by decide) (by decide) ?_
  refine fe_lan (pc' := 18) dX0_findRow_17 rfl rfl ?_
  refine fe_ic (pc' := 19) dX0_findRow_18 rfl ic_0 ?_
  refine fe_pi (pc' := 22) dX0_findRow_19 rfl fl_0_31 n_81 s_81 rfl ⟨rfl, Or.inl rfl⟩ ?_
  refine fe_lan (pc' := 23) dX0_findRow_22 rfl rfl ?_
  refine fe_ldc (pc' := 25) dX0_findRow_23 rfl kc_0_119 ?_
  refine fe_pi (pc' := 28) dX0_findRow_25 rfl fl_0_34 n_81 s_81 rfl ⟨rfl, Or.inl rfl⟩ ?_
  refine fe_ic (pc' := 29) dX0_findRow_28 rfl ic_0 ?_
  refine fe_sin (pc' := 30) (lo' := [(0, .ref 81), (1, .ref 28), (2, .int 0)]) dX0_findRow_29 rfl (Nat.le_of_ble_eq_true rfl) rfl ?_
  refine fe_ic (pc' := 31) dX0_findRow_30 rfl ic_0 ?_
  refine fe_sin (pc' := 32) (lo' := [(0, .ref 81), (1, .ref 28), (2, .int 0), (3, .int 0)]) dX0_findRow_31 rfl (Nat.le_of_ble_eq_true rfl) rfl ?_
  obtain ⟨q13, hq14, h⟩ := am_bd h
  refine fe_pick [0, 2, 3] rfl ?_
  refine lp_Ah_findRow_L32 _ (am_wr (am_wr (am_wr q3 84 0 0) 81 6 0) 81 7 1000000000) 0 0 q13 hq14 ?_
  cases h
  exact fe_rv dX0_findRow_67 rfl
-- Tb_eat: X8_eat
set_option maxRecDepth 4000 in
theorem ev_Tb_eat {g : am_G} {x1 : Int32} {w : (am_G × Int32)} (h : Tb_eat g x1 = some w) : am_Ev 7 96 [.ref 0, .int x1] (sh0, g) (sh0, w.1) (some (.int w.2)) := by
  unfold Tb_eat at h
  refine am_ev mX8_eat (by rfl) (Nat.le_of_ble_eq_true rfl) [(0, .ref 0), (1, .int x1)] rfl ?_
  refine fe_lin (pc' := 1) dX8_eat_0 rfl rfl ?_
  obtain ⟨q1, hq2, h⟩ := am_bd h
  refine fe_is (pc' := 4) (as := [.int x1]) (h1 := (sh0, g)) (r1 := some (.int (am_b q1))) (st' := [.int (am_b q1)]) dX8_eat_1 rfl cl_8_223 (Or.inl rfl) rfl rfl ⟨Nat.le_of_ble_eq_true rfl, Nat.le_of_ble_eq_true rfl⟩ (am_le0 _ _ _) (am_up (by decide) (ev_Tb_isEither hq2)) rfl ?_
  refine fe_bF (pc' := 7) (tgt := 9) dX8_eat_4 rfl rfl rfl (fun hc3 => ?_) (fun hc3 => ?_)
  · replace h := (if_pos hc3).symm.trans h
    refine fe_lan (pc' := 10) dX8_eat_9 rfl rfl ?_
    refine fe_gf (pc' := 13) dX8_eat_10 rfl fl_8_64 n_0 gf_0_8 ?_
    refine fe_lan (pc' := 14) dX8_eat_13 rfl rfl ?_
    refine fe_gf (pc' := 17) dX8_eat_14 rfl fl_8_45 n_0 gf_0_4 ?_
    obtain ⟨q4, hq5, h⟩ := am_bd h
    refine fe_iv (pc' := 20) (as := [.ref 81, .ref 28]) (h1 := (sh0, q4)) (r1 := none) (st' := []) dX8_eat_17 rfl cl_8_269 rfl rfl s_81 ms_8 ⟨n_81, rfl, by decide, Nat.le_of_ble_eq_true rfl, Nat.le_of_ble_eq_true rfl⟩ (am_le0 _ _ _) (am_up (by decide) (ev_Ah_findRow hq5)) rfl ?_
    refine fe_lin (pc' := 21) dX8_eat_20 rfl rfl ?_
    refine fe_if_ne (pc' := 24) (tgt := 34) dX8_eat_21 rfl rfl (fun hc6 => ?_) (fun hc6 => ?_)
    · replace h := (if_pos hc6).symm.trans h
      refine fe_lan (pc' := 25) dX8_eat_24 rfl rfl ?_
      refine fe_gf (pc' := 28) dX8_eat_25 rfl fl_8_64 n_0 gf_0_8 ?_
      refine fe_gf (pc' := 31) dX8_eat_28 rfl fl_8_273 n_81 gf_81_6 ?_
      refine fe_go (tgt := 41) dX8_eat_31 rfl ?_
      cases h
      exact fe_ri dX8_eat_41 rfl
    · replace h := (if_neg hc6).symm.trans h
      refine fe_lan (pc' := 35) dX8_eat_34 rfl rfl ?_
      refine fe_gf (pc' := 38) dX8_eat_35 rfl fl_8_64 n_0 gf_0_8 ?_
      refine fe_gf (pc' := 41) dX8_eat_38 rfl fl_8_276 n_81 gf_81_7 ?_
      cases h
      exact fe_ri dX8_eat_41 rfl
  · replace h := (if_neg hc3).symm.trans h
    refine fe_ic (pc' := 8) dX8_eat_7 rfl ic_m1 ?_
    cases h
    exact fe_ri dX8_eat_8 rfl
-- Tb_isLine: X8_isLine
set_option maxRecDepth 4000 in
theorem ev_Tb_isLine {g : am_G} {x1 x2 x3 : Int32} {w : Bool} (h : Tb_isLine g x1 x2 x3 = some w) : am_Ev 3 115 [.ref 0, .int x1, .int x2, .int x3] (sh0, g) (sh0, g) (some (.int (am_b w))) := by
  unfold Tb_isLine at h
  refine am_ev mX8_isLine (by rfl) (Nat.le_of_ble_eq_true rfl) [(0, .ref 0), (1, .int x1), (2, .int x2), (3, .int x3)] rfl ?_
  refine fe_lan (pc' := 1) dX8_isLine_0 rfl rfl ?_
  refine fe_lin (pc' := 2) dX8_isLine_1 rfl rfl ?_
  obtain ⟨q1, hq2, h⟩ := am_bd h
  refine fe_iv (pc' := 5) (as := [.ref 0, .int x1]) (h1 := (sh0, g)) (r1 := some (.int (am_b q1))) (st' := [.int (am_b q1)]) dX8_isLine_2 rfl cl_8_110 rfl rfl s_0 ms_113 ⟨n_0, rfl, by decide, Nat.le_of_ble_eq_true rfl, Nat.le_of_ble_eq_true rfl⟩ (am_le0 _ _ _) (am_up (by decide) (ev_Tb_isWalker hq2)) rfl ?_
  refine fe_bT (pc' := 8) (tgt := 33) dX8_isLine_5 rfl rfl rfl (fun hc3 => ?_) (fun hc3 => ?_)
  · replace h := (if_pos hc3).symm.trans h
    refine fe_lin (pc' := 9) dX8_isLine_8 rfl rfl ?_
    refine fe_ic (pc' := 10) dX8_isLine_9 rfl ic_1 ?_
    refine fe_bp (pc' := 12) dX8_isLine_10 rfl ib_20 ?_
    obtain ⟨q4, hq5, h⟩ := am_bd h
    refine fe_is (pc' := 15) (as := [.int x2, .int 1, .int 20]) (h1 := (sh0, g)) (r1 := some (.int (am_b q4))) (st' := [.int (am_b q4)]) dX8_isLine_12 rfl cl_8_79 (Or.inl rfl) rfl rfl ⟨Nat.le_of_ble_eq_true rfl, Nat.le_of_ble_eq_true rfl⟩ (am_le0 _ _ _) (am_up (by decide) (ev_Tb_isWithin hq5)) rfl ?_
    refine fe_bT (pc' := 18) (tgt := 33) dX8_isLine_15 rfl rfl rfl (fun hc6 => ?_) (fun hc6 => ?_)
    · replace h := (if_pos hc6).symm.trans h
      refine fe_lin (pc' := 19) dX8_isLine_18 rfl rfl ?_
      refine fe_ic (pc' := 20) dX8_isLine_19 rfl ic_1 ?_
      refine fe_sp (pc' := 23) dX8_isLine_20 rfl is_999 ?_
      obtain ⟨q7, hq8, h⟩ := am_bd h
      refine fe_is (pc' := 26) (as := [.int x3, .int 1, .int 999]) (h1 := (sh0, g)) (r1 := some (.int (am_b q7))) (st' := [.int (am_b q7)]) dX8_isLine_23 rfl cl_8_79 (Or.inl rfl) rfl rfl ⟨Nat.le_of_ble_eq_true rfl, Nat.le_of_ble_eq_true rfl⟩ (am_le0 _ _ _) (am_up (by decide) (ev_Tb_isWithin hq8)) rfl ?_
      refine fe_bT (pc' := 29) (tgt := 33) dX8_isLine_26 rfl rfl rfl (fun hc9 => ?_) (fun hc9 => ?_)
      · replace h := (if_pos hc9).symm.trans h
        refine fe_ic (pc' := 30) dX8_isLine_29 rfl ic_1 ?_
        refine fe_go (tgt := 34) dX8_isLine_30 rfl ?_
        cases h
        exact fe_rz _ dX8_isLine_34 rfl rfl
      · replace h := (if_neg hc9).symm.trans h
        refine fe_ic (pc' := 34) dX8_isLine_33 rfl ic_0 ?_
        cases h
        exact fe_rz _ dX8_isLine_34 rfl rfl
    · replace h := (if_neg hc6).symm.trans h
      refine fe_ic (pc' := 34) dX8_isLine_33 rfl ic_0 ?_
      cases h
      exact fe_rz _ dX8_isLine_34 rfl rfl
  · replace h := (if_neg hc3).symm.trans h
    refine fe_ic (pc' := 34) dX8_isLine_33 rfl ic_0 ?_
    cases h
    exact fe_rz _ dX8_isLine_34 rfl rfl
-- Tb_truly: X8_truly
set_option maxRecDepth 4000 in
theorem lp_Tb_truly_L27 {hE : am_H} {r : Option Value} : ∀ (n : Nat) (g : am_G) (x1 : Int32) (x2 : Int32) (x3 : Int32) (x4 : Int32) (x5 : Int32) (x6 : Int32) (w : Int32), Tb_truly_L27 n g x1 x2 x3 x4 x5 x6 = some w → am_E 3 mX8_truly (72, [(5, .int w)], [], (sh0, g)) hE r → am_E 3 mX8_truly (27, [(0, .ref 0), (1, .int x1), (2, .int x2), (3, .int x3), (4, .int x4), (5, .int x5), (6, .int x6)], [], (sh0, g)) hE r := by
  intro n
  induction n with
  | zero => intro g x1 x2 x3 x4 x5 x6 q h; cases h
  | succ n ih =>
    intro g x1 x2 x3 x4 x5 x6 q h k1
    replace h : _ = _ := h
    unfold Tb_truly_L27 at h
    refine fe_li (pc' := 29) dX8_truly_27 rfl rfl ?_
    refine fe_bp (pc' := 31) dX8_truly_29 rfl ib_99 ?_
    refine fe_ic_gt (pc' := 34) (tgt := 72) dX8_truly_31 rfl rfl (fun hc7 => ?_) (fun hc7 => ?_)
    · replace h := (if_pos hc7).symm.trans h
      refine fe_pick [5] rfl ?_
      cases h
      exact k1
    · replace h := (if_neg hc7).symm.trans h
      refine fe_lan (pc' := 35) dX8_truly_34 rfl rfl ?_
      refine fe_gf (pc' := 38) dX8_truly_35 rfl fl_8_45 n_0 gf_0_4 ?_
      refine fe_lin (pc' := 39) dX8_truly_38 rfl rfl ?_
      refine fe_li (pc' := 41) dX8_truly_39 rfl rfl ?_
      refine fe_lin (pc' := 42) dX8_truly_41 rfl rfl ?_
      obtain ⟨q8, hq9, h⟩ := am_bd h
      refine fe_iv (pc' := 45) (as := [.ref 28, .int x1, .int x6, .int x2]) (h1 := (sh0, g)) (r1 := some (.int q8)) (st' := [.int q8]) dX8_truly_42 rfl cl_8_280 rfl rfl (sc_o sc_28) ms_36 ⟨(sc_ne sc_28), rfl, by decide, Nat.le_of_ble_eq_true rfl, Nat.le_of_ble_eq_true rfl⟩ (am_le0 _ _ _) (am_up (by decide) (ev_Ca_minutesFor sc_28 hq9)) rfl ?_
      refine fe_lin (pc' := 46) dX8_truly_45 rfl rfl ?_
      have K : am_E 3 mX8_truly (66, [(0, .ref 0), (1, .int x1), (2, .int x2), (3, .int x3), (4, .int x4), (5, .int (if q8 = x3 then if x5 = (-9) then x6 else if x4 = 1 then x6 else x5 else x5 : Int32)), (6, .int x6)], [], (sh0, g)) hE r := by
        refine fe_inc (pc' := 69) (lo' := [(0, .ref 0), (1, .int x1), (2, .int x2), (3, .int x3), (4, .int x4), (5, .int (if q8 = x3 then if x5 = (-9) then x6 else if x4 = 1 then x6 else x5 else x5 : Int32)), (6, .int (x6 + 1))]) dX8_truly_66 rfl ic_1 (Nat.le_of_ble_eq_true rfl) rfl rfl ?_
        refine fe_go (tgt := 27) dX8_truly_69 rfl ?_
        exact ih g x1 x2 x3 x4 (if q8 = x3 then if x5 = (-9) then x6 else if x4 = 1 then x6 else x5 else x5 : Int32) (x6 + 1) q h k1
      refine fe_ic_ne (pc' := 49) (tgt := 66) dX8_truly_46 rfl rfl (fun hc10 => ?_) (fun hc10 => ?_)
      · refine fe_li (pc' := 51) dX8_truly_49 rfl rfl ?_
        refine fe_bp (pc' := 53) dX8_truly_51 rfl ib_m9 ?_
        refine fe_ic_eq (pc' := 56) (tgt := 62) dX8_truly_53 rfl rfl (fun hc11 => ?_) (fun hc11 => ?_)
        · refine fe_li (pc' := 64) dX8_truly_62 rfl rfl ?_
          refine fe_si (pc' := 66) (lo' := [(0, .ref 0), (1, .int x1), (2, .int x2), (3, .int x3), (4, .int x4), (5, .int x6), (6, .int x6)]) dX8_truly_64 rfl (Nat.le_of_ble_eq_true rfl) rfl ?_
          simp only [if_pos hc10, if_pos hc11] at K ⊢
          exact K
        · refine fe_li (pc' := 58) dX8_truly_56 rfl rfl ?_
          refine fe_ic (pc' := 59) dX8_truly_58 rfl ic_1 ?_
          refine fe_ic_ne (pc' := 62) (tgt := 66) dX8_truly_59 rfl rfl (fun hc12 => ?_) (fun hc12 => ?_)
          · refine fe_li (pc' := 64) dX8_truly_62 rfl rfl ?_
            refine fe_si (pc' := 66) (lo' := [(0, .ref 0), (1, .int x1), (2, .int x2), (3, .int x3), (4, .int x4), (5, .int x6), (6, .int x6)]) dX8_truly_64 rfl (Nat.le_of_ble_eq_true rfl) rfl ?_
            simp only [if_pos hc10, if_neg hc11, if_pos hc12] at K ⊢
            exact K
          · simp only [if_pos hc10, if_neg hc11, if_neg hc12] at K ⊢
            exact K
      · simp only [if_neg hc10] at K ⊢
        exact K
set_option maxRecDepth 4000 in
theorem ev_Tb_truly {g : am_G} {x1 x2 x3 x4 : Int32} {w : Int32} (h : Tb_truly g x1 x2 x3 x4 = some w) : am_Ev 4 97 [.ref 0, .int x1, .int x2, .int x3, .int x4] (sh0, g) (sh0, g) (some (.int w)) := by
  unfold Tb_truly at h
  refine am_ev mX8_truly (by rfl) (Nat.le_of_ble_eq_true rfl) [(0, .ref 0), (1, .int x1), (2, .int x2), (3, .int x3), (4, .int x4)] rfl ?_
  refine fe_lan (pc' := 1) dX8_truly_0 rfl rfl ?_
  refine fe_lin (pc' := 2) dX8_truly_1 rfl rfl ?_
  refine fe_lin (pc' := 3) dX8_truly_2 rfl rfl ?_
  refine fe_lin (pc' := 4) dX8_truly_3 rfl rfl ?_
  obtain ⟨q1, hq2, h⟩ := am_bd h
  refine fe_iv (pc' := 7) (as := [.ref 0, .int x1, .int x2, .int x3]) (h1 := (sh0, g)) (r1 := some (.int (am_b q1))) (st' := [.int (am_b q1)]) dX8_truly_4 rfl cl_8_277 rfl rfl s_0 ms_115 ⟨n_0, rfl, by decide, Nat.le_of_ble_eq_true rfl, Nat.le_of_ble_eq_true rfl⟩ (am_le0 _ _ _) (am_up (by decide) (ev_Tb_isLine hq2)) rfl ?_
  refine fe_bT (pc' := 10) (tgt := 18) dX8_truly_7 rfl rfl rfl (fun hc3 => ?_) (fun hc3 => ?_)
  · replace h := (if_pos hc3).symm.trans h
    refine fe_li (pc' := 12) dX8_truly_10 rfl rfl ?_
    obtain ⟨q4, hq5, h⟩ := am_bd h
    refine fe_is (pc' := 15) (as := [.int x4]) (h1 := (sh0, g)) (r1 := some (.int (am_b q4))) (st' := [.int (am_b q4)]) dX8_truly_12 rfl cl_8_223 (Or.inl rfl) rfl rfl ⟨Nat.le_of_ble_eq_true rfl, Nat.le_of_ble_eq_true rfl⟩ (am_le0 _ _ _) (am_up (by decide) (ev_Tb_isEither hq5)) rfl ?_
    refine fe_bF (pc' := 18) (tgt := 20) dX8_truly_15 rfl rfl rfl (fun hc6 => ?_) (fun hc6 => ?_)
    · replace h := (if_pos hc6).symm.trans h
      refine fe_bp (pc' := 22) dX8_truly_20 rfl ib_m9 ?_
      refine fe_si (pc' := 24) (lo' := [(0, .ref 0), (1, .int x1), (2, .int x2), (3, .int x3), (4, .int x4), (5, .int (-9))]) dX8_truly_22 rfl (Nat.le_of_ble_eq_true rfl) rfl ?_
      refine fe_ic (pc' := 25) dX8_truly_24 rfl ic_0 ?_
      refine fe_si (pc' := 27) (lo' := [(0, .ref 0), (1, .int x1), (2, .int x2), (3, .int x3), (4, .int x4), (5, .int (-9)), (6, .int 0)]) dX8_truly_25 rfl (Nat.le_of_ble_eq_true rfl) rfl ?_
      obtain ⟨q14, hq15, h⟩ := am_bd h
      refine lp_Tb_truly_L27 _ g x1 x2 x3 x4 (-9) 0 q14 hq15 ?_
      refine fe_li (pc' := 74) dX8_truly_72 rfl rfl ?_
      cases h
      exact fe_ri dX8_truly_74 rfl
    · replace h := (if_neg hc6).symm.trans h
      refine fe_ic (pc' := 19) dX8_truly_18 rfl ic_m1 ?_
      cases h
      exact fe_ri dX8_truly_19 rfl
  · replace h := (if_neg hc3).symm.trans h
    refine fe_ic (pc' := 19) dX8_truly_18 rfl ic_m1 ?_
    cases h
    exact fe_ri dX8_truly_19 rfl
-- Ah_stepOn: X0_stepOn
set_option maxRecDepth 4000 in
theorem ev_Ah_stepOn {g : am_G} {x1 x2 : Int32} {w : am_G} (h : Ah_stepOn g x1 x2 = some w) : am_Ev 6 6 [.ref 81, .int x1, .int x2] (sh0, g) (sh0, w) (none) := by
  unfold Ah_stepOn at h
  refine am_ev mX0_stepOn (by rfl) (Nat.le_of_ble_eq_true rfl) [(0, .ref 81), (1, .int x1), (2, .int x2)] rfl ?_
  refine fe_lan (pc' := 1) dX0_stepOn_0 rfl rfl ?_
  refine fe_gf (pc' := 4) dX0_stepOn_1 rfl fl_0_11 n_81 gf_81_1 ?_
  refine fe_lin (pc' := 5) dX0_stepOn_4 rfl rfl ?_
  refine fe_ic (pc' := 6) dX0_stepOn_5 rfl ic_1 ?_
  refine fe_iadd (pc' := 7) dX0_stepOn_6 rfl ?_
  obtain ⟨hi1, h⟩ := am_gd rfl h
  refine fe_rl (pc' := 8) (b := 85 + 4 * (x1 + 1).toNatClampNeg) dX0_stepOn_7 rfl n_82 s_82 (Or.inl rfl) hi1 (ss_r hi1) (sc_ne (ss_c hi1)) ?_
  refine fe_lan (pc' := 9) dX0_stepOn_8 rfl rfl ?_
  refine fe_gf (pc' := 12) dX0_stepOn_9 rfl fl_0_11 n_81 gf_81_1 ?_
  refine fe_lin (pc' := 13) dX0_stepOn_12 rfl rfl ?_
  obtain ⟨hi2, h⟩ := am_gd rfl h
  refine fe_rl (pc' := 14) (b := 85 + 4 * x1.toNatClampNeg) dX0_stepOn_13 rfl n_82 s_82 (Or.inl rfl) hi2 (ss_r hi2) (sc_ne (ss_c hi2)) ?_
  obtain ⟨q3, hq4, h⟩ := am_bd h
  refine fe_iv (pc' := 17) (as := [.ref (85 + 4 * (x1 + 1).toNatClampNeg), .ref (85 + 4 * x1.toNatClampNeg)]) (h1 := (sh0, q3)) (r1 := none) (st' := []) dX0_stepOn_14 rfl cl_0_54 rfl rfl (sc_o (ss_c hi1)) ms_24 ⟨(sc_ne (ss_c hi1)), rfl, by decide, Nat.le_of_ble_eq_true rfl, Nat.le_of_ble_eq_true rfl⟩ (am_le0 _ _ _) (am_up (by decide) (ev_Ca_copyFrom (ss_c hi1) (ss_c hi2) hq4)) rfl ?_
  refine fe_lan (pc' := 18) dX0_stepOn_17 rfl rfl ?_
  refine fe_gf (pc' := 21) dX0_stepOn_18 rfl fl_0_11 n_81 gf_81_1 ?_
  refine fe_lin (pc' := 22) dX0_stepOn_21 rfl rfl ?_
  refine fe_ic (pc' := 23) dX0_stepOn_22 rfl ic_1 ?_
  refine fe_iadd (pc' := 24) dX0_stepOn_23 rfl ?_
  refine fe_rl (pc' := 25) (b := 85 + 4 * (x1 + 1).toNatClampNeg) dX0_stepOn_24 rfl n_82 s_82 (Or.inl rfl) hi1 (ss_r hi1) (sc_ne (ss_c hi1)) ?_
  refine fe_lin (pc' := 26) dX0_stepOn_25 rfl rfl ?_
  obtain ⟨q5, hq6, h⟩ := am_bd h
  refine fe_iv (pc' := 29) (as := [.ref (85 + 4 * (x1 + 1).toNatClampNeg), .int x2]) (h1 := (sh0, q5)) (r1 := none) (st' := []) dX0_stepOn_26 rfl cl_0_80 rfl rfl (sc_o (ss_c hi1)) ms_40 ⟨(sc_ne (ss_c hi1)), rfl, by decide, Nat.le_of_ble_eq_true rfl, Nat.le_of_ble_eq_true rfl⟩ (am_le0 _ _ _) (am_up (by decide) (ev_Ca_pass (ss_c hi1) hq6)) rfl ?_
  cases h
  exact fe_rv dX0_stepOn_29 rfl
-- Ah_luckyWays: X0_luckyWays
set_option maxRecDepth 4000 in
theorem ev_Ah_luckyWays : ∀ (n : Nat) (g : am_G) (x1 : Int32) (x2 : Int32) (x3 : Int32) (w : (am_G × Int64)), Ah_luckyWays n g x1 x2 x3 = some w → am_Ev (n + 7) 5 [.ref 81, .int x1, .int x2, .int x3] (sh0, g) (sh0, w.1) (some (.long w.2)) := by
  intro n
  induction n with
  | zero => intro g x1 x2 x3 w h; cases h
  | succ n IH =>
    intro g x1 x2 x3 w h
    generalize hdd : n + 7 = dd at IH
    rw [show n + 1 + 7 = dd + 1 by omega]
    have hd0 : 6 ≤ dd := by omega
    unfold Ah_luckyWays at h
    refine am_ev mX0_luckyWays (by rfl) (Nat.le_of_ble_eq_true rfl) [(0, .ref 81), (1, .int x1), (2, .int x2), (3, .int x3)] rfl ?_
    refine fe_lan (pc' := 1) dX0_luckyWays_0 rfl rfl ?_
    refine fe_gf (pc' := 4) dX0_luckyWays_1 rfl fl_0_11 n_81 gf_81_1 ?_
    refine fe_lin (pc' := 5) dX0_luckyWays_4 rfl rfl ?_
    obtain ⟨hi1, h⟩ := am_gd rfl h
    refine fe_rl (pc' := 6) (b := 85 + 4 * x1.toNatClampNeg) dX0_luckyWays_5 rfl n_82 s_82 (Or.inl rfl) hi1 (ss_r hi1) (sc_ne (ss_c hi1)) ?_
    refine fe_sa (pc' := 8) (lo' := [(0, .ref 81), (1, .int x1), (2, .int x2), (3, .int x3), (4, .ref (85 + 4 * x1.toNatClampNeg))]) dX0_luckyWays_6 rfl (Nat.le_of_ble_eq_true rfl) rfl ?_
    refine fe_la (pc' := 10) dX0_luckyWays_8 rfl rfl ?_
    refine fe_gf (pc' := 13) dX0_luckyWays_10 rfl fl_0_58 (sc_ne (ss_c hi1)) (cg_2 (ss_c hi1)) ?_
    refine fe_lin (pc' := 14) dX0_luckyWays_13 rfl rfl ?_
    refine fe_ic_le (pc' := 17) (tgt := 19) dX0_luckyWays_14 rfl rfl (fun hc2 => ?_) (fun hc2 => ?_)
    · replace h := (if_pos hc2).symm.trans h
      refine fe_la (pc' := 21) dX0_luckyWays_19 rfl rfl ?_
      obtain ⟨q3, hq4, h⟩ := am_bd h
      refine fe_iv (pc' := 24) (as := [.ref (85 + 4 * x1.toNatClampNeg)]) (h1 := (sh0, g)) (r1 := some (.int (am_b q3))) (st' := [.int (am_b q3)]) dX0_luckyWays_21 rfl cl_0_108 rfl rfl (sc_o (ss_c hi1)) ms_29 ⟨(sc_ne (ss_c hi1)), rfl, by decide, Nat.le_of_ble_eq_true rfl, Nat.le_of_ble_eq_true rfl⟩ (am_le0 _ _ _) (am_up (by omega) (ev_Ca_hasStage (ss_c hi1) hq4)) rfl ?_
      refine fe_bT (pc' := 27) (tgt := 33) dX0_luckyWays_24 rfl rfl rfl (fun hc5 => ?_) (fun hc5 => ?_)
      · replace h := (if_pos hc5).symm.trans h
        refine fe_lin (pc' := 28) dX0_luckyWays_27 rfl rfl ?_
        refine fe_bp (pc' := 30) dX0_luckyWays_28 rfl ib_8 ?_
        refine fe_ic_lt (pc' := 33) (tgt := 35) dX0_luckyWays_30 rfl rfl (fun hc6 => ?_) (fun hc6 => ?_)
        · replace h := (if_pos hc6).symm.trans h
          refine fe_lc (pc' := 36) (v := 0) dX0_luckyWays_35 rfl rfl ?_
          refine fe_sl (pc' := 38) (lo' := [(0, .ref 81), (1, .int x1), (2, .int x2), (3, .int x3), (4, .ref (85 + 4 * x1.toNatClampNeg)), (5, .long 0)]) dX0_luckyWays_36 rfl (Nat.le_of_ble_eq_true rfl) rfl ?_
          refine fe_lin (pc' := 39) dX0_luckyWays_38 rfl rfl ?_
          obtain ⟨q12, hq18, h⟩ := am_bd h
          have K : am_E dd mX0_luckyWays (65, [(0, .ref 81), (1, .int x1), (2, .int x2), (3, .int x3), (5, .long q12.2)], [], (sh0, q12.1)) (sh0, w.1) (some (.long w.2)) := by
            refine fe_lin (pc' := 66) dX0_luckyWays_65 rfl rfl ?_
            refine fe_bp (pc' := 68) dX0_luckyWays_66 rfl ib_10 ?_
            refine fe_ic_ge (pc' := 71) (tgt := 97) dX0_luckyWays_68 rfl rfl (fun hc13 => ?_) (fun hc13 => ?_)
            · replace h := (if_pos hc13).symm.trans h
              refine fe_ll (pc' := 99) dX0_luckyWays_97 rfl rfl ?_
              cases h
              exact fe_rl' dX0_luckyWays_99 rfl
            · replace h := (if_neg hc13).symm.trans h
              refine fe_lan (pc' := 72) dX0_luckyWays_71 rfl rfl ?_
              refine fe_lin (pc' := 73) dX0_luckyWays_72 rfl rfl ?_
              refine fe_ic (pc' := 74) dX0_luckyWays_73 rfl ic_0 ?_
              obtain ⟨q14, hq15, h⟩ := am_bd h
              refine fe_iv (pc' := 77) (as := [.ref 81, .int x1, .int 0]) (h1 := (sh0, q14)) (r1 := none) (st' := []) dX0_luckyWays_74 rfl cl_0_112 rfl rfl s_81 ms_6 ⟨n_81, rfl, by decide, Nat.le_of_ble_eq_true rfl, Nat.le_of_ble_eq_true rfl⟩ (am_le0 _ _ _) (am_up (by omega) (ev_Ah_stepOn hq15)) rfl ?_
              refine fe_ll (pc' := 79) dX0_luckyWays_77 rfl rfl ?_
              refine fe_bp (pc' := 81) dX0_luckyWays_79 rfl ib_10 ?_
              refine fe_lin (pc' := 82) dX0_luckyWays_81 rfl rfl ?_
              refine fe_isub (pc' := 83) dX0_luckyWays_82 rfl ?_
              refine fe_i2l (pc' := 84) dX0_luckyWays_83 rfl ?_
              refine fe_lan (pc' := 85) dX0_luckyWays_84 rfl rfl ?_
              refine fe_lin (pc' := 86) dX0_luckyWays_85 rfl rfl ?_
              refine fe_ic (pc' := 87) dX0_luckyWays_86 rfl ic_1 ?_
              refine fe_iadd (pc' := 88) dX0_luckyWays_87 rfl ?_
              refine fe_lin (pc' := 89) dX0_luckyWays_88 rfl rfl ?_
              refine fe_lin (pc' := 90) dX0_luckyWays_89 rfl rfl ?_
              obtain ⟨q16, hq17, h⟩ := am_bd h
              refine fe_iv (pc' := 93) (as := [.ref 81, .int (x1 + 1), .int x2, .int x3]) (h1 := (sh0, q16.1)) (r1 := some (.long q16.2)) (st' := [.long q16.2, .long ((10 - x2).toInt64), .long q12.2]) dX0_luckyWays_90 rfl cl_0_100 rfl rfl s_81 ms_5 ⟨n_81, rfl, by decide, Nat.le_of_ble_eq_true rfl, Nat.le_of_ble_eq_true rfl⟩ (am_le0 _ _ _) (IH _ _ _ _ _ hq17) rfl ?_
              refine fe_lmul (pc' := 94) dX0_luckyWays_93 rfl ?_
              refine fe_ladd (pc' := 95) dX0_luckyWays_94 rfl ?_
              refine fe_sl (pc' := 97) (lo' := [(0, .ref 81), (1, .int x1), (2, .int x2), (3, .int x3), (5, .long (q12.2 + (((10 - x2).toInt64) * q16.2)))]) dX0_luckyWays_95 rfl (Nat.le_of_ble_eq_true rfl) rfl ?_
              refine fe_ll (pc' := 99) dX0_luckyWays_97 rfl rfl ?_
              cases h
              exact fe_rl' dX0_luckyWays_99 rfl
          replace h := hq18
          refine fe_if_le (pc' := 42) (tgt := 65) dX0_luckyWays_39 rfl rfl (fun hc7 => ?_) (fun hc7 => ?_)
          · replace h := (if_pos hc7).symm.trans h
            refine fe_pick [0, 1, 2, 3, 5] rfl ?_
            cases h
            exact K
          · replace h := (if_neg hc7).symm.trans h
            refine fe_lan (pc' := 43) dX0_luckyWays_42 rfl rfl ?_
            refine fe_lin (pc' := 44) dX0_luckyWays_43 rfl rfl ?_
            refine fe_ic (pc' := 45) dX0_luckyWays_44 rfl ic_1 ?_
            obtain ⟨q8, hq9, h⟩ := am_bd h
            refine fe_iv (pc' := 48) (as := [.ref 81, .int x1, .int 1]) (h1 := (sh0, q8)) (r1 := none) (st' := []) dX0_luckyWays_45 rfl cl_0_112 rfl rfl s_81 ms_6 ⟨n_81, rfl, by decide, Nat.le_of_ble_eq_true rfl, Nat.le_of_ble_eq_true rfl⟩ (am_le0 _ _ _) (am_up (by omega) (ev_Ah_stepOn hq9)) rfl ?_
            refine fe_ll (pc' := 50) dX0_luckyWays_48 rfl rfl ?_
            refine fe_lin (pc' := 51) dX0_luckyWays_50 rfl rfl ?_
            refine fe_i2l (pc' := 52) dX0_luckyWays_51 rfl ?_
            refine fe_lan (pc' := 53) dX0_luckyWays_52 rfl rfl ?_
            refine fe_lin (pc' := 54) dX0_luckyWays_53 rfl rfl ?_
            refine fe_ic (pc' := 55) dX0_luckyWays_54 rfl ic_1 ?_
            refine fe_iadd (pc' := 56) dX0_luckyWays_55 rfl ?_
            refine fe_lin (pc' := 57) dX0_luckyWays_56 rfl rfl ?_
            refine fe_lin (pc' := 58) dX0_luckyWays_57 rfl rfl ?_
            obtain ⟨q10, hq11, h⟩ := am_bd h
            refine fe_iv (pc' := 61) (as := [.ref 81, .int (x1 + 1), .int x2, .int x3]) (h1 := (sh0, q10.1)) (r1 := some (.long q10.2)) (st' := [.long q10.2, .long x2.toInt64, .long 0]) dX0_luckyWays_58 rfl cl_0_100 rfl rfl s_81 ms_5 ⟨n_81, rfl, by decide, Nat.le_of_ble_eq_true rfl, Nat.le_of_ble_eq_true rfl⟩ (am_le0 _ _ _) (IH _ _ _ _ _ hq11) rfl ?_
            refine fe_lmul (pc' := 62) dX0_luckyWays_61 rfl ?_
            refine fe_ladd (pc' := 63) dX0_luckyWays_62 rfl ?_
            refine fe_sl (pc' := 65) (lo' := [(0, .ref 81), (1, .int x1), (2, .int x2), (3, .int x3), (4, .ref (85 + 4 * x1.toNatClampNeg)), (5, .long (0 + (x2.toInt64 * q10.2)))]) dX0_luckyWays_63 rfl (Nat.le_of_ble_eq_true rfl) rfl ?_
            refine fe_pick [0, 1, 2, 3, 5] rfl ?_
            cases h
            exact K
        · replace h := (if_neg hc6).symm.trans h
          refine fe_lc (pc' := 34) (v := 1) dX0_luckyWays_33 rfl rfl ?_
          cases h
          exact fe_rl' dX0_luckyWays_34 rfl
      · replace h := (if_neg hc5).symm.trans h
        refine fe_lc (pc' := 34) (v := 1) dX0_luckyWays_33 rfl rfl ?_
        cases h
        exact fe_rl' dX0_luckyWays_34 rfl
    · replace h := (if_neg hc2).symm.trans h
      refine fe_lc (pc' := 18) (v := 0) dX0_luckyWays_17 rfl rfl ?_
      cases h
      exact fe_rl' dX0_luckyWays_18 rfl
-- Ah_shorten: X0_shorten
set_option maxRecDepth 4000 in
theorem lp_Ah_shorten_L2 {hE : am_H} {r : Option Value} : ∀ (n : Nat) (g : am_G) (x1 : Int32) (x2 : Int32) (w : am_G), Ah_shorten_L2 n g x1 x2 = some w → am_E 0 mX0_shorten (65, [], [], (sh0, w)) hE r → am_E 0 mX0_shorten (2, [(0, .ref 81), (1, .int x1), (2, .int x2)], [], (sh0, g)) hE r := by
  intro n
  induction n with
  | zero => intro g x1 x2 q h; cases h
  | succ n ih =>
    intro g x1 x2 q h k1
    replace h : _ = _ := h
    unfold Ah_shorten_L2 at h
    refine fe_lin (pc' := 3) dX0_shorten_2 rfl rfl ?_
    refine fe_bp (pc' := 5) dX0_shorten_3 rfl ib_8 ?_
    refine fe_ic_ge (pc' := 8) (tgt := 65) dX0_shorten_5 rfl rfl (fun hc1 => ?_) (fun hc1 => ?_)
    · replace h := (if_pos hc1).symm.trans h
      refine fe_pick [] rfl ?_
      cases h
      exact k1
    · replace h := (if_neg hc1).symm.trans h
      refine fe_lin (pc' := 9) dX0_shorten_8 rfl rfl ?_
      refine fe_ic (pc' := 10) dX0_shorten_9 rfl ic_1 ?_
      obtain ⟨q9, hq11, h⟩ := am_bd h
      have K : am_E 0 mX0_shorten (59, [(0, .ref 81), (1, .int x1), (2, .int x2)], [], (sh0, q9)) hE r := by
        refine fe_inc (pc' := 62) (lo' := [(0, .ref 81), (1, .int x1), (2, .int (x2 + 1))]) dX0_shorten_59 rfl ic_1 (Nat.le_of_ble_eq_true rfl) rfl rfl ?_
        refine fe_go (tgt := 2) dX0_shorten_62 rfl ?_
        exact ih q9 x1 (x2 + 1) q h k1
      replace h := hq11
      refine fe_ic_le (pc' := 13) (tgt := 59) dX0_shorten_10 rfl rfl (fun hc2 => ?_) (fun hc2 => ?_)
      · replace h := (if_pos hc2).symm.trans h
        cases h
        exact K
      · replace h := (if_neg hc2).symm.trans h
        refine fe_lan (pc' := 14) dX0_shorten_13 rfl rfl ?_
        refine fe_gf (pc' := 17) dX0_shorten_14 rfl fl_0_24 n_81 gf_81_4 ?_
        refine fe_lin (pc' := 18) dX0_shorten_17 rfl rfl ?_
        refine fe_i2l (pc' := 19) dX0_shorten_18 rfl ?_
        obtain ⟨hz3, h⟩ := am_gd rfl h
        refine fe_lrem (pc' := 20) dX0_shorten_19 rfl hz3 ?_
        refine fe_lc (pc' := 21) (v := 0) dX0_shorten_20 rfl rfl ?_
        refine fe_lcmp (pc' := 22) dX0_shorten_21 rfl ?_
        refine fe_if_ne (pc' := 25) (tgt := 59) dX0_shorten_22 rfl rfl (fun hc4 => ?_) (fun hc4 => ?_)
        · replace h := (if_pos hc4).symm.trans h
          refine fe_lan (pc' := 26) dX0_shorten_25 rfl rfl ?_
          refine fe_gf (pc' := 29) dX0_shorten_26 rfl fl_0_28 n_81 gf_81_5 ?_
          refine fe_lin (pc' := 30) dX0_shorten_29 rfl rfl ?_
          refine fe_i2l (pc' := 31) dX0_shorten_30 rfl ?_
          refine fe_lrem (pc' := 32) dX0_shorten_31 rfl hz3 ?_
          refine fe_lc (pc' := 33) (v := 0) dX0_shorten_32 rfl rfl ?_
          refine fe_lcmp (pc' := 34) dX0_shorten_33 rfl ?_
          refine fe_if_ne (pc' := 37) (tgt := 59) dX0_shorten_34 rfl rfl (fun hc6 => ?_) (fun hc6 => ?_)
          · replace h := (if_pos hc6).symm.trans h
            refine fe_lan (pc' := 38) dX0_shorten_37 rfl rfl ?_
            refine fe_dup (pc' := 39) dX0_shorten_38 rfl rfl ?_
            refine fe_gf (pc' := 42) dX0_shorten_39 rfl fl_0_24 n_81 gf_81_4 ?_
            refine fe_lin (pc' := 43) dX0_shorten_42 rfl rfl ?_
            refine fe_i2l (pc' := 44) dX0_shorten_43 rfl ?_
            refine fe_ldiv (pc' := 45) dX0_shorten_44 rfl hz3 ?_
            refine fe_pl (pc' := 48) dX0_shorten_45 rfl fl_0_24 n_81 s_81 rfl ⟨rfl, rfl⟩ ?_
            refine fe_lan (pc' := 49) dX0_shorten_48 rfl rfl ?_
            refine fe_dup (pc' := 50) dX0_shorten_49 rfl rfl ?_
            refine fe_gf (pc' := 53) dX0_shorten_50 rfl fl_0_28 n_81 gf_81_5 ?_
            refine fe_lin (pc' := 54) dX0_shorten_53 rfl rfl ?_
            refine fe_i2l (pc' := 55) dX0_shorten_54 rfl ?_
            refine fe_ldiv (pc' := 56) dX0_shorten_55 rfl hz3 ?_
            refine fe_pl (pc' := 59) dX0_shorten_56 rfl fl_0_28 n_81 s_81 rfl ⟨rfl, rfl⟩ ?_
            cases h
            exact K
          · replace h := (if_neg hc6).symm.trans h
            cases h
            exact K
        · replace h := (if_neg hc4).symm.trans h
          cases h
          exact K
set_option maxRecDepth 4000 in
theorem ev_Ah_shorten {g : am_G} {x1 : Int32} {w : am_G} (h : Ah_shorten g x1 = some w) : am_Ev 1 7 [.ref 81, .int x1] (sh0, g) (sh0, w) (none) := by
  unfold Ah_shorten at h
  refine am_ev mX0_shorten (by rfl) (Nat.le_of_ble_eq_true rfl) [(0, .ref 81), (1, .int x1)] rfl ?_
  refine fe_ic (pc' := 1) dX0_shorten_0 rfl ic_0 ?_
  refine fe_sin (pc' := 2) (lo' := [(0, .ref 81), (1, .int x1), (2, .int 0)]) dX0_shorten_1 rfl (Nat.le_of_ble_eq_true rfl) rfl ?_
  obtain ⟨q10, hq12, h⟩ := am_bd h
  refine lp_Ah_shorten_L2 _ g x1 0 q10 hq12 ?_
  cases h
  exact fe_rv dX0_shorten_65 rfl
-- Ah_findOdds: X0_findOdds
set_option maxRecDepth 4000 in
theorem lp_Ah_findOdds_L11 {hE : am_H} {r : Option Value} : ∀ (n : Nat) (g : am_G) (x2 : Int32) (x3 : Int32) (x4 : Int32) (w : am_G), Ah_findOdds_L11 n g x2 x3 x4 = some w → am_E 21 mX0_findOdds (41, [(0, .ref 81), (1, .ref 28), (2, .int x2), (3, .int x3)], [], (sh0, w)) hE r → am_E 21 mX0_findOdds (11, [(0, .ref 81), (1, .ref 28), (2, .int x2), (3, .int x3), (4, .int x4)], [], (sh0, g)) hE r := by
  intro n
  induction n with
  | zero => intro g x2 x3 x4 q h; cases h
  | succ n ih =>
    intro g x2 x3 x4 q h k1
    replace h : _ = _ := h
    unfold Ah_findOdds_L11 at h
    refine fe_li (pc' := 13) dX0_findOdds_11 rfl rfl ?_
    refine fe_lan (pc' := 14) dX0_findOdds_13 rfl rfl ?_
    refine fe_gf (pc' := 17) dX0_findOdds_14 rfl fl_0_47 n_81 gf_81_0 ?_
    refine fe_gf (pc' := 20) dX0_findOdds_17 rfl fl_0_71 n_3 gf_3_9 ?_
    refine fe_ic_ge (pc' := 23) (tgt := 41) dX0_findOdds_20 rfl rfl (fun hc1 => ?_) (fun hc1 => ?_)
    · replace h := (if_pos hc1).symm.trans h
      refine fe_pick [0, 1, 2, 3] rfl ?_
      cases h
      exact k1
    · replace h := (if_neg hc1).symm.trans h
      refine fe_lan (pc' := 24) dX0_findOdds_23 rfl rfl ?_
      refine fe_dup (pc' := 25) dX0_findOdds_24 rfl rfl ?_
      refine fe_gf (pc' := 28) dX0_findOdds_25 rfl fl_0_28 n_81 gf_81_5 ?_
      refine fe_ld2 (pc' := 31) dX0_findOdds_28 rfl kl_0_98 ?_
      refine fe_lmul (pc' := 32) dX0_findOdds_31 rfl ?_
      refine fe_pl (pc' := 35) dX0_findOdds_32 rfl fl_0_28 n_81 s_81 rfl ⟨rfl, rfl⟩ ?_
      refine fe_inc (pc' := 38) (lo' := [(0, .ref 81), (1, .ref 28), (2, .int x2), (3, .int x3), (4, .int (x4 + 1))]) dX0_findOdds_35 rfl ic_1 (Nat.le_of_ble_eq_true rfl) rfl rfl ?_
      refine fe_go (tgt := 11) dX0_findOdds_38 rfl ?_
      exact ih (am_wL g 81 5 ((g.2 81 5) * 10)) x2 x3 (x4 + 1) q h k1
set_option maxRecDepth 4000 in
theorem ev_Ah_findOdds {g : am_G} {x2 x3 : Int32} {w : am_G} (h : Ah_findOdds g x2 x3 = some w) : am_Ev 22 4 [.ref 81, .ref 28, .int x2, .int x3] (sh0, g) (sh0, w) (none) := by
  unfold Ah_findOdds at h
  refine am_ev mX0_findOdds (by rfl) (Nat.le_of_ble_eq_true rfl) [(0, .ref 81), (1, .ref 28), (2, .int x2), (3, .int x3)] rfl ?_
  refine fe_lan (pc' := 1) dX0_findOdds_0 rfl rfl ?_
  refine fe_lc (pc' := 2) (v := 1) dX0_findOdds_1 rfl rfl ?_
  refine fe_pl (pc' := 5) dX0_findOdds_2 rfl fl_0_28 n_81 s_81 rfl ⟨rfl, rfl⟩ ?_
  refine fe_lan (pc' := 6) dX0_findOdds_5 rfl rfl ?_
  refine fe_gf (pc' := 9) dX0_findOdds_6 rfl fl_0_68 (sc_ne sc_28) (cg_1 sc_28) ?_
  refine fe_si (pc' := 11) (lo' := [(0, .ref 81), (1, .ref 28), (2, .int x2), (3, .int x3), (4, .int ((am_wL g 81 5 1).1 28 1))]) dX0_findOdds_9 rfl (Nat.le_of_ble_eq_true rfl) rfl ?_
  obtain ⟨q2, hq11, h⟩ := am_bd h
  refine lp_Ah_findOdds_L11 _ (am_wL g 81 5 1) x2 x3 ((am_wL g 81 5 1).1 28 1) q2 hq11 ?_
  refine fe_lan (pc' := 42) dX0_findOdds_41 rfl rfl ?_
  refine fe_lan (pc' := 43) dX0_findOdds_42 rfl rfl ?_
  obtain ⟨q3, hq4, h⟩ := am_bd h
  refine fe_iv (pc' := 46) (as := [.ref 81, .ref 28]) (h1 := (sh0, q3)) (r1 := some (.ref 85)) (st' := [.ref 85]) dX0_findOdds_43 rfl cl_0_64 rfl rfl s_81 ms_1 ⟨n_81, rfl, by decide, Nat.le_of_ble_eq_true rfl, Nat.le_of_ble_eq_true rfl⟩ (am_le0 _ _ _) (am_up (by decide) (ev_Ah_setOut hq4)) rfl ?_
  refine fe_pop (pc' := 47) dX0_findOdds_46 rfl rfl ?_
  refine fe_lan (pc' := 48) dX0_findOdds_47 rfl rfl ?_
  refine fe_lan (pc' := 49) dX0_findOdds_48 rfl rfl ?_
  refine fe_ic (pc' := 50) dX0_findOdds_49 rfl ic_0 ?_
  refine fe_lin (pc' := 51) dX0_findOdds_50 rfl rfl ?_
  refine fe_lin (pc' := 52) dX0_findOdds_51 rfl rfl ?_
  obtain ⟨q5, hq6, h⟩ := am_bd h
  refine fe_iv (pc' := 55) (as := [.ref 81, .int 0, .int x2, .int x3]) (h1 := (sh0, q5.1)) (r1 := some (.long q5.2)) (st' := [.long q5.2, .ref 81]) dX0_findOdds_52 rfl cl_0_100 rfl rfl s_81 ms_5 ⟨n_81, rfl, by decide, Nat.le_of_ble_eq_true rfl, Nat.le_of_ble_eq_true rfl⟩ (am_le0 _ _ _) (am_up (by decide) (ev_Ah_luckyWays 14 _ _ _ _ _ hq6)) rfl ?_
  refine fe_pl (pc' := 58) dX0_findOdds_55 rfl fl_0_24 n_81 s_81 rfl ⟨rfl, rfl⟩ ?_
  refine fe_lan (pc' := 59) dX0_findOdds_58 rfl rfl ?_
  refine fe_ic (pc' := 60) dX0_findOdds_59 rfl ic_2 ?_
  obtain ⟨q7, hq8, h⟩ := am_bd h
  refine fe_iv (pc' := 63) (as := [.ref 81, .int 2]) (h1 := (sh0, q7)) (r1 := none) (st' := []) dX0_findOdds_60 rfl cl_0_104 rfl rfl s_81 ms_7 ⟨n_81, rfl, by decide, Nat.le_of_ble_eq_true rfl, Nat.le_of_ble_eq_true rfl⟩ (am_le0 _ _ _) (am_up (by decide) (ev_Ah_shorten hq8)) rfl ?_
  refine fe_lan (pc' := 64) dX0_findOdds_63 rfl rfl ?_
  refine fe_ic (pc' := 65) dX0_findOdds_64 rfl ic_5 ?_
  obtain ⟨q9, hq10, h⟩ := am_bd h
  refine fe_iv (pc' := 68) (as := [.ref 81, .int 5]) (h1 := (sh0, q9)) (r1 := none) (st' := []) dX0_findOdds_65 rfl cl_0_104 rfl rfl s_81 ms_7 ⟨n_81, rfl, by decide, Nat.le_of_ble_eq_true rfl, Nat.le_of_ble_eq_true rfl⟩ (am_le0 _ _ _) (am_up (by decide) (ev_Ah_shorten hq10)) rfl ?_
  cases h
  exact fe_rv dX0_findOdds_68 rfl
-- Tb_odds: X8_odds
set_option maxRecDepth 4000 in
theorem ev_Tb_odds {g : am_G} {x1 x2 x3 : Int32} {w : (am_G × Int64)} (h : Tb_odds g x1 x2 x3 = some w) : am_Ev 23 98 [.ref 0, .int x1, .int x2, .int x3] (sh0, g) (sh0, w.1) (some (.long w.2)) := by
  unfold Tb_odds at h
  refine am_ev mX8_odds (by rfl) (Nat.le_of_ble_eq_true rfl) [(0, .ref 0), (1, .int x1), (2, .int x2), (3, .int x3)] rfl ?_
  refine fe_lin (pc' := 1) dX8_odds_0 rfl rfl ?_
  refine fe_ic (pc' := 2) dX8_odds_1 rfl ic_0 ?_
  refine fe_bp (pc' := 4) dX8_odds_2 rfl ib_10 ?_
  obtain ⟨q1, hq2, h⟩ := am_bd h
  refine fe_is (pc' := 7) (as := [.int x1, .int 0, .int 10]) (h1 := (sh0, g)) (r1 := some (.int (am_b q1))) (st' := [.int (am_b q1)]) dX8_odds_4 rfl cl_8_79 (Or.inl rfl) rfl rfl ⟨Nat.le_of_ble_eq_true rfl, Nat.le_of_ble_eq_true rfl⟩ (am_le0 _ _ _) (am_up (by decide) (ev_Tb_isWithin hq2)) rfl ?_
  refine fe_bT (pc' := 10) (tgt := 28) dX8_odds_7 rfl rfl rfl (fun hc3 => ?_) (fun hc3 => ?_)
  · replace h := (if_pos hc3).symm.trans h
    refine fe_lin (pc' := 11) dX8_odds_10 rfl rfl ?_
    refine fe_ic (pc' := 12) dX8_odds_11 rfl ic_0 ?_
    refine fe_sp (pc' := 15) dX8_odds_12 rfl is_9999 ?_
    obtain ⟨q4, hq5, h⟩ := am_bd h
    refine fe_is (pc' := 18) (as := [.int x2, .int 0, .int 9999]) (h1 := (sh0, g)) (r1 := some (.int (am_b q4))) (st' := [.int (am_b q4)]) dX8_odds_15 rfl cl_8_79 (Or.inl rfl) rfl rfl ⟨Nat.le_of_ble_eq_true rfl, Nat.le_of_ble_eq_true rfl⟩ (am_le0 _ _ _) (am_up (by decide) (ev_Tb_isWithin hq5)) rfl ?_
    refine fe_bT (pc' := 21) (tgt := 28) dX8_odds_18 rfl rfl rfl (fun hc6 => ?_) (fun hc6 => ?_)
    · replace h := (if_pos hc6).symm.trans h
      refine fe_lin (pc' := 22) dX8_odds_21 rfl rfl ?_
      obtain ⟨q7, hq8, h⟩ := am_bd h
      refine fe_is (pc' := 25) (as := [.int x3]) (h1 := (sh0, g)) (r1 := some (.int (am_b q7))) (st' := [.int (am_b q7)]) dX8_odds_22 rfl cl_8_223 (Or.inl rfl) rfl rfl ⟨Nat.le_of_ble_eq_true rfl, Nat.le_of_ble_eq_true rfl⟩ (am_le0 _ _ _) (am_up (by decide) (ev_Tb_isEither hq8)) rfl ?_
      refine fe_bF (pc' := 28) (tgt := 32) dX8_odds_25 rfl rfl rfl (fun hc9 => ?_) (fun hc9 => ?_)
      · replace h := (if_pos hc9).symm.trans h
        refine fe_lan (pc' := 33) dX8_odds_32 rfl rfl ?_
        refine fe_gf (pc' := 36) dX8_odds_33 rfl fl_8_64 n_0 gf_0_8 ?_
        refine fe_lan (pc' := 37) dX8_odds_36 rfl rfl ?_
        refine fe_gf (pc' := 40) dX8_odds_37 rfl fl_8_45 n_0 gf_0_4 ?_
        refine fe_lin (pc' := 41) dX8_odds_40 rfl rfl ?_
        refine fe_lin (pc' := 42) dX8_odds_41 rfl rfl ?_
        obtain ⟨q10, hq11, h⟩ := am_bd h
        refine fe_iv (pc' := 45) (as := [.ref 81, .ref 28, .int x1, .int x2]) (h1 := (sh0, q10)) (r1 := none) (st' := []) dX8_odds_42 rfl cl_8_286 rfl rfl s_81 ms_4 ⟨n_81, rfl, by decide, Nat.le_of_ble_eq_true rfl, Nat.le_of_ble_eq_true rfl⟩ (am_le0 _ _ _) (am_up (by decide) (ev_Ah_findOdds hq11)) rfl ?_
        refine fe_lin (pc' := 46) dX8_odds_45 rfl rfl ?_
        refine fe_if_ne (pc' := 49) (tgt := 59) dX8_odds_46 rfl rfl (fun hc12 => ?_) (fun hc12 => ?_)
        · replace h := (if_pos hc12).symm.trans h
          refine fe_lan (pc' := 50) dX8_odds_49 rfl rfl ?_
          refine fe_gf (pc' := 53) dX8_odds_50 rfl fl_8_64 n_0 gf_0_8 ?_
          refine fe_gf (pc' := 56) dX8_odds_53 rfl fl_8_290 n_81 gf_81_4 ?_
          refine fe_go (tgt := 66) dX8_odds_56 rfl ?_
          cases h
          exact fe_rl' dX8_odds_66 rfl
        · replace h := (if_neg hc12).symm.trans h
          refine fe_lan (pc' := 60) dX8_odds_59 rfl rfl ?_
          refine fe_gf (pc' := 63) dX8_odds_60 rfl fl_8_64 n_0 gf_0_8 ?_
          refine fe_gf (pc' := 66) dX8_odds_63 rfl fl_8_293 n_81 gf_81_5 ?_
          cases h
          exact fe_rl' dX8_odds_66 rfl
      · replace h := (if_neg hc9).symm.trans h
        refine fe_ld2 (pc' := 31) dX8_odds_28 rfl kl_8_284 ?_
        cases h
        exact fe_rl' dX8_odds_31 rfl
    · replace h := (if_neg hc6).symm.trans h
      refine fe_ld2 (pc' := 31) dX8_odds_28 rfl kl_8_284 ?_
      cases h
      exact fe_rl' dX8_odds_31 rfl
  · replace h := (if_neg hc3).symm.trans h
    refine fe_ld2 (pc' := 31) dX8_odds_28 rfl kl_8_284 ?_
    cases h
    exact fe_rl' dX8_odds_31 rfl
-- Bo_takes: X1_takes
set_option maxRecDepth 4000 in
theorem ev_Bo_takes {g : am_G} {x1 x2 x3 : Int32} {w : (am_G × Bool)} (h : Bo_takes g x1 x2 x3 = some w) : am_Ev 1 19 [.ref 121, .int x1, .int x2, .int x3] (sh0, g) (sh0, w.1) (some (.int (am_b w.2))) := by
  unfold Bo_takes at h
  refine am_ev mX1_takes (by rfl) (Nat.le_of_ble_eq_true rfl) [(0, .ref 121), (1, .int x1), (2, .int x2), (3, .int x3)] rfl ?_
  refine fe_lan (pc' := 1) dX1_takes_0 rfl rfl ?_
  refine fe_gf (pc' := 4) dX1_takes_1 rfl fl_1_9 n_121 gf_121_2 ?_
  refine fe_bp (pc' := 6) dX1_takes_4 rfl ib_6 ?_
  refine fe_ic_lt (pc' := 9) (tgt := 11) dX1_takes_6 rfl rfl (fun hc1 => ?_) (fun hc1 => ?_)
  · replace h := (if_pos hc1).symm.trans h
    refine fe_lan (pc' := 12) dX1_takes_11 rfl rfl ?_
    refine fe_gf (pc' := 15) dX1_takes_12 rfl fl_1_15 n_121 gf_121_3 ?_
    refine fe_lan (pc' := 16) dX1_takes_15 rfl rfl ?_
    refine fe_gf (pc' := 19) dX1_takes_16 rfl fl_1_9 n_121 gf_121_2 ?_
    refine fe_lin (pc' := 20) dX1_takes_19 rfl rfl ?_
    obtain ⟨hi2, h⟩ := am_gd rfl h
    refine fe_as (pc' := 21) (j := (g.1 121 2).toNatClampNeg) dX1_takes_20 rfl n_122 s_122 hi2 rfl ?_
    refine fe_lan (pc' := 22) dX1_takes_21 rfl rfl ?_
    refine fe_gf (pc' := 25) dX1_takes_22 rfl fl_1_19 n_121 gf_121_4 ?_
    refine fe_lan (pc' := 26) dX1_takes_25 rfl rfl ?_
    refine fe_gf (pc' := 29) dX1_takes_26 rfl fl_1_9 n_121 gf_121_2 ?_
    refine fe_lin (pc' := 30) dX1_takes_29 rfl rfl ?_
    obtain ⟨hi3, h⟩ := am_gd rfl h
    refine fe_as (pc' := 31) (j := ((am_wr g 122 (g.1 121 2).toNatClampNeg x1).1 121 2).toNatClampNeg) dX1_takes_30 rfl n_123 s_123 hi3 rfl ?_
    refine fe_lan (pc' := 32) dX1_takes_31 rfl rfl ?_
    refine fe_gf (pc' := 35) dX1_takes_32 rfl fl_1_22 n_121 gf_121_5 ?_
    refine fe_lan (pc' := 36) dX1_takes_35 rfl rfl ?_
    refine fe_gf (pc' := 39) dX1_takes_36 rfl fl_1_9 n_121 gf_121_2 ?_
    refine fe_lin (pc' := 40) dX1_takes_39 rfl rfl ?_
    obtain ⟨hi4, h⟩ := am_gd rfl h
    refine fe_as (pc' := 41) (j := ((am_wr (am_wr g 122 (g.1 121 2).toNatClampNeg x1) 123 ((am_wr g 122 (g.1 121 2).toNatClampNeg x1).1 121 2).toNatClampNeg x2).1 121 2).toNatClampNeg) dX1_takes_40 rfl n_124 s_124 hi4 rfl ?_
    refine fe_lan (pc' := 42) dX1_takes_41 rfl rfl ?_
    refine fe_dup (pc' := 43) dX1_takes_42 rfl rfl ?_
    refine fe_gf (pc' := 46) dX1_takes_43 rfl fl_1_9 n_121 gf_121_2 ?_
    refine fe_ic (pc' := 47) dX1_takes_46 rfl ic_1 ?_
    refine fe_iadd (pc' := 48) dX1_takes_47 rfl ?_
    refine fe_pi (pc' := 51) dX1_takes_48 rfl fl_1_9 n_121 s_121 rfl ⟨rfl, Or.inl rfl⟩ ?_
    refine fe_ic (pc' := 52) dX1_takes_51 rfl ic_1 ?_
    cases h
    exact fe_rz _ dX1_takes_52 rfl rfl
  · replace h := (if_neg hc1).symm.trans h
    refine fe_ic (pc' := 10) dX1_takes_9 rfl ic_0 ?_
    cases h
    exact fe_rz _ dX1_takes_10 rfl rfl
-- Tb_book: X8_book
set_option maxRecDepth 4000 in
theorem ev_Tb_book {g : am_G} {x1 x2 x3 : Int32} {w : (am_G × Int32)} (h : Tb_book g x1 x2 x3 = some w) : am_Ev 4 99 [.ref 0, .int x1, .int x2, .int x3] (sh0, g) (sh0, w.1) (some (.int w.2)) := by
  unfold Tb_book at h
  refine am_ev mX8_book (by rfl) (Nat.le_of_ble_eq_true rfl) [(0, .ref 0), (1, .int x1), (2, .int x2), (3, .int x3)] rfl ?_
  refine fe_lan (pc' := 1) dX8_book_0 rfl rfl ?_
  refine fe_lin (pc' := 2) dX8_book_1 rfl rfl ?_
  refine fe_lin (pc' := 3) dX8_book_2 rfl rfl ?_
  refine fe_lin (pc' := 4) dX8_book_3 rfl rfl ?_
  obtain ⟨q1, hq2, h⟩ := am_bd h
  refine fe_iv (pc' := 7) (as := [.ref 0, .int x1, .int x2, .int x3]) (h1 := (sh0, g)) (r1 := some (.int (am_b q1))) (st' := [.int (am_b q1)]) dX8_book_4 rfl cl_8_277 rfl rfl s_0 ms_115 ⟨n_0, rfl, by decide, Nat.le_of_ble_eq_true rfl, Nat.le_of_ble_eq_true rfl⟩ (am_le0 _ _ _) (am_up (by decide) (ev_Tb_isLine hq2)) rfl ?_
  refine fe_bF (pc' := 10) (tgt := 12) dX8_book_7 rfl rfl rfl (fun hc3 => ?_) (fun hc3 => ?_)
  · replace h := (if_pos hc3).symm.trans h
    refine fe_lan (pc' := 13) dX8_book_12 rfl rfl ?_
    refine fe_gf (pc' := 16) dX8_book_13 rfl fl_8_71 n_0 gf_0_9 ?_
    refine fe_lin (pc' := 17) dX8_book_16 rfl rfl ?_
    refine fe_lin (pc' := 18) dX8_book_17 rfl rfl ?_
    refine fe_lin (pc' := 19) dX8_book_18 rfl rfl ?_
    obtain ⟨q4, hq5, h⟩ := am_bd h
    refine fe_iv (pc' := 22) (as := [.ref 121, .int x1, .int x2, .int x3]) (h1 := (sh0, q4.1)) (r1 := some (.int (am_b q4.2))) (st' := [.int (am_b q4.2)]) dX8_book_19 rfl cl_8_296 rfl rfl s_121 ms_19 ⟨n_121, rfl, by decide, Nat.le_of_ble_eq_true rfl, Nat.le_of_ble_eq_true rfl⟩ (am_le0 _ _ _) (am_up (by decide) (ev_Bo_takes hq5)) rfl ?_
    refine fe_bT (pc' := 25) (tgt := 35) dX8_book_22 rfl rfl rfl (fun hc6 => ?_) (fun hc6 => ?_)
    · replace h := (if_pos hc6).symm.trans h
      refine fe_lan (pc' := 26) dX8_book_25 rfl rfl ?_
      refine fe_gf (pc' := 29) dX8_book_26 rfl fl_8_71 n_0 gf_0_9 ?_
      refine fe_gf (pc' := 32) dX8_book_29 rfl fl_8_107 n_121 gf_121_2 ?_
      refine fe_go (tgt := 37) dX8_book_32 rfl ?_
      cases h
      exact fe_ri dX8_book_37 rfl
    · replace h := (if_neg hc6).symm.trans h
      refine fe_bp (pc' := 37) dX8_book_35 rfl ib_m3 ?_
      cases h
      exact fe_ri dX8_book_37 rfl
  · replace h := (if_neg hc3).symm.trans h
    refine fe_ic (pc' := 11) dX8_book_10 rfl ic_m1 ?_
    cases h
    exact fe_ri dX8_book_11 rfl
