-- Ca_force: X2_force
set_option maxRecDepth 4000 in
theorem ev_Ca_force {g : am_G} {c : Nat} {x1 : Int32} {w : Int32} (hc : c ∈ am_camps) (h : Ca_force g c x1 = some w) : am_Ev 1 34 [.ref c, .int x1] (sh0, g) (sh0, g) (some (.int w)) := by
  unfold Ca_force at h
  refine am_ev mX2_force (by rfl) (Nat.le_of_ble_eq_true rfl) [(0, .ref c), (1, .int x1)] rfl ?_
  refine fe_lan (pc' := 1) dX2_force_0 rfl rfl ?_
  refine fe_gf (pc' := 4) dX2_force_1 rfl fl_2_37 (sc_ne hc) (cg_0 hc) ?_
  refine fe_gf (pc' := 7) dX2_force_4 rfl fl_2_76 n_3 gf_3_1 ?_
  refine fe_lin (pc' := 8) dX2_force_7 rfl rfl ?_
  obtain ⟨hi1, h⟩ := am_gd rfl h
  refine fe_al (pc' := 9) (j := x1.toNatClampNeg) dX2_force_8 rfl n_4 s_4 hi1 rfl ?_
  refine fe_lan (pc' := 10) dX2_force_9 rfl rfl ?_
  refine fe_gf (pc' := 13) dX2_force_10 rfl fl_2_34 (sc_ne hc) (cg_8 hc) ?_
  refine fe_lin (pc' := 14) dX2_force_13 rfl rfl ?_
  refine fe_al (pc' := 15) (j := x1.toNatClampNeg) dX2_force_14 rfl (sc_n3 hc) (sc_3 hc) hi1 rfl ?_
  refine fe_isub (pc' := 16) dX2_force_15 rfl ?_
  cases h
  exact fe_ri dX2_force_16 rfl
-- Ca_pace: X2_pace
set_option maxRecDepth 4000 in
theorem ev_Ca_pace {g : am_G} {c : Nat} {x1 x2 : Int32} {w : Int32} (hc : c ∈ am_camps) (h : Ca_pace g c x1 x2 = some w) : am_Ev 2 35 [.ref c, .int x1, .int x2] (sh0, g) (sh0, g) (some (.int w)) := by
  unfold Ca_pace at h
  refine am_ev mX2_pace (by rfl) (Nat.le_of_ble_eq_true rfl) [(0, .ref c), (1, .int x1), (2, .int x2)] rfl ?_
  refine fe_ic (pc' := 1) dX2_pace_0 rfl ic_1 ?_
  refine fe_bp (pc' := 3) dX2_pace_1 rfl ib_20 ?_
  refine fe_lan (pc' := 4) dX2_pace_3 rfl rfl ?_
  refine fe_lin (pc' := 5) dX2_pace_4 rfl rfl ?_
  obtain ⟨q1, hq2, h⟩ := am_bd h
  refine fe_iv (pc' := 8) (as := [.ref c, .int x1]) (h1 := (sh0, g)) (r1 := some (.int q1)) (st' := [.int q1, .int 20, .int 1]) dX2_pace_5 rfl cl_2_79 rfl rfl (sc_o hc) ms_34 ⟨(sc_ne hc), rfl, by decide, Nat.le_of_ble_eq_true rfl, Nat.le_of_ble_eq_true rfl⟩ (am_le0 _ _ _) (am_up (by decide) (ev_Ca_force hc hq2)) rfl ?_
  refine fe_lin (pc' := 9) dX2_pace_8 rfl rfl ?_
  refine fe_isub (pc' := 10) dX2_pace_9 rfl ?_
  refine fe_bp (pc' := 12) dX2_pace_10 rfl ib_10 ?_
  refine fe_iadd (pc' := 13) dX2_pace_12 rfl ?_
  refine fe_mn (pc' := 16) dX2_pace_13 rfl cl_2_82 (Nat.le_of_ble_eq_true rfl) ?_
  refine fe_mx (pc' := 19) dX2_pace_16 rfl cl_2_88 (Nat.le_of_ble_eq_true rfl) ?_
  cases h
  exact fe_ri dX2_pace_19 rfl
-- Ca_thingsWith: X2_thingsWith
set_option maxRecDepth 4000 in
theorem lp_Ca_thingsWith_L4 {c : Nat} (hc : c ∈ am_camps) {hE : am_H} {r : Option Value} : ∀ (n : Nat) (g : am_G) (x1 : Int32) (x2 : Int32) (x3 : Int32) (w : Int32), Ca_thingsWith_L4 n g c x1 x2 x3 = some w → am_E 0 mX2_thingsWith (37, [(2, .int w)], [], (sh0, g)) hE r → am_E 0 mX2_thingsWith (4, [(0, .ref c), (1, .int x1), (2, .int x2), (3, .int x3)], [], (sh0, g)) hE r := by
  intro n
  induction n with
  | zero => intro g x1 x2 x3 q h; cases h
  | succ n ih =>
    intro g x1 x2 x3 q h k1
    replace h : _ = _ := h
    unfold Ca_thingsWith_L4 at h
    refine fe_lin (pc' := 5) dX2_thingsWith_4 rfl rfl ?_
    refine fe_lan (pc' := 6) dX2_thingsWith_5 rfl rfl ?_
    refine fe_gf (pc' := 9) dX2_thingsWith_6 rfl fl_2_37 (sc_ne hc) (cg_0 hc) ?_
    refine fe_gf (pc' := 12) dX2_thingsWith_9 rfl fl_2_69 n_3 gf_3_3 ?_
    refine fe_ic_ge (pc' := 15) (tgt := 37) dX2_thingsWith_12 rfl rfl (fun hc1 => ?_) (fun hc1 => ?_)
    · replace h := (if_pos hc1).symm.trans h
      refine fe_pick [2] rfl ?_
      cases h
      exact k1
    · replace h := (if_neg hc1).symm.trans h
      refine fe_lan (pc' := 16) dX2_thingsWith_15 rfl rfl ?_
      refine fe_gf (pc' := 19) dX2_thingsWith_16 rfl fl_2_27 (sc_ne hc) (cg_6 hc) ?_
      refine fe_lin (pc' := 20) dX2_thingsWith_19 rfl rfl ?_
      obtain ⟨hi2, h⟩ := am_gd rfl h
      refine fe_al (pc' := 21) (j := x3.toNatClampNeg) dX2_thingsWith_20 rfl (sc_n1 hc) (sc_1 hc) hi2 rfl ?_
      refine fe_lin (pc' := 22) dX2_thingsWith_21 rfl rfl ?_
      have K : am_E 0 mX2_thingsWith (31, [(0, .ref c), (1, .int x1), (2, .int (if (g.1 (c + 1) x3.toNatClampNeg) = x1 then x2 ||| (1 <<< (x3 &&& 31)) else x2 : Int32)), (3, .int x3)], [], (sh0, g)) hE r := by
        refine fe_inc (pc' := 34) (lo' := [(0, .ref c), (1, .int x1), (2, .int (if (g.1 (c + 1) x3.toNatClampNeg) = x1 then x2 ||| (1 <<< (x3 &&& 31)) else x2 : Int32)), (3, .int (x3 + 1))]) dX2_thingsWith_31 rfl ic_1 (Nat.le_of_ble_eq_true rfl) rfl rfl ?_
        refine fe_go (tgt := 4) dX2_thingsWith_34 rfl ?_
        exact ih g x1 (if (g.1 (c + 1) x3.toNatClampNeg) = x1 then x2 ||| (1 <<< (x3 &&& 31)) else x2 : Int32) (x3 + 1) q h k1
      refine fe_ic_ne (pc' := 25) (tgt := 31) dX2_thingsWith_22 rfl rfl (fun hc3 => ?_) (fun hc3 => ?_)
      · refine fe_lin (pc' := 26) dX2_thingsWith_25 rfl rfl ?_
        refine fe_ic (pc' := 27) dX2_thingsWith_26 rfl ic_1 ?_
        refine fe_lin (pc' := 28) dX2_thingsWith_27 rfl rfl ?_
        refine fe_ishl (pc' := 29) dX2_thingsWith_28 rfl ?_
        refine fe_ior (pc' := 30) dX2_thingsWith_29 rfl ?_
        refine fe_sin (pc' := 31) (lo' := [(0, .ref c), (1, .int x1), (2, .int (x2 ||| (1 <<< (x3 &&& 31)))), (3, .int x3)]) dX2_thingsWith_30 rfl (Nat.le_of_ble_eq_true rfl) rfl ?_
        simp only [if_pos hc3] at K ⊢
        exact K
      · simp only [if_neg hc3] at K ⊢
        exact K
set_option maxRecDepth 4000 in
theorem ev_Ca_thingsWith {g : am_G} {c : Nat} {x1 : Int32} {w : Int32} (hc : c ∈ am_camps) (h : Ca_thingsWith g c x1 = some w) : am_Ev 1 32 [.ref c, .int x1] (sh0, g) (sh0, g) (some (.int w)) := by
  unfold Ca_thingsWith at h
  refine am_ev mX2_thingsWith (by rfl) (Nat.le_of_ble_eq_true rfl) [(0, .ref c), (1, .int x1)] rfl ?_
  refine fe_ic (pc' := 1) dX2_thingsWith_0 rfl ic_0 ?_
  refine fe_sin (pc' := 2) (lo' := [(0, .ref c), (1, .int x1), (2, .int 0)]) dX2_thingsWith_1 rfl (Nat.le_of_ble_eq_true rfl) rfl ?_
  refine fe_ic (pc' := 3) dX2_thingsWith_2 rfl ic_0 ?_
  refine fe_sin (pc' := 4) (lo' := [(0, .ref c), (1, .int x1), (2, .int 0), (3, .int 0)]) dX2_thingsWith_3 rfl (Nat.le_of_ble_eq_true rfl) rfl ?_
  obtain ⟨q5, hq6, h⟩ := am_bd h
  refine lp_Ca_thingsWith_L4 hc _ g x1 0 0 q5 hq6 ?_
  refine fe_lin (pc' := 38) dX2_thingsWith_37 rfl rfl ?_
  cases h
  exact fe_ri dX2_thingsWith_38 rfl
-- Tb_walker: X8_walker
set_option maxRecDepth 4000 in
theorem ev_Tb_walker {g : am_G} {x1 x2 : Int32} {w : Int32} (h : Tb_walker g x1 x2 = some w) : am_Ev 4 83 [.ref 0, .int x1, .int x2] (sh0, g) (sh0, g) (some (.int w)) := by
  unfold Tb_walker at h
  refine am_ev mX8_walker (by rfl) (Nat.le_of_ble_eq_true rfl) [(0, .ref 0), (1, .int x1), (2, .int x2)] rfl ?_
  refine fe_lan (pc' := 1) dX8_walker_0 rfl rfl ?_
  refine fe_lin (pc' := 2) dX8_walker_1 rfl rfl ?_
  obtain ⟨q1, hq2, h⟩ := am_bd h
  refine fe_iv (pc' := 5) (as := [.ref 0, .int x1]) (h1 := (sh0, g)) (r1 := some (.int (am_b q1))) (st' := [.int (am_b q1)]) dX8_walker_2 rfl cl_8_110 rfl rfl s_0 ms_113 ⟨n_0, rfl, by decide, Nat.le_of_ble_eq_true rfl, Nat.le_of_ble_eq_true rfl⟩ (am_le0 _ _ _) (am_up (by decide) (ev_Tb_isWalker hq2)) rfl ?_
  refine fe_bF (pc' := 8) (tgt := 10) dX8_walker_5 rfl rfl rfl (fun hc3 => ?_) (fun hc3 => ?_)
  · replace h := (if_pos hc3).symm.trans h
    refine fe_lin (pc' := 11) dX8_walker_10 rfl rfl ?_
    by_cases hc4 : x2 = 0
    · replace h := (if_pos hc4).symm.trans h
      refine fe_tsI (tgt := 48) dX8_walker_11 0 hc4 (by decide) rfl rfl ?_
      refine fe_lan (pc' := 49) dX8_walker_48 rfl rfl ?_
      refine fe_gf (pc' := 52) dX8_walker_49 rfl fl_8_19 n_0 gf_0_1 ?_
      refine fe_gf (pc' := 55) dX8_walker_52 rfl fl_8_113 n_3 gf_3_1 ?_
      refine fe_lin (pc' := 56) dX8_walker_55 rfl rfl ?_
      obtain ⟨hi5, h⟩ := am_gd rfl h
      refine fe_al (pc' := 57) (j := x1.toNatClampNeg) dX8_walker_56 rfl n_4 s_4 hi5 rfl ?_
      cases h
      exact fe_ri dX8_walker_57 rfl
    replace h := (if_neg hc4).symm.trans h
    by_cases hc6 : x2 = 1
    · replace h := (if_pos hc6).symm.trans h
      refine fe_tsI (tgt := 58) dX8_walker_11 1 hc6 (by decide) rfl rfl ?_
      refine fe_lan (pc' := 59) dX8_walker_58 rfl rfl ?_
      refine fe_gf (pc' := 62) dX8_walker_59 rfl fl_8_19 n_0 gf_0_1 ?_
      refine fe_gf (pc' := 65) dX8_walker_62 rfl fl_8_117 n_3 gf_3_2 ?_
      refine fe_lin (pc' := 66) dX8_walker_65 rfl rfl ?_
      obtain ⟨hi7, h⟩ := am_gd rfl h
      refine fe_al (pc' := 67) (j := x1.toNatClampNeg) dX8_walker_66 rfl n_5 s_5 hi7 rfl ?_
      cases h
      exact fe_ri dX8_walker_67 rfl
    replace h := (if_neg hc6).symm.trans h
    by_cases hc8 : x2 = 2
    · replace h := (if_pos hc8).symm.trans h
      refine fe_tsI (tgt := 68) dX8_walker_11 2 hc8 (by decide) rfl rfl ?_
      refine fe_lan (pc' := 69) dX8_walker_68 rfl rfl ?_
      refine fe_gf (pc' := 72) dX8_walker_69 rfl fl_8_45 n_0 gf_0_4 ?_
      refine fe_gf (pc' := 75) dX8_walker_72 rfl fl_8_120 (sc_ne sc_28) (cg_8 sc_28) ?_
      refine fe_lin (pc' := 76) dX8_walker_75 rfl rfl ?_
      obtain ⟨hi9, h⟩ := am_gd rfl h
      refine fe_al (pc' := 77) (j := x1.toNatClampNeg) dX8_walker_76 rfl (sc_n3 sc_28) (sc_3 sc_28) hi9 rfl ?_
      cases h
      exact fe_ri dX8_walker_77 rfl
    replace h := (if_neg hc8).symm.trans h
    by_cases hc10 : x2 = 3
    · replace h := (if_pos hc10).symm.trans h
      refine fe_tsI (tgt := 78) dX8_walker_11 3 hc10 (by decide) rfl rfl ?_
      refine fe_lan (pc' := 79) dX8_walker_78 rfl rfl ?_
      refine fe_gf (pc' := 82) dX8_walker_79 rfl fl_8_45 n_0 gf_0_4 ?_
      refine fe_lin (pc' := 83) dX8_walker_82 rfl rfl ?_
      obtain ⟨q11, hq12, h⟩ := am_bd h
      refine fe_iv (pc' := 86) (as := [.ref 28, .int x1]) (h1 := (sh0, g)) (r1 := some (.int q11)) (st' := [.int q11]) dX8_walker_83 rfl cl_8_125 rfl rfl (sc_o sc_28) ms_31 ⟨(sc_ne sc_28), rfl, by decide, Nat.le_of_ble_eq_true rfl, Nat.le_of_ble_eq_true rfl⟩ (am_le0 _ _ _) (am_up (by decide) (ev_Ca_load sc_28 hq12)) rfl ?_
      cases h
      exact fe_ri dX8_walker_86 rfl
    replace h := (if_neg hc10).symm.trans h
    by_cases hc13 : x2 = 4
    · replace h := (if_pos hc13).symm.trans h
      refine fe_tsI (tgt := 87) dX8_walker_11 4 hc13 (by decide) rfl rfl ?_
      refine fe_lan (pc' := 88) dX8_walker_87 rfl rfl ?_
      refine fe_gf (pc' := 91) dX8_walker_88 rfl fl_8_45 n_0 gf_0_4 ?_
      refine fe_lin (pc' := 92) dX8_walker_91 rfl rfl ?_
      refine fe_lan (pc' := 93) dX8_walker_92 rfl rfl ?_
      refine fe_gf (pc' := 96) dX8_walker_93 rfl fl_8_45 n_0 gf_0_4 ?_
      refine fe_lin (pc' := 97) dX8_walker_96 rfl rfl ?_
      obtain ⟨q14, hq15, h⟩ := am_bd h
      refine fe_iv (pc' := 100) (as := [.ref 28, .int x1]) (h1 := (sh0, g)) (r1 := some (.int q14)) (st' := [.int q14, .int x1, .ref 28]) dX8_walker_97 rfl cl_8_125 rfl rfl (sc_o sc_28) ms_31 ⟨(sc_ne sc_28), rfl, by decide, Nat.le_of_ble_eq_true rfl, Nat.le_of_ble_eq_true rfl⟩ (am_le0 _ _ _) (am_up (by decide) (ev_Ca_load sc_28 hq15)) rfl ?_
      obtain ⟨q16, hq17, h⟩ := am_bd h
      refine fe_iv (pc' := 103) (as := [.ref 28, .int x1, .int q14]) (h1 := (sh0, g)) (r1 := some (.int q16)) (st' := [.int q16]) dX8_walker_100 rfl cl_8_129 rfl rfl (sc_o sc_28) ms_35 ⟨(sc_ne sc_28), rfl, by decide, Nat.le_of_ble_eq_true rfl, Nat.le_of_ble_eq_true rfl⟩ (am_le0 _ _ _) (am_up (by decide) (ev_Ca_pace sc_28 hq17)) rfl ?_
      cases h
      exact fe_ri dX8_walker_103 rfl
    replace h := (if_neg hc13).symm.trans h
    by_cases hc18 : x2 = 5
    · replace h := (if_pos hc18).symm.trans h
      refine fe_tsI (tgt := 104) dX8_walker_11 5 hc18 (by decide) rfl rfl ?_
      refine fe_lan (pc' := 105) dX8_walker_104 rfl rfl ?_
      refine fe_gf (pc' := 108) dX8_walker_105 rfl fl_8_45 n_0 gf_0_4 ?_
      refine fe_lin (pc' := 109) dX8_walker_108 rfl rfl ?_
      obtain ⟨q19, hq20, h⟩ := am_bd h
      refine fe_iv (pc' := 112) (as := [.ref 28, .int x1]) (h1 := (sh0, g)) (r1 := some (.int q19)) (st' := [.int q19]) dX8_walker_109 rfl cl_8_133 rfl rfl (sc_o sc_28) ms_32 ⟨(sc_ne sc_28), rfl, by decide, Nat.le_of_ble_eq_true rfl, Nat.le_of_ble_eq_true rfl⟩ (am_le0 _ _ _) (am_up (by decide) (ev_Ca_thingsWith sc_28 hq20)) rfl ?_
      cases h
      exact fe_ri dX8_walker_112 rfl
    replace h := (if_neg hc18).symm.trans h
    refine fe_tsO (tgt := 113) dX8_walker_11 (by exact am_tsO 6 (by decide) (fun k hk => by rcases (show k = 0 ∨ k = 1 ∨ k = 2 ∨ k = 3 ∨ k = 4 ∨ k = 5 by omega) with rfl | rfl | rfl | rfl | rfl | rfl <;> assumption)) rfl ?_
    refine fe_ic (pc' := 114) dX8_walker_113 rfl ic_m1 ?_
    cases h
    exact fe_ri dX8_walker_114 rfl
  · replace h := (if_neg hc3).symm.trans h
    refine fe_ic (pc' := 9) dX8_walker_8 rfl ic_m1 ?_
    cases h
    exact fe_ri dX8_walker_9 rfl
-- Tb_isThing: X8_isThing
set_option maxRecDepth 4000 in
theorem ev_Tb_isThing {g : am_G} {x1 : Int32} {w : Bool} (h : Tb_isThing g x1 = some w) : am_Ev 2 114 [.ref 0, .int x1] (sh0, g) (sh0, g) (some (.int (am_b w))) := by
  unfold Tb_isThing at h
  refine am_ev mX8_isThing (by rfl) (Nat.le_of_ble_eq_true rfl) [(0, .ref 0), (1, .int x1)] rfl ?_
  refine fe_lin (pc' := 1) dX8_isThing_0 rfl rfl ?_
  refine fe_ic (pc' := 2) dX8_isThing_1 rfl ic_0 ?_
  refine fe_lan (pc' := 3) dX8_isThing_2 rfl rfl ?_
  refine fe_gf (pc' := 6) dX8_isThing_3 rfl fl_8_19 n_0 gf_0_1 ?_
  refine fe_gf (pc' := 9) dX8_isThing_6 rfl fl_8_240 n_3 gf_3_3 ?_
  refine fe_ic (pc' := 10) dX8_isThing_9 rfl ic_1 ?_
  refine fe_isub (pc' := 11) dX8_isThing_10 rfl ?_
  obtain ⟨q1, hq2, h⟩ := am_bd h
  refine fe_is (pc' := 14) (as := [.int x1, .int 0, .int ((g.1 3 3) - 1)]) (h1 := (sh0, g)) (r1 := some (.int (am_b q1))) (st' := [.int (am_b q1)]) dX8_isThing_11 rfl cl_8_79 (Or.inl rfl) rfl rfl ⟨Nat.le_of_ble_eq_true rfl, Nat.le_of_ble_eq_true rfl⟩ (am_le0 _ _ _) (am_up (by decide) (ev_Tb_isWithin hq2)) rfl ?_
  cases h
  exact fe_rz _ dX8_isThing_14 rfl rfl
-- Tb_thing: X8_thing
set_option maxRecDepth 4000 in
theorem ev_Tb_thing {g : am_G} {x1 x2 : Int32} {w : Int32} (h : Tb_thing g x1 x2 = some w) : am_Ev 3 84 [.ref 0, .int x1, .int x2] (sh0, g) (sh0, g) (some (.int w)) := by
  unfold Tb_thing at h
  refine am_ev mX8_thing (by rfl) (Nat.le_of_ble_eq_true rfl) [(0, .ref 0), (1, .int x1), (2, .int x2)] rfl ?_
  refine fe_lan (pc' := 1) dX8_thing_0 rfl rfl ?_
  refine fe_lin (pc' := 2) dX8_thing_1 rfl rfl ?_
  obtain ⟨q1, hq2, h⟩ := am_bd h
  refine fe_iv (pc' := 5) (as := [.ref 0, .int x1]) (h1 := (sh0, g)) (r1 := some (.int (am_b q1))) (st' := [.int (am_b q1)]) dX8_thing_2 rfl cl_8_136 rfl rfl s_0 ms_114 ⟨n_0, rfl, by decide, Nat.le_of_ble_eq_true rfl, Nat.le_of_ble_eq_true rfl⟩ (am_le0 _ _ _) (am_up (by decide) (ev_Tb_isThing hq2)) rfl ?_
  refine fe_bF (pc' := 8) (tgt := 10) dX8_thing_5 rfl rfl rfl (fun hc3 => ?_) (fun hc3 => ?_)
  · replace h := (if_pos hc3).symm.trans h
    refine fe_lin (pc' := 11) dX8_thing_10 rfl rfl ?_
    by_cases hc4 : x2 = 0
    · replace h := (if_pos hc4).symm.trans h
      refine fe_tsI (tgt := 56) dX8_thing_11 0 hc4 (by decide) rfl rfl ?_
      refine fe_lan (pc' := 57) dX8_thing_56 rfl rfl ?_
      refine fe_gf (pc' := 60) dX8_thing_57 rfl fl_8_19 n_0 gf_0_1 ?_
      refine fe_gf (pc' := 63) dX8_thing_60 rfl fl_8_139 n_3 gf_3_4 ?_
      refine fe_lin (pc' := 64) dX8_thing_63 rfl rfl ?_
      obtain ⟨hi5, h⟩ := am_gd rfl h
      refine fe_al (pc' := 65) (j := x1.toNatClampNeg) dX8_thing_64 rfl n_6 s_6 hi5 rfl ?_
      cases h
      exact fe_ri dX8_thing_65 rfl
    replace h := (if_neg hc4).symm.trans h
    by_cases hc6 : x2 = 1
    · replace h := (if_pos hc6).symm.trans h
      refine fe_tsI (tgt := 66) dX8_thing_11 1 hc6 (by decide) rfl rfl ?_
      refine fe_lan (pc' := 67) dX8_thing_66 rfl rfl ?_
      refine fe_gf (pc' := 70) dX8_thing_67 rfl fl_8_19 n_0 gf_0_1 ?_
      refine fe_gf (pc' := 73) dX8_thing_70 rfl fl_8_142 n_3 gf_3_5 ?_
      refine fe_lin (pc' := 74) dX8_thing_73 rfl rfl ?_
      obtain ⟨hi7, h⟩ := am_gd rfl h
      refine fe_al (pc' := 75) (j := x1.toNatClampNeg) dX8_thing_74 rfl n_7 s_7 hi7 rfl ?_
      cases h
      exact fe_ri dX8_thing_75 rfl
    replace h := (if_neg hc6).symm.trans h
    by_cases hc8 : x2 = 2
    · replace h := (if_pos hc8).symm.trans h
      refine fe_tsI (tgt := 76) dX8_thing_11 2 hc8 (by decide) rfl rfl ?_
      refine fe_lan (pc' := 77) dX8_thing_76 rfl rfl ?_
      refine fe_gf (pc' := 80) dX8_thing_77 rfl fl_8_19 n_0 gf_0_1 ?_
      refine fe_gf (pc' := 83) dX8_thing_80 rfl fl_8_145 n_3 gf_3_6 ?_
      refine fe_lin (pc' := 84) dX8_thing_83 rfl rfl ?_
      obtain ⟨hi9, h⟩ := am_gd rfl h
      refine fe_al (pc' := 85) (j := x1.toNatClampNeg) dX8_thing_84 rfl n_8 s_8 hi9 rfl ?_
      cases h
      exact fe_ri dX8_thing_85 rfl
    replace h := (if_neg hc8).symm.trans h
    by_cases hc10 : x2 = 3
    · replace h := (if_pos hc10).symm.trans h
      refine fe_tsI (tgt := 86) dX8_thing_11 3 hc10 (by decide) rfl rfl ?_
      refine fe_lan (pc' := 87) dX8_thing_86 rfl rfl ?_
      refine fe_gf (pc' := 90) dX8_thing_87 rfl fl_8_19 n_0 gf_0_1 ?_
      refine fe_gf (pc' := 93) dX8_thing_90 rfl fl_8_148 n_3 gf_3_7 ?_
      refine fe_lin (pc' := 94) dX8_thing_93 rfl rfl ?_
      obtain ⟨hi11, h⟩ := am_gd rfl h
      refine fe_al (pc' := 95) (j := x1.toNatClampNeg) dX8_thing_94 rfl n_9 s_9 hi11 rfl ?_
      cases h
      exact fe_ri dX8_thing_95 rfl
    replace h := (if_neg hc10).symm.trans h
    by_cases hc12 : x2 = 4
    · replace h := (if_pos hc12).symm.trans h
      refine fe_tsI (tgt := 96) dX8_thing_11 4 hc12 (by decide) rfl rfl ?_
      refine fe_lan (pc' := 97) dX8_thing_96 rfl rfl ?_
      refine fe_gf (pc' := 100) dX8_thing_97 rfl fl_8_45 n_0 gf_0_4 ?_
      refine fe_gf (pc' := 103) dX8_thing_100 rfl fl_8_151 (sc_ne sc_28) (cg_6 sc_28) ?_
      refine fe_lin (pc' := 104) dX8_thing_103 rfl rfl ?_
      obtain ⟨hi13, h⟩ := am_gd rfl h
      refine fe_al (pc' := 105) (j := x1.toNatClampNeg) dX8_thing_104 rfl (sc_n1 sc_28) (sc_1 sc_28) hi13 rfl ?_
      cases h
      exact fe_ri dX8_thing_105 rfl
    replace h := (if_neg hc12).symm.trans h
    by_cases hc14 : x2 = 5
    · replace h := (if_pos hc14).symm.trans h
      refine fe_tsI (tgt := 106) dX8_thing_11 5 hc14 (by decide) rfl rfl ?_
      refine fe_lan (pc' := 107) dX8_thing_106 rfl rfl ?_
      refine fe_gf (pc' := 110) dX8_thing_107 rfl fl_8_45 n_0 gf_0_4 ?_
      refine fe_gf (pc' := 113) dX8_thing_110 rfl fl_8_154 (sc_ne sc_28) (cg_7 sc_28) ?_
      refine fe_lin (pc' := 114) dX8_thing_113 rfl rfl ?_
      obtain ⟨hi15, h⟩ := am_gd rfl h
      refine fe_al (pc' := 115) (j := x1.toNatClampNeg) dX8_thing_114 rfl (sc_n2 sc_28) (sc_2 sc_28) hi15 rfl ?_
      cases h
      exact fe_ri dX8_thing_115 rfl
    replace h := (if_neg hc14).symm.trans h
    by_cases hc16 : x2 = 6
    · replace h := (if_pos hc16).symm.trans h
      refine fe_tsI (tgt := 116) dX8_thing_11 6 hc16 (by decide) rfl rfl ?_
      refine fe_lan (pc' := 117) dX8_thing_116 rfl rfl ?_
      refine fe_gf (pc' := 120) dX8_thing_117 rfl fl_8_45 n_0 gf_0_4 ?_
      refine fe_lin (pc' := 121) dX8_thing_120 rfl rfl ?_
      obtain ⟨q17, hq18, h⟩ := am_bd h
      refine fe_iv (pc' := 124) (as := [.ref 28, .int x1]) (h1 := (sh0, g)) (r1 := some (.int (am_b q17))) (st' := [.int (am_b q17)]) dX8_thing_121 rfl cl_8_157 rfl rfl (sc_o sc_28) ms_25 ⟨(sc_ne sc_28), rfl, by decide, Nat.le_of_ble_eq_true rfl, Nat.le_of_ble_eq_true rfl⟩ (am_le0 _ _ _) (am_up (by decide) (ev_Ca_isWet sc_28 hq18)) rfl ?_
      refine fe_bT (pc' := 127) (tgt := 131) dX8_thing_124 rfl rfl rfl (fun hc19 => ?_) (fun hc19 => ?_)
      · replace h := (if_pos hc19).symm.trans h
        refine fe_ic (pc' := 128) dX8_thing_127 rfl ic_1 ?_
        refine fe_go (tgt := 132) dX8_thing_128 rfl ?_
        cases h
        exact fe_ri dX8_thing_132 rfl
      · replace h := (if_neg hc19).symm.trans h
        refine fe_ic (pc' := 132) dX8_thing_131 rfl ic_0 ?_
        cases h
        exact fe_ri dX8_thing_132 rfl
    replace h := (if_neg hc16).symm.trans h
    by_cases hc20 : x2 = 7
    · replace h := (if_pos hc20).symm.trans h
      refine fe_tsI (tgt := 133) dX8_thing_11 7 hc20 (by decide) rfl rfl ?_
      refine fe_lan (pc' := 134) dX8_thing_133 rfl rfl ?_
      refine fe_gf (pc' := 137) dX8_thing_134 rfl fl_8_45 n_0 gf_0_4 ?_
      refine fe_lin (pc' := 138) dX8_thing_137 rfl rfl ?_
      obtain ⟨q21, hq22, h⟩ := am_bd h
      refine fe_iv (pc' := 141) (as := [.ref 28, .int x1]) (h1 := (sh0, g)) (r1 := some (.int q21)) (st' := [.int q21]) dX8_thing_138 rfl cl_8_160 rfl rfl (sc_o sc_28) ms_30 ⟨(sc_ne sc_28), rfl, by decide, Nat.le_of_ble_eq_true rfl, Nat.le_of_ble_eq_true rfl⟩ (am_le0 _ _ _) (am_up (by decide) (ev_Ca_weight sc_28 hq22)) rfl ?_
      cases h
      exact fe_ri dX8_thing_141 rfl
    replace h := (if_neg hc20).symm.trans h
    refine fe_tsO (tgt := 142) dX8_thing_11 (by exact am_tsO 8 (by decide) (fun k hk => by rcases (show k = 0 ∨ k = 1 ∨ k = 2 ∨ k = 3 ∨ k = 4 ∨ k = 5 ∨ k = 6 ∨ k = 7 by omega) with rfl | rfl | rfl | rfl | rfl | rfl | rfl | rfl <;> assumption)) rfl ?_
    refine fe_ic (pc' := 143) dX8_thing_142 rfl ic_m1 ?_
    cases h
    exact fe_ri dX8_thing_143 rfl
  · replace h := (if_neg hc3).symm.trans h
    refine fe_ic (pc' := 9) dX8_thing_8 rfl ic_m1 ?_
    cases h
    exact fe_ri dX8_thing_9 rfl
-- Tb_stage: X8_stage
set_option maxRecDepth 4000 in
theorem ev_Tb_stage {g : am_G} {x1 x2 : Int32} {w : Int32} (h : Tb_stage g x1 x2 = some w) : am_Ev 2 85 [.ref 0, .int x1, .int x2] (sh0, g) (sh0, g) (some (.int w)) := by
  unfold Tb_stage at h
  refine am_ev mX8_stage (by rfl) (Nat.le_of_ble_eq_true rfl) [(0, .ref 0), (1, .int x1), (2, .int x2)] rfl ?_
  refine fe_lin (pc' := 1) dX8_stage_0 rfl rfl ?_
  refine fe_ic (pc' := 2) dX8_stage_1 rfl ic_0 ?_
  refine fe_lan (pc' := 3) dX8_stage_2 rfl rfl ?_
  refine fe_gf (pc' := 6) dX8_stage_3 rfl fl_8_19 n_0 gf_0_1 ?_
  refine fe_gf (pc' := 9) dX8_stage_6 rfl fl_8_163 n_3 gf_3_9 ?_
  refine fe_ic (pc' := 10) dX8_stage_9 rfl ic_1 ?_
  refine fe_isub (pc' := 11) dX8_stage_10 rfl ?_
  obtain ⟨q1, hq2, h⟩ := am_bd h
  refine fe_is (pc' := 14) (as := [.int x1, .int 0, .int ((g.1 3 9) - 1)]) (h1 := (sh0, g)) (r1 := some (.int (am_b q1))) (st' := [.int (am_b q1)]) dX8_stage_11 rfl cl_8_79 (Or.inl rfl) rfl rfl ⟨Nat.le_of_ble_eq_true rfl, Nat.le_of_ble_eq_true rfl⟩ (am_le0 _ _ _) (am_up (by decide) (ev_Tb_isWithin hq2)) rfl ?_
  refine fe_bF (pc' := 17) (tgt := 19) dX8_stage_14 rfl rfl rfl (fun hc3 => ?_) (fun hc3 => ?_)
  · replace h := (if_pos hc3).symm.trans h
    refine fe_lin (pc' := 20) dX8_stage_19 rfl rfl ?_
    by_cases hc4 : x2 = 0
    · replace h := (if_pos hc4).symm.trans h
      refine fe_tsI (tgt := 48) dX8_stage_20 0 hc4 (by decide) rfl rfl ?_
      refine fe_lan (pc' := 49) dX8_stage_48 rfl rfl ?_
      refine fe_gf (pc' := 52) dX8_stage_49 rfl fl_8_19 n_0 gf_0_1 ?_
      refine fe_gf (pc' := 55) dX8_stage_52 rfl fl_8_166 n_3 gf_3_10 ?_
      refine fe_lin (pc' := 56) dX8_stage_55 rfl rfl ?_
      obtain ⟨hi5, h⟩ := am_gd rfl h
      refine fe_al (pc' := 57) (j := x1.toNatClampNeg) dX8_stage_56 rfl n_11 s_11 hi5 rfl ?_
      cases h
      exact fe_ri dX8_stage_57 rfl
    replace h := (if_neg hc4).symm.trans h
    by_cases hc6 : x2 = 1
    · replace h := (if_pos hc6).symm.trans h
      refine fe_tsI (tgt := 58) dX8_stage_20 1 hc6 (by decide) rfl rfl ?_
      refine fe_lan (pc' := 59) dX8_stage_58 rfl rfl ?_
      refine fe_gf (pc' := 62) dX8_stage_59 rfl fl_8_19 n_0 gf_0_1 ?_
      refine fe_gf (pc' := 65) dX8_stage_62 rfl fl_8_168 n_3 gf_3_11 ?_
      refine fe_lin (pc' := 66) dX8_stage_65 rfl rfl ?_
      obtain ⟨hi7, h⟩ := am_gd rfl h
      refine fe_al (pc' := 67) (j := x1.toNatClampNeg) dX8_stage_66 rfl n_12 s_12 hi7 rfl ?_
      cases h
      exact fe_ri dX8_stage_67 rfl
    replace h := (if_neg hc6).symm.trans h
    by_cases hc8 : x2 = 2
    · replace h := (if_pos hc8).symm.trans h
      refine fe_tsI (tgt := 68) dX8_stage_20 2 hc8 (by decide) rfl rfl ?_
      refine fe_lan (pc' := 69) dX8_stage_68 rfl rfl ?_
      refine fe_gf (pc' := 72) dX8_stage_69 rfl fl_8_19 n_0 gf_0_1 ?_
      refine fe_gf (pc' := 75) dX8_stage_72 rfl fl_8_171 n_3 gf_3_12 ?_
      refine fe_lin (pc' := 76) dX8_stage_75 rfl rfl ?_
      obtain ⟨hi9, h⟩ := am_gd rfl h
      refine fe_al (pc' := 77) (j := x1.toNatClampNeg) dX8_stage_76 rfl n_13 s_13 hi9 rfl ?_
      cases h
      exact fe_ri dX8_stage_77 rfl
    replace h := (if_neg hc8).symm.trans h
    refine fe_tsO (tgt := 78) dX8_stage_20 (by exact am_tsO 3 (by decide) (fun k hk => by rcases (show k = 0 ∨ k = 1 ∨ k = 2 by omega) with rfl | rfl | rfl <;> assumption)) rfl ?_
    refine fe_ic (pc' := 79) dX8_stage_78 rfl ic_m1 ?_
    cases h
    exact fe_ri dX8_stage_79 rfl
  · replace h := (if_neg hc3).symm.trans h
    refine fe_ic (pc' := 18) dX8_stage_17 rfl ic_m1 ?_
    cases h
    exact fe_ri dX8_stage_18 rfl
-- Ca_isCarried: X2_isCarried
set_option maxRecDepth 4000 in
theorem ev_Ca_isCarried {g : am_G} {c : Nat} {x1 : Int32} {w : Bool} (hc : c ∈ am_camps) (h : Ca_isCarried g c x1 = some w) : am_Ev 1 26 [.ref c, .int x1] (sh0, g) (sh0, g) (some (.int (am_b w))) := by
  unfold Ca_isCarried at h
  refine am_ev mX2_isCarried (by rfl) (Nat.le_of_ble_eq_true rfl) [(0, .ref c), (1, .int x1)] rfl ?_
  refine fe_lan (pc' := 1) dX2_isCarried_0 rfl rfl ?_
  refine fe_gf (pc' := 4) dX2_isCarried_1 rfl fl_2_27 (sc_ne hc) (cg_6 hc) ?_
  refine fe_lin (pc' := 5) dX2_isCarried_4 rfl rfl ?_
  obtain ⟨hi1, h⟩ := am_gd rfl h
  refine fe_al (pc' := 6) (j := x1.toNatClampNeg) dX2_isCarried_5 rfl (sc_n1 hc) (sc_1 hc) hi1 rfl ?_
  refine fe_bp (pc' := 8) dX2_isCarried_6 rfl ib_9 ?_
  refine fe_ic_eq (pc' := 11) (tgt := 15) dX2_isCarried_8 rfl rfl (fun hc2 => ?_) (fun hc2 => ?_)
  · replace h := (if_pos hc2).symm.trans h
    refine fe_ic (pc' := 16) dX2_isCarried_15 rfl ic_0 ?_
    cases h
    exact fe_rz _ dX2_isCarried_16 rfl rfl
  · replace h := (if_neg hc2).symm.trans h
    refine fe_ic (pc' := 12) dX2_isCarried_11 rfl ic_1 ?_
    refine fe_go (tgt := 16) dX2_isCarried_12 rfl ?_
    cases h
    exact fe_rz _ dX2_isCarried_16 rfl rfl
-- Ca_canBeGiven: X2_canBeGiven
set_option maxRecDepth 4000 in
theorem ev_Ca_canBeGiven {g : am_G} {c : Nat} {x1 x2 : Int32} {w : Bool} (hc : c ∈ am_camps) (h : Ca_canBeGiven g c x1 x2 = some w) : am_Ev 2 27 [.ref c, .int x1, .int x2] (sh0, g) (sh0, g) (some (.int (am_b w))) := by
  unfold Ca_canBeGiven at h
  refine am_ev mX2_canBeGiven (by rfl) (Nat.le_of_ble_eq_true rfl) [(0, .ref c), (1, .int x1), (2, .int x2)] rfl ?_
  refine fe_lan (pc' := 1) dX2_canBeGiven_0 rfl rfl ?_
  refine fe_lin (pc' := 2) dX2_canBeGiven_1 rfl rfl ?_
  obtain ⟨q1, hq2, h⟩ := am_bd h
  refine fe_iv (pc' := 5) (as := [.ref c, .int x1]) (h1 := (sh0, g)) (r1 := some (.int (am_b q1))) (st' := [.int (am_b q1)]) dX2_canBeGiven_2 rfl cl_2_53 rfl rfl (sc_o hc) ms_26 ⟨(sc_ne hc), rfl, by decide, Nat.le_of_ble_eq_true rfl, Nat.le_of_ble_eq_true rfl⟩ (am_le0 _ _ _) (am_up (by decide) (ev_Ca_isCarried hc hq2)) rfl ?_
  refine fe_bT (pc' := 8) (tgt := 22) dX2_canBeGiven_5 rfl rfl rfl (fun hc3 => ?_) (fun hc3 => ?_)
  · replace h := (if_pos hc3).symm.trans h
    refine fe_lan (pc' := 9) dX2_canBeGiven_8 rfl rfl ?_
    refine fe_gf (pc' := 12) dX2_canBeGiven_9 rfl fl_2_27 (sc_ne hc) (cg_6 hc) ?_
    refine fe_lin (pc' := 13) dX2_canBeGiven_12 rfl rfl ?_
    obtain ⟨hi4, h⟩ := am_gd rfl h
    refine fe_al (pc' := 14) (j := x1.toNatClampNeg) dX2_canBeGiven_13 rfl (sc_n1 hc) (sc_1 hc) hi4 rfl ?_
    refine fe_lin (pc' := 15) dX2_canBeGiven_14 rfl rfl ?_
    refine fe_ic_eq (pc' := 18) (tgt := 22) dX2_canBeGiven_15 rfl rfl (fun hc5 => ?_) (fun hc5 => ?_)
    · replace h := (if_pos hc5).symm.trans h
      refine fe_ic (pc' := 23) dX2_canBeGiven_22 rfl ic_0 ?_
      cases h
      exact fe_rz _ dX2_canBeGiven_23 rfl rfl
    · replace h := (if_neg hc5).symm.trans h
      refine fe_ic (pc' := 19) dX2_canBeGiven_18 rfl ic_1 ?_
      refine fe_go (tgt := 23) dX2_canBeGiven_19 rfl ?_
      cases h
      exact fe_rz _ dX2_canBeGiven_23 rfl rfl
  · replace h := (if_neg hc3).symm.trans h
    refine fe_ic (pc' := 23) dX2_canBeGiven_22 rfl ic_0 ?_
    cases h
    exact fe_rz _ dX2_canBeGiven_23 rfl rfl
-- Ca_copyFrom: X2_copyFrom
set_option maxRecDepth 4000 in
theorem ev_Ca_copyFrom {g : am_G} {c : Nat} {o : Nat} {w : am_G} (hc : c ∈ am_camps) (ho : o ∈ am_camps) (h : Ca_copyFrom g c o  = some w) : am_Ev 1 24 [.ref c, .ref o] (sh0, g) (sh0, w) (none) := by
  unfold Ca_copyFrom at h
  refine am_ev mX2_copyFrom (by rfl) (Nat.le_of_ble_eq_true rfl) [(0, .ref c), (1, .ref o)] rfl ?_
  refine fe_lan (pc' := 1) dX2_copyFrom_0 rfl rfl ?_
  refine fe_lan (pc' := 2) dX2_copyFrom_1 rfl rfl ?_
  refine fe_gf (pc' := 5) dX2_copyFrom_2 rfl fl_2_9 (sc_ne ho) (cg_1 ho) ?_
  refine fe_pi (pc' := 8) dX2_copyFrom_5 rfl fl_2_9 (sc_ne hc) (sc_o hc) rfl ⟨rfl, Or.inl rfl⟩ ?_
  refine fe_lan (pc' := 9) dX2_copyFrom_8 rfl rfl ?_
  refine fe_lan (pc' := 10) dX2_copyFrom_9 rfl rfl ?_
  refine fe_gf (pc' := 13) dX2_copyFrom_10 rfl fl_2_15 (sc_ne ho) (cg_2 ho) ?_
  refine fe_pi (pc' := 16) dX2_copyFrom_13 rfl fl_2_15 (sc_ne hc) (sc_o hc) rfl ⟨rfl, Or.inl rfl⟩ ?_
  refine fe_lan (pc' := 17) dX2_copyFrom_16 rfl rfl ?_
  refine fe_lan (pc' := 18) dX2_copyFrom_17 rfl rfl ?_
  refine fe_gf (pc' := 21) dX2_copyFrom_18 rfl fl_2_18 (sc_ne ho) (cg_3 ho) ?_
  refine fe_pi (pc' := 24) dX2_copyFrom_21 rfl fl_2_18 (sc_ne hc) (sc_o hc) rfl ⟨rfl, Or.inl rfl⟩ ?_
  refine fe_lan (pc' := 25) dX2_copyFrom_24 rfl rfl ?_
  refine fe_lan (pc' := 26) dX2_copyFrom_25 rfl rfl ?_
  refine fe_gf (pc' := 29) dX2_copyFrom_26 rfl fl_2_21 (sc_ne ho) (cg_4 ho) ?_
  refine fe_pi (pc' := 32) dX2_copyFrom_29 rfl fl_2_21 (sc_ne hc) (sc_o hc) rfl ⟨rfl, Or.inl rfl⟩ ?_
  refine fe_lan (pc' := 33) dX2_copyFrom_32 rfl rfl ?_
  refine fe_lan (pc' := 34) dX2_copyFrom_33 rfl rfl ?_
  refine fe_gf (pc' := 37) dX2_copyFrom_34 rfl fl_2_24 (sc_ne ho) (cg_5 ho) ?_
  refine fe_pi (pc' := 40) dX2_copyFrom_37 rfl fl_2_24 (sc_ne hc) (sc_o hc) rfl ⟨rfl, Or.inl rfl⟩ ?_
  refine fe_lan (pc' := 41) dX2_copyFrom_40 rfl rfl ?_
  refine fe_gf (pc' := 44) dX2_copyFrom_41 rfl fl_2_27 (sc_ne ho) (cg_6 ho) ?_
  refine fe_ic (pc' := 45) dX2_copyFrom_44 rfl ic_0 ?_
  refine fe_lan (pc' := 46) dX2_copyFrom_45 rfl rfl ?_
  refine fe_gf (pc' := 49) dX2_copyFrom_46 rfl fl_2_27 (sc_ne hc) (cg_6 hc) ?_
  refine fe_ic (pc' := 50) dX2_copyFrom_49 rfl ic_0 ?_
  refine fe_bp (pc' := 52) dX2_copyFrom_50 rfl ib_7 ?_
  refine fe_ac (pc' := 55) dX2_copyFrom_52 rfl cl_2_44 (sc_n1 ho) (sc_n1 hc) (sc_1 ho) (sc_1 hc) ⟨by decide, by decide, by decide, by decide, by decide, Nat.le_of_ble_eq_true rfl⟩ ?_
  simp only [tc_0, tc_7]
  refine fe_lan (pc' := 56) dX2_copyFrom_55 rfl rfl ?_
  refine fe_gf (pc' := 59) dX2_copyFrom_56 rfl fl_2_31 (sc_ne ho) (cg_7 ho) ?_
  refine fe_ic (pc' := 60) dX2_copyFrom_59 rfl ic_0 ?_
  refine fe_lan (pc' := 61) dX2_copyFrom_60 rfl rfl ?_
  refine fe_gf (pc' := 64) dX2_copyFrom_61 rfl fl_2_31 (sc_ne hc) (cg_7 hc) ?_
  refine fe_ic (pc' := 65) dX2_copyFrom_64 rfl ic_0 ?_
  refine fe_bp (pc' := 67) dX2_copyFrom_65 rfl ib_7 ?_
  refine fe_ac (pc' := 70) dX2_copyFrom_67 rfl cl_2_44 (sc_n2 ho) (sc_n2 hc) (sc_2 ho) (sc_2 hc) ⟨by decide, by decide, by decide, by decide, by decide, Nat.le_of_ble_eq_true rfl⟩ ?_
  simp only [tc_0, tc_7]
  refine fe_lan (pc' := 71) dX2_copyFrom_70 rfl rfl ?_
  refine fe_gf (pc' := 74) dX2_copyFrom_71 rfl fl_2_34 (sc_ne ho) (cg_8 ho) ?_
  refine fe_ic (pc' := 75) dX2_copyFrom_74 rfl ic_0 ?_
  refine fe_lan (pc' := 76) dX2_copyFrom_75 rfl rfl ?_
  refine fe_gf (pc' := 79) dX2_copyFrom_76 rfl fl_2_34 (sc_ne hc) (cg_8 hc) ?_
  refine fe_ic (pc' := 80) dX2_copyFrom_79 rfl ic_0 ?_
  refine fe_ic (pc' := 81) dX2_copyFrom_80 rfl ic_4 ?_
  refine fe_ac (pc' := 84) dX2_copyFrom_81 rfl cl_2_44 (sc_n3 ho) (sc_n3 hc) (sc_3 ho) (sc_3 hc) ⟨by decide, by decide, by decide, by decide, by decide, Nat.le_of_ble_eq_true rfl⟩ ?_
  simp only [tc_0, tc_4]
  cases h
  exact fe_rv dX2_copyFrom_84 rfl
-- Jo_remember: X3_remember
set_option maxRecDepth 4000 in
theorem ev_Jo_remember {g : am_G} {c : Nat} {w : am_G} (hc : c ∈ am_jours) (h : Jo_remember g c  = some w) : am_Ev 2 49 [.ref c] (sh0, g) (sh0, w) (none) := by
  unfold Jo_remember at h
  refine am_ev mX3_remember (by rfl) (Nat.le_of_ble_eq_true rfl) [(0, .ref c)] rfl ?_
  refine fe_lan (pc' := 1) dX3_remember_0 rfl rfl ?_
  refine fe_gf (pc' := 4) dX3_remember_1 rfl fl_3_11 (sj_ne hc) (jg_1 hc) ?_
  refine fe_lan (pc' := 5) dX3_remember_4 rfl rfl ?_
  refine fe_gf (pc' := 8) dX3_remember_5 rfl fl_3_21 (sj_ne hc) (jg_3 hc) ?_
  obtain ⟨hi1, h⟩ := am_gd rfl h
  refine fe_rl (pc' := 9) (b := c + 6 + 4 * (g.1 c 3).toNatClampNeg) dX3_remember_8 rfl (sj_n1 hc) (sj_1 hc) (Or.inl rfl) hi1 (sj_r hi1) (sc_ne (sj_p hc hi1)) ?_
  refine fe_lan (pc' := 10) dX3_remember_9 rfl rfl ?_
  refine fe_gf (pc' := 13) dX3_remember_10 rfl fl_3_27 (sj_ne hc) (jg_0 hc) ?_
  obtain ⟨q2, hq3, h⟩ := am_bd h
  refine fe_iv (pc' := 16) (as := [.ref (c + 6 + 4 * (g.1 c 3).toNatClampNeg), .ref (c + 2)]) (h1 := (sh0, q2)) (r1 := none) (st' := []) dX3_remember_13 rfl cl_3_34 rfl rfl (sc_o (sj_p hc hi1)) ms_24 ⟨(sc_ne (sj_p hc hi1)), rfl, by decide, Nat.le_of_ble_eq_true rfl, Nat.le_of_ble_eq_true rfl⟩ (am_le0 _ _ _) (am_up (by decide) (ev_Ca_copyFrom (sj_p hc hi1) (sj_c hc) hq3)) rfl ?_
  refine fe_lan (pc' := 17) dX3_remember_16 rfl rfl ?_
  refine fe_lan (pc' := 18) dX3_remember_17 rfl rfl ?_
  refine fe_gf (pc' := 21) dX3_remember_18 rfl fl_3_21 (sj_ne hc) (jg_3 hc) ?_
  refine fe_ic (pc' := 22) dX3_remember_21 rfl ic_1 ?_
  refine fe_iadd (pc' := 23) dX3_remember_22 rfl ?_
  refine fe_bp (pc' := 25) dX3_remember_23 rfl ib_10 ?_
  refine fe_irem (pc' := 26) dX3_remember_25 rfl (by decide) ?_
  refine fe_pi (pc' := 29) dX3_remember_26 rfl fl_3_21 (sj_ne hc) (sj_o hc) rfl ⟨rfl, Or.inl rfl⟩ ?_
  refine fe_lan (pc' := 30) dX3_remember_29 rfl rfl ?_
  refine fe_bp (pc' := 32) dX3_remember_30 rfl ib_10 ?_
  refine fe_lan (pc' := 33) dX3_remember_32 rfl rfl ?_
  refine fe_gf (pc' := 36) dX3_remember_33 rfl fl_3_17 (sj_ne hc) (jg_2 hc) ?_
  refine fe_ic (pc' := 37) dX3_remember_36 rfl ic_1 ?_
  refine fe_iadd (pc' := 38) dX3_remember_37 rfl ?_
  refine fe_mn (pc' := 41) dX3_remember_38 rfl cl_3_38 (Nat.le_of_ble_eq_true rfl) ?_
  refine fe_pi (pc' := 44) dX3_remember_41 rfl fl_3_17 (sj_ne hc) (sj_o hc) rfl ⟨rfl, Or.inl rfl⟩ ?_
  cases h
  exact fe_rv dX3_remember_44 rfl
-- Tb_gives: X8_gives
set_option maxRecDepth 4000 in
theorem ev_Tb_gives {g : am_G} {x1 x2 : Int32} {w : (am_G × Int32)} (h : Tb_gives g x1 x2 = some w) : am_Ev 3 86 [.ref 0, .int x1, .int x2] (sh0, g) (sh0, w.1) (some (.int w.2)) := by
  unfold Tb_gives at h
  refine am_ev mX8_gives (by rfl) (Nat.le_of_ble_eq_true rfl) [(0, .ref 0), (1, .int x1), (2, .int x2)] rfl ?_
  refine fe_lan (pc' := 1) dX8_gives_0 rfl rfl ?_
  refine fe_lin (pc' := 2) dX8_gives_1 rfl rfl ?_
  obtain ⟨q1, hq2, h⟩ := am_bd h
  refine fe_iv (pc' := 5) (as := [.ref 0, .int x1]) (h1 := (sh0, g)) (r1 := some (.int (am_b q1))) (st' := [.int (am_b q1)]) dX8_gives_2 rfl cl_8_136 rfl rfl s_0 ms_114 ⟨n_0, rfl, by decide, Nat.le_of_ble_eq_true rfl, Nat.le_of_ble_eq_true rfl⟩ (am_le0 _ _ _) (am_up (by decide) (ev_Tb_isThing hq2)) rfl ?_
  refine fe_bT (pc' := 8) (tgt := 16) dX8_gives_5 rfl rfl rfl (fun hc3 => ?_) (fun hc3 => ?_)
  · replace h := (if_pos hc3).symm.trans h
    refine fe_lan (pc' := 9) dX8_gives_8 rfl rfl ?_
    refine fe_lin (pc' := 10) dX8_gives_9 rfl rfl ?_
    obtain ⟨q4, hq5, h⟩ := am_bd h
    refine fe_iv (pc' := 13) (as := [.ref 0, .int x2]) (h1 := (sh0, g)) (r1 := some (.int (am_b q4))) (st' := [.int (am_b q4)]) dX8_gives_10 rfl cl_8_110 rfl rfl s_0 ms_113 ⟨n_0, rfl, by decide, Nat.le_of_ble_eq_true rfl, Nat.le_of_ble_eq_true rfl⟩ (am_le0 _ _ _) (am_up (by decide) (ev_Tb_isWalker hq5)) rfl ?_
    refine fe_bF (pc' := 16) (tgt := 18) dX8_gives_13 rfl rfl rfl (fun hc6 => ?_) (fun hc6 => ?_)
    · replace h := (if_pos hc6).symm.trans h
      refine fe_lan (pc' := 19) dX8_gives_18 rfl rfl ?_
      refine fe_gf (pc' := 22) dX8_gives_19 rfl fl_8_45 n_0 gf_0_4 ?_
      refine fe_lin (pc' := 23) dX8_gives_22 rfl rfl ?_
      refine fe_lin (pc' := 24) dX8_gives_23 rfl rfl ?_
      obtain ⟨q7, hq8, h⟩ := am_bd h
      refine fe_iv (pc' := 27) (as := [.ref 28, .int x1, .int x2]) (h1 := (sh0, g)) (r1 := some (.int (am_b q7))) (st' := [.int (am_b q7)]) dX8_gives_24 rfl cl_8_174 rfl rfl (sc_o sc_28) ms_27 ⟨(sc_ne sc_28), rfl, by decide, Nat.le_of_ble_eq_true rfl, Nat.le_of_ble_eq_true rfl⟩ (am_le0 _ _ _) (am_up (by decide) (ev_Ca_canBeGiven sc_28 hq8)) rfl ?_
      refine fe_bF (pc' := 30) (tgt := 33) dX8_gives_27 rfl rfl rfl (fun hc9 => ?_) (fun hc9 => ?_)
      · replace h := (if_pos hc9).symm.trans h
        refine fe_lan (pc' := 34) dX8_gives_33 rfl rfl ?_
        refine fe_gf (pc' := 37) dX8_gives_34 rfl fl_8_37 n_0 gf_0_3 ?_
        obtain ⟨q10, hq11, h⟩ := am_bd h
        refine fe_iv (pc' := 40) (as := [.ref 26]) (h1 := (sh0, q10)) (r1 := none) (st' := []) dX8_gives_37 rfl cl_8_178 rfl rfl (sj_o sj_26) ms_49 ⟨(sj_ne sj_26), rfl, by decide, Nat.le_of_ble_eq_true rfl, Nat.le_of_ble_eq_true rfl⟩ (am_le0 _ _ _) (am_up (by decide) (ev_Jo_remember sj_26 hq11)) rfl ?_
        refine fe_lan (pc' := 41) dX8_gives_40 rfl rfl ?_
        refine fe_gf (pc' := 44) dX8_gives_41 rfl fl_8_45 n_0 gf_0_4 ?_
        refine fe_gf (pc' := 47) dX8_gives_44 rfl fl_8_151 (sc_ne sc_28) (cg_6 sc_28) ?_
        refine fe_lin (pc' := 48) dX8_gives_47 rfl rfl ?_
        obtain ⟨hi12, h⟩ := am_gd rfl h
        refine fe_al (pc' := 49) (j := x1.toNatClampNeg) dX8_gives_48 rfl (sc_n1 sc_28) (sc_1 sc_28) hi12 rfl ?_
        refine fe_sin (pc' := 50) (lo' := [(0, .ref 0), (1, .int x1), (2, .int x2), (3, .int (q10.1 (28 + 1) x1.toNatClampNeg))]) dX8_gives_49 rfl (Nat.le_of_ble_eq_true rfl) rfl ?_
        refine fe_lan (pc' := 51) dX8_gives_50 rfl rfl ?_
        refine fe_gf (pc' := 54) dX8_gives_51 rfl fl_8_45 n_0 gf_0_4 ?_
        refine fe_gf (pc' := 57) dX8_gives_54 rfl fl_8_151 (sc_ne sc_28) (cg_6 sc_28) ?_
        refine fe_lin (pc' := 58) dX8_gives_57 rfl rfl ?_
        refine fe_lin (pc' := 59) dX8_gives_58 rfl rfl ?_
        refine fe_as (pc' := 60) (j := x1.toNatClampNeg) dX8_gives_59 rfl (sc_n1 sc_28) (sc_1 sc_28) hi12 rfl ?_
        refine fe_lan (pc' := 61) dX8_gives_60 rfl rfl ?_
        refine fe_gf (pc' := 64) dX8_gives_61 rfl fl_8_45 n_0 gf_0_4 ?_
        refine fe_dup (pc' := 65) dX8_gives_64 rfl rfl ?_
        refine fe_gf (pc' := 68) dX8_gives_65 rfl fl_8_181 (sc_ne sc_28) (cg_4 sc_28) ?_
        refine fe_ic (pc' := 69) dX8_gives_68 rfl ic_1 ?_
        refine fe_iadd (pc' := 70) dX8_gives_69 rfl ?_
        refine fe_pi (pc' := 73) dX8_gives_70 rfl fl_8_181 (sc_ne sc_28) (sc_o sc_28) rfl ⟨rfl, Or.inl rfl⟩ ?_
        refine fe_lin (pc' := 74) dX8_gives_73 rfl rfl ?_
        cases h
        exact fe_ri dX8_gives_74 rfl
      · replace h := (if_neg hc9).symm.trans h
        refine fe_bp (pc' := 32) dX8_gives_30 rfl ib_m2 ?_
        cases h
        exact fe_ri dX8_gives_32 rfl
    · replace h := (if_neg hc6).symm.trans h
      refine fe_ic (pc' := 17) dX8_gives_16 rfl ic_m1 ?_
      cases h
      exact fe_ri dX8_gives_17 rfl
  · replace h := (if_neg hc3).symm.trans h
    refine fe_ic (pc' := 17) dX8_gives_16 rfl ic_m1 ?_
    cases h
    exact fe_ri dX8_gives_17 rfl
-- Ca_isAtHut: X2_isAtHut
set_option maxRecDepth 4000 in
theorem ev_Ca_isAtHut {g : am_G} {c : Nat} {w : Bool} (hc : c ∈ am_camps) (h : Ca_isAtHut g c  = some w) : am_Ev 1 28 [.ref c] (sh0, g) (sh0, g) (some (.int (am_b w))) := by
  unfold Ca_isAtHut at h
  refine am_ev mX2_isAtHut (by rfl) (Nat.le_of_ble_eq_true rfl) [(0, .ref c)] rfl ?_
  refine fe_lan (pc' := 1) dX2_isAtHut_0 rfl rfl ?_
  refine fe_gf (pc' := 4) dX2_isAtHut_1 rfl fl_2_9 (sc_ne hc) (cg_1 hc) ?_
  refine fe_if_le (pc' := 7) (tgt := 39) dX2_isAtHut_4 rfl rfl (fun hc1 => ?_) (fun hc1 => ?_)
  · replace h := (if_pos hc1).symm.trans h
    refine fe_ic (pc' := 40) dX2_isAtHut_39 rfl ic_1 ?_
    refine fe_go (tgt := 44) dX2_isAtHut_40 rfl ?_
    cases h
    exact fe_rz _ dX2_isAtHut_44 rfl rfl
  · replace h := (if_neg hc1).symm.trans h
    refine fe_lan (pc' := 8) dX2_isAtHut_7 rfl rfl ?_
    refine fe_gf (pc' := 11) dX2_isAtHut_8 rfl fl_2_9 (sc_ne hc) (cg_1 hc) ?_
    refine fe_lan (pc' := 12) dX2_isAtHut_11 rfl rfl ?_
    refine fe_gf (pc' := 15) dX2_isAtHut_12 rfl fl_2_37 (sc_ne hc) (cg_0 hc) ?_
    refine fe_gf (pc' := 18) dX2_isAtHut_15 rfl fl_2_57 n_3 gf_3_9 ?_
    refine fe_ic_gt (pc' := 21) (tgt := 43) dX2_isAtHut_18 rfl rfl (fun hc2 => ?_) (fun hc2 => ?_)
    · replace h := (if_pos hc2).symm.trans h
      refine fe_ic (pc' := 44) dX2_isAtHut_43 rfl ic_0 ?_
      cases h
      exact fe_rz _ dX2_isAtHut_44 rfl rfl
    · replace h := (if_neg hc2).symm.trans h
      refine fe_lan (pc' := 22) dX2_isAtHut_21 rfl rfl ?_
      refine fe_gf (pc' := 25) dX2_isAtHut_22 rfl fl_2_37 (sc_ne hc) (cg_0 hc) ?_
      refine fe_gf (pc' := 28) dX2_isAtHut_25 rfl fl_2_60 n_3 gf_3_12 ?_
      refine fe_lan (pc' := 29) dX2_isAtHut_28 rfl rfl ?_
      refine fe_gf (pc' := 32) dX2_isAtHut_29 rfl fl_2_9 (sc_ne hc) (cg_1 hc) ?_
      refine fe_ic (pc' := 33) dX2_isAtHut_32 rfl ic_1 ?_
      refine fe_isub (pc' := 34) dX2_isAtHut_33 rfl ?_
      obtain ⟨hi3, h⟩ := am_gd rfl h
      refine fe_al (pc' := 35) (j := ((g.1 c 1) - 1).toNatClampNeg) dX2_isAtHut_34 rfl n_13 s_13 hi3 rfl ?_
      refine fe_ic (pc' := 36) dX2_isAtHut_35 rfl ic_1 ?_
      refine fe_ic_ne (pc' := 39) (tgt := 43) dX2_isAtHut_36 rfl rfl (fun hc4 => ?_) (fun hc4 => ?_)
      · replace h := (if_pos hc4).symm.trans h
        refine fe_ic (pc' := 40) dX2_isAtHut_39 rfl ic_1 ?_
        refine fe_go (tgt := 44) dX2_isAtHut_40 rfl ?_
        cases h
        exact fe_rz _ dX2_isAtHut_44 rfl rfl
      · replace h := (if_neg hc4).symm.trans h
        refine fe_ic (pc' := 44) dX2_isAtHut_43 rfl ic_0 ?_
        cases h
        exact fe_rz _ dX2_isAtHut_44 rfl rfl
-- Tb_leaves: X8_leaves
set_option maxRecDepth 4000 in
theorem ev_Tb_leaves {g : am_G} {x1 : Int32} {w : (am_G × Int32)} (h : Tb_leaves g x1 = some w) : am_Ev 3 87 [.ref 0, .int x1] (sh0, g) (sh0, w.1) (some (.int w.2)) := by
  unfold Tb_leaves at h
  refine am_ev mX8_leaves (by rfl) (Nat.le_of_ble_eq_true rfl) [(0, .ref 0), (1, .int x1)] rfl ?_
  refine fe_lan (pc' := 1) dX8_leaves_0 rfl rfl ?_
  refine fe_lin (pc' := 2) dX8_leaves_1 rfl rfl ?_
  obtain ⟨q1, hq2, h⟩ := am_bd h
  refine fe_iv (pc' := 5) (as := [.ref 0, .int x1]) (h1 := (sh0, g)) (r1 := some (.int (am_b q1))) (st' := [.int (am_b q1)]) dX8_leaves_2 rfl cl_8_136 rfl rfl s_0 ms_114 ⟨n_0, rfl, by decide, Nat.le_of_ble_eq_true rfl, Nat.le_of_ble_eq_true rfl⟩ (am_le0 _ _ _) (am_up (by decide) (ev_Tb_isThing hq2)) rfl ?_
  refine fe_bF (pc' := 8) (tgt := 10) dX8_leaves_5 rfl rfl rfl (fun hc3 => ?_) (fun hc3 => ?_)
  · replace h := (if_pos hc3).symm.trans h
    refine fe_lan (pc' := 11) dX8_leaves_10 rfl rfl ?_
    refine fe_gf (pc' := 14) dX8_leaves_11 rfl fl_8_45 n_0 gf_0_4 ?_
    refine fe_lin (pc' := 15) dX8_leaves_14 rfl rfl ?_
    obtain ⟨q4, hq5, h⟩ := am_bd h
    refine fe_iv (pc' := 18) (as := [.ref 28, .int x1]) (h1 := (sh0, g)) (r1 := some (.int (am_b q4))) (st' := [.int (am_b q4)]) dX8_leaves_15 rfl cl_8_184 rfl rfl (sc_o sc_28) ms_26 ⟨(sc_ne sc_28), rfl, by decide, Nat.le_of_ble_eq_true rfl, Nat.le_of_ble_eq_true rfl⟩ (am_le0 _ _ _) (am_up (by decide) (ev_Ca_isCarried sc_28 hq5)) rfl ?_
    refine fe_bT (pc' := 21) (tgt := 31) dX8_leaves_18 rfl rfl rfl (fun hc6 => ?_) (fun hc6 => ?_)
    · replace h := (if_pos hc6).symm.trans h
      refine fe_lan (pc' := 22) dX8_leaves_21 rfl rfl ?_
      refine fe_gf (pc' := 25) dX8_leaves_22 rfl fl_8_45 n_0 gf_0_4 ?_
      obtain ⟨q7, hq8, h⟩ := am_bd h
      refine fe_iv (pc' := 28) (as := [.ref 28]) (h1 := (sh0, g)) (r1 := some (.int (am_b q7))) (st' := [.int (am_b q7)]) dX8_leaves_25 rfl cl_8_187 rfl rfl (sc_o sc_28) ms_28 ⟨(sc_ne sc_28), rfl, by decide, Nat.le_of_ble_eq_true rfl, Nat.le_of_ble_eq_true rfl⟩ (am_le0 _ _ _) (am_up (by decide) (ev_Ca_isAtHut sc_28 hq8)) rfl ?_
      refine fe_bF (pc' := 31) (tgt := 34) dX8_leaves_28 rfl rfl rfl (fun hc9 => ?_) (fun hc9 => ?_)
      · replace h := (if_pos hc9).symm.trans h
        refine fe_lan (pc' := 35) dX8_leaves_34 rfl rfl ?_
        refine fe_gf (pc' := 38) dX8_leaves_35 rfl fl_8_37 n_0 gf_0_3 ?_
        obtain ⟨q10, hq11, h⟩ := am_bd h
        refine fe_iv (pc' := 41) (as := [.ref 26]) (h1 := (sh0, q10)) (r1 := none) (st' := []) dX8_leaves_38 rfl cl_8_178 rfl rfl (sj_o sj_26) ms_49 ⟨(sj_ne sj_26), rfl, by decide, Nat.le_of_ble_eq_true rfl, Nat.le_of_ble_eq_true rfl⟩ (am_le0 _ _ _) (am_up (by decide) (ev_Jo_remember sj_26 hq11)) rfl ?_
        refine fe_lan (pc' := 42) dX8_leaves_41 rfl rfl ?_
        refine fe_gf (pc' := 45) dX8_leaves_42 rfl fl_8_45 n_0 gf_0_4 ?_
        refine fe_gf (pc' := 48) dX8_leaves_45 rfl fl_8_151 (sc_ne sc_28) (cg_6 sc_28) ?_
        refine fe_lin (pc' := 49) dX8_leaves_48 rfl rfl ?_
        obtain ⟨hi12, h⟩ := am_gd rfl h
        refine fe_al (pc' := 50) (j := x1.toNatClampNeg) dX8_leaves_49 rfl (sc_n1 sc_28) (sc_1 sc_28) hi12 rfl ?_
        refine fe_sin (pc' := 51) (lo' := [(0, .ref 0), (1, .int x1), (2, .int (q10.1 (28 + 1) x1.toNatClampNeg))]) dX8_leaves_50 rfl (Nat.le_of_ble_eq_true rfl) rfl ?_
        refine fe_lan (pc' := 52) dX8_leaves_51 rfl rfl ?_
        refine fe_gf (pc' := 55) dX8_leaves_52 rfl fl_8_45 n_0 gf_0_4 ?_
        refine fe_gf (pc' := 58) dX8_leaves_55 rfl fl_8_151 (sc_ne sc_28) (cg_6 sc_28) ?_
        refine fe_lin (pc' := 59) dX8_leaves_58 rfl rfl ?_
        refine fe_bp (pc' := 61) dX8_leaves_59 rfl ib_9 ?_
        refine fe_as (pc' := 62) (j := x1.toNatClampNeg) dX8_leaves_61 rfl (sc_n1 sc_28) (sc_1 sc_28) hi12 rfl ?_
        refine fe_lin (pc' := 63) dX8_leaves_62 rfl rfl ?_
        cases h
        exact fe_ri dX8_leaves_63 rfl
      · replace h := (if_neg hc9).symm.trans h
        refine fe_bp (pc' := 33) dX8_leaves_31 rfl ib_m2 ?_
        cases h
        exact fe_ri dX8_leaves_33 rfl
    · replace h := (if_neg hc6).symm.trans h
      refine fe_bp (pc' := 33) dX8_leaves_31 rfl ib_m2 ?_
      cases h
      exact fe_ri dX8_leaves_33 rfl
  · replace h := (if_neg hc3).symm.trans h
    refine fe_ic (pc' := 9) dX8_leaves_8 rfl ic_m1 ?_
    cases h
    exact fe_ri dX8_leaves_9 rfl
-- Ca_hasStage: X2_hasStage
set_option maxRecDepth 4000 in
theorem ev_Ca_hasStage {g : am_G} {c : Nat} {w : Bool} (hc : c ∈ am_camps) (h : Ca_hasStage g c  = some w) : am_Ev 1 29 [.ref c] (sh0, g) (sh0, g) (some (.int (am_b w))) := by
  unfold Ca_hasStage at h
  refine am_ev mX2_hasStage (by rfl) (Nat.le_of_ble_eq_true rfl) [(0, .ref c)] rfl ?_
  refine fe_lan (pc' := 1) dX2_hasStage_0 rfl rfl ?_
  refine fe_gf (pc' := 4) dX2_hasStage_1 rfl fl_2_9 (sc_ne hc) (cg_1 hc) ?_
  refine fe_lan (pc' := 5) dX2_hasStage_4 rfl rfl ?_
  refine fe_gf (pc' := 8) dX2_hasStage_5 rfl fl_2_37 (sc_ne hc) (cg_0 hc) ?_
  refine fe_gf (pc' := 11) dX2_hasStage_8 rfl fl_2_57 n_3 gf_3_9 ?_
  refine fe_ic_ge (pc' := 14) (tgt := 18) dX2_hasStage_11 rfl rfl (fun hc1 => ?_) (fun hc1 => ?_)
  · replace h := (if_pos hc1).symm.trans h
    refine fe_ic (pc' := 19) dX2_hasStage_18 rfl ic_0 ?_
    cases h
    exact fe_rz _ dX2_hasStage_19 rfl rfl
  · replace h := (if_neg hc1).symm.trans h
    refine fe_ic (pc' := 15) dX2_hasStage_14 rfl ic_1 ?_
    refine fe_go (tgt := 19) dX2_hasStage_15 rfl ?_
    cases h
    exact fe_rz _ dX2_hasStage_19 rfl rfl
-- Ta_rains: X5_rains
set_option maxRecDepth 4000 in
theorem ev_Ta_rains {g : am_G} {x1 : Int32} {w : Bool} (h : Ta_rains g x1 = some w) : am_Ev 1 61 [.ref 3, .int x1] (sh0, g) (sh0, g) (some (.int (am_b w))) := by
  unfold Ta_rains at h
  refine am_ev mX5_rains (by rfl) (Nat.le_of_ble_eq_true rfl) [(0, .ref 3), (1, .int x1)] rfl ?_
  refine fe_lin (pc' := 1) dX5_rains_0 rfl rfl ?_
  refine fe_if_lt (pc' := 4) (tgt := 26) dX5_rains_1 rfl rfl (fun hc1 => ?_) (fun hc1 => ?_)
  · replace h := (if_pos hc1).symm.trans h
    refine fe_ic (pc' := 27) dX5_rains_26 rfl ic_0 ?_
    cases h
    exact fe_rz _ dX5_rains_27 rfl rfl
  · replace h := (if_neg hc1).symm.trans h
    refine fe_lin (pc' := 5) dX5_rains_4 rfl rfl ?_
    refine fe_lan (pc' := 6) dX5_rains_5 rfl rfl ?_
    refine fe_gf (pc' := 9) dX5_rains_6 rfl fl_5_40 n_3 gf_3_9 ?_
    refine fe_ic_ge (pc' := 12) (tgt := 26) dX5_rains_9 rfl rfl (fun hc2 => ?_) (fun hc2 => ?_)
    · replace h := (if_pos hc2).symm.trans h
      refine fe_ic (pc' := 27) dX5_rains_26 rfl ic_0 ?_
      cases h
      exact fe_rz _ dX5_rains_27 rfl rfl
    · replace h := (if_neg hc2).symm.trans h
      refine fe_lan (pc' := 13) dX5_rains_12 rfl rfl ?_
      refine fe_gf (pc' := 16) dX5_rains_13 rfl fl_5_46 n_3 gf_3_11 ?_
      refine fe_lin (pc' := 17) dX5_rains_16 rfl rfl ?_
      obtain ⟨hi3, h⟩ := am_gd rfl h
      refine fe_al (pc' := 18) (j := x1.toNatClampNeg) dX5_rains_17 rfl n_12 s_12 hi3 rfl ?_
      refine fe_ic (pc' := 19) dX5_rains_18 rfl ic_1 ?_
      refine fe_ic_ne (pc' := 22) (tgt := 26) dX5_rains_19 rfl rfl (fun hc4 => ?_) (fun hc4 => ?_)
      · replace h := (if_pos hc4).symm.trans h
        refine fe_ic (pc' := 23) dX5_rains_22 rfl ic_1 ?_
        refine fe_go (tgt := 27) dX5_rains_23 rfl ?_
        cases h
        exact fe_rz _ dX5_rains_27 rfl rfl
      · replace h := (if_neg hc4).symm.trans h
        refine fe_ic (pc' := 27) dX5_rains_26 rfl ic_0 ?_
        cases h
        exact fe_rz _ dX5_rains_27 rfl rfl
-- Ca_soak: X2_soak
set_option maxRecDepth 4000 in
theorem lp_Ca_soak_L2 {c : Nat} (hc : c ∈ am_camps) {hE : am_H} {r : Option Value} : ∀ (n : Nat) (g : am_G) (x1 : Int32) (w : am_G), Ca_soak_L2 n g c x1 = some w → am_E 1 mX2_soak (39, [], [], (sh0, w)) hE r → am_E 1 mX2_soak (2, [(0, .ref c), (1, .int x1)], [], (sh0, g)) hE r := by
  intro n
  induction n with
  | zero => intro g x1 q h; cases h
  | succ n ih =>
    intro g x1 q h k1
    replace h : _ = _ := h
    unfold Ca_soak_L2 at h
    refine fe_lin (pc' := 3) dX2_soak_2 rfl rfl ?_
    refine fe_lan (pc' := 4) dX2_soak_3 rfl rfl ?_
    refine fe_gf (pc' := 7) dX2_soak_4 rfl fl_2_37 (sc_ne hc) (cg_0 hc) ?_
    refine fe_gf (pc' := 10) dX2_soak_7 rfl fl_2_69 n_3 gf_3_3 ?_
    refine fe_ic_ge (pc' := 13) (tgt := 39) dX2_soak_10 rfl rfl (fun hc1 => ?_) (fun hc1 => ?_)
    · replace h := (if_pos hc1).symm.trans h
      refine fe_pick [] rfl ?_
      cases h
      exact k1
    · replace h := (if_neg hc1).symm.trans h
      refine fe_lan (pc' := 14) dX2_soak_13 rfl rfl ?_
      refine fe_lin (pc' := 15) dX2_soak_14 rfl rfl ?_
      obtain ⟨q2, hq3, h⟩ := am_bd h
      refine fe_iv (pc' := 18) (as := [.ref c, .int x1]) (h1 := (sh0, g)) (r1 := some (.int (am_b q2))) (st' := [.int (am_b q2)]) dX2_soak_15 rfl cl_2_53 rfl rfl (sc_o hc) ms_26 ⟨(sc_ne hc), rfl, by decide, Nat.le_of_ble_eq_true rfl, Nat.le_of_ble_eq_true rfl⟩ (am_le0 _ _ _) (am_up (by decide) (ev_Ca_isCarried hc hq3)) rfl ?_
      have K : am_E 1 mX2_soak (33, [(0, .ref c), (1, .int x1)], [], (sh0, (if q2 = true then am_wr g c 5 ((g.1 c 5) ||| (1 <<< (x1 &&& 31))) else g))) hE r := by
        refine fe_inc (pc' := 36) (lo' := [(0, .ref c), (1, .int (x1 + 1))]) dX2_soak_33 rfl ic_1 (Nat.le_of_ble_eq_true rfl) rfl rfl ?_
        refine fe_go (tgt := 2) dX2_soak_36 rfl ?_
        exact ih (if q2 = true then am_wr g c 5 ((g.1 c 5) ||| (1 <<< (x1 &&& 31))) else g) (x1 + 1) q h k1
      refine fe_bT (pc' := 21) (tgt := 33) dX2_soak_18 rfl rfl rfl (fun hc4 => ?_) (fun hc4 => ?_)
      · refine fe_lan (pc' := 22) dX2_soak_21 rfl rfl ?_
        refine fe_dup (pc' := 23) dX2_soak_22 rfl rfl ?_
        refine fe_gf (pc' := 26) dX2_soak_23 rfl fl_2_24 (sc_ne hc) (cg_5 hc) ?_
        refine fe_ic (pc' := 27) dX2_soak_26 rfl ic_1 ?_
        refine fe_lin (pc' := 28) dX2_soak_27 rfl rfl ?_
        refine fe_ishl (pc' := 29) dX2_soak_28 rfl ?_
        refine fe_ior (pc' := 30) dX2_soak_29 rfl ?_
        refine fe_pi (pc' := 33) dX2_soak_30 rfl fl_2_24 (sc_ne hc) (sc_o hc) rfl ⟨rfl, Or.inl rfl⟩ ?_
        simp only [if_pos hc4] at K ⊢
        exact K
      · simp only [if_neg hc4] at K ⊢
        exact K
set_option maxRecDepth 4000 in
theorem ev_Ca_soak {g : am_G} {c : Nat} {w : am_G} (hc : c ∈ am_camps) (h : Ca_soak g c  = some w) : am_Ev 2 42 [.ref c] (sh0, g) (sh0, w) (none) := by
  unfold Ca_soak at h
  refine am_ev mX2_soak (by rfl) (Nat.le_of_ble_eq_true rfl) [(0, .ref c)] rfl ?_
  refine fe_ic (pc' := 1) dX2_soak_0 rfl ic_0 ?_
  refine fe_sin (pc' := 2) (lo' := [(0, .ref c), (1, .int 0)]) dX2_soak_1 rfl (Nat.le_of_ble_eq_true rfl) rfl ?_
  obtain ⟨q6, hq7, h⟩ := am_bd h
  refine lp_Ca_soak_L2 hc _ g 0 q6 hq7 ?_
  cases h
  exact fe_rv dX2_soak_39 rfl
-- Ca_minutesFor: X2_minutesFor
set_option maxRecDepth 4000 in
theorem ev_Ca_minutesFor {g : am_G} {c : Nat} {x1 x2 x3 : Int32} {w : Int32} (hc : c ∈ am_camps) (h : Ca_minutesFor g c x1 x2 x3 = some w) : am_Ev 3 36 [.ref c, .int x1, .int x2, .int x3] (sh0, g) (sh0, g) (some (.int w)) := by
  unfold Ca_minutesFor at h
  refine am_ev mX2_minutesFor (by rfl) (Nat.le_of_ble_eq_true rfl) [(0, .ref c), (1, .int x1), (2, .int x2), (3, .int x3)] rfl ?_
  refine fe_lan (pc' := 1) dX2_minutesFor_0 rfl rfl ?_
  refine fe_lin (pc' := 2) dX2_minutesFor_1 rfl rfl ?_
  refine fe_lin (pc' := 3) dX2_minutesFor_2 rfl rfl ?_
  obtain ⟨q1, hq2, h⟩ := am_bd h
  refine fe_iv (pc' := 6) (as := [.ref c, .int x1, .int x2]) (h1 := (sh0, g)) (r1 := some (.int q1)) (st' := [.int q1]) dX2_minutesFor_3 rfl cl_2_91 rfl rfl (sc_o hc) ms_35 ⟨(sc_ne hc), rfl, by decide, Nat.le_of_ble_eq_true rfl, Nat.le_of_ble_eq_true rfl⟩ (am_le0 _ _ _) (am_up (by decide) (ev_Ca_pace hc hq2)) rfl ?_
  refine fe_si (pc' := 8) (lo' := [(0, .ref c), (1, .int x1), (2, .int x2), (3, .int x3), (4, .int q1)]) dX2_minutesFor_6 rfl (Nat.le_of_ble_eq_true rfl) rfl ?_
  refine fe_li (pc' := 10) dX2_minutesFor_8 rfl rfl ?_
  refine fe_ic (pc' := 11) dX2_minutesFor_10 rfl ic_1 ?_
  refine fe_ic_ge (pc' := 14) (tgt := 18) dX2_minutesFor_11 rfl rfl (fun hc3 => ?_) (fun hc3 => ?_)
  · replace h := (if_pos hc3).symm.trans h
    refine fe_bp (pc' := 20) dX2_minutesFor_18 rfl ib_60 ?_
    refine fe_lin (pc' := 21) dX2_minutesFor_20 rfl rfl ?_
    refine fe_imul (pc' := 22) dX2_minutesFor_21 rfl ?_
    refine fe_li (pc' := 24) dX2_minutesFor_22 rfl rfl ?_
    refine fe_iadd (pc' := 25) dX2_minutesFor_24 rfl ?_
    refine fe_ic (pc' := 26) dX2_minutesFor_25 rfl ic_1 ?_
    refine fe_isub (pc' := 27) dX2_minutesFor_26 rfl ?_
    refine fe_li (pc' := 29) dX2_minutesFor_27 rfl rfl ?_
    obtain ⟨hz4, h⟩ := am_gd rfl h
    refine fe_idiv (pc' := 30) dX2_minutesFor_29 rfl hz4 ?_
    cases h
    exact fe_ri dX2_minutesFor_30 rfl
  · replace h := (if_neg hc3).symm.trans h
    refine fe_ic (pc' := 15) dX2_minutesFor_14 rfl ic_0 ?_
    refine fe_go (tgt := 30) dX2_minutesFor_15 rfl ?_
    cases h
    exact fe_ri dX2_minutesFor_30 rfl
-- Ca_tire: X2_tire
set_option maxRecDepth 4000 in
theorem ev_Ca_tire {g : am_G} {c : Nat} {x1 x2 : Int32} {w : am_G} (hc : c ∈ am_camps) (h : Ca_tire g c x1 x2 = some w) : am_Ev 2 43 [.ref c, .int x1, .int x2] (sh0, g) (sh0, w) (none) := by
  unfold Ca_tire at h
  refine am_ev mX2_tire (by rfl) (Nat.le_of_ble_eq_true rfl) [(0, .ref c), (1, .int x1), (2, .int x2)] rfl ?_
  refine fe_lin (pc' := 1) dX2_tire_0 rfl rfl ?_
  refine fe_lan (pc' := 2) dX2_tire_1 rfl rfl ?_
  refine fe_lin (pc' := 3) dX2_tire_2 rfl rfl ?_
  obtain ⟨q1, hq2, h⟩ := am_bd h
  refine fe_iv (pc' := 6) (as := [.ref c, .int x1]) (h1 := (sh0, g)) (r1 := some (.int q1)) (st' := [.int q1, .int x2]) dX2_tire_3 rfl cl_2_79 rfl rfl (sc_o hc) ms_34 ⟨(sc_ne hc), rfl, by decide, Nat.le_of_ble_eq_true rfl, Nat.le_of_ble_eq_true rfl⟩ (am_le0 _ _ _) (am_up (by decide) (ev_Ca_force hc hq2)) rfl ?_
  refine fe_ic_le (pc' := 9) (tgt := 31) dX2_tire_6 rfl rfl (fun hc3 => ?_) (fun hc3 => ?_)
  · replace h := (if_pos hc3).symm.trans h
    refine fe_lan (pc' := 32) dX2_tire_31 rfl rfl ?_
    refine fe_gf (pc' := 35) dX2_tire_32 rfl fl_2_34 (sc_ne hc) (cg_8 hc) ?_
    refine fe_lin (pc' := 36) dX2_tire_35 rfl rfl ?_
    refine fe_ic (pc' := 37) dX2_tire_36 rfl ic_0 ?_
    refine fe_lan (pc' := 38) dX2_tire_37 rfl rfl ?_
    refine fe_gf (pc' := 41) dX2_tire_38 rfl fl_2_34 (sc_ne hc) (cg_8 hc) ?_
    refine fe_lin (pc' := 42) dX2_tire_41 rfl rfl ?_
    obtain ⟨hi4, h⟩ := am_gd rfl h
    refine fe_al (pc' := 43) (j := x1.toNatClampNeg) dX2_tire_42 rfl (sc_n3 hc) (sc_3 hc) hi4 rfl ?_
    refine fe_lan (pc' := 44) dX2_tire_43 rfl rfl ?_
    refine fe_gf (pc' := 47) dX2_tire_44 rfl fl_2_37 (sc_ne hc) (cg_0 hc) ?_
    refine fe_gf (pc' := 50) dX2_tire_47 rfl fl_2_137 n_3 gf_3_2 ?_
    refine fe_lin (pc' := 51) dX2_tire_50 rfl rfl ?_
    refine fe_al (pc' := 52) (j := x1.toNatClampNeg) dX2_tire_51 rfl n_5 s_5 hi4 rfl ?_
    refine fe_isub (pc' := 53) dX2_tire_52 rfl ?_
    refine fe_mx (pc' := 56) dX2_tire_53 rfl cl_2_88 (Nat.le_of_ble_eq_true rfl) ?_
    refine fe_as (pc' := 57) (j := x1.toNatClampNeg) dX2_tire_56 rfl (sc_n3 hc) (sc_3 hc) hi4 rfl ?_
    cases h
    exact fe_rv dX2_tire_57 rfl
  · replace h := (if_neg hc3).symm.trans h
    refine fe_lan (pc' := 10) dX2_tire_9 rfl rfl ?_
    refine fe_gf (pc' := 13) dX2_tire_10 rfl fl_2_34 (sc_ne hc) (cg_8 hc) ?_
    refine fe_lin (pc' := 14) dX2_tire_13 rfl rfl ?_
    refine fe_bp (pc' := 16) dX2_tire_14 rfl ib_20 ?_
    refine fe_lan (pc' := 17) dX2_tire_16 rfl rfl ?_
    refine fe_gf (pc' := 20) dX2_tire_17 rfl fl_2_34 (sc_ne hc) (cg_8 hc) ?_
    refine fe_lin (pc' := 21) dX2_tire_20 rfl rfl ?_
    obtain ⟨hi5, h⟩ := am_gd rfl h
    refine fe_al (pc' := 22) (j := x1.toNatClampNeg) dX2_tire_21 rfl (sc_n3 hc) (sc_3 hc) hi5 rfl ?_
    refine fe_ic (pc' := 23) dX2_tire_22 rfl ic_2 ?_
    refine fe_iadd (pc' := 24) dX2_tire_23 rfl ?_
    refine fe_mn (pc' := 27) dX2_tire_24 rfl cl_2_82 (Nat.le_of_ble_eq_true rfl) ?_
    refine fe_as (pc' := 28) (j := x1.toNatClampNeg) dX2_tire_27 rfl (sc_n3 hc) (sc_3 hc) hi5 rfl ?_
    refine fe_go (tgt := 57) dX2_tire_28 rfl ?_
    cases h
    exact fe_rv dX2_tire_57 rfl
-- Ca_march: X2_march
set_option maxRecDepth 4000 in
theorem lp_Ca_march_L20 {c : Nat} (hc : c ∈ am_camps) {hE : am_H} {r : Option Value} : ∀ (n : Nat) (g : am_G) (x2 : Int32) (x3 : Int32) (w : am_G × Int32), Ca_march_L20 n g c x2 x3 = some w → am_E 3 mX2_march (75, [(0, .ref c), (2, .int w.2)], [], (sh0, w.1)) hE r → am_E 3 mX2_march (20, [(0, .ref c), (2, .int x2), (3, .int x3)], [], (sh0, g)) hE r := by
  intro n
  induction n with
  | zero => intro g x2 x3 q h; cases h
  | succ n ih =>
    intro g x2 x3 q h k1
    replace h : _ = _ := h
    unfold Ca_march_L20 at h
    refine fe_lin (pc' := 21) dX2_march_20 rfl rfl ?_
    refine fe_lan (pc' := 22) dX2_march_21 rfl rfl ?_
    refine fe_gf (pc' := 25) dX2_march_22 rfl fl_2_37 (sc_ne hc) (cg_0 hc) ?_
    refine fe_gf (pc' := 28) dX2_march_25 rfl fl_2_94 n_3 gf_3_0 ?_
    refine fe_ic_ge (pc' := 31) (tgt := 75) dX2_march_28 rfl rfl (fun hc8 => ?_) (fun hc8 => ?_)
    · replace h := (if_pos hc8).symm.trans h
      refine fe_pick [0, 1] rfl ?_
      cases h
      exact k1
    · replace h := (if_neg hc8).symm.trans h
      refine fe_lan (pc' := 32) dX2_march_31 rfl rfl ?_
      refine fe_lin (pc' := 33) dX2_march_32 rfl rfl ?_
      obtain ⟨q9, hq10, h⟩ := am_bd h
      refine fe_iv (pc' := 36) (as := [.ref c, .int x3]) (h1 := (sh0, g)) (r1 := some (.int q9)) (st' := [.int q9]) dX2_march_33 rfl cl_2_97 rfl rfl (sc_o hc) ms_31 ⟨(sc_ne hc), rfl, by decide, Nat.le_of_ble_eq_true rfl, Nat.le_of_ble_eq_true rfl⟩ (am_le0 _ _ _) (am_up (by decide) (ev_Ca_load hc hq10)) rfl ?_
      refine fe_si (pc' := 38) (lo' := [(0, .ref c), (2, .int x2), (3, .int x3), (4, .int q9)]) dX2_march_36 rfl (Nat.le_of_ble_eq_true rfl) rfl ?_
      refine fe_lin (pc' := 39) dX2_march_38 rfl rfl ?_
      refine fe_lan (pc' := 40) dX2_march_39 rfl rfl ?_
      refine fe_lin (pc' := 41) dX2_march_40 rfl rfl ?_
      refine fe_li (pc' := 43) dX2_march_41 rfl rfl ?_
      refine fe_lan (pc' := 44) dX2_march_43 rfl rfl ?_
      refine fe_gf (pc' := 47) dX2_march_44 rfl fl_2_37 (sc_ne hc) (cg_0 hc) ?_
      refine fe_gf (pc' := 50) dX2_march_47 rfl fl_2_130 n_3 gf_3_10 ?_
      refine fe_lan (pc' := 51) dX2_march_50 rfl rfl ?_
      refine fe_gf (pc' := 54) dX2_march_51 rfl fl_2_9 (sc_ne hc) (cg_1 hc) ?_
      obtain ⟨hi11, h⟩ := am_gd rfl h
      refine fe_al (pc' := 55) (j := (g.1 c 1).toNatClampNeg) dX2_march_54 rfl n_11 s_11 hi11 rfl ?_
      obtain ⟨q12, hq13, h⟩ := am_bd h
      refine fe_iv (pc' := 58) (as := [.ref c, .int x3, .int q9, .int (g.1 11 (g.1 c 1).toNatClampNeg)]) (h1 := (sh0, g)) (r1 := some (.int q12)) (st' := [.int q12, .int x2]) dX2_march_55 rfl cl_2_100 rfl rfl (sc_o hc) ms_36 ⟨(sc_ne hc), rfl, by decide, Nat.le_of_ble_eq_true rfl, Nat.le_of_ble_eq_true rfl⟩ (am_le0 _ _ _) (am_up (by decide) (ev_Ca_minutesFor hc hq13)) rfl ?_
      refine fe_mx (pc' := 61) dX2_march_58 rfl cl_2_88 (Nat.le_of_ble_eq_true rfl) ?_
      refine fe_sin (pc' := 62) (lo' := [(0, .ref c), (2, .int (am_mx x2 q12)), (3, .int x3), (4, .int q9)]) dX2_march_61 rfl (Nat.le_of_ble_eq_true rfl) rfl ?_
      refine fe_lan (pc' := 63) dX2_march_62 rfl rfl ?_
      refine fe_lin (pc' := 64) dX2_march_63 rfl rfl ?_
      refine fe_li (pc' := 66) dX2_march_64 rfl rfl ?_
      obtain ⟨q14, hq15, h⟩ := am_bd h
      refine fe_iv (pc' := 69) (as := [.ref c, .int x3, .int q9]) (h1 := (sh0, q14)) (r1 := none) (st' := []) dX2_march_66 rfl cl_2_133 rfl rfl (sc_o hc) ms_43 ⟨(sc_ne hc), rfl, by decide, Nat.le_of_ble_eq_true rfl, Nat.le_of_ble_eq_true rfl⟩ (am_le0 _ _ _) (am_up (by decide) (ev_Ca_tire hc hq15)) rfl ?_
      refine fe_inc (pc' := 72) (lo' := [(0, .ref c), (2, .int (am_mx x2 q12)), (3, .int (x3 + 1)), (4, .int q9)]) dX2_march_69 rfl ic_1 (Nat.le_of_ble_eq_true rfl) rfl rfl ?_
      refine fe_go (tgt := 20) dX2_march_72 rfl ?_
      refine fe_pick [0, 1, 2] rfl ?_
      exact ih q14 (am_mx x2 q12) (x3 + 1) q h k1
set_option maxRecDepth 4000 in
theorem ev_Ca_march {g : am_G} {c : Nat} {x1 : Int32} {w : am_G} (hc : c ∈ am_camps) (h : Ca_march g c x1 = some w) : am_Ev 4 41 [.ref c, .int x1] (sh0, g) (sh0, w) (none) := by
  unfold Ca_march at h
  refine am_ev mX2_march (by rfl) (Nat.le_of_ble_eq_true rfl) [(0, .ref c), (1, .int x1)] rfl ?_
  refine fe_lan (pc' := 1) dX2_march_0 rfl rfl ?_
  obtain ⟨q1, hq2, h⟩ := am_bd h
  refine fe_iv (pc' := 4) (as := [.ref c]) (h1 := (sh0, g)) (r1 := some (.int (am_b q1))) (st' := [.int (am_b q1)]) dX2_march_1 rfl cl_2_123 rfl rfl (sc_o hc) ms_29 ⟨(sc_ne hc), rfl, by decide, Nat.le_of_ble_eq_true rfl, Nat.le_of_ble_eq_true rfl⟩ (am_le0 _ _ _) (am_up (by decide) (ev_Ca_hasStage hc hq2)) rfl ?_
  refine fe_bF (pc' := 7) (tgt := 8) dX2_march_4 rfl rfl rfl (fun hc3 => ?_) (fun hc3 => ?_)
  · replace h := (if_pos hc3).symm.trans h
    refine fe_lin (pc' := 9) dX2_march_8 rfl rfl ?_
    obtain ⟨q7, hq17, h⟩ := am_bd h
    have K : am_E 3 mX2_march (16, [(0, .ref c)], [], (sh0, q7)) (sh0, w) (none) := by
      refine fe_ic (pc' := 17) dX2_march_16 rfl ic_0 ?_
      refine fe_sin (pc' := 18) (lo' := [(0, .ref c), (2, .int 0)]) dX2_march_17 rfl (Nat.le_of_ble_eq_true rfl) rfl ?_
      refine fe_ic (pc' := 19) dX2_march_18 rfl ic_0 ?_
      refine fe_sin (pc' := 20) (lo' := [(0, .ref c), (2, .int 0), (3, .int 0)]) dX2_march_19 rfl (Nat.le_of_ble_eq_true rfl) rfl ?_
      obtain ⟨q16, hq18, h⟩ := am_bd h
      refine lp_Ca_march_L20 hc _ q7 0 0 q16 hq18 ?_
      refine fe_lan (pc' := 76) dX2_march_75 rfl rfl ?_
      refine fe_dup (pc' := 77) dX2_march_76 rfl rfl ?_
      refine fe_gf (pc' := 80) dX2_march_77 rfl fl_2_15 (sc_ne hc) (cg_2 hc) ?_
      refine fe_lin (pc' := 81) dX2_march_80 rfl rfl ?_
      refine fe_iadd (pc' := 82) dX2_march_81 rfl ?_
      refine fe_pi (pc' := 85) dX2_march_82 rfl fl_2_15 (sc_ne hc) (sc_o hc) rfl ⟨rfl, Or.inl rfl⟩ ?_
      cases h
      exact fe_rv dX2_march_85 rfl
    replace h := hq17
    refine fe_if_eq (pc' := 12) (tgt := 16) dX2_march_9 rfl rfl (fun hc4 => ?_) (fun hc4 => ?_)
    · replace h := (if_pos hc4).symm.trans h
      refine fe_pick [0] rfl ?_
      cases h
      exact K
    · replace h := (if_neg hc4).symm.trans h
      refine fe_lan (pc' := 13) dX2_march_12 rfl rfl ?_
      obtain ⟨q5, hq6, h⟩ := am_bd h
      refine fe_iv (pc' := 16) (as := [.ref c]) (h1 := (sh0, q5)) (r1 := none) (st' := []) dX2_march_13 rfl cl_2_127 rfl rfl (sc_o hc) ms_42 ⟨(sc_ne hc), rfl, by decide, Nat.le_of_ble_eq_true rfl, Nat.le_of_ble_eq_true rfl⟩ (am_le0 _ _ _) (am_up (by decide) (ev_Ca_soak hc hq6)) rfl ?_
      refine fe_pick [0] rfl ?_
      cases h
      exact K
  · replace h := (if_neg hc3).symm.trans h
    cases h
    exact fe_rv dX2_march_7 rfl
-- Ca_feed_x: X2_feed
set_option maxRecDepth 4000 in
theorem lp_Ca_feed_x_L16 {c : Nat} (hc : c ∈ am_camps) {hE : am_H} {r : Option Value} : ∀ (n : Nat) (g : am_G) (x2 : Int32) (x3 : Int32) (x4 : Int32) (x5 : Int32) (w : am_G × Int32 × Int32), Ca_feed_x_L16 n g c x2 x3 x4 x5 = some w → am_E 1 mX2_feed (107, [(0, .ref c), (3, .int w.2.1), (4, .int w.2.2)], [], (sh0, w.1)) hE r → am_E 1 mX2_feed (16, [(0, .ref c), (1, .ref am_ext), (2, .int x2), (3, .int x3), (4, .int x4), (5, .int x5)], [], (sh0, g)) hE r := by
  intro n
  induction n with
  | zero => intro g x2 x3 x4 x5 q h; cases h
  | succ n ih =>
    intro g x2 x3 x4 x5 q h k1
    replace h : _ = _ := h
    unfold Ca_feed_x_L16 at h
    refine fe_li (pc' := 18) dX2_feed_16 rfl rfl ?_
    refine fe_lin (pc' := 19) dX2_feed_18 rfl rfl ?_
    refine fe_ic_ge (pc' := 22) (tgt := 107) dX2_feed_19 rfl rfl (fun hc1 => ?_) (fun hc1 => ?_)
    · replace h := (if_pos hc1).symm.trans h
      refine fe_pick [0, 3, 4] rfl ?_
      cases h
      exact k1
    · replace h := (if_neg hc1).symm.trans h
      refine fe_lin (pc' := 23) dX2_feed_22 rfl rfl ?_
      refine fe_if_le (pc' := 26) (tgt := 107) dX2_feed_23 rfl rfl (fun hc2 => ?_) (fun hc2 => ?_)
      · replace h := (if_pos hc2).symm.trans h
        refine fe_pick [0, 3, 4] rfl ?_
        cases h
        exact k1
      · replace h := (if_neg hc2).symm.trans h
        refine fe_lan (pc' := 27) dX2_feed_26 rfl rfl ?_
        refine fe_li (pc' := 29) dX2_feed_27 rfl rfl ?_
        obtain ⟨hi3, h⟩ := am_gd rfl h
        refine fe_xl (pc' := 30) dX2_feed_29 rfl hi3 ?_
        refine fe_si (pc' := 32) (lo' := [(0, .ref c), (1, .ref am_ext), (2, .int x2), (3, .int x3), (4, .int x4), (5, .int x5), (6, .int (nI x5.toNatClampNeg))]) dX2_feed_30 rfl (Nat.le_of_ble_eq_true rfl) rfl ?_
        refine fe_lan (pc' := 33) dX2_feed_32 rfl rfl ?_
        refine fe_gf (pc' := 36) dX2_feed_33 rfl fl_2_37 (sc_ne hc) (cg_0 hc) ?_
        refine fe_gf (pc' := 39) dX2_feed_36 rfl fl_2_140 n_3 gf_3_6 ?_
        refine fe_li (pc' := 41) dX2_feed_39 rfl rfl ?_
        obtain ⟨hi4, h⟩ := am_gd rfl h
        refine fe_al (pc' := 42) (j := (nI x5.toNatClampNeg).toNatClampNeg) dX2_feed_41 rfl n_8 s_8 hi4 rfl ?_
        refine fe_ic (pc' := 43) dX2_feed_42 rfl ic_1 ?_
        obtain ⟨q10, hq12, h⟩ := am_bd h
        have K : am_E 1 mX2_feed (101, [(0, .ref c), (1, .ref am_ext), (2, .int x2), (3, .int q10.2.1), (4, .int q10.2.2), (5, .int x5)], [], (sh0, q10.1)) hE r := by
          refine fe_inc (pc' := 104) (lo' := [(0, .ref c), (1, .ref am_ext), (2, .int x2), (3, .int q10.2.1), (4, .int q10.2.2), (5, .int (x5 + 1))]) dX2_feed_101 rfl ic_1 (Nat.le_of_ble_eq_true rfl) rfl rfl ?_
          refine fe_go (tgt := 16) dX2_feed_104 rfl ?_
          exact ih q10.1 x2 q10.2.1 q10.2.2 (x5 + 1) q h k1
        replace h := hq12
        refine fe_ic_ne (pc' := 46) (tgt := 101) dX2_feed_43 rfl rfl (fun hc5 => ?_) (fun hc5 => ?_)
        · replace h := (if_pos hc5).symm.trans h
          refine fe_lan (pc' := 47) dX2_feed_46 rfl rfl ?_
          refine fe_li (pc' := 49) dX2_feed_47 rfl rfl ?_
          obtain ⟨q6, hq7, h⟩ := am_bd h
          refine fe_iv (pc' := 52) (as := [.ref c, .int (nI x5.toNatClampNeg)]) (h1 := (sh0, g)) (r1 := some (.int (am_b q6))) (st' := [.int (am_b q6)]) dX2_feed_49 rfl cl_2_53 rfl rfl (sc_o hc) ms_26 ⟨(sc_ne hc), rfl, by decide, Nat.le_of_ble_eq_true rfl, Nat.le_of_ble_eq_true rfl⟩ (am_le0 _ _ _) (am_up (by decide) (ev_Ca_isCarried hc hq7)) rfl ?_
          refine fe_bT (pc' := 55) (tgt := 101) dX2_feed_52 rfl rfl rfl (fun hc8 => ?_) (fun hc8 => ?_)
          · replace h := (if_pos hc8).symm.trans h
            refine fe_lan (pc' := 56) dX2_feed_55 rfl rfl ?_
            refine fe_gf (pc' := 59) dX2_feed_56 rfl fl_2_31 (sc_ne hc) (cg_7 hc) ?_
            refine fe_li (pc' := 61) dX2_feed_59 rfl rfl ?_
            refine fe_al (pc' := 62) (j := (nI x5.toNatClampNeg).toNatClampNeg) dX2_feed_61 rfl (sc_n2 hc) (sc_2 hc) hi4 rfl ?_
            refine fe_if_le (pc' := 65) (tgt := 101) dX2_feed_62 rfl rfl (fun hc9 => ?_) (fun hc9 => ?_)
            · replace h := (if_pos hc9).symm.trans h
              refine fe_pick [0, 1, 2, 3, 4, 5] rfl ?_
              cases h
              exact K
            · replace h := (if_neg hc9).symm.trans h
              refine fe_lin (pc' := 66) dX2_feed_65 rfl rfl ?_
              refine fe_lan (pc' := 67) dX2_feed_66 rfl rfl ?_
              refine fe_gf (pc' := 70) dX2_feed_67 rfl fl_2_31 (sc_ne hc) (cg_7 hc) ?_
              refine fe_li (pc' := 72) dX2_feed_70 rfl rfl ?_
              refine fe_al (pc' := 73) (j := (nI x5.toNatClampNeg).toNatClampNeg) dX2_feed_72 rfl (sc_n2 hc) (sc_2 hc) hi4 rfl ?_
              refine fe_mn (pc' := 76) dX2_feed_73 rfl cl_2_82 (Nat.le_of_ble_eq_true rfl) ?_
              refine fe_si (pc' := 78) (lo' := [(0, .ref c), (1, .ref am_ext), (2, .int x2), (3, .int x3), (4, .int x4), (5, .int x5), (6, .int (nI x5.toNatClampNeg)), (7, .int (am_mn x3 (g.1 (c + 2) (nI x5.toNatClampNeg).toNatClampNeg)))]) dX2_feed_76 rfl (Nat.le_of_ble_eq_true rfl) rfl ?_
              refine fe_lan (pc' := 79) dX2_feed_78 rfl rfl ?_
              refine fe_gf (pc' := 82) dX2_feed_79 rfl fl_2_31 (sc_ne hc) (cg_7 hc) ?_
              refine fe_li (pc' := 84) dX2_feed_82 rfl rfl ?_
              refine fe_dup2 (pc' := 85) dX2_feed_84 rfl ⟨rfl, rfl⟩ ?_
              refine fe_al (pc' := 86) (j := (nI x5.toNatClampNeg).toNatClampNeg) dX2_feed_85 rfl (sc_n2 hc) (sc_2 hc) hi4 rfl ?_
              refine fe_li (pc' := 88) dX2_feed_86 rfl rfl ?_
              refine fe_isub (pc' := 89) dX2_feed_88 rfl ?_
              refine fe_as (pc' := 90) (j := (nI x5.toNatClampNeg).toNatClampNeg) dX2_feed_89 rfl (sc_n2 hc) (sc_2 hc) hi4 rfl ?_
              refine fe_lin (pc' := 91) dX2_feed_90 rfl rfl ?_
              refine fe_li (pc' := 93) dX2_feed_91 rfl rfl ?_
              refine fe_isub (pc' := 94) dX2_feed_93 rfl ?_
              refine fe_sin (pc' := 95) (lo' := [(0, .ref c), (1, .ref am_ext), (2, .int x2), (3, .int (x3 - (am_mn x3 (g.1 (c + 2) (nI x5.toNatClampNeg).toNatClampNeg)))), (4, .int x4), (5, .int x5), (6, .int (nI x5.toNatClampNeg)), (7, .int (am_mn x3 (g.1 (c + 2) (nI x5.toNatClampNeg).toNatClampNeg)))]) dX2_feed_94 rfl (Nat.le_of_ble_eq_true rfl) rfl ?_
              refine fe_li (pc' := 97) dX2_feed_95 rfl rfl ?_
              refine fe_ic (pc' := 98) dX2_feed_97 rfl ic_1 ?_
              refine fe_iadd (pc' := 99) dX2_feed_98 rfl ?_
              refine fe_si (pc' := 101) (lo' := [(0, .ref c), (1, .ref am_ext), (2, .int x2), (3, .int (x3 - (am_mn x3 (g.1 (c + 2) (nI x5.toNatClampNeg).toNatClampNeg)))), (4, .int (x5 + 1)), (5, .int x5), (6, .int (nI x5.toNatClampNeg)), (7, .int (am_mn x3 (g.1 (c + 2) (nI x5.toNatClampNeg).toNatClampNeg)))]) dX2_feed_99 rfl (Nat.le_of_ble_eq_true rfl) rfl ?_
              refine fe_pick [0, 1, 2, 3, 4, 5] rfl ?_
              cases h
              exact K
          · replace h := (if_neg hc8).symm.trans h
            refine fe_pick [0, 1, 2, 3, 4, 5] rfl ?_
            cases h
            exact K
        · replace h := (if_neg hc5).symm.trans h
          refine fe_pick [0, 1, 2, 3, 4, 5] rfl ?_
          cases h
          exact K
set_option maxRecDepth 4000 in
theorem ev_Ca_feed_x {g : am_G} {c : Nat} {x2 : Int32} {w : (am_G × Int32)} (hc : c ∈ am_camps) (h : Ca_feed_x g c x2 = some w) : am_Ev 2 44 [.ref c, .ref am_ext, .int x2] (sh0, g) (sh0, w.1) (some (.int w.2)) := by
  unfold Ca_feed_x at h
  refine am_ev mX2_feed (by rfl) (Nat.le_of_ble_eq_true rfl) [(0, .ref c), (1, .ref am_ext), (2, .int x2)] rfl ?_
  refine fe_ic (pc' := 1) dX2_feed_0 rfl ic_2 ?_
  refine fe_lan (pc' := 2) dX2_feed_1 rfl rfl ?_
  refine fe_gf (pc' := 5) dX2_feed_2 rfl fl_2_37 (sc_ne hc) (cg_0 hc) ?_
  refine fe_gf (pc' := 8) dX2_feed_5 rfl fl_2_94 n_3 gf_3_0 ?_
  refine fe_imul (pc' := 9) dX2_feed_8 rfl ?_
  refine fe_sin (pc' := 10) (lo' := [(0, .ref c), (1, .ref am_ext), (2, .int x2), (3, .int (2 * (g.1 3 0)))]) dX2_feed_9 rfl (Nat.le_of_ble_eq_true rfl) rfl ?_
  refine fe_ic (pc' := 11) dX2_feed_10 rfl ic_0 ?_
  refine fe_si (pc' := 13) (lo' := [(0, .ref c), (1, .ref am_ext), (2, .int x2), (3, .int (2 * (g.1 3 0))), (4, .int 0)]) dX2_feed_11 rfl (Nat.le_of_ble_eq_true rfl) rfl ?_
  refine fe_ic (pc' := 14) dX2_feed_13 rfl ic_0 ?_
  refine fe_si (pc' := 16) (lo' := [(0, .ref c), (1, .ref am_ext), (2, .int x2), (3, .int (2 * (g.1 3 0))), (4, .int 0), (5, .int 0)]) dX2_feed_14 rfl (Nat.le_of_ble_eq_true rfl) rfl ?_
  obtain ⟨q11, hq13, h⟩ := am_bd h
  refine lp_Ca_feed_x_L16 hc _ g x2 (2 * (g.1 3 0)) 0 0 q11 hq13 ?_
  refine fe_lan (pc' := 108) dX2_feed_107 rfl rfl ?_
  refine fe_dup (pc' := 109) dX2_feed_108 rfl rfl ?_
  refine fe_gf (pc' := 112) dX2_feed_109 rfl fl_2_18 (sc_ne hc) (cg_3 hc) ?_
  refine fe_lin (pc' := 113) dX2_feed_112 rfl rfl ?_
  refine fe_iadd (pc' := 114) dX2_feed_113 rfl ?_
  refine fe_pi (pc' := 117) dX2_feed_114 rfl fl_2_18 (sc_ne hc) (sc_o hc) rfl ⟨rfl, Or.inl rfl⟩ ?_
  refine fe_li (pc' := 119) dX2_feed_117 rfl rfl ?_
  cases h
  exact fe_ri dX2_feed_119 rfl
-- Ca_settle: X2_settle
set_option maxRecDepth 4000 in
theorem ev_Ca_settle {g : am_G} {c : Nat} {x1 : Int32} {w : am_G} (hc : c ∈ am_camps) (h : Ca_settle g c x1 = some w) : am_Ev 1 45 [.ref c, .int x1] (sh0, g) (sh0, w) (none) := by
  unfold Ca_settle at h
  refine am_ev mX2_settle (by rfl) (Nat.le_of_ble_eq_true rfl) [(0, .ref c), (1, .int x1)] rfl ?_
  refine fe_lin (pc' := 1) dX2_settle_0 rfl rfl ?_
  have K : am_E 0 mX2_settle (9, [(0, .ref c)], [], (sh0, (if x1 = 0 then am_wr g c 5 0 else g))) (sh0, w) (none) := by
    refine fe_lan (pc' := 10) dX2_settle_9 rfl rfl ?_
    refine fe_dup (pc' := 11) dX2_settle_10 rfl rfl ?_
    refine fe_gf (pc' := 14) dX2_settle_11 rfl fl_2_9 (sc_ne hc) (cg_1 hc) ?_
    refine fe_ic (pc' := 15) dX2_settle_14 rfl ic_1 ?_
    refine fe_iadd (pc' := 16) dX2_settle_15 rfl ?_
    refine fe_pi (pc' := 19) dX2_settle_16 rfl fl_2_9 (sc_ne hc) (sc_o hc) rfl ⟨rfl, Or.inl rfl⟩ ?_
    cases h
    exact fe_rv dX2_settle_19 rfl
  refine fe_if_ne (pc' := 4) (tgt := 9) dX2_settle_1 rfl rfl (fun hc1 => ?_) (fun hc1 => ?_)
  · refine fe_lan (pc' := 5) dX2_settle_4 rfl rfl ?_
    refine fe_ic (pc' := 6) dX2_settle_5 rfl ic_0 ?_
    refine fe_pi (pc' := 9) dX2_settle_6 rfl fl_2_24 (sc_ne hc) (sc_o hc) rfl ⟨rfl, Or.inl rfl⟩ ?_
    refine fe_pick [0] rfl ?_
    simp only [if_pos hc1] at K ⊢
    exact K
  · refine fe_pick [0] rfl ?_
    simp only [if_neg hc1] at K ⊢
    exact K
-- Ca_pass: X2_pass
set_option maxRecDepth 4000 in
theorem ev_Ca_pass {g : am_G} {c : Nat} {x1 : Int32} {w : am_G} (hc : c ∈ am_camps) (h : Ca_pass g c x1 = some w) : am_Ev 5 40 [.ref c, .int x1] (sh0, g) (sh0, w) (none) := by
  unfold Ca_pass at h
  refine am_ev mX2_pass (by rfl) (Nat.le_of_ble_eq_true rfl) [(0, .ref c), (1, .int x1)] rfl ?_
  refine fe_lan (pc' := 1) dX2_pass_0 rfl rfl ?_
  refine fe_lin (pc' := 2) dX2_pass_1 rfl rfl ?_
  obtain ⟨q1, hq2, h⟩ := am_bd h
  refine fe_iv (pc' := 5) (as := [.ref c, .int x1]) (h1 := (sh0, q1)) (r1 := none) (st' := []) dX2_pass_2 rfl cl_2_109 rfl rfl (sc_o hc) ms_41 ⟨(sc_ne hc), rfl, by decide, Nat.le_of_ble_eq_true rfl, Nat.le_of_ble_eq_true rfl⟩ (am_le0 _ _ _) (am_up (by decide) (ev_Ca_march hc hq2)) rfl ?_
  refine fe_lan (pc' := 6) dX2_pass_5 rfl rfl ?_
  refine fe_sta (pc' := 9) dX2_pass_6 rfl rfl ?_
  refine fe_lan (pc' := 10) dX2_pass_9 rfl rfl ?_
  refine fe_gf (pc' := 13) dX2_pass_10 rfl fl_2_37 (sc_ne hc) (cg_0 hc) ?_
  refine fe_gf (pc' := 16) dX2_pass_13 rfl fl_2_69 n_3 gf_3_3 ?_
  obtain ⟨q3, hq4, h⟩ := am_bd h
  refine fe_iv (pc' := 19) (as := [.ref c, .ref am_ext, .int (q1.1 3 3)]) (h1 := (sh0, q3.1)) (r1 := some (.int q3.2)) (st' := [.int q3.2]) dX2_pass_16 rfl cl_2_116 rfl rfl (sc_o hc) ms_44 ⟨(sc_ne hc), rfl, by decide, Nat.le_of_ble_eq_true rfl, Nat.le_of_ble_eq_true rfl⟩ (am_le0 _ _ _) (am_up (by decide) (ev_Ca_feed_x hc hq4)) rfl ?_
  refine fe_pop (pc' := 20) dX2_pass_19 rfl rfl ?_
  refine fe_lan (pc' := 21) dX2_pass_20 rfl rfl ?_
  refine fe_lin (pc' := 22) dX2_pass_21 rfl rfl ?_
  obtain ⟨q5, hq6, h⟩ := am_bd h
  refine fe_iv (pc' := 25) (as := [.ref c, .int x1]) (h1 := (sh0, q5)) (r1 := none) (st' := []) dX2_pass_22 rfl cl_2_120 rfl rfl (sc_o hc) ms_45 ⟨(sc_ne hc), rfl, by decide, Nat.le_of_ble_eq_true rfl, Nat.le_of_ble_eq_true rfl⟩ (am_le0 _ _ _) (am_up (by decide) (ev_Ca_settle hc hq6)) rfl ?_
  cases h
  exact fe_rv dX2_pass_25 rfl
-- Tb_goes: X8_goes
set_option maxRecDepth 4000 in
theorem ev_Tb_goes {g : am_G} {w : (am_G × Int32)} (h : Tb_goes g  = some w) : am_Ev 6 88 [.ref 0] (sh0, g) (sh0, w.1) (some (.int w.2)) := by
  unfold Tb_goes at h
  refine am_ev mX8_goes (by rfl) (Nat.le_of_ble_eq_true rfl) [(0, .ref 0)] rfl ?_
  refine fe_lan (pc' := 1) dX8_goes_0 rfl rfl ?_
  refine fe_gf (pc' := 4) dX8_goes_1 rfl fl_8_45 n_0 gf_0_4 ?_
  obtain ⟨q1, hq2, h⟩ := am_bd h
  refine fe_iv (pc' := 7) (as := [.ref 28]) (h1 := (sh0, g)) (r1 := some (.int (am_b q1))) (st' := [.int (am_b q1)]) dX8_goes_4 rfl cl_8_191 rfl rfl (sc_o sc_28) ms_29 ⟨(sc_ne sc_28), rfl, by decide, Nat.le_of_ble_eq_true rfl, Nat.le_of_ble_eq_true rfl⟩ (am_le0 _ _ _) (am_up (by decide) (ev_Ca_hasStage sc_28 hq2)) rfl ?_
  refine fe_bF (pc' := 10) (tgt := 13) dX8_goes_7 rfl rfl rfl (fun hc3 => ?_) (fun hc3 => ?_)
  · replace h := (if_pos hc3).symm.trans h
    refine fe_lan (pc' := 14) dX8_goes_13 rfl rfl ?_
    refine fe_gf (pc' := 17) dX8_goes_14 rfl fl_8_37 n_0 gf_0_3 ?_
    obtain ⟨q4, hq5, h⟩ := am_bd h
    refine fe_iv (pc' := 20) (as := [.ref 26]) (h1 := (sh0, q4)) (r1 := none) (st' := []) dX8_goes_17 rfl cl_8_178 rfl rfl (sj_o sj_26) ms_49 ⟨(sj_ne sj_26), rfl, by decide, Nat.le_of_ble_eq_true rfl, Nat.le_of_ble_eq_true rfl⟩ (am_le0 _ _ _) (am_up (by decide) (ev_Jo_remember sj_26 hq5)) rfl ?_
    refine fe_lan (pc' := 21) dX8_goes_20 rfl rfl ?_
    refine fe_gf (pc' := 24) dX8_goes_21 rfl fl_8_45 n_0 gf_0_4 ?_
    refine fe_gf (pc' := 27) dX8_goes_24 rfl fl_8_194 (sc_ne sc_28) (cg_2 sc_28) ?_
    refine fe_sin (pc' := 28) (lo' := [(0, .ref 0), (1, .int (q4.1 28 2))]) dX8_goes_27 rfl (Nat.le_of_ble_eq_true rfl) rfl ?_
    refine fe_lan (pc' := 29) dX8_goes_28 rfl rfl ?_
    refine fe_gf (pc' := 32) dX8_goes_29 rfl fl_8_45 n_0 gf_0_4 ?_
    refine fe_lan (pc' := 33) dX8_goes_32 rfl rfl ?_
    refine fe_gf (pc' := 36) dX8_goes_33 rfl fl_8_19 n_0 gf_0_1 ?_
    refine fe_lan (pc' := 37) dX8_goes_36 rfl rfl ?_
    refine fe_gf (pc' := 40) dX8_goes_37 rfl fl_8_45 n_0 gf_0_4 ?_
    refine fe_gf (pc' := 43) dX8_goes_40 rfl fl_8_197 (sc_ne sc_28) (cg_1 sc_28) ?_
    obtain ⟨q6, hq7, h⟩ := am_bd h
    refine fe_iv (pc' := 46) (as := [.ref 3, .int (q4.1 28 1)]) (h1 := (sh0, q4)) (r1 := some (.int (am_b q6))) (st' := [.int (am_b q6), .ref 28]) dX8_goes_43 rfl cl_8_200 rfl rfl s_3 ms_61 ⟨n_3, rfl, by decide, Nat.le_of_ble_eq_true rfl, Nat.le_of_ble_eq_true rfl⟩ (am_le0 _ _ _) (am_up (by decide) (ev_Ta_rains hq7)) rfl ?_
    obtain ⟨q8, hq9, h⟩ := am_bd h
    refine fe_iv (pc' := 49) (as := [.ref 28, .int (am_b q6)]) (h1 := (sh0, q8)) (r1 := none) (st' := []) dX8_goes_46 rfl cl_8_203 rfl rfl (sc_o sc_28) ms_40 ⟨(sc_ne sc_28), rfl, by decide, Nat.le_of_ble_eq_true rfl, Nat.le_of_ble_eq_true rfl⟩ (am_le0 _ _ _) (am_up (by decide) (ev_Ca_pass sc_28 hq9)) rfl ?_
    refine fe_lan (pc' := 50) dX8_goes_49 rfl rfl ?_
    refine fe_gf (pc' := 53) dX8_goes_50 rfl fl_8_45 n_0 gf_0_4 ?_
    refine fe_gf (pc' := 56) dX8_goes_53 rfl fl_8_194 (sc_ne sc_28) (cg_2 sc_28) ?_
    refine fe_lin (pc' := 57) dX8_goes_56 rfl rfl ?_
    refine fe_isub (pc' := 58) dX8_goes_57 rfl ?_
    cases h
    exact fe_ri dX8_goes_58 rfl
  · replace h := (if_neg hc3).symm.trans h
    refine fe_bp (pc' := 12) dX8_goes_10 rfl ib_m2 ?_
    cases h
    exact fe_ri dX8_goes_12 rfl
-- Jo_takeBack: X3_takeBack
set_option maxRecDepth 4000 in
theorem ev_Jo_takeBack {g : am_G} {c : Nat} {w : (am_G × Bool)} (hc : c ∈ am_jours) (h : Jo_takeBack g c  = some w) : am_Ev 2 50 [.ref c] (sh0, g) (sh0, w.1) (some (.int (am_b w.2))) := by
  unfold Jo_takeBack at h
  refine am_ev mX3_takeBack (by rfl) (Nat.le_of_ble_eq_true rfl) [(0, .ref c)] rfl ?_
  refine fe_lan (pc' := 1) dX3_takeBack_0 rfl rfl ?_
  refine fe_gf (pc' := 4) dX3_takeBack_1 rfl fl_3_17 (sj_ne hc) (jg_2 hc) ?_
  refine fe_if_ne (pc' := 7) (tgt := 9) dX3_takeBack_4 rfl rfl (fun hc1 => ?_) (fun hc1 => ?_)
  · replace h := (if_pos hc1).symm.trans h
    refine fe_ic (pc' := 8) dX3_takeBack_7 rfl ic_0 ?_
    cases h
    exact fe_rz _ dX3_takeBack_8 rfl rfl
  · replace h := (if_neg hc1).symm.trans h
    refine fe_lan (pc' := 10) dX3_takeBack_9 rfl rfl ?_
    refine fe_lan (pc' := 11) dX3_takeBack_10 rfl rfl ?_
    refine fe_gf (pc' := 14) dX3_takeBack_11 rfl fl_3_21 (sj_ne hc) (jg_3 hc) ?_
    refine fe_bp (pc' := 16) dX3_takeBack_14 rfl ib_10 ?_
    refine fe_iadd (pc' := 17) dX3_takeBack_16 rfl ?_
    refine fe_ic (pc' := 18) dX3_takeBack_17 rfl ic_1 ?_
    refine fe_isub (pc' := 19) dX3_takeBack_18 rfl ?_
    refine fe_bp (pc' := 21) dX3_takeBack_19 rfl ib_10 ?_
    refine fe_irem (pc' := 22) dX3_takeBack_21 rfl (by decide) ?_
    refine fe_pi (pc' := 25) dX3_takeBack_22 rfl fl_3_21 (sj_ne hc) (sj_o hc) rfl ⟨rfl, Or.inl rfl⟩ ?_
    refine fe_lan (pc' := 26) dX3_takeBack_25 rfl rfl ?_
    refine fe_dup (pc' := 27) dX3_takeBack_26 rfl rfl ?_
    refine fe_gf (pc' := 30) dX3_takeBack_27 rfl fl_3_17 (sj_ne hc) (jg_2 hc) ?_
    refine fe_ic (pc' := 31) dX3_takeBack_30 rfl ic_1 ?_
    refine fe_isub (pc' := 32) dX3_takeBack_31 rfl ?_
    refine fe_pi (pc' := 35) dX3_takeBack_32 rfl fl_3_17 (sj_ne hc) (sj_o hc) rfl ⟨rfl, Or.inl rfl⟩ ?_
    refine fe_lan (pc' := 36) dX3_takeBack_35 rfl rfl ?_
    refine fe_gf (pc' := 39) dX3_takeBack_36 rfl fl_3_27 (sj_ne hc) (jg_0 hc) ?_
    refine fe_lan (pc' := 40) dX3_takeBack_39 rfl rfl ?_
    refine fe_gf (pc' := 43) dX3_takeBack_40 rfl fl_3_11 (sj_ne hc) (jg_1 hc) ?_
    refine fe_lan (pc' := 44) dX3_takeBack_43 rfl rfl ?_
    refine fe_gf (pc' := 47) dX3_takeBack_44 rfl fl_3_21 (sj_ne hc) (jg_3 hc) ?_
    obtain ⟨hi2, h⟩ := am_gd rfl h
    refine fe_rl (pc' := 48) (b := c + 6 + 4 * ((am_wr (am_wr g c 3 ((((g.1 c 3) + 10) - 1) - (((g.1 c 3) + 10) - 1) / 10 * 10)) c 2 (((am_wr g c 3 ((((g.1 c 3) + 10) - 1) - (((g.1 c 3) + 10) - 1) / 10 * 10)).1 c 2) - 1)).1 c 3).toNatClampNeg) dX3_takeBack_47 rfl (sj_n1 hc) (sj_1 hc) (Or.inl rfl) hi2 (sj_r hi2) (sc_ne (sj_p hc hi2)) ?_
    obtain ⟨q3, hq4, h⟩ := am_bd h
    refine fe_iv (pc' := 51) (as := [.ref (c + 2), .ref (c + 6 + 4 * ((am_wr (am_wr g c 3 ((((g.1 c 3) + 10) - 1) - (((g.1 c 3) + 10) - 1) / 10 * 10)) c 2 (((am_wr g c 3 ((((g.1 c 3) + 10) - 1) - (((g.1 c 3) + 10) - 1) / 10 * 10)).1 c 2) - 1)).1 c 3).toNatClampNeg)]) (h1 := (sh0, q3)) (r1 := none) (st' := []) dX3_takeBack_48 rfl cl_3_34 rfl rfl (sc_o (sj_c hc)) ms_24 ⟨(sc_ne (sj_c hc)), rfl, by decide, Nat.le_of_ble_eq_true rfl, Nat.le_of_ble_eq_true rfl⟩ (am_le0 _ _ _) (am_up (by decide) (ev_Ca_copyFrom (sj_c hc) (sj_p hc hi2) hq4)) rfl ?_
    refine fe_ic (pc' := 52) dX3_takeBack_51 rfl ic_1 ?_
    cases h
    exact fe_rz _ dX3_takeBack_52 rfl rfl
-- Tb_undo: X8_undo
set_option maxRecDepth 4000 in
theorem ev_Tb_undo {g : am_G} {w : (am_G × Int32)} (h : Tb_undo g  = some w) : am_Ev 3 89 [.ref 0] (sh0, g) (sh0, w.1) (some (.int w.2)) := by
  unfold Tb_undo at h
  refine am_ev mX8_undo (by rfl) (Nat.le_of_ble_eq_true rfl) [(0, .ref 0)] rfl ?_
  refine fe_lan (pc' := 1) dX8_undo_0 rfl rfl ?_
  refine fe_gf (pc' := 4) dX8_undo_1 rfl fl_8_37 n_0 gf_0_3 ?_
  obtain ⟨q1, hq2, h⟩ := am_bd h
  refine fe_iv (pc' := 7) (as := [.ref 26]) (h1 := (sh0, q1.1)) (r1 := some (.int (am_b q1.2))) (st' := [.int (am_b q1.2)]) dX8_undo_4 rfl cl_8_207 rfl rfl (sj_o sj_26) ms_50 ⟨(sj_ne sj_26), rfl, by decide, Nat.le_of_ble_eq_true rfl, Nat.le_of_ble_eq_true rfl⟩ (am_le0 _ _ _) (am_up (by decide) (ev_Jo_takeBack sj_26 hq2)) rfl ?_
  refine fe_bT (pc' := 10) (tgt := 20) dX8_undo_7 rfl rfl rfl (fun hc3 => ?_) (fun hc3 => ?_)
  · replace h := (if_pos hc3).symm.trans h
    refine fe_lan (pc' := 11) dX8_undo_10 rfl rfl ?_
    refine fe_gf (pc' := 14) dX8_undo_11 rfl fl_8_37 n_0 gf_0_3 ?_
    refine fe_gf (pc' := 17) dX8_undo_14 rfl fl_8_210 (sj_ne sj_26) (jg_2 sj_26) ?_
    refine fe_go (tgt := 22) dX8_undo_17 rfl ?_
    cases h
    exact fe_ri dX8_undo_22 rfl
  · replace h := (if_neg hc3).symm.trans h
    refine fe_bp (pc' := 22) dX8_undo_20 rfl ib_m2 ?_
    cases h
    exact fe_ri dX8_undo_22 rfl
-- Ca_spread: X2_spread
set_option maxRecDepth 4000 in
theorem lp_Ca_spread_L9 {c : Nat} (hc : c ∈ am_camps) {hE : am_H} {r : Option Value} : ∀ (n : Nat) (g : am_G) (x1 : Int32) (x2 : Int32) (x3 : Int32) (x4 : Int32) (w : Int32 × Int32), Ca_spread_L9 n g c x1 x2 x3 x4 = some w → am_E 3 mX2_spread (69, [(0, .ref c), (2, .int w.1), (3, .int w.2)], [], (sh0, g)) hE r → am_E 3 mX2_spread (9, [(0, .ref c), (1, .int x1), (2, .int x2), (3, .int x3), (4, .int x4)], [], (sh0, g)) hE r := by
  intro n
  induction n with
  | zero => intro g x1 x2 x3 x4 q h; cases h
  | succ n ih =>
    intro g x1 x2 x3 x4 q h k1
    replace h : _ = _ := h
    unfold Ca_spread_L9 at h
    refine fe_li (pc' := 11) dX2_spread_9 rfl rfl ?_
    refine fe_lan (pc' := 12) dX2_spread_11 rfl rfl ?_
    refine fe_gf (pc' := 15) dX2_spread_12 rfl fl_2_37 (sc_ne hc) (cg_0 hc) ?_
    refine fe_gf (pc' := 18) dX2_spread_15 rfl fl_2_94 n_3 gf_3_0 ?_
    refine fe_ic_ge (pc' := 21) (tgt := 69) dX2_spread_18 rfl rfl (fun hc1 => ?_) (fun hc1 => ?_)
    · replace h := (if_pos hc1).symm.trans h
      refine fe_pick [0, 2, 3] rfl ?_
      cases h
      exact k1
    · replace h := (if_neg hc1).symm.trans h
      refine fe_lin (pc' := 22) dX2_spread_21 rfl rfl ?_
      obtain ⟨q9, hq12, h⟩ := am_bd h
      have K : am_E 3 mX2_spread (47, [(0, .ref c), (1, .int x1), (2, .int x2), (3, .int x3), (4, .int x4)], [.int q9], (sh0, g)) hE r := by
        refine fe_si (pc' := 49) (lo' := [(0, .ref c), (1, .int x1), (2, .int x2), (3, .int x3), (4, .int x4), (5, .int q9)]) dX2_spread_47 rfl (Nat.le_of_ble_eq_true rfl) rfl ?_
        refine fe_lin (pc' := 50) dX2_spread_49 rfl rfl ?_
        refine fe_li (pc' := 52) dX2_spread_50 rfl rfl ?_
        refine fe_mx (pc' := 55) dX2_spread_52 rfl cl_2_88 (Nat.le_of_ble_eq_true rfl) ?_
        refine fe_sin (pc' := 56) (lo' := [(0, .ref c), (1, .int x1), (2, .int (am_mx x2 q9)), (3, .int x3), (4, .int x4), (5, .int q9)]) dX2_spread_55 rfl (Nat.le_of_ble_eq_true rfl) rfl ?_
        refine fe_lin (pc' := 57) dX2_spread_56 rfl rfl ?_
        refine fe_li (pc' := 59) dX2_spread_57 rfl rfl ?_
        refine fe_mn (pc' := 62) dX2_spread_59 rfl cl_2_82 (Nat.le_of_ble_eq_true rfl) ?_
        refine fe_sin (pc' := 63) (lo' := [(0, .ref c), (1, .int x1), (2, .int (am_mx x2 q9)), (3, .int (am_mn x3 q9)), (4, .int x4), (5, .int q9)]) dX2_spread_62 rfl (Nat.le_of_ble_eq_true rfl) rfl ?_
        refine fe_inc (pc' := 66) (lo' := [(0, .ref c), (1, .int x1), (2, .int (am_mx x2 q9)), (3, .int (am_mn x3 q9)), (4, .int (x4 + 1)), (5, .int q9)]) dX2_spread_63 rfl ic_1 (Nat.le_of_ble_eq_true rfl) rfl rfl ?_
        refine fe_go (tgt := 9) dX2_spread_66 rfl ?_
        refine fe_pick [0, 1, 2, 3, 4] rfl ?_
        exact ih g x1 (am_mx x2 q9) (am_mn x3 q9) (x4 + 1) q h k1
      replace h := hq12
      refine fe_if_eq (pc' := 25) (tgt := 41) dX2_spread_22 rfl rfl (fun hc2 => ?_) (fun hc2 => ?_)
      · replace h := (if_pos hc2).symm.trans h
        refine fe_lan (pc' := 42) dX2_spread_41 rfl rfl ?_
        refine fe_li (pc' := 44) dX2_spread_42 rfl rfl ?_
        obtain ⟨q3, hq4, h⟩ := am_bd h
        refine fe_iv (pc' := 47) (as := [.ref c, .int x4]) (h1 := (sh0, g)) (r1 := some (.int q3)) (st' := [.int q3]) dX2_spread_44 rfl cl_2_97 rfl rfl (sc_o hc) ms_31 ⟨(sc_ne hc), rfl, by decide, Nat.le_of_ble_eq_true rfl, Nat.le_of_ble_eq_true rfl⟩ (am_le0 _ _ _) (am_up (by decide) (ev_Ca_load hc hq4)) rfl ?_
        cases h
        exact K
      · replace h := (if_neg hc2).symm.trans h
        refine fe_lan (pc' := 26) dX2_spread_25 rfl rfl ?_
        refine fe_li (pc' := 28) dX2_spread_26 rfl rfl ?_
        obtain ⟨q5, hq6, h⟩ := am_bd h
        refine fe_iv (pc' := 31) (as := [.ref c, .int x4]) (h1 := (sh0, g)) (r1 := some (.int q5)) (st' := [.int q5]) dX2_spread_28 rfl cl_2_97 rfl rfl (sc_o hc) ms_31 ⟨(sc_ne hc), rfl, by decide, Nat.le_of_ble_eq_true rfl, Nat.le_of_ble_eq_true rfl⟩ (am_le0 _ _ _) (am_up (by decide) (ev_Ca_load hc hq6)) rfl ?_
        refine fe_lan (pc' := 32) dX2_spread_31 rfl rfl ?_
        refine fe_li (pc' := 34) dX2_spread_32 rfl rfl ?_
        obtain ⟨q7, hq8, h⟩ := am_bd h
        refine fe_iv (pc' := 37) (as := [.ref c, .int x4]) (h1 := (sh0, g)) (r1 := some (.int q7)) (st' := [.int q7, .int q5]) dX2_spread_34 rfl cl_2_79 rfl rfl (sc_o hc) ms_34 ⟨(sc_ne hc), rfl, by decide, Nat.le_of_ble_eq_true rfl, Nat.le_of_ble_eq_true rfl⟩ (am_le0 _ _ _) (am_up (by decide) (ev_Ca_force hc hq8)) rfl ?_
        refine fe_isub (pc' := 38) dX2_spread_37 rfl ?_
        refine fe_go (tgt := 47) dX2_spread_38 rfl ?_
        cases h
        exact K
set_option maxRecDepth 4000 in
theorem ev_Ca_spread {g : am_G} {c : Nat} {x1 : Int32} {w : Int32} (hc : c ∈ am_camps) (h : Ca_spread g c x1 = some w) : am_Ev 4 38 [.ref c, .int x1] (sh0, g) (sh0, g) (some (.int w)) := by
  unfold Ca_spread at h
  refine am_ev mX2_spread (by rfl) (Nat.le_of_ble_eq_true rfl) [(0, .ref c), (1, .int x1)] rfl ?_
  refine fe_ldc (pc' := 2) dX2_spread_0 rfl kc_2_104 ?_
  refine fe_sin (pc' := 3) (lo' := [(0, .ref c), (1, .int x1), (2, .int (-1000000000))]) dX2_spread_2 rfl (Nat.le_of_ble_eq_true rfl) rfl ?_
  refine fe_ldc (pc' := 5) dX2_spread_3 rfl kc_2_105 ?_
  refine fe_sin (pc' := 6) (lo' := [(0, .ref c), (1, .int x1), (2, .int (-1000000000)), (3, .int 1000000000)]) dX2_spread_5 rfl (Nat.le_of_ble_eq_true rfl) rfl ?_
  refine fe_ic (pc' := 7) dX2_spread_6 rfl ic_0 ?_
  refine fe_si (pc' := 9) (lo' := [(0, .ref c), (1, .int x1), (2, .int (-1000000000)), (3, .int 1000000000), (4, .int 0)]) dX2_spread_7 rfl (Nat.le_of_ble_eq_true rfl) rfl ?_
  obtain ⟨q10, hq13, h⟩ := am_bd h
  refine lp_Ca_spread_L9 hc _ g x1 (-1000000000) 1000000000 0 q10 hq13 ?_
  refine fe_lan (pc' := 70) dX2_spread_69 rfl rfl ?_
  refine fe_gf (pc' := 73) dX2_spread_70 rfl fl_2_37 (sc_ne hc) (cg_0 hc) ?_
  refine fe_gf (pc' := 76) dX2_spread_73 rfl fl_2_94 n_3 gf_3_0 ?_
  refine fe_if_ne (pc' := 79) (tgt := 83) dX2_spread_76 rfl rfl (fun hc11 => ?_) (fun hc11 => ?_)
  · replace h := (if_pos hc11).symm.trans h
    refine fe_ic (pc' := 80) dX2_spread_79 rfl ic_0 ?_
    refine fe_go (tgt := 86) dX2_spread_80 rfl ?_
    cases h
    exact fe_ri dX2_spread_86 rfl
  · replace h := (if_neg hc11).symm.trans h
    refine fe_lin (pc' := 84) dX2_spread_83 rfl rfl ?_
    refine fe_lin (pc' := 85) dX2_spread_84 rfl rfl ?_
    refine fe_isub (pc' := 86) dX2_spread_85 rfl ?_
    cases h
    exact fe_ri dX2_spread_86 rfl
-- Ca_parted: X2_parted
set_option maxRecDepth 4000 in
theorem lp_Ca_parted_L17 {c : Nat} (hc : c ∈ am_camps) {hE : am_H} {r : Option Value} : ∀ (n : Nat) (g : am_G) (x1 : Int32) (x2 : Int32) (x3 : Int32) (w : Int32), Ca_parted_L17 n g c x1 x2 x3 = some w → am_E 0 mX2_parted (90, [(0, .ref c), (1, .int w), (2, .int x2)], [], (sh0, g)) hE r → am_E 0 mX2_parted (17, [(0, .ref c), (1, .int x1), (2, .int x2), (3, .int x3)], [], (sh0, g)) hE r := by
  intro n
  induction n with
  | zero => intro g x1 x2 x3 q h; cases h
  | succ n ih =>
    intro g x1 x2 x3 q h k1
    replace h : _ = _ := h
    unfold Ca_parted_L17 at h
    refine fe_lin (pc' := 18) dX2_parted_17 rfl rfl ?_
    refine fe_lin (pc' := 19) dX2_parted_18 rfl rfl ?_
    refine fe_ic_ge (pc' := 22) (tgt := 90) dX2_parted_19 rfl rfl (fun hc2 => ?_) (fun hc2 => ?_)
    · replace h := (if_pos hc2).symm.trans h
      refine fe_pick [0, 1, 2] rfl ?_
      cases h
      exact k1
    · replace h := (if_neg hc2).symm.trans h
      refine fe_lan (pc' := 23) dX2_parted_22 rfl rfl ?_
      refine fe_gf (pc' := 26) dX2_parted_23 rfl fl_2_37 (sc_ne hc) (cg_0 hc) ?_
      refine fe_gf (pc' := 29) dX2_parted_26 rfl fl_2_106 n_3 gf_3_7 ?_
      refine fe_lin (pc' := 30) dX2_parted_29 rfl rfl ?_
      obtain ⟨hi3, h⟩ := am_gd rfl h
      refine fe_al (pc' := 31) (j := x2.toNatClampNeg) dX2_parted_30 rfl n_9 s_9 hi3 rfl ?_
      obtain ⟨q8, hq11, h⟩ := am_bd h
      have K : am_E 0 mX2_parted (84, [(0, .ref c), (1, .int q8), (2, .int x2), (3, .int x3)], [], (sh0, g)) hE r := by
        refine fe_inc (pc' := 87) (lo' := [(0, .ref c), (1, .int q8), (2, .int x2), (3, .int (x3 + 1))]) dX2_parted_84 rfl ic_1 (Nat.le_of_ble_eq_true rfl) rfl rfl ?_
        refine fe_go (tgt := 17) dX2_parted_87 rfl ?_
        exact ih g q8 x2 (x3 + 1) q h k1
      replace h := hq11
      refine fe_if_le (pc' := 34) (tgt := 84) dX2_parted_31 rfl rfl (fun hc4 => ?_) (fun hc4 => ?_)
      · replace h := (if_pos hc4).symm.trans h
        cases h
        exact K
      · replace h := (if_neg hc4).symm.trans h
        refine fe_lan (pc' := 35) dX2_parted_34 rfl rfl ?_
        refine fe_gf (pc' := 38) dX2_parted_35 rfl fl_2_37 (sc_ne hc) (cg_0 hc) ?_
        refine fe_gf (pc' := 41) dX2_parted_38 rfl fl_2_106 n_3 gf_3_7 ?_
        refine fe_lin (pc' := 42) dX2_parted_41 rfl rfl ?_
        refine fe_al (pc' := 43) (j := x2.toNatClampNeg) dX2_parted_42 rfl n_9 s_9 hi3 rfl ?_
        refine fe_lan (pc' := 44) dX2_parted_43 rfl rfl ?_
        refine fe_gf (pc' := 47) dX2_parted_44 rfl fl_2_37 (sc_ne hc) (cg_0 hc) ?_
        refine fe_gf (pc' := 50) dX2_parted_47 rfl fl_2_106 n_3 gf_3_7 ?_
        refine fe_lin (pc' := 51) dX2_parted_50 rfl rfl ?_
        obtain ⟨hi5, h⟩ := am_gd rfl h
        refine fe_al (pc' := 52) (j := x3.toNatClampNeg) dX2_parted_51 rfl n_9 s_9 hi5 rfl ?_
        refine fe_ic_ne (pc' := 55) (tgt := 84) dX2_parted_52 rfl rfl (fun hc6 => ?_) (fun hc6 => ?_)
        · replace h := (if_pos hc6).symm.trans h
          refine fe_lan (pc' := 56) dX2_parted_55 rfl rfl ?_
          refine fe_gf (pc' := 59) dX2_parted_56 rfl fl_2_27 (sc_ne hc) (cg_6 hc) ?_
          refine fe_lin (pc' := 60) dX2_parted_59 rfl rfl ?_
          refine fe_al (pc' := 61) (j := x2.toNatClampNeg) dX2_parted_60 rfl (sc_n1 hc) (sc_1 hc) hi3 rfl ?_
          refine fe_lan (pc' := 62) dX2_parted_61 rfl rfl ?_
          refine fe_gf (pc' := 65) dX2_parted_62 rfl fl_2_27 (sc_ne hc) (cg_6 hc) ?_
          refine fe_lin (pc' := 66) dX2_parted_65 rfl rfl ?_
          refine fe_al (pc' := 67) (j := x3.toNatClampNeg) dX2_parted_66 rfl (sc_n1 hc) (sc_1 hc) hi5 rfl ?_
          refine fe_ic_eq (pc' := 70) (tgt := 84) dX2_parted_67 rfl rfl (fun hc7 => ?_) (fun hc7 => ?_)
          · replace h := (if_pos hc7).symm.trans h
            cases h
            exact K
          · replace h := (if_neg hc7).symm.trans h
            refine fe_lin (pc' := 71) dX2_parted_70 rfl rfl ?_
            refine fe_ic (pc' := 72) dX2_parted_71 rfl ic_1 ?_
            refine fe_lan (pc' := 73) dX2_parted_72 rfl rfl ?_
            refine fe_gf (pc' := 76) dX2_parted_73 rfl fl_2_37 (sc_ne hc) (cg_0 hc) ?_
            refine fe_gf (pc' := 79) dX2_parted_76 rfl fl_2_106 n_3 gf_3_7 ?_
            refine fe_lin (pc' := 80) dX2_parted_79 rfl rfl ?_
            refine fe_al (pc' := 81) (j := x2.toNatClampNeg) dX2_parted_80 rfl n_9 s_9 hi3 rfl ?_
            refine fe_ishl (pc' := 82) dX2_parted_81 rfl ?_
            refine fe_ior (pc' := 83) dX2_parted_82 rfl ?_
            refine fe_sin (pc' := 84) (lo' := [(0, .ref c), (1, .int (x1 ||| (1 <<< ((g.1 9 x2.toNatClampNeg) &&& 31)))), (2, .int x2), (3, .int x3)]) dX2_parted_83 rfl (Nat.le_of_ble_eq_true rfl) rfl ?_
            cases h
            exact K
        · replace h := (if_neg hc6).symm.trans h
          cases h
          exact K
set_option maxRecDepth 4000 in
theorem lp_Ca_parted_L4 {c : Nat} (hc : c ∈ am_camps) {hE : am_H} {r : Option Value} : ∀ (n : Nat) (g : am_G) (x1 : Int32) (x2 : Int32) (w : Int32), Ca_parted_L4 n g c x1 x2 = some w → am_E 0 mX2_parted (96, [(1, .int w)], [], (sh0, g)) hE r → am_E 0 mX2_parted (4, [(0, .ref c), (1, .int x1), (2, .int x2)], [], (sh0, g)) hE r := by
  intro n
  induction n with
  | zero => intro g x1 x2 q h; cases h
  | succ n ih =>
    intro g x1 x2 q h k1
    replace h : _ = _ := h
    unfold Ca_parted_L4 at h
    refine fe_lin (pc' := 5) dX2_parted_4 rfl rfl ?_
    refine fe_lan (pc' := 6) dX2_parted_5 rfl rfl ?_
    refine fe_gf (pc' := 9) dX2_parted_6 rfl fl_2_37 (sc_ne hc) (cg_0 hc) ?_
    refine fe_gf (pc' := 12) dX2_parted_9 rfl fl_2_69 n_3 gf_3_3 ?_
    refine fe_ic_ge (pc' := 15) (tgt := 96) dX2_parted_12 rfl rfl (fun hc1 => ?_) (fun hc1 => ?_)
    · replace h := (if_pos hc1).symm.trans h
      refine fe_pick [1] rfl ?_
      cases h
      exact k1
    · replace h := (if_neg hc1).symm.trans h
      refine fe_ic (pc' := 16) dX2_parted_15 rfl ic_0 ?_
      refine fe_sin (pc' := 17) (lo' := [(0, .ref c), (1, .int x1), (2, .int x2), (3, .int 0)]) dX2_parted_16 rfl (Nat.le_of_ble_eq_true rfl) rfl ?_
      obtain ⟨q9, hq12, h⟩ := am_bd h
      refine lp_Ca_parted_L17 hc _ g x1 x2 0 q9 hq12 ?_
      refine fe_inc (pc' := 93) (lo' := [(0, .ref c), (1, .int q9), (2, .int (x2 + 1))]) dX2_parted_90 rfl ic_1 (Nat.le_of_ble_eq_true rfl) rfl rfl ?_
      refine fe_go (tgt := 4) dX2_parted_93 rfl ?_
      exact ih g q9 (x2 + 1) q h k1
set_option maxRecDepth 4000 in
theorem ev_Ca_parted {g : am_G} {c : Nat} {w : Int32} (hc : c ∈ am_camps) (h : Ca_parted g c  = some w) : am_Ev 1 39 [.ref c] (sh0, g) (sh0, g) (some (.int w)) := by
  unfold Ca_parted at h
  refine am_ev mX2_parted (by rfl) (Nat.le_of_ble_eq_true rfl) [(0, .ref c)] rfl ?_
  refine fe_ic (pc' := 1) dX2_parted_0 rfl ic_0 ?_
  refine fe_sin (pc' := 2) (lo' := [(0, .ref c), (1, .int 0)]) dX2_parted_1 rfl (Nat.le_of_ble_eq_true rfl) rfl ?_
  refine fe_ic (pc' := 3) dX2_parted_2 rfl ic_0 ?_
  refine fe_sin (pc' := 4) (lo' := [(0, .ref c), (1, .int 0), (2, .int 0)]) dX2_parted_3 rfl (Nat.le_of_ble_eq_true rfl) rfl ?_
  obtain ⟨q10, hq13, h⟩ := am_bd h
  refine lp_Ca_parted_L4 hc _ g 0 0 q10 hq13 ?_
  refine fe_lin (pc' := 97) dX2_parted_96 rfl rfl ?_
  cases h
  exact fe_ri dX2_parted_97 rfl
-- Tb_now: X8_now
set_option maxRecDepth 4000 in
theorem ev_Tb_now {g : am_G} {x1 : Int32} {w : Int32} (h : Tb_now g x1 = some w) : am_Ev 5 90 [.ref 0, .int x1] (sh0, g) (sh0, g) (some (.int w)) := by
  unfold Tb_now at h
  refine am_ev mX8_now (by rfl) (Nat.le_of_ble_eq_true rfl) [(0, .ref 0), (1, .int x1)] rfl ?_
  refine fe_lin (pc' := 1) dX8_now_0 rfl rfl ?_
  by_cases hc1 : x1 = 0
  · replace h := (if_pos hc1).symm.trans h
    refine fe_tsI (tgt := 48) dX8_now_1 0 hc1 (by decide) rfl rfl ?_
    refine fe_lan (pc' := 49) dX8_now_48 rfl rfl ?_
    refine fe_gf (pc' := 52) dX8_now_49 rfl fl_8_45 n_0 gf_0_4 ?_
    refine fe_gf (pc' := 55) dX8_now_52 rfl fl_8_197 (sc_ne sc_28) (cg_1 sc_28) ?_
    cases h
    exact fe_ri dX8_now_55 rfl
  replace h := (if_neg hc1).symm.trans h
  by_cases hc2 : x1 = 1
  · replace h := (if_pos hc2).symm.trans h
    refine fe_tsI (tgt := 56) dX8_now_1 1 hc2 (by decide) rfl rfl ?_
    refine fe_lan (pc' := 57) dX8_now_56 rfl rfl ?_
    refine fe_gf (pc' := 60) dX8_now_57 rfl fl_8_45 n_0 gf_0_4 ?_
    refine fe_gf (pc' := 63) dX8_now_60 rfl fl_8_194 (sc_ne sc_28) (cg_2 sc_28) ?_
    cases h
    exact fe_ri dX8_now_63 rfl
  replace h := (if_neg hc2).symm.trans h
  by_cases hc3 : x1 = 2
  · replace h := (if_pos hc3).symm.trans h
    refine fe_tsI (tgt := 64) dX8_now_1 2 hc3 (by decide) rfl rfl ?_
    refine fe_lan (pc' := 65) dX8_now_64 rfl rfl ?_
    refine fe_gf (pc' := 68) dX8_now_65 rfl fl_8_45 n_0 gf_0_4 ?_
    refine fe_gf (pc' := 71) dX8_now_68 rfl fl_8_213 (sc_ne sc_28) (cg_3 sc_28) ?_
    cases h
    exact fe_ri dX8_now_71 rfl
  replace h := (if_neg hc3).symm.trans h
  by_cases hc4 : x1 = 3
  · replace h := (if_pos hc4).symm.trans h
    refine fe_tsI (tgt := 72) dX8_now_1 3 hc4 (by decide) rfl rfl ?_
    refine fe_lan (pc' := 73) dX8_now_72 rfl rfl ?_
    refine fe_gf (pc' := 76) dX8_now_73 rfl fl_8_45 n_0 gf_0_4 ?_
    obtain ⟨q5, hq6, h⟩ := am_bd h
    refine fe_iv (pc' := 79) (as := [.ref 28]) (h1 := (sh0, g)) (r1 := some (.int (am_b q5))) (st' := [.int (am_b q5)]) dX8_now_76 rfl cl_8_187 rfl rfl (sc_o sc_28) ms_28 ⟨(sc_ne sc_28), rfl, by decide, Nat.le_of_ble_eq_true rfl, Nat.le_of_ble_eq_true rfl⟩ (am_le0 _ _ _) (am_up (by decide) (ev_Ca_isAtHut sc_28 hq6)) rfl ?_
    refine fe_bT (pc' := 82) (tgt := 86) dX8_now_79 rfl rfl rfl (fun hc7 => ?_) (fun hc7 => ?_)
    · replace h := (if_pos hc7).symm.trans h
      refine fe_ic (pc' := 83) dX8_now_82 rfl ic_1 ?_
      refine fe_go (tgt := 87) dX8_now_83 rfl ?_
      cases h
      exact fe_ri dX8_now_87 rfl
    · replace h := (if_neg hc7).symm.trans h
      refine fe_ic (pc' := 87) dX8_now_86 rfl ic_0 ?_
      cases h
      exact fe_ri dX8_now_87 rfl
  replace h := (if_neg hc4).symm.trans h
  by_cases hc8 : x1 = 4
  · replace h := (if_pos hc8).symm.trans h
    refine fe_tsI (tgt := 88) dX8_now_1 4 hc8 (by decide) rfl rfl ?_
    refine fe_lan (pc' := 89) dX8_now_88 rfl rfl ?_
    refine fe_gf (pc' := 92) dX8_now_89 rfl fl_8_45 n_0 gf_0_4 ?_
    refine fe_ic (pc' := 93) dX8_now_92 rfl ic_0 ?_
    obtain ⟨q9, hq10, h⟩ := am_bd h
    refine fe_iv (pc' := 96) (as := [.ref 28, .int 0]) (h1 := (sh0, g)) (r1 := some (.int q9)) (st' := [.int q9]) dX8_now_93 rfl cl_8_216 rfl rfl (sc_o sc_28) ms_38 ⟨(sc_ne sc_28), rfl, by decide, Nat.le_of_ble_eq_true rfl, Nat.le_of_ble_eq_true rfl⟩ (am_le0 _ _ _) (am_up (by decide) (ev_Ca_spread sc_28 hq10)) rfl ?_
    cases h
    exact fe_ri dX8_now_96 rfl
  replace h := (if_neg hc8).symm.trans h
  by_cases hc11 : x1 = 5
  · replace h := (if_pos hc11).symm.trans h
    refine fe_tsI (tgt := 97) dX8_now_1 5 hc11 (by decide) rfl rfl ?_
    refine fe_lan (pc' := 98) dX8_now_97 rfl rfl ?_
    refine fe_gf (pc' := 101) dX8_now_98 rfl fl_8_45 n_0 gf_0_4 ?_
    refine fe_ic (pc' := 102) dX8_now_101 rfl ic_1 ?_
    obtain ⟨q12, hq13, h⟩ := am_bd h
    refine fe_iv (pc' := 105) (as := [.ref 28, .int 1]) (h1 := (sh0, g)) (r1 := some (.int q12)) (st' := [.int q12]) dX8_now_102 rfl cl_8_216 rfl rfl (sc_o sc_28) ms_38 ⟨(sc_ne sc_28), rfl, by decide, Nat.le_of_ble_eq_true rfl, Nat.le_of_ble_eq_true rfl⟩ (am_le0 _ _ _) (am_up (by decide) (ev_Ca_spread sc_28 hq13)) rfl ?_
    cases h
    exact fe_ri dX8_now_105 rfl
  replace h := (if_neg hc11).symm.trans h
  by_cases hc14 : x1 = 6
  · replace h := (if_pos hc14).symm.trans h
    refine fe_tsI (tgt := 106) dX8_now_1 6 hc14 (by decide) rfl rfl ?_
    refine fe_lan (pc' := 107) dX8_now_106 rfl rfl ?_
    refine fe_gf (pc' := 110) dX8_now_107 rfl fl_8_45 n_0 gf_0_4 ?_
    obtain ⟨q15, hq16, h⟩ := am_bd h
    refine fe_iv (pc' := 113) (as := [.ref 28]) (h1 := (sh0, g)) (r1 := some (.int q15)) (st' := [.int q15]) dX8_now_110 rfl cl_8_220 rfl rfl (sc_o sc_28) ms_39 ⟨(sc_ne sc_28), rfl, by decide, Nat.le_of_ble_eq_true rfl, Nat.le_of_ble_eq_true rfl⟩ (am_le0 _ _ _) (am_up (by decide) (ev_Ca_parted sc_28 hq16)) rfl ?_
    cases h
    exact fe_ri dX8_now_113 rfl
  replace h := (if_neg hc14).symm.trans h
  by_cases hc17 : x1 = 7
  · replace h := (if_pos hc17).symm.trans h
    refine fe_tsI (tgt := 114) dX8_now_1 7 hc17 (by decide) rfl rfl ?_
    refine fe_lan (pc' := 115) dX8_now_114 rfl rfl ?_
    refine fe_gf (pc' := 118) dX8_now_115 rfl fl_8_45 n_0 gf_0_4 ?_
    refine fe_gf (pc' := 121) dX8_now_118 rfl fl_8_181 (sc_ne sc_28) (cg_4 sc_28) ?_
    cases h
    exact fe_ri dX8_now_121 rfl
  replace h := (if_neg hc17).symm.trans h
  refine fe_tsO (tgt := 122) dX8_now_1 (by exact am_tsO 8 (by decide) (fun k hk => by rcases (show k = 0 ∨ k = 1 ∨ k = 2 ∨ k = 3 ∨ k = 4 ∨ k = 5 ∨ k = 6 ∨ k = 7 by omega) with rfl | rfl | rfl | rfl | rfl | rfl | rfl | rfl <;> assumption)) rfl ?_
  refine fe_ic (pc' := 123) dX8_now_122 rfl ic_m1 ?_
  cases h
  exact fe_ri dX8_now_123 rfl
-- Tb_isEither: X8_isEither
set_option maxRecDepth 4000 in
theorem ev_Tb_isEither {g : am_G} {x0 : Int32} {w : Bool} (h : Tb_isEither g x0 = some w) : am_Ev 1 116 [.int x0] (sh0, g) (sh0, g) (some (.int (am_b w))) := by
  unfold Tb_isEither at h
  refine am_ev mX8_isEither (by rfl) (Nat.le_of_ble_eq_true rfl) [(0, .int x0)] rfl ?_
  refine fe_lin (pc' := 1) dX8_isEither_0 rfl rfl ?_
  refine fe_if_eq (pc' := 4) (tgt := 9) dX8_isEither_1 rfl rfl (fun hc1 => ?_) (fun hc1 => ?_)
  · replace h := (if_pos hc1).symm.trans h
    refine fe_ic (pc' := 10) dX8_isEither_9 rfl ic_1 ?_
    refine fe_go (tgt := 14) dX8_isEither_10 rfl ?_
    cases h
    exact fe_rz _ dX8_isEither_14 rfl rfl
  · replace h := (if_neg hc1).symm.trans h
    refine fe_lin (pc' := 5) dX8_isEither_4 rfl rfl ?_
    refine fe_ic (pc' := 6) dX8_isEither_5 rfl ic_1 ?_
    refine fe_ic_ne (pc' := 9) (tgt := 13) dX8_isEither_6 rfl rfl (fun hc2 => ?_) (fun hc2 => ?_)
    · replace h := (if_pos hc2).symm.trans h
      refine fe_ic (pc' := 10) dX8_isEither_9 rfl ic_1 ?_
      refine fe_go (tgt := 14) dX8_isEither_10 rfl ?_
      cases h
      exact fe_rz _ dX8_isEither_14 rfl rfl
    · replace h := (if_neg hc2).symm.trans h
      refine fe_ic (pc' := 14) dX8_isEither_13 rfl ic_0 ?_
      cases h
      exact fe_rz _ dX8_isEither_14 rfl rfl
-- Ah_setOut: X0_setOut
set_option maxRecDepth 4000 in
theorem ev_Ah_setOut {g : am_G} {w : am_G} (h : Ah_setOut g  = some w) : am_Ev 2 1 [.ref 81, .ref 28] (sh0, g) (sh0, w) (some (.ref 85)) := by
  unfold Ah_setOut at h
  refine am_ev mX0_setOut (by rfl) (Nat.le_of_ble_eq_true rfl) [(0, .ref 81), (1, .ref 28)] rfl ?_
  refine fe_lan (pc' := 1) dX0_setOut_0 rfl rfl ?_
  refine fe_gf (pc' := 4) dX0_setOut_1 rfl fl_0_11 n_81 gf_81_1 ?_
  refine fe_ic (pc' := 5) dX0_setOut_4 rfl ic_0 ?_
  refine fe_rl (pc' := 6) (b := 85) dX0_setOut_5 rfl n_82 s_82 (Or.inl rfl) (by decide : am_in 0 9 = true) (by decide) (sc_ne sc_85) ?_
  refine fe_san (pc' := 7) (lo' := [(0, .ref 81), (1, .ref 28), (2, .ref 85)]) dX0_setOut_6 rfl (Nat.le_of_ble_eq_true rfl) rfl ?_
  refine fe_lan (pc' := 8) dX0_setOut_7 rfl rfl ?_
  refine fe_lan (pc' := 9) dX0_setOut_8 rfl rfl ?_
  obtain ⟨q1, hq2, h⟩ := am_bd h
  refine fe_iv (pc' := 12) (as := [.ref 85, .ref 28]) (h1 := (sh0, q1)) (r1 := none) (st' := []) dX0_setOut_9 rfl cl_0_54 rfl rfl (sc_o sc_85) ms_24 ⟨(sc_ne sc_85), rfl, by decide, Nat.le_of_ble_eq_true rfl, Nat.le_of_ble_eq_true rfl⟩ (am_le0 _ _ _) (am_up (by decide) (ev_Ca_copyFrom sc_85 sc_28 hq2)) rfl ?_
  refine fe_lan (pc' := 13) dX0_setOut_12 rfl rfl ?_
  refine fe_ic (pc' := 14) dX0_setOut_13 rfl ic_0 ?_
  refine fe_pi (pc' := 17) dX0_setOut_14 rfl fl_0_58 (sc_ne sc_85) (sc_o sc_85) rfl ⟨rfl, Or.inl rfl⟩ ?_
  refine fe_lan (pc' := 18) dX0_setOut_17 rfl rfl ?_
  refine fe_ic (pc' := 19) dX0_setOut_18 rfl ic_0 ?_
  refine fe_pi (pc' := 22) dX0_setOut_19 rfl fl_0_61 (sc_ne sc_85) (sc_o sc_85) rfl ⟨rfl, Or.inl rfl⟩ ?_
  refine fe_lan (pc' := 23) dX0_setOut_22 rfl rfl ?_
  cases h
  exact fe_ra (nm := "TentBearers$Camp") dX0_setOut_23 rfl (sc_ne sc_85)
-- Ah_end: X0_end
set_option maxRecDepth 4000 in
theorem lp_Ah_end_L11 {hE : am_H} {r : Option Value} : ∀ (n : Nat) (g : am_G) (x3 : Int32) (w : am_G), Ah_end_L11 n g x3 = some w → am_E 5 mX0_end (40, [(2, .ref 85)], [], (sh0, w)) hE r → am_E 5 mX0_end (11, [(0, .ref 81), (2, .ref 85), (3, .int x3)], [], (sh0, g)) hE r := by
  intro n
  induction n with
  | zero => intro g x3 q h; cases h
  | succ n ih =>
    intro g x3 q h k1
    replace h : _ = _ := h
    unfold Ah_end_L11 at h
    refine fe_lin (pc' := 12) dX0_end_11 rfl rfl ?_
    refine fe_lan (pc' := 13) dX0_end_12 rfl rfl ?_
    refine fe_gf (pc' := 16) dX0_end_13 rfl fl_0_47 n_81 gf_81_0 ?_
    refine fe_gf (pc' := 19) dX0_end_16 rfl fl_0_71 n_3 gf_3_9 ?_
    refine fe_ic_ge (pc' := 22) (tgt := 40) dX0_end_19 rfl rfl (fun hc3 => ?_) (fun hc3 => ?_)
    · replace h := (if_pos hc3).symm.trans h
      refine fe_pick [1] rfl ?_
      cases h
      exact k1
    · replace h := (if_neg hc3).symm.trans h
      refine fe_lan (pc' := 23) dX0_end_22 rfl rfl ?_
      refine fe_lan (pc' := 24) dX0_end_23 rfl rfl ?_
      refine fe_gf (pc' := 27) dX0_end_24 rfl fl_0_47 n_81 gf_81_0 ?_
      refine fe_lin (pc' := 28) dX0_end_27 rfl rfl ?_
      obtain ⟨q4, hq5, h⟩ := am_bd h
      refine fe_iv (pc' := 31) (as := [.ref 3, .int x3]) (h1 := (sh0, g)) (r1 := some (.int (am_b q4))) (st' := [.int (am_b q4), .ref 85]) dX0_end_28 rfl cl_0_76 rfl rfl s_3 ms_61 ⟨n_3, rfl, by decide, Nat.le_of_ble_eq_true rfl, Nat.le_of_ble_eq_true rfl⟩ (am_le0 _ _ _) (am_up (by decide) (ev_Ta_rains hq5)) rfl ?_
      obtain ⟨q6, hq7, h⟩ := am_bd h
      refine fe_iv (pc' := 34) (as := [.ref 85, .int (am_b q4)]) (h1 := (sh0, q6)) (r1 := none) (st' := []) dX0_end_31 rfl cl_0_80 rfl rfl (sc_o sc_85) ms_40 ⟨(sc_ne sc_85), rfl, by decide, Nat.le_of_ble_eq_true rfl, Nat.le_of_ble_eq_true rfl⟩ (am_le0 _ _ _) (am_up (by decide) (ev_Ca_pass sc_85 hq7)) rfl ?_
      refine fe_inc (pc' := 37) (lo' := [(0, .ref 81), (2, .ref 85), (3, .int (x3 + 1))]) dX0_end_34 rfl ic_1 (Nat.le_of_ble_eq_true rfl) rfl rfl ?_
      refine fe_go (tgt := 11) dX0_end_37 rfl ?_
      exact ih q6 (x3 + 1) q h k1
set_option maxRecDepth 4000 in
theorem ev_Ah_end {g : am_G} {w : am_G} (h : Ah_end g  = some w) : am_Ev 6 2 [.ref 81, .ref 28] (sh0, g) (sh0, w) (some (.ref 85)) := by
  unfold Ah_end at h
  refine am_ev mX0_end (by rfl) (Nat.le_of_ble_eq_true rfl) [(0, .ref 81), (1, .ref 28)] rfl ?_
  refine fe_lan (pc' := 1) dX0_end_0 rfl rfl ?_
  refine fe_lan (pc' := 2) dX0_end_1 rfl rfl ?_
  obtain ⟨q1, hq2, h⟩ := am_bd h
  refine fe_iv (pc' := 5) (as := [.ref 81, .ref 28]) (h1 := (sh0, q1)) (r1 := some (.ref 85)) (st' := [.ref 85]) dX0_end_2 rfl cl_0_64 rfl rfl s_81 ms_1 ⟨n_81, rfl, by decide, Nat.le_of_ble_eq_true rfl, Nat.le_of_ble_eq_true rfl⟩ (am_le0 _ _ _) (am_up (by decide) (ev_Ah_setOut hq2)) rfl ?_
  refine fe_san (pc' := 6) (lo' := [(0, .ref 81), (1, .ref 28), (2, .ref 85)]) dX0_end_5 rfl (Nat.le_of_ble_eq_true rfl) rfl ?_
  refine fe_lan (pc' := 7) dX0_end_6 rfl rfl ?_
  refine fe_gf (pc' := 10) dX0_end_7 rfl fl_0_68 (sc_ne sc_85) (cg_1 sc_85) ?_
  refine fe_sin (pc' := 11) (lo' := [(0, .ref 81), (1, .ref 28), (2, .ref 85), (3, .int (q1.1 85 1))]) dX0_end_10 rfl (Nat.le_of_ble_eq_true rfl) rfl ?_
  obtain ⟨q8, hq9, h⟩ := am_bd h
  refine fe_pick [0, 2, 3] rfl ?_
  refine lp_Ah_end_L11 _ q1 (q1.1 85 1) q8 hq9 ?_
  refine fe_lan (pc' := 41) dX0_end_40 rfl rfl ?_
  cases h
  exact fe_ra (nm := "TentBearers$Camp") dX0_end_41 rfl (sc_ne sc_85)
-- Tb_rest: X8_rest
set_option maxRecDepth 4000 in
theorem ev_Tb_rest {g : am_G} {x1 : Int32} {w : (am_G × Int32)} (h : Tb_rest g x1 = some w) : am_Ev 7 91 [.ref 0, .int x1] (sh0, g) (sh0, w.1) (some (.int w.2)) := by
  unfold Tb_rest at h
  refine am_ev mX8_rest (by rfl) (Nat.le_of_ble_eq_true rfl) [(0, .ref 0), (1, .int x1)] rfl ?_
  refine fe_lin (pc' := 1) dX8_rest_0 rfl rfl ?_
  obtain ⟨q1, hq2, h⟩ := am_bd h
  refine fe_is (pc' := 4) (as := [.int x1]) (h1 := (sh0, g)) (r1 := some (.int (am_b q1))) (st' := [.int (am_b q1)]) dX8_rest_1 rfl cl_8_223 (Or.inl rfl) rfl rfl ⟨Nat.le_of_ble_eq_true rfl, Nat.le_of_ble_eq_true rfl⟩ (am_le0 _ _ _) (am_up (by decide) (ev_Tb_isEither hq2)) rfl ?_
  refine fe_bF (pc' := 7) (tgt := 9) dX8_rest_4 rfl rfl rfl (fun hc3 => ?_) (fun hc3 => ?_)
  · replace h := (if_pos hc3).symm.trans h
    refine fe_lan (pc' := 10) dX8_rest_9 rfl rfl ?_
    refine fe_gf (pc' := 13) dX8_rest_10 rfl fl_8_64 n_0 gf_0_8 ?_
    refine fe_lan (pc' := 14) dX8_rest_13 rfl rfl ?_
    refine fe_gf (pc' := 17) dX8_rest_14 rfl fl_8_45 n_0 gf_0_4 ?_
    obtain ⟨q4, hq5, h⟩ := am_bd h
    refine fe_iv (pc' := 20) (as := [.ref 81, .ref 28]) (h1 := (sh0, q4)) (r1 := some (.ref 85)) (st' := [.ref 85]) dX8_rest_17 rfl cl_8_226 rfl rfl s_81 ms_2 ⟨n_81, rfl, by decide, Nat.le_of_ble_eq_true rfl, Nat.le_of_ble_eq_true rfl⟩ (am_le0 _ _ _) (am_up (by decide) (ev_Ah_end hq5)) rfl ?_
    refine fe_san (pc' := 21) (lo' := [(0, .ref 0), (1, .int x1), (2, .ref 85)]) dX8_rest_20 rfl (Nat.le_of_ble_eq_true rfl) rfl ?_
    refine fe_lin (pc' := 22) dX8_rest_21 rfl rfl ?_
    refine fe_if_ne (pc' := 25) (tgt := 32) dX8_rest_22 rfl rfl (fun hc6 => ?_) (fun hc6 => ?_)
    · replace h := (if_pos hc6).symm.trans h
      refine fe_lan (pc' := 26) dX8_rest_25 rfl rfl ?_
      refine fe_gf (pc' := 29) dX8_rest_26 rfl fl_8_194 (sc_ne sc_85) (cg_2 sc_85) ?_
      refine fe_go (tgt := 36) dX8_rest_29 rfl ?_
      cases h
      exact fe_ri dX8_rest_36 rfl
    · replace h := (if_neg hc6).symm.trans h
      refine fe_lan (pc' := 33) dX8_rest_32 rfl rfl ?_
      refine fe_gf (pc' := 36) dX8_rest_33 rfl fl_8_213 (sc_ne sc_85) (cg_3 sc_85) ?_
      cases h
      exact fe_ri dX8_rest_36 rfl
  · replace h := (if_neg hc3).symm.trans h
    refine fe_ic (pc' := 8) dX8_rest_7 rfl ic_m1 ?_
    cases h
    exact fe_ri dX8_rest_8 rfl
-- Ah_findSpent: X0_findSpent
set_option maxRecDepth 4000 in
theorem lp_Ah_findSpent_L40 {hE : am_H} {r : Option Value} : ∀ (n : Nat) (g : am_G) (x3 : Int32) (x4 : Int32) (q : ((Unit) ⊕ (am_G × Bool))), Ah_findSpent_L40 n g x3 x4 = some q → (∀ w, q = .inl w → am_E 5 mX0_findSpent (87, [(0, .ref 81), (2, .ref 85), (3, .int x3)], [], (sh0, g)) hE r) → (∀ w, q = .inr w → hE = (sh0, w.1) ∧ r = some (.int (am_b w.2))) → am_E 5 mX0_findSpent (40, [(0, .ref 81), (2, .ref 85), (3, .int x3), (4, .int x4)], [], (sh0, g)) hE r := by
  intro n
  induction n with
  | zero => intro g x3 x4 q h; cases h
  | succ n ih =>
    intro g x3 x4 q h k1 kr
    replace h : _ = _ := h
    unfold Ah_findSpent_L40 at h
    refine fe_li (pc' := 42) dX0_findSpent_40 rfl rfl ?_
    refine fe_lan (pc' := 43) dX0_findSpent_42 rfl rfl ?_
    refine fe_gf (pc' := 46) dX0_findSpent_43 rfl fl_0_47 n_81 gf_81_0 ?_
    refine fe_gf (pc' := 49) dX0_findSpent_46 rfl fl_0_87 n_3 gf_3_0 ?_
    refine fe_ic_ge (pc' := 52) (tgt := 87) dX0_findSpent_49 rfl rfl (fun hc10 => ?_) (fun hc10 => ?_)
    · replace h := (if_pos hc10).symm.trans h
      refine fe_pick [0, 1, 2] rfl ?_
      cases h
      exact k1 _ rfl
    · replace h := (if_neg hc10).symm.trans h
      refine fe_lan (pc' := 53) dX0_findSpent_52 rfl rfl ?_
      refine fe_li (pc' := 55) dX0_findSpent_53 rfl rfl ?_
      refine fe_lan (pc' := 56) dX0_findSpent_55 rfl rfl ?_
      refine fe_li (pc' := 58) dX0_findSpent_56 rfl rfl ?_
      obtain ⟨q11, hq12, h⟩ := am_bd h
      refine fe_iv (pc' := 61) (as := [.ref 85, .int x4]) (h1 := (sh0, g)) (r1 := some (.int q11)) (st' := [.int q11, .int x4, .ref 85]) dX0_findSpent_58 rfl cl_0_90 rfl rfl (sc_o sc_85) ms_31 ⟨(sc_ne sc_85), rfl, by decide, Nat.le_of_ble_eq_true rfl, Nat.le_of_ble_eq_true rfl⟩ (am_le0 _ _ _) (am_up (by decide) (ev_Ca_load sc_85 hq12)) rfl ?_
      obtain ⟨q13, hq14, h⟩ := am_bd h
      refine fe_iv (pc' := 64) (as := [.ref 85, .int x4, .int q11]) (h1 := (sh0, g)) (r1 := some (.int q13)) (st' := [.int q13]) dX0_findSpent_61 rfl cl_0_94 rfl rfl (sc_o sc_85) ms_35 ⟨(sc_ne sc_85), rfl, by decide, Nat.le_of_ble_eq_true rfl, Nat.le_of_ble_eq_true rfl⟩ (am_le0 _ _ _) (am_up (by decide) (ev_Ca_pace sc_85 hq14)) rfl ?_
      refine fe_ic (pc' := 65) dX0_findSpent_64 rfl ic_1 ?_
      refine fe_ic_ne (pc' := 68) (tgt := 81) dX0_findSpent_65 rfl rfl (fun hc15 => ?_) (fun hc15 => ?_)
      · replace h := (if_pos hc15).symm.trans h
        refine fe_lan (pc' := 69) dX0_findSpent_68 rfl rfl ?_
        refine fe_li (pc' := 71) dX0_findSpent_69 rfl rfl ?_
        refine fe_pi (pc' := 74) dX0_findSpent_71 rfl fl_0_17 n_81 s_81 rfl ⟨rfl, Or.inl rfl⟩ ?_
        refine fe_lan (pc' := 75) dX0_findSpent_74 rfl rfl ?_
        refine fe_lin (pc' := 76) dX0_findSpent_75 rfl rfl ?_
        refine fe_pi (pc' := 79) dX0_findSpent_76 rfl fl_0_21 n_81 s_81 rfl ⟨rfl, Or.inl rfl⟩ ?_
        refine fe_ic (pc' := 80) dX0_findSpent_79 rfl ic_1 ?_
        cases h
        obtain ⟨e1, e2⟩ := kr _ rfl
        subst e1; subst e2
        exact fe_rz _ dX0_findSpent_80 rfl rfl
      · replace h := (if_neg hc15).symm.trans h
        refine fe_inc (pc' := 84) (lo' := [(0, .ref 81), (2, .ref 85), (3, .int x3), (4, .int (x4 + 1))]) dX0_findSpent_81 rfl ic_1 (Nat.le_of_ble_eq_true rfl) rfl rfl ?_
        refine fe_go (tgt := 40) dX0_findSpent_84 rfl ?_
        exact ih g x3 (x4 + 1) q h k1 kr
set_option maxRecDepth 4000 in
theorem lp_Ah_findSpent_L11 {hE : am_H} {r : Option Value} : ∀ (n : Nat) (g : am_G) (x3 : Int32) (q : ((am_G) ⊕ (am_G × Bool))), Ah_findSpent_L11 n g x3 = some q → (∀ w, q = .inl w → am_E 5 mX0_findSpent (105, [], [], (sh0, w)) hE r) → (∀ w, q = .inr w → hE = (sh0, w.1) ∧ r = some (.int (am_b w.2))) → am_E 5 mX0_findSpent (11, [(0, .ref 81), (2, .ref 85), (3, .int x3)], [], (sh0, g)) hE r := by
  intro n
  induction n with
  | zero => intro g x3 q h; cases h
  | succ n ih =>
    intro g x3 q h k1 kr
    replace h : _ = _ := h
    unfold Ah_findSpent_L11 at h
    refine fe_lin (pc' := 12) dX0_findSpent_11 rfl rfl ?_
    refine fe_lan (pc' := 13) dX0_findSpent_12 rfl rfl ?_
    refine fe_gf (pc' := 16) dX0_findSpent_13 rfl fl_0_47 n_81 gf_81_0 ?_
    refine fe_gf (pc' := 19) dX0_findSpent_16 rfl fl_0_71 n_3 gf_3_9 ?_
    refine fe_ic_ge (pc' := 22) (tgt := 105) dX0_findSpent_19 rfl rfl (fun hc3 => ?_) (fun hc3 => ?_)
    · replace h := (if_pos hc3).symm.trans h
      refine fe_pick [] rfl ?_
      cases h
      exact k1 _ rfl
    · replace h := (if_neg hc3).symm.trans h
      refine fe_lan (pc' := 23) dX0_findSpent_22 rfl rfl ?_
      refine fe_gf (pc' := 26) dX0_findSpent_23 rfl fl_0_47 n_81 gf_81_0 ?_
      refine fe_lin (pc' := 27) dX0_findSpent_26 rfl rfl ?_
      obtain ⟨q4, hq5, h⟩ := am_bd h
      refine fe_iv (pc' := 30) (as := [.ref 3, .int x3]) (h1 := (sh0, g)) (r1 := some (.int (am_b q4))) (st' := [.int (am_b q4)]) dX0_findSpent_27 rfl cl_0_76 rfl rfl s_3 ms_61 ⟨n_3, rfl, by decide, Nat.le_of_ble_eq_true rfl, Nat.le_of_ble_eq_true rfl⟩ (am_le0 _ _ _) (am_up (by decide) (ev_Ta_rains hq5)) rfl ?_
      obtain ⟨q9, hq24, h⟩ := am_bd h
      have K : am_E 5 mX0_findSpent (37, [(0, .ref 81), (2, .ref 85), (3, .int x3)], [], (sh0, q9)) hE r := by
        refine fe_ic (pc' := 38) dX0_findSpent_37 rfl ic_0 ?_
        refine fe_si (pc' := 40) (lo' := [(0, .ref 81), (2, .ref 85), (3, .int x3), (4, .int 0)]) dX0_findSpent_38 rfl (Nat.le_of_ble_eq_true rfl) rfl ?_
        obtain ⟨q16, hq25, h⟩ := am_bd h
        refine lp_Ah_findSpent_L40 _ q9 x3 0 q16 hq25 (fun w17 e => ?_) (fun w e => ?_)
        · subst e
          replace h : _ = _ := h
          refine fe_lan (pc' := 88) dX0_findSpent_87 rfl rfl ?_
          refine fe_lan (pc' := 89) dX0_findSpent_88 rfl rfl ?_
          refine fe_gf (pc' := 92) dX0_findSpent_89 rfl fl_0_47 n_81 gf_81_0 ?_
          refine fe_lin (pc' := 93) dX0_findSpent_92 rfl rfl ?_
          obtain ⟨q18, hq19, h⟩ := am_bd h
          refine fe_iv (pc' := 96) (as := [.ref 3, .int x3]) (h1 := (sh0, q9)) (r1 := some (.int (am_b q18))) (st' := [.int (am_b q18), .ref 85]) dX0_findSpent_93 rfl cl_0_76 rfl rfl s_3 ms_61 ⟨n_3, rfl, by decide, Nat.le_of_ble_eq_true rfl, Nat.le_of_ble_eq_true rfl⟩ (am_le0 _ _ _) (am_up (by decide) (ev_Ta_rains hq19)) rfl ?_
          obtain ⟨q20, hq21, h⟩ := am_bd h
          refine fe_iv (pc' := 99) (as := [.ref 85, .int (am_b q18)]) (h1 := (sh0, q20)) (r1 := none) (st' := []) dX0_findSpent_96 rfl cl_0_80 rfl rfl (sc_o sc_85) ms_40 ⟨(sc_ne sc_85), rfl, by decide, Nat.le_of_ble_eq_true rfl, Nat.le_of_ble_eq_true rfl⟩ (am_le0 _ _ _) (am_up (by decide) (ev_Ca_pass sc_85 hq21)) rfl ?_
          refine fe_inc (pc' := 102) (lo' := [(0, .ref 81), (2, .ref 85), (3, .int (x3 + 1))]) dX0_findSpent_99 rfl ic_1 (Nat.le_of_ble_eq_true rfl) rfl rfl ?_
          refine fe_go (tgt := 11) dX0_findSpent_102 rfl ?_
          exact ih q20 (x3 + 1) q h k1 kr
        · subst e
          cases h
          exact kr _ rfl
      replace h := hq24
      refine fe_bT (pc' := 33) (tgt := 37) dX0_findSpent_30 rfl rfl rfl (fun hc6 => ?_) (fun hc6 => ?_)
      · replace h := (if_pos hc6).symm.trans h
        refine fe_lan (pc' := 34) dX0_findSpent_33 rfl rfl ?_
        obtain ⟨q7, hq8, h⟩ := am_bd h
        refine fe_iv (pc' := 37) (as := [.ref 85]) (h1 := (sh0, q7)) (r1 := none) (st' := []) dX0_findSpent_34 rfl cl_0_84 rfl rfl (sc_o sc_85) ms_42 ⟨(sc_ne sc_85), rfl, by decide, Nat.le_of_ble_eq_true rfl, Nat.le_of_ble_eq_true rfl⟩ (am_le0 _ _ _) (am_up (by decide) (ev_Ca_soak sc_85 hq8)) rfl ?_
        cases h
        exact K
      · replace h := (if_neg hc6).symm.trans h
        cases h
        exact K
set_option maxRecDepth 4000 in
theorem ev_Ah_findSpent {g : am_G} {w : (am_G × Bool)} (h : Ah_findSpent g  = some w) : am_Ev 6 3 [.ref 81, .ref 28] (sh0, g) (sh0, w.1) (some (.int (am_b w.2))) := by
  unfold Ah_findSpent at h
  refine am_ev mX0_findSpent (by rfl) (Nat.le_of_ble_eq_true rfl) [(0, .ref 81), (1, .ref 28)] rfl ?_
  refine fe_lan (pc' := 1) dX0_findSpent_0 rfl rfl ?_
  refine fe_lan (pc' := 2) dX0_findSpent_1 rfl rfl ?_
  obtain ⟨q1, hq2, h⟩ := am_bd h
  refine fe_iv (pc' := 5) (as := [.ref 81, .ref 28]) (h1 := (sh0, q1)) (r1 := some (.ref 85)) (st' := [.ref 85]) dX0_findSpent_2 rfl cl_0_64 rfl rfl s_81 ms_1 ⟨n_81, rfl, by decide, Nat.le_of_ble_eq_true rfl, Nat.le_of_ble_eq_true rfl⟩ (am_le0 _ _ _) (am_up (by decide) (ev_Ah_setOut hq2)) rfl ?_
  refine fe_san (pc' := 6) (lo' := [(0, .ref 81), (1, .ref 28), (2, .ref 85)]) dX0_findSpent_5 rfl (Nat.le_of_ble_eq_true rfl) rfl ?_
  refine fe_lan (pc' := 7) dX0_findSpent_6 rfl rfl ?_
  refine fe_gf (pc' := 10) dX0_findSpent_7 rfl fl_0_68 (sc_ne sc_85) (cg_1 sc_85) ?_
  refine fe_sin (pc' := 11) (lo' := [(0, .ref 81), (1, .ref 28), (2, .ref 85), (3, .int (q1.1 85 1))]) dX0_findSpent_10 rfl (Nat.le_of_ble_eq_true rfl) rfl ?_
  obtain ⟨q22, hq26, h⟩ := am_bd h
  refine fe_pick [0, 2, 3] rfl ?_
  refine lp_Ah_findSpent_L11 _ q1 (q1.1 85 1) q22 hq26 (fun w23 e => ?_) (fun w e => ?_)
  · subst e
    replace h : _ = _ := h
    refine fe_ic (pc' := 106) dX0_findSpent_105 rfl ic_0 ?_
    cases h
    exact fe_rz _ dX0_findSpent_106 rfl rfl
  · subst e
    cases h
    exact ⟨rfl, rfl⟩
-- Tb_spent: X8_spent
set_option maxRecDepth 4000 in
theorem ev_Tb_spent {g : am_G} {x1 : Int32} {w : (am_G × Int32)} (h : Tb_spent g x1 = some w) : am_Ev 7 92 [.ref 0, .int x1] (sh0, g) (sh0, w.1) (some (.int w.2)) := by
  unfold Tb_spent at h
  refine am_ev mX8_spent (by rfl) (Nat.le_of_ble_eq_true rfl) [(0, .ref 0), (1, .int x1)] rfl ?_
  refine fe_lin (pc' := 1) dX8_spent_0 rfl rfl ?_
  obtain ⟨q1, hq2, h⟩ := am_bd h
  refine fe_is (pc' := 4) (as := [.int x1]) (h1 := (sh0, g)) (r1 := some (.int (am_b q1))) (st' := [.int (am_b q1)]) dX8_spent_1 rfl cl_8_223 (Or.inl rfl) rfl rfl ⟨Nat.le_of_ble_eq_true rfl, Nat.le_of_ble_eq_true rfl⟩ (am_le0 _ _ _) (am_up (by decide) (ev_Tb_isEither hq2)) rfl ?_
  refine fe_bF (pc' := 7) (tgt := 9) dX8_spent_4 rfl rfl rfl (fun hc3 => ?_) (fun hc3 => ?_)
  · replace h := (if_pos hc3).symm.trans h
    refine fe_lan (pc' := 10) dX8_spent_9 rfl rfl ?_
    refine fe_gf (pc' := 13) dX8_spent_10 rfl fl_8_64 n_0 gf_0_8 ?_
    refine fe_lan (pc' := 14) dX8_spent_13 rfl rfl ?_
    refine fe_gf (pc' := 17) dX8_spent_14 rfl fl_8_45 n_0 gf_0_4 ?_
    obtain ⟨q4, hq5, h⟩ := am_bd h
    refine fe_iv (pc' := 20) (as := [.ref 81, .ref 28]) (h1 := (sh0, q4.1)) (r1 := some (.int (am_b q4.2))) (st' := [.int (am_b q4.2)]) dX8_spent_17 rfl cl_8_230 rfl rfl s_81 ms_3 ⟨n_81, rfl, by decide, Nat.le_of_ble_eq_true rfl, Nat.le_of_ble_eq_true rfl⟩ (am_le0 _ _ _) (am_up (by decide) (ev_Ah_findSpent hq5)) rfl ?_
    refine fe_bF (pc' := 23) (tgt := 26) dX8_spent_20 rfl rfl rfl (fun hc6 => ?_) (fun hc6 => ?_)
    · replace h := (if_pos hc6).symm.trans h
      refine fe_lin (pc' := 27) dX8_spent_26 rfl rfl ?_
      refine fe_if_ne (pc' := 30) (tgt := 40) dX8_spent_27 rfl rfl (fun hc7 => ?_) (fun hc7 => ?_)
      · replace h := (if_pos hc7).symm.trans h
        refine fe_lan (pc' := 31) dX8_spent_30 rfl rfl ?_
        refine fe_gf (pc' := 34) dX8_spent_31 rfl fl_8_64 n_0 gf_0_8 ?_
        refine fe_gf (pc' := 37) dX8_spent_34 rfl fl_8_234 n_81 gf_81_2 ?_
        refine fe_go (tgt := 47) dX8_spent_37 rfl ?_
        cases h
        exact fe_ri dX8_spent_47 rfl
      · replace h := (if_neg hc7).symm.trans h
        refine fe_lan (pc' := 41) dX8_spent_40 rfl rfl ?_
        refine fe_gf (pc' := 44) dX8_spent_41 rfl fl_8_64 n_0 gf_0_8 ?_
        refine fe_gf (pc' := 47) dX8_spent_44 rfl fl_8_237 n_81 gf_81_3 ?_
        cases h
        exact fe_ri dX8_spent_47 rfl
    · replace h := (if_neg hc6).symm.trans h
      refine fe_bp (pc' := 25) dX8_spent_23 rfl ib_m9 ?_
      cases h
      exact fe_ri dX8_spent_25 rfl
  · replace h := (if_neg hc3).symm.trans h
    refine fe_ic (pc' := 8) dX8_spent_7 rfl ic_m1 ?_
    cases h
    exact fe_ri dX8_spent_8 rfl
-- To_wake: X7_wake
set_option maxRecDepth 4000 in
theorem ev_To_wake {g : am_G} {w : (am_G × Bool)} (h : To_wake g  = some w) : am_Ev 3 71 [.ref 74, .ref 28] (sh0, g) (sh0, w.1) (some (.int (am_b w.2))) := by
  unfold To_wake at h
  refine am_ev mX7_wake (by rfl) (Nat.le_of_ble_eq_true rfl) [(0, .ref 74), (1, .ref 28)] rfl ?_
  refine fe_lan (pc' := 1) dX7_wake_0 rfl rfl ?_
  obtain ⟨q1, hq2, h⟩ := am_bd h
  refine fe_iv (pc' := 4) (as := [.ref 28]) (h1 := (sh0, g)) (r1 := some (.int (am_b q1))) (st' := [.int (am_b q1)]) dX7_wake_1 rfl cl_7_44 rfl rfl (sc_o sc_28) ms_29 ⟨(sc_ne sc_28), rfl, by decide, Nat.le_of_ble_eq_true rfl, Nat.le_of_ble_eq_true rfl⟩ (am_le0 _ _ _) (am_up (by decide) (ev_Ca_hasStage sc_28 hq2)) rfl ?_
  refine fe_bF (pc' := 7) (tgt := 9) dX7_wake_4 rfl rfl rfl (fun hc3 => ?_) (fun hc3 => ?_)
  · replace h := (if_pos hc3).symm.trans h
    refine fe_lan (pc' := 10) dX7_wake_9 rfl rfl ?_
    refine fe_gf (pc' := 13) dX7_wake_10 rfl fl_7_40 n_74 gf_74_1 ?_
    refine fe_lan (pc' := 14) dX7_wake_13 rfl rfl ?_
    obtain ⟨q4, hq5, h⟩ := am_bd h
    refine fe_iv (pc' := 17) (as := [.ref 77, .ref 28]) (h1 := (sh0, q4)) (r1 := none) (st' := []) dX7_wake_14 rfl cl_7_48 rfl rfl (sc_o sc_77) ms_24 ⟨(sc_ne sc_77), rfl, by decide, Nat.le_of_ble_eq_true rfl, Nat.le_of_ble_eq_true rfl⟩ (am_le0 _ _ _) (am_up (by decide) (ev_Ca_copyFrom sc_77 sc_28 hq5)) rfl ?_
    refine fe_lan (pc' := 18) dX7_wake_17 rfl rfl ?_
    refine fe_gf (pc' := 21) dX7_wake_18 rfl fl_7_31 n_74 gf_74_0 ?_
    refine fe_lan (pc' := 22) dX7_wake_21 rfl rfl ?_
    refine fe_gf (pc' := 25) dX7_wake_22 rfl fl_7_40 n_74 gf_74_1 ?_
    refine fe_gf (pc' := 28) dX7_wake_25 rfl fl_7_52 (sc_ne sc_77) (cg_1 sc_77) ?_
    obtain ⟨q6, hq7, h⟩ := am_bd h
    refine fe_iv (pc' := 31) (as := [.ref 3, .int (q4.1 77 1)]) (h1 := (sh0, q4)) (r1 := some (.int (am_b q6))) (st' := [.int (am_b q6)]) dX7_wake_28 rfl cl_7_55 rfl rfl s_3 ms_61 ⟨n_3, rfl, by decide, Nat.le_of_ble_eq_true rfl, Nat.le_of_ble_eq_true rfl⟩ (am_le0 _ _ _) (am_up (by decide) (ev_Ta_rains hq7)) rfl ?_
    obtain ⟨q11, hq13, h⟩ := am_bd h
    have K : am_E 2 mX7_wake (41, [(0, .ref 74)], [], (sh0, q11)) (sh0, w.1) (some (.int (am_b w.2))) := by
      refine fe_lan (pc' := 42) dX7_wake_41 rfl rfl ?_
      refine fe_lan (pc' := 43) dX7_wake_42 rfl rfl ?_
      refine fe_gf (pc' := 46) dX7_wake_43 rfl fl_7_31 n_74 gf_74_0 ?_
      refine fe_gf (pc' := 49) dX7_wake_46 rfl fl_7_64 n_3 gf_3_10 ?_
      refine fe_lan (pc' := 50) dX7_wake_49 rfl rfl ?_
      refine fe_gf (pc' := 53) dX7_wake_50 rfl fl_7_40 n_74 gf_74_1 ?_
      refine fe_gf (pc' := 56) dX7_wake_53 rfl fl_7_52 (sc_ne sc_77) (cg_1 sc_77) ?_
      obtain ⟨hi12, h⟩ := am_gd rfl h
      refine fe_al (pc' := 57) (j := (q11.1 77 1).toNatClampNeg) dX7_wake_56 rfl n_11 s_11 hi12 rfl ?_
      refine fe_pi (pc' := 60) dX7_wake_57 rfl fl_7_9 n_74 s_74 rfl ⟨rfl, Or.inl rfl⟩ ?_
      refine fe_ic (pc' := 61) dX7_wake_60 rfl ic_1 ?_
      cases h
      exact fe_rz _ dX7_wake_61 rfl rfl
    replace h := hq13
    refine fe_bT (pc' := 34) (tgt := 41) dX7_wake_31 rfl rfl rfl (fun hc8 => ?_) (fun hc8 => ?_)
    · replace h := (if_pos hc8).symm.trans h
      refine fe_lan (pc' := 35) dX7_wake_34 rfl rfl ?_
      refine fe_gf (pc' := 38) dX7_wake_35 rfl fl_7_40 n_74 gf_74_1 ?_
      obtain ⟨q9, hq10, h⟩ := am_bd h
      refine fe_iv (pc' := 41) (as := [.ref 77]) (h1 := (sh0, q9)) (r1 := none) (st' := []) dX7_wake_38 rfl cl_7_61 rfl rfl (sc_o sc_77) ms_42 ⟨(sc_ne sc_77), rfl, by decide, Nat.le_of_ble_eq_true rfl, Nat.le_of_ble_eq_true rfl⟩ (am_le0 _ _ _) (am_up (by decide) (ev_Ca_soak sc_77 hq10)) rfl ?_
      refine fe_pick [0] rfl ?_
      cases h
      exact K
    · replace h := (if_neg hc8).symm.trans h
      refine fe_pick [0] rfl ?_
      cases h
      exact K
  · replace h := (if_neg hc3).symm.trans h
    refine fe_ic (pc' := 8) dX7_wake_7 rfl ic_0 ?_
    cases h
    exact fe_rz _ dX7_wake_8 rfl rfl
-- To_judge: X7_judge
set_option maxRecDepth 4000 in
theorem lp_To_judge_L8 {hE : am_H} {r : Option Value} : ∀ (n : Nat) (g : am_G) (x1 : Int32) (x2 : Int32) (x3 : Int32) (x4 : Int32) (w : Int32 × Int32), To_judge_L8 n g x1 x2 x3 x4 = some w → am_E 0 mX7_judge (50, [(0, .ref 74), (1, .int x1), (2, .int w.1), (3, .int w.2)], [], (sh0, g)) hE r → am_E 0 mX7_judge (8, [(0, .ref 74), (1, .int x1), (2, .int x2), (3, .int x3), (4, .int x4)], [], (sh0, g)) hE r := by
  intro n
  induction n with
  | zero => intro g x1 x2 x3 x4 q h; cases h
  | succ n ih =>
    intro g x1 x2 x3 x4 q h k1
    replace h : _ = _ := h
    unfold To_judge_L8 at h
    refine fe_li (pc' := 10) dX7_judge_8 rfl rfl ?_
    refine fe_lan (pc' := 11) dX7_judge_10 rfl rfl ?_
    refine fe_gf (pc' := 14) dX7_judge_11 rfl fl_7_31 n_74 gf_74_0 ?_
    refine fe_gf (pc' := 17) dX7_judge_14 rfl fl_7_81 n_3 gf_3_0 ?_
    refine fe_ic_ge (pc' := 20) (tgt := 50) dX7_judge_17 rfl rfl (fun hc1 => ?_) (fun hc1 => ?_)
    · replace h := (if_pos hc1).symm.trans h
      refine fe_pick [0, 1, 2, 3] rfl ?_
      cases h
      exact k1
    · replace h := (if_neg hc1).symm.trans h
      refine fe_lin (pc' := 21) dX7_judge_20 rfl rfl ?_
      refine fe_lan (pc' := 22) dX7_judge_21 rfl rfl ?_
      refine fe_gf (pc' := 25) dX7_judge_22 rfl fl_7_25 n_74 gf_74_6 ?_
      refine fe_li (pc' := 27) dX7_judge_25 rfl rfl ?_
      obtain ⟨hi2, h⟩ := am_gd rfl h
      refine fe_al (pc' := 28) (j := x4.toNatClampNeg) dX7_judge_27 rfl n_76 s_76 hi2 rfl ?_
      refine fe_mx (pc' := 31) dX7_judge_28 rfl cl_7_88 (Nat.le_of_ble_eq_true rfl) ?_
      refine fe_sin (pc' := 32) (lo' := [(0, .ref 74), (1, .int x1), (2, .int (am_mx x2 (g.1 76 x4.toNatClampNeg))), (3, .int x3), (4, .int x4)]) dX7_judge_31 rfl (Nat.le_of_ble_eq_true rfl) rfl ?_
      refine fe_lin (pc' := 33) dX7_judge_32 rfl rfl ?_
      refine fe_lan (pc' := 34) dX7_judge_33 rfl rfl ?_
      refine fe_gf (pc' := 37) dX7_judge_34 rfl fl_7_25 n_74 gf_74_6 ?_
      refine fe_li (pc' := 39) dX7_judge_37 rfl rfl ?_
      refine fe_al (pc' := 40) (j := x4.toNatClampNeg) dX7_judge_39 rfl n_76 s_76 hi2 rfl ?_
      refine fe_mn (pc' := 43) dX7_judge_40 rfl cl_7_109 (Nat.le_of_ble_eq_true rfl) ?_
      refine fe_sin (pc' := 44) (lo' := [(0, .ref 74), (1, .int x1), (2, .int (am_mx x2 (g.1 76 x4.toNatClampNeg))), (3, .int (am_mn x3 (g.1 76 x4.toNatClampNeg))), (4, .int x4)]) dX7_judge_43 rfl (Nat.le_of_ble_eq_true rfl) rfl ?_
      refine fe_inc (pc' := 47) (lo' := [(0, .ref 74), (1, .int x1), (2, .int (am_mx x2 (g.1 76 x4.toNatClampNeg))), (3, .int (am_mn x3 (g.1 76 x4.toNatClampNeg))), (4, .int (x4 + 1))]) dX7_judge_44 rfl ic_1 (Nat.le_of_ble_eq_true rfl) rfl rfl ?_
      refine fe_go (tgt := 8) dX7_judge_47 rfl ?_
      exact ih g x1 (am_mx x2 (g.1 76 x4.toNatClampNeg)) (am_mn x3 (g.1 76 x4.toNatClampNeg)) (x4 + 1) q h k1
set_option maxRecDepth 4000 in
theorem ev_To_judge {g : am_G} {x1 : Int32} {w : am_G} (h : To_judge g x1 = some w) : am_Ev 1 75 [.ref 74, .int x1] (sh0, g) (sh0, w) (none) := by
  unfold To_judge at h
  refine am_ev mX7_judge (by rfl) (Nat.le_of_ble_eq_true rfl) [(0, .ref 74), (1, .int x1)] rfl ?_
  refine fe_ic (pc' := 1) dX7_judge_0 rfl ic_0 ?_
  refine fe_sin (pc' := 2) (lo' := [(0, .ref 74), (1, .int x1), (2, .int 0)]) dX7_judge_1 rfl (Nat.le_of_ble_eq_true rfl) rfl ?_
  refine fe_ldc (pc' := 4) dX7_judge_2 rfl kc_7_70 ?_
  refine fe_sin (pc' := 5) (lo' := [(0, .ref 74), (1, .int x1), (2, .int 0), (3, .int 1000000000)]) dX7_judge_4 rfl (Nat.le_of_ble_eq_true rfl) rfl ?_
  refine fe_ic (pc' := 6) dX7_judge_5 rfl ic_0 ?_
  refine fe_si (pc' := 8) (lo' := [(0, .ref 74), (1, .int x1), (2, .int 0), (3, .int 1000000000), (4, .int 0)]) dX7_judge_6 rfl (Nat.le_of_ble_eq_true rfl) rfl ?_
  obtain ⟨q3, hq7, h⟩ := am_bd h
  refine lp_To_judge_L8 _ g x1 0 1000000000 0 q3 hq7 ?_
  refine fe_lin (pc' := 51) dX7_judge_50 rfl rfl ?_
  refine fe_lan (pc' := 52) dX7_judge_51 rfl rfl ?_
  refine fe_gf (pc' := 55) dX7_judge_52 rfl fl_7_15 n_74 gf_74_3 ?_
  refine fe_ic_lt (pc' := 58) (tgt := 76) dX7_judge_55 rfl rfl (fun hc4 => ?_) (fun hc4 => ?_)
  · replace h := (if_pos hc4).symm.trans h
    refine fe_lan (pc' := 77) dX7_judge_76 rfl rfl ?_
    refine fe_lin (pc' := 78) dX7_judge_77 rfl rfl ?_
    refine fe_pi (pc' := 81) dX7_judge_78 rfl fl_7_15 n_74 s_74 rfl ⟨rfl, Or.inl rfl⟩ ?_
    refine fe_lan (pc' := 82) dX7_judge_81 rfl rfl ?_
    refine fe_lin (pc' := 83) dX7_judge_82 rfl rfl ?_
    refine fe_lin (pc' := 84) dX7_judge_83 rfl rfl ?_
    refine fe_isub (pc' := 85) dX7_judge_84 rfl ?_
    refine fe_pi (pc' := 88) dX7_judge_85 rfl fl_7_18 n_74 s_74 rfl ⟨rfl, Or.inl rfl⟩ ?_
    refine fe_lan (pc' := 89) dX7_judge_88 rfl rfl ?_
    refine fe_gf (pc' := 92) dX7_judge_89 rfl fl_7_40 n_74 gf_74_1 ?_
    refine fe_gf (pc' := 95) dX7_judge_92 rfl fl_7_102 (sc_ne sc_77) (cg_6 sc_77) ?_
    refine fe_ic (pc' := 96) dX7_judge_95 rfl ic_0 ?_
    refine fe_lan (pc' := 97) dX7_judge_96 rfl rfl ?_
    refine fe_gf (pc' := 100) dX7_judge_97 rfl fl_7_21 n_74 gf_74_5 ?_
    refine fe_ic (pc' := 101) dX7_judge_100 rfl ic_0 ?_
    refine fe_bp (pc' := 103) dX7_judge_101 rfl ib_7 ?_
    refine fe_ac (pc' := 106) dX7_judge_103 rfl cl_7_112 (sc_n1 sc_77) n_75 (sc_1 sc_77) s_75 ⟨by decide, by decide, by decide, by decide, by decide, Nat.le_of_ble_eq_true rfl⟩ ?_
    simp only [tc_0, tc_7]
    cases h
    exact fe_rv dX7_judge_106 rfl
  · replace h := (if_neg hc4).symm.trans h
    refine fe_lin (pc' := 59) dX7_judge_58 rfl rfl ?_
    refine fe_lan (pc' := 60) dX7_judge_59 rfl rfl ?_
    refine fe_gf (pc' := 63) dX7_judge_60 rfl fl_7_15 n_74 gf_74_3 ?_
    refine fe_ic_ne (pc' := 66) (tgt := 106) dX7_judge_63 rfl rfl (fun hc5 => ?_) (fun hc5 => ?_)
    · replace h := (if_pos hc5).symm.trans h
      refine fe_lin (pc' := 67) dX7_judge_66 rfl rfl ?_
      refine fe_lin (pc' := 68) dX7_judge_67 rfl rfl ?_
      refine fe_isub (pc' := 69) dX7_judge_68 rfl ?_
      refine fe_lan (pc' := 70) dX7_judge_69 rfl rfl ?_
      refine fe_gf (pc' := 73) dX7_judge_70 rfl fl_7_18 n_74 gf_74_4 ?_
      refine fe_ic_ge (pc' := 76) (tgt := 106) dX7_judge_73 rfl rfl (fun hc6 => ?_) (fun hc6 => ?_)
      · replace h := (if_pos hc6).symm.trans h
        cases h
        exact fe_rv dX7_judge_106 rfl
      · replace h := (if_neg hc6).symm.trans h
        refine fe_lan (pc' := 77) dX7_judge_76 rfl rfl ?_
        refine fe_lin (pc' := 78) dX7_judge_77 rfl rfl ?_
        refine fe_pi (pc' := 81) dX7_judge_78 rfl fl_7_15 n_74 s_74 rfl ⟨rfl, Or.inl rfl⟩ ?_
        refine fe_lan (pc' := 82) dX7_judge_81 rfl rfl ?_
        refine fe_lin (pc' := 83) dX7_judge_82 rfl rfl ?_
        refine fe_lin (pc' := 84) dX7_judge_83 rfl rfl ?_
        refine fe_isub (pc' := 85) dX7_judge_84 rfl ?_
        refine fe_pi (pc' := 88) dX7_judge_85 rfl fl_7_18 n_74 s_74 rfl ⟨rfl, Or.inl rfl⟩ ?_
        refine fe_lan (pc' := 89) dX7_judge_88 rfl rfl ?_
        refine fe_gf (pc' := 92) dX7_judge_89 rfl fl_7_40 n_74 gf_74_1 ?_
        refine fe_gf (pc' := 95) dX7_judge_92 rfl fl_7_102 (sc_ne sc_77) (cg_6 sc_77) ?_
        refine fe_ic (pc' := 96) dX7_judge_95 rfl ic_0 ?_
        refine fe_lan (pc' := 97) dX7_judge_96 rfl rfl ?_
        refine fe_gf (pc' := 100) dX7_judge_97 rfl fl_7_21 n_74 gf_74_5 ?_
        refine fe_ic (pc' := 101) dX7_judge_100 rfl ic_0 ?_
        refine fe_bp (pc' := 103) dX7_judge_101 rfl ib_7 ?_
        refine fe_ac (pc' := 106) dX7_judge_103 rfl cl_7_112 (sc_n1 sc_77) n_75 (sc_1 sc_77) s_75 ⟨by decide, by decide, by decide, by decide, by decide, Nat.le_of_ble_eq_true rfl⟩ ?_
        simp only [tc_0, tc_7]
        cases h
        exact fe_rv dX7_judge_106 rfl
    · replace h := (if_neg hc5).symm.trans h
      cases h
      exact fe_rv dX7_judge_106 rfl
-- To_canBeBetter: X7_canBeBetter
set_option maxRecDepth 4000 in
theorem ev_To_canBeBetter {g : am_G} {x1 x2 : Int32} {w : Bool} (h : To_canBeBetter g x1 x2 = some w) : am_Ev 1 74 [.ref 74, .int x1, .int x2] (sh0, g) (sh0, g) (some (.int (am_b w))) := by
  unfold To_canBeBetter at h
  refine am_ev mX7_canBeBetter (by rfl) (Nat.le_of_ble_eq_true rfl) [(0, .ref 74), (1, .int x1), (2, .int x2)] rfl ?_
  refine fe_lin (pc' := 1) dX7_canBeBetter_0 rfl rfl ?_
  refine fe_lan (pc' := 2) dX7_canBeBetter_1 rfl rfl ?_
  refine fe_gf (pc' := 5) dX7_canBeBetter_2 rfl fl_7_15 n_74 gf_74_3 ?_
  refine fe_ic_lt (pc' := 8) (tgt := 47) dX7_canBeBetter_5 rfl rfl (fun hc1 => ?_) (fun hc1 => ?_)
  · replace h := (if_pos hc1).symm.trans h
    refine fe_ic (pc' := 48) dX7_canBeBetter_47 rfl ic_1 ?_
    refine fe_go (tgt := 52) dX7_canBeBetter_48 rfl ?_
    cases h
    exact fe_rz _ dX7_canBeBetter_52 rfl rfl
  · replace h := (if_neg hc1).symm.trans h
    refine fe_lin (pc' := 9) dX7_canBeBetter_8 rfl rfl ?_
    refine fe_lan (pc' := 10) dX7_canBeBetter_9 rfl rfl ?_
    refine fe_gf (pc' := 13) dX7_canBeBetter_10 rfl fl_7_15 n_74 gf_74_3 ?_
    refine fe_ic_ne (pc' := 16) (tgt := 51) dX7_canBeBetter_13 rfl rfl (fun hc2 => ?_) (fun hc2 => ?_)
    · replace h := (if_pos hc2).symm.trans h
      refine fe_lan (pc' := 17) dX7_canBeBetter_16 rfl rfl ?_
      refine fe_gf (pc' := 20) dX7_canBeBetter_17 rfl fl_7_31 n_74 gf_74_0 ?_
      refine fe_gf (pc' := 23) dX7_canBeBetter_20 rfl fl_7_81 n_3 gf_3_0 ?_
      refine fe_if_le (pc' := 26) (tgt := 51) dX7_canBeBetter_23 rfl rfl (fun hc3 => ?_) (fun hc3 => ?_)
      · replace h := (if_pos hc3).symm.trans h
        refine fe_ic (pc' := 52) dX7_canBeBetter_51 rfl ic_0 ?_
        cases h
        exact fe_rz _ dX7_canBeBetter_52 rfl rfl
      · replace h := (if_neg hc3).symm.trans h
        refine fe_lin (pc' := 27) dX7_canBeBetter_26 rfl rfl ?_
        refine fe_lan (pc' := 28) dX7_canBeBetter_27 rfl rfl ?_
        refine fe_gf (pc' := 31) dX7_canBeBetter_28 rfl fl_7_28 n_74 gf_74_7 ?_
        refine fe_lan (pc' := 32) dX7_canBeBetter_31 rfl rfl ?_
        refine fe_gf (pc' := 35) dX7_canBeBetter_32 rfl fl_7_31 n_74 gf_74_0 ?_
        refine fe_gf (pc' := 38) dX7_canBeBetter_35 rfl fl_7_81 n_3 gf_3_0 ?_
        obtain ⟨hz4, h⟩ := am_gd rfl h
        refine fe_idiv (pc' := 39) dX7_canBeBetter_38 rfl hz4 ?_
        refine fe_isub (pc' := 40) dX7_canBeBetter_39 rfl ?_
        refine fe_lan (pc' := 41) dX7_canBeBetter_40 rfl rfl ?_
        refine fe_gf (pc' := 44) dX7_canBeBetter_41 rfl fl_7_18 n_74 gf_74_4 ?_
        refine fe_ic_ge (pc' := 47) (tgt := 51) dX7_canBeBetter_44 rfl rfl (fun hc5 => ?_) (fun hc5 => ?_)
        · replace h := (if_pos hc5).symm.trans h
          refine fe_ic (pc' := 52) dX7_canBeBetter_51 rfl ic_0 ?_
          cases h
          exact fe_rz _ dX7_canBeBetter_52 rfl rfl
        · replace h := (if_neg hc5).symm.trans h
          refine fe_ic (pc' := 48) dX7_canBeBetter_47 rfl ic_1 ?_
          refine fe_go (tgt := 52) dX7_canBeBetter_48 rfl ?_
          cases h
          exact fe_rz _ dX7_canBeBetter_52 rfl rfl
    · replace h := (if_neg hc2).symm.trans h
      refine fe_ic (pc' := 52) dX7_canBeBetter_51 rfl ic_0 ?_
      cases h
      exact fe_rz _ dX7_canBeBetter_52 rfl rfl
-- To_place: X7_place
set_option maxRecDepth 4000 in
theorem lp_To_place_L55 {hE : am_H} {r : Option Value} {dd : Nat} {rec : am_G → Int32 → Int32 → Option am_G} (hdd : 3 ≤ dd) (IH : ∀ (g : am_G) (x1 x2 : Int32) (w : am_G), rec g x1 x2 = some w → am_Ev dd 73 [.ref 74, .int x1, .int x2] (sh0, g) (sh0, w) (none)) : ∀ (n : Nat) (g : am_G) (x1 : Int32) (x2 : Int32) (x3 : Int32) (x4 : Int32) (w : am_G), To_place_L55 n rec g x1 x2 x3 x4 = some w → am_E dd mX7_place (157, [], [], (sh0, w)) hE r → am_E dd mX7_place (55, [(0, .ref 74), (1, .int x1), (2, .int x2), (3, .int x3), (4, .int x4)], [], (sh0, g)) hE r := by
  intro n
  induction n with
  | zero => intro g x1 x2 x3 x4 q h; cases h
  | succ n ih =>
    intro g x1 x2 x3 x4 q h k1
    replace h : _ = _ := h
    unfold To_place_L55 at h
    refine fe_li (pc' := 57) dX7_place_55 rfl rfl ?_
    refine fe_lan (pc' := 58) dX7_place_57 rfl rfl ?_
    refine fe_gf (pc' := 61) dX7_place_58 rfl fl_7_31 n_74 gf_74_0 ?_
    refine fe_gf (pc' := 64) dX7_place_61 rfl fl_7_81 n_3 gf_3_0 ?_
    refine fe_ic_ge (pc' := 67) (tgt := 157) dX7_place_64 rfl rfl (fun hc10 => ?_) (fun hc10 => ?_)
    · replace h := (if_pos hc10).symm.trans h
      refine fe_pick [] rfl ?_
      cases h
      exact k1
    · replace h := (if_neg hc10).symm.trans h
      refine fe_lan (pc' := 68) dX7_place_67 rfl rfl ?_
      refine fe_gf (pc' := 71) dX7_place_68 rfl fl_7_40 n_74 gf_74_1 ?_
      refine fe_gf (pc' := 74) dX7_place_71 rfl fl_7_102 (sc_ne sc_77) (cg_6 sc_77) ?_
      refine fe_lin (pc' := 75) dX7_place_74 rfl rfl ?_
      refine fe_li (pc' := 77) dX7_place_75 rfl rfl ?_
      obtain ⟨hi11, h⟩ := am_gd rfl h
      refine fe_as (pc' := 78) (j := x1.toNatClampNeg) dX7_place_77 rfl (sc_n1 sc_77) (sc_1 sc_77) hi11 rfl ?_
      refine fe_lan (pc' := 79) dX7_place_78 rfl rfl ?_
      refine fe_gf (pc' := 82) dX7_place_79 rfl fl_7_25 n_74 gf_74_6 ?_
      refine fe_li (pc' := 84) dX7_place_82 rfl rfl ?_
      refine fe_dup2 (pc' := 85) dX7_place_84 rfl ⟨rfl, rfl⟩ ?_
      obtain ⟨hi12, h⟩ := am_gd rfl h
      refine fe_al (pc' := 86) (j := x4.toNatClampNeg) dX7_place_85 rfl n_76 s_76 hi12 rfl ?_
      refine fe_lin (pc' := 87) dX7_place_86 rfl rfl ?_
      refine fe_iadd (pc' := 88) dX7_place_87 rfl ?_
      refine fe_as (pc' := 89) (j := x4.toNatClampNeg) dX7_place_88 rfl n_76 s_76 hi12 rfl ?_
      refine fe_lin (pc' := 90) dX7_place_89 rfl rfl ?_
      refine fe_lan (pc' := 91) dX7_place_90 rfl rfl ?_
      refine fe_gf (pc' := 94) dX7_place_91 rfl fl_7_40 n_74 gf_74_1 ?_
      refine fe_li (pc' := 96) dX7_place_94 rfl rfl ?_
      refine fe_lan (pc' := 97) dX7_place_96 rfl rfl ?_
      refine fe_gf (pc' := 100) dX7_place_97 rfl fl_7_25 n_74 gf_74_6 ?_
      refine fe_li (pc' := 102) dX7_place_100 rfl rfl ?_
      refine fe_al (pc' := 103) (j := x4.toNatClampNeg) dX7_place_102 rfl n_76 s_76 hi12 rfl ?_
      refine fe_lan (pc' := 104) dX7_place_103 rfl rfl ?_
      refine fe_gf (pc' := 107) dX7_place_104 rfl fl_7_9 n_74 gf_74_2 ?_
      obtain ⟨q13, hq14, h⟩ := am_bd h
      refine fe_iv (pc' := 110) (as := [.ref 77, .int x4, .int ((am_wr (am_wr g (77 + 1) x1.toNatClampNeg x4) 76 x4.toNatClampNeg (((am_wr g (77 + 1) x1.toNatClampNeg x4).1 76 x4.toNatClampNeg) + x3)).1 76 x4.toNatClampNeg), .int ((am_wr (am_wr g (77 + 1) x1.toNatClampNeg x4) 76 x4.toNatClampNeg (((am_wr g (77 + 1) x1.toNatClampNeg x4).1 76 x4.toNatClampNeg) + x3)).1 74 2)]) (h1 := (sh0, am_wr (am_wr g (77 + 1) x1.toNatClampNeg x4) 76 x4.toNatClampNeg (((am_wr g (77 + 1) x1.toNatClampNeg x4).1 76 x4.toNatClampNeg) + x3))) (r1 := some (.int q13)) (st' := [.int q13, .int x2]) dX7_place_107 rfl cl_7_84 rfl rfl (sc_o sc_77) ms_36 ⟨(sc_ne sc_77), rfl, by decide, Nat.le_of_ble_eq_true rfl, Nat.le_of_ble_eq_true rfl⟩ (am_le0 _ _ _) (am_up (by omega) (ev_Ca_minutesFor sc_77 hq14)) rfl ?_
      refine fe_mx (pc' := 113) dX7_place_110 rfl cl_7_88 (Nat.le_of_ble_eq_true rfl) ?_
      refine fe_si (pc' := 115) (lo' := [(0, .ref 74), (1, .int x1), (2, .int x2), (3, .int x3), (4, .int x4), (5, .int (am_mx x2 q13))]) dX7_place_113 rfl (Nat.le_of_ble_eq_true rfl) rfl ?_
      refine fe_lan (pc' := 116) dX7_place_115 rfl rfl ?_
      refine fe_li (pc' := 118) dX7_place_116 rfl rfl ?_
      refine fe_lan (pc' := 119) dX7_place_118 rfl rfl ?_
      refine fe_gf (pc' := 122) dX7_place_119 rfl fl_7_25 n_74 gf_74_6 ?_
      refine fe_li (pc' := 124) dX7_place_122 rfl rfl ?_
      refine fe_al (pc' := 125) (j := x4.toNatClampNeg) dX7_place_124 rfl n_76 s_76 hi12 rfl ?_
      obtain ⟨q15, hq16, h⟩ := am_bd h
      refine fe_iv (pc' := 128) (as := [.ref 74, .int (am_mx x2 q13), .int ((am_wr (am_wr g (77 + 1) x1.toNatClampNeg x4) 76 x4.toNatClampNeg (((am_wr g (77 + 1) x1.toNatClampNeg x4).1 76 x4.toNatClampNeg) + x3)).1 76 x4.toNatClampNeg)]) (h1 := (sh0, am_wr (am_wr g (77 + 1) x1.toNatClampNeg x4) 76 x4.toNatClampNeg (((am_wr g (77 + 1) x1.toNatClampNeg x4).1 76 x4.toNatClampNeg) + x3))) (r1 := some (.int (am_b q15))) (st' := [.int (am_b q15)]) dX7_place_125 rfl cl_7_105 rfl rfl s_74 ms_74 ⟨n_74, rfl, by decide, Nat.le_of_ble_eq_true rfl, Nat.le_of_ble_eq_true rfl⟩ (am_le0 _ _ _) (am_up (by omega) (ev_To_canBeBetter hq16)) rfl ?_
      obtain ⟨q20, hq26, h⟩ := am_bd h
      have K : am_E dd mX7_place (140, [(0, .ref 74), (1, .int x1), (2, .int x2), (3, .int x3), (4, .int x4)], [], (sh0, q20)) hE r := by
        refine fe_lan (pc' := 141) dX7_place_140 rfl rfl ?_
        refine fe_gf (pc' := 144) dX7_place_141 rfl fl_7_25 n_74 gf_74_6 ?_
        refine fe_li (pc' := 146) dX7_place_144 rfl rfl ?_
        refine fe_dup2 (pc' := 147) dX7_place_146 rfl ⟨rfl, rfl⟩ ?_
        refine fe_al (pc' := 148) (j := x4.toNatClampNeg) dX7_place_147 rfl n_76 s_76 hi12 rfl ?_
        refine fe_lin (pc' := 149) dX7_place_148 rfl rfl ?_
        refine fe_isub (pc' := 150) dX7_place_149 rfl ?_
        refine fe_as (pc' := 151) (j := x4.toNatClampNeg) dX7_place_150 rfl n_76 s_76 hi12 rfl ?_
        refine fe_inc (pc' := 154) (lo' := [(0, .ref 74), (1, .int x1), (2, .int x2), (3, .int x3), (4, .int (x4 + 1))]) dX7_place_151 rfl ic_1 (Nat.le_of_ble_eq_true rfl) rfl rfl ?_
        refine fe_go (tgt := 55) dX7_place_154 rfl ?_
        exact ih (am_wr q20 76 x4.toNatClampNeg ((q20.1 76 x4.toNatClampNeg) - x3)) x1 x2 x3 (x4 + 1) q h k1
      replace h := hq26
      refine fe_bT (pc' := 131) (tgt := 140) dX7_place_128 rfl rfl rfl (fun hc17 => ?_) (fun hc17 => ?_)
      · replace h := (if_pos hc17).symm.trans h
        refine fe_lan (pc' := 132) dX7_place_131 rfl rfl ?_
        refine fe_lin (pc' := 133) dX7_place_132 rfl rfl ?_
        refine fe_ic (pc' := 134) dX7_place_133 rfl ic_1 ?_
        refine fe_iadd (pc' := 135) dX7_place_134 rfl ?_
        refine fe_li (pc' := 137) dX7_place_135 rfl rfl ?_
        obtain ⟨q18, hq19, h⟩ := am_bd h
        refine fe_iv (pc' := 140) (as := [.ref 74, .int (x1 + 1), .int (am_mx x2 q13)]) (h1 := (sh0, q18)) (r1 := none) (st' := []) dX7_place_137 rfl cl_7_94 rfl rfl s_74 ms_73 ⟨n_74, rfl, by decide, Nat.le_of_ble_eq_true rfl, Nat.le_of_ble_eq_true rfl⟩ (am_le0 _ _ _) (IH _ _ _ _ hq19) rfl ?_
        refine fe_pick [0, 1, 2, 3, 4] rfl ?_
        cases h
        exact K
      · replace h := (if_neg hc17).symm.trans h
        refine fe_pick [0, 1, 2, 3, 4] rfl ?_
        cases h
        exact K
set_option maxRecDepth 4000 in
theorem ev_To_place : ∀ (n : Nat) (g : am_G) (x1 : Int32) (x2 : Int32) (w : am_G), To_place n g x1 x2 = some w → am_Ev (n + 4) 73 [.ref 74, .int x1, .int x2] (sh0, g) (sh0, w) (none) := by
  intro n
  induction n with
  | zero => intro g x1 x2 w h; cases h
  | succ n IH =>
    intro g x1 x2 w h
    generalize hdd : n + 4 = dd at IH
    rw [show n + 1 + 4 = dd + 1 by omega]
    have hd0 : 3 ≤ dd := by omega
    unfold To_place at h
    refine am_ev mX7_place (by rfl) (Nat.le_of_ble_eq_true rfl) [(0, .ref 74), (1, .int x1), (2, .int x2)] rfl ?_
    refine fe_lin (pc' := 1) dX7_place_0 rfl rfl ?_
    refine fe_lan (pc' := 2) dX7_place_1 rfl rfl ?_
    refine fe_gf (pc' := 5) dX7_place_2 rfl fl_7_31 n_74 gf_74_0 ?_
    refine fe_gf (pc' := 8) dX7_place_5 rfl fl_7_71 n_3 gf_3_3 ?_
    refine fe_ic_ge (pc' := 11) (tgt := 17) dX7_place_8 rfl rfl (fun hc1 => ?_) (fun hc1 => ?_)
    · replace h := (if_pos hc1).symm.trans h
      refine fe_lan (pc' := 18) dX7_place_17 rfl rfl ?_
      refine fe_lin (pc' := 19) dX7_place_18 rfl rfl ?_
      obtain ⟨q2, hq3, h⟩ := am_bd h
      refine fe_iv (pc' := 22) (as := [.ref 74, .int x2]) (h1 := (sh0, q2)) (r1 := none) (st' := []) dX7_place_19 rfl cl_7_98 rfl rfl s_74 ms_75 ⟨n_74, rfl, by decide, Nat.le_of_ble_eq_true rfl, Nat.le_of_ble_eq_true rfl⟩ (am_le0 _ _ _) (am_up (by omega) (ev_To_judge hq3)) rfl ?_
      cases h
      exact fe_rv dX7_place_22 rfl
    · replace h := (if_neg hc1).symm.trans h
      refine fe_lin (pc' := 12) dX7_place_11 rfl rfl ?_
      refine fe_bp (pc' := 14) dX7_place_12 rfl ib_7 ?_
      refine fe_ic_lt (pc' := 17) (tgt := 23) dX7_place_14 rfl rfl (fun hc4 => ?_) (fun hc4 => ?_)
      · replace h := (if_pos hc4).symm.trans h
        refine fe_lan (pc' := 24) dX7_place_23 rfl rfl ?_
        refine fe_gf (pc' := 27) dX7_place_24 rfl fl_7_40 n_74 gf_74_1 ?_
        refine fe_lin (pc' := 28) dX7_place_27 rfl rfl ?_
        obtain ⟨q5, hq6, h⟩ := am_bd h
        refine fe_iv (pc' := 31) (as := [.ref 77, .int x1]) (h1 := (sh0, g)) (r1 := some (.int (am_b q5))) (st' := [.int (am_b q5)]) dX7_place_28 rfl cl_7_74 rfl rfl (sc_o sc_77) ms_26 ⟨(sc_ne sc_77), rfl, by decide, Nat.le_of_ble_eq_true rfl, Nat.le_of_ble_eq_true rfl⟩ (am_le0 _ _ _) (am_up (by omega) (ev_Ca_isCarried sc_77 hq6)) rfl ?_
        refine fe_bF (pc' := 34) (tgt := 43) dX7_place_31 rfl rfl rfl (fun hc7 => ?_) (fun hc7 => ?_)
        · replace h := (if_pos hc7).symm.trans h
          refine fe_lan (pc' := 44) dX7_place_43 rfl rfl ?_
          refine fe_gf (pc' := 47) dX7_place_44 rfl fl_7_40 n_74 gf_74_1 ?_
          refine fe_lin (pc' := 48) dX7_place_47 rfl rfl ?_
          obtain ⟨q8, hq9, h⟩ := am_bd h
          refine fe_iv (pc' := 51) (as := [.ref 77, .int x1]) (h1 := (sh0, g)) (r1 := some (.int q8)) (st' := [.int q8]) dX7_place_48 rfl cl_7_77 rfl rfl (sc_o sc_77) ms_30 ⟨(sc_ne sc_77), rfl, by decide, Nat.le_of_ble_eq_true rfl, Nat.le_of_ble_eq_true rfl⟩ (am_le0 _ _ _) (am_up (by omega) (ev_Ca_weight sc_77 hq9)) rfl ?_
          refine fe_sin (pc' := 52) (lo' := [(0, .ref 74), (1, .int x1), (2, .int x2), (3, .int q8)]) dX7_place_51 rfl (Nat.le_of_ble_eq_true rfl) rfl ?_
          refine fe_ic (pc' := 53) dX7_place_52 rfl ic_0 ?_
          refine fe_si (pc' := 55) (lo' := [(0, .ref 74), (1, .int x1), (2, .int x2), (3, .int q8), (4, .int 0)]) dX7_place_53 rfl (Nat.le_of_ble_eq_true rfl) rfl ?_
          obtain ⟨q21, hq27, h⟩ := am_bd h
          refine lp_To_place_L55 hd0 IH _ g x1 x2 q8 0 q21 hq27 ?_
          cases h
          exact fe_rv dX7_place_157 rfl
        · replace h := (if_neg hc7).symm.trans h
          refine fe_lan (pc' := 35) dX7_place_34 rfl rfl ?_
          refine fe_lin (pc' := 36) dX7_place_35 rfl rfl ?_
          refine fe_ic (pc' := 37) dX7_place_36 rfl ic_1 ?_
          refine fe_iadd (pc' := 38) dX7_place_37 rfl ?_
          refine fe_lin (pc' := 39) dX7_place_38 rfl rfl ?_
          obtain ⟨q22, hq23, h⟩ := am_bd h
          refine fe_iv (pc' := 42) (as := [.ref 74, .int (x1 + 1), .int x2]) (h1 := (sh0, q22)) (r1 := none) (st' := []) dX7_place_39 rfl cl_7_94 rfl rfl s_74 ms_73 ⟨n_74, rfl, by decide, Nat.le_of_ble_eq_true rfl, Nat.le_of_ble_eq_true rfl⟩ (am_le0 _ _ _) (IH _ _ _ _ hq23) rfl ?_
          cases h
          exact fe_rv dX7_place_42 rfl
      · replace h := (if_neg hc4).symm.trans h
        refine fe_lan (pc' := 18) dX7_place_17 rfl rfl ?_
        refine fe_lin (pc' := 19) dX7_place_18 rfl rfl ?_
        obtain ⟨q24, hq25, h⟩ := am_bd h
        refine fe_iv (pc' := 22) (as := [.ref 74, .int x2]) (h1 := (sh0, q24)) (r1 := none) (st' := []) dX7_place_19 rfl cl_7_98 rfl rfl s_74 ms_75 ⟨n_74, rfl, by decide, Nat.le_of_ble_eq_true rfl, Nat.le_of_ble_eq_true rfl⟩ (am_le0 _ _ _) (am_up (by omega) (ev_To_judge hq25)) rfl ?_
        cases h
        exact fe_rv dX7_place_22 rfl
