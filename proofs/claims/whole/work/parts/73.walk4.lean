-- Tb_burn: X8_burn
set_option maxRecDepth 4000 in
theorem ev_Tb_burn {g : am_G} {w : (am_G × Int32)} (h : Tb_burn g  = some w) : am_Ev 1 100 [.ref 0] (sh0, g) (sh0, w.1) (some (.int w.2)) := by
  unfold Tb_burn at h
  refine am_ev mX8_burn (by rfl) (Nat.le_of_ble_eq_true rfl) [(0, .ref 0)] rfl ?_
  refine fe_lan (pc' := 1) dX8_burn_0 rfl rfl ?_
  refine fe_gf (pc' := 4) dX8_burn_1 rfl fl_8_71 n_0 gf_0_9 ?_
  refine fe_gf (pc' := 7) dX8_burn_4 rfl fl_8_107 n_121 gf_121_2 ?_
  refine fe_sin (pc' := 8) (lo' := [(0, .ref 0), (1, .int (g.1 121 2))]) dX8_burn_7 rfl (Nat.le_of_ble_eq_true rfl) rfl ?_
  refine fe_lan (pc' := 9) dX8_burn_8 rfl rfl ?_
  refine fe_gf (pc' := 12) dX8_burn_9 rfl fl_8_71 n_0 gf_0_9 ?_
  refine fe_ic (pc' := 13) dX8_burn_12 rfl ic_0 ?_
  refine fe_pi (pc' := 16) dX8_burn_13 rfl fl_8_107 n_121 s_121 rfl ⟨rfl, Or.inl rfl⟩ ?_
  refine fe_lin (pc' := 17) dX8_burn_16 rfl rfl ?_
  cases h
  exact fe_ri dX8_burn_17 rfl
-- Bo_isSo: X1_isSo
set_option maxRecDepth 4000 in
theorem lp_Bo_isSo_L2 {hE : am_H} {r : Option Value} : ∀ (n : Nat) (g : am_G) (x1 : Int32) (q : ((Unit) ⊕ Bool)), Bo_isSo_L2 n g x1 = some q → (∀ w, q = .inl w → am_E 3 mX1_isSo (56, [], [], (sh0, g)) hE r) → (∀ w, q = .inr w → hE = (sh0, g) ∧ r = some (.int (am_b w))) → am_E 3 mX1_isSo (2, [(0, .ref 121), (1, .int x1)], [], (sh0, g)) hE r := by
  intro n
  induction n with
  | zero => intro g x1 q h; cases h
  | succ n ih =>
    intro g x1 q h k1 kr
    replace h : _ = _ := h
    unfold Bo_isSo_L2 at h
    refine fe_lin (pc' := 3) dX1_isSo_2 rfl rfl ?_
    refine fe_lan (pc' := 4) dX1_isSo_3 rfl rfl ?_
    refine fe_gf (pc' := 7) dX1_isSo_4 rfl fl_1_9 n_121 gf_121_2 ?_
    refine fe_ic_ge (pc' := 10) (tgt := 56) dX1_isSo_7 rfl rfl (fun hc1 => ?_) (fun hc1 => ?_)
    · replace h := (if_pos hc1).symm.trans h
      refine fe_pick [] rfl ?_
      cases h
      exact k1 _ rfl
    · replace h := (if_neg hc1).symm.trans h
      refine fe_lan (pc' := 11) dX1_isSo_10 rfl rfl ?_
      refine fe_gf (pc' := 14) dX1_isSo_11 rfl fl_1_15 n_121 gf_121_3 ?_
      refine fe_lin (pc' := 15) dX1_isSo_14 rfl rfl ?_
      obtain ⟨hi2, h⟩ := am_gd rfl h
      refine fe_al (pc' := 16) (j := x1.toNatClampNeg) dX1_isSo_15 rfl n_122 s_122 hi2 rfl ?_
      refine fe_sin (pc' := 17) (lo' := [(0, .ref 121), (1, .int x1), (2, .int (g.1 122 x1.toNatClampNeg))]) dX1_isSo_16 rfl (Nat.le_of_ble_eq_true rfl) rfl ?_
      refine fe_lan (pc' := 18) dX1_isSo_17 rfl rfl ?_
      refine fe_gf (pc' := 21) dX1_isSo_18 rfl fl_1_40 n_121 gf_121_1 ?_
      refine fe_lin (pc' := 22) dX1_isSo_21 rfl rfl ?_
      refine fe_lan (pc' := 23) dX1_isSo_22 rfl rfl ?_
      refine fe_gf (pc' := 26) dX1_isSo_23 rfl fl_1_40 n_121 gf_121_1 ?_
      refine fe_lin (pc' := 27) dX1_isSo_26 rfl rfl ?_
      obtain ⟨q3, hq4, h⟩ := am_bd h
      refine fe_iv (pc' := 30) (as := [.ref 125, .int (g.1 122 x1.toNatClampNeg)]) (h1 := (sh0, g)) (r1 := some (.int q3)) (st' := [.int q3, .int (g.1 122 x1.toNatClampNeg), .ref 125]) dX1_isSo_27 rfl cl_1_66 rfl rfl (sc_o sc_125) ms_31 ⟨(sc_ne sc_125), rfl, by decide, Nat.le_of_ble_eq_true rfl, Nat.le_of_ble_eq_true rfl⟩ (am_le0 _ _ _) (am_up (by decide) (ev_Ca_load sc_125 hq4)) rfl ?_
      refine fe_lan (pc' := 31) dX1_isSo_30 rfl rfl ?_
      refine fe_gf (pc' := 34) dX1_isSo_31 rfl fl_1_19 n_121 gf_121_4 ?_
      refine fe_lin (pc' := 35) dX1_isSo_34 rfl rfl ?_
      refine fe_al (pc' := 36) (j := x1.toNatClampNeg) dX1_isSo_35 rfl n_123 s_123 hi2 rfl ?_
      obtain ⟨q5, hq6, h⟩ := am_bd h
      refine fe_iv (pc' := 39) (as := [.ref 125, .int (g.1 122 x1.toNatClampNeg), .int q3, .int (g.1 123 x1.toNatClampNeg)]) (h1 := (sh0, g)) (r1 := some (.int q5)) (st' := [.int q5]) dX1_isSo_36 rfl cl_1_70 rfl rfl (sc_o sc_125) ms_36 ⟨(sc_ne sc_125), rfl, by decide, Nat.le_of_ble_eq_true rfl, Nat.le_of_ble_eq_true rfl⟩ (am_le0 _ _ _) (am_up (by decide) (ev_Ca_minutesFor sc_125 hq6)) rfl ?_
      refine fe_lan (pc' := 40) dX1_isSo_39 rfl rfl ?_
      refine fe_gf (pc' := 43) dX1_isSo_40 rfl fl_1_22 n_121 gf_121_5 ?_
      refine fe_lin (pc' := 44) dX1_isSo_43 rfl rfl ?_
      refine fe_al (pc' := 45) (j := x1.toNatClampNeg) dX1_isSo_44 rfl n_124 s_124 hi2 rfl ?_
      refine fe_ic_eq (pc' := 48) (tgt := 50) dX1_isSo_45 rfl rfl (fun hc7 => ?_) (fun hc7 => ?_)
      · replace h := (if_pos hc7).symm.trans h
        refine fe_inc (pc' := 53) (lo' := [(0, .ref 121), (1, .int (x1 + 1)), (2, .int (g.1 122 x1.toNatClampNeg))]) dX1_isSo_50 rfl ic_1 (Nat.le_of_ble_eq_true rfl) rfl rfl ?_
        refine fe_go (tgt := 2) dX1_isSo_53 rfl ?_
        refine fe_pick [0, 1] rfl ?_
        exact ih g (x1 + 1) q h k1 kr
      · replace h := (if_neg hc7).symm.trans h
        refine fe_ic (pc' := 49) dX1_isSo_48 rfl ic_0 ?_
        cases h
        obtain ⟨e1, e2⟩ := kr _ rfl
        subst e1; subst e2
        exact fe_rz _ dX1_isSo_49 rfl rfl
set_option maxRecDepth 4000 in
theorem ev_Bo_isSo {g : am_G} {w : Bool} (h : Bo_isSo g  = some w) : am_Ev 4 21 [.ref 121] (sh0, g) (sh0, g) (some (.int (am_b w))) := by
  unfold Bo_isSo at h
  refine am_ev mX1_isSo (by rfl) (Nat.le_of_ble_eq_true rfl) [(0, .ref 121)] rfl ?_
  refine fe_ic (pc' := 1) dX1_isSo_0 rfl ic_0 ?_
  refine fe_sin (pc' := 2) (lo' := [(0, .ref 121), (1, .int 0)]) dX1_isSo_1 rfl (Nat.le_of_ble_eq_true rfl) rfl ?_
  obtain ⟨q8, hq10, h⟩ := am_bd h
  refine lp_Bo_isSo_L2 _ g 0 q8 hq10 (fun w9 e => ?_) (fun w e => ?_)
  · subst e
    replace h : _ = _ := h
    refine fe_ic (pc' := 57) dX1_isSo_56 rfl ic_1 ?_
    cases h
    exact fe_rz _ dX1_isSo_57 rfl rfl
  · subst e
    cases h
    exact ⟨rfl, rfl⟩
-- Bo_findGifts: X1_findGifts
set_option maxRecDepth 4000 in
theorem lp_Bo_findGifts_L34 {hE : am_H} {r : Option Value} : ∀ (n : Nat) (g : am_G) (x2 : Int32) (x3 : Int32) (w : am_G), Bo_findGifts_L34 n g x2 x3 = some w → am_E 4 mX1_findGifts (111, [(0, .ref 121), (1, .ref 28), (2, .int x2)], [], (sh0, w)) hE r → am_E 4 mX1_findGifts (34, [(0, .ref 121), (1, .ref 28), (2, .int x2), (3, .int x3)], [], (sh0, g)) hE r := by
  intro n
  induction n with
  | zero => intro g x2 x3 q h; cases h
  | succ n ih =>
    intro g x2 x3 q h k1
    replace h : _ = _ := h
    unfold Bo_findGifts_L34 at h
    refine fe_lin (pc' := 35) dX1_findGifts_34 rfl rfl ?_
    refine fe_lan (pc' := 36) dX1_findGifts_35 rfl rfl ?_
    refine fe_gf (pc' := 39) dX1_findGifts_36 rfl fl_1_31 n_121 gf_121_0 ?_
    refine fe_gf (pc' := 42) dX1_findGifts_39 rfl fl_1_53 n_3 gf_3_0 ?_
    refine fe_ic_ge (pc' := 45) (tgt := 111) dX1_findGifts_42 rfl rfl (fun hc4 => ?_) (fun hc4 => ?_)
    · replace h := (if_pos hc4).symm.trans h
      refine fe_pick [0, 1, 2] rfl ?_
      cases h
      exact k1
    · replace h := (if_neg hc4).symm.trans h
      refine fe_lan (pc' := 46) dX1_findGifts_45 rfl rfl ?_
      refine fe_gf (pc' := 49) dX1_findGifts_46 rfl fl_1_40 n_121 gf_121_1 ?_
      refine fe_gf (pc' := 52) dX1_findGifts_49 rfl fl_1_55 (sc_ne sc_125) (cg_6 sc_125) ?_
      refine fe_lin (pc' := 53) dX1_findGifts_52 rfl rfl ?_
      refine fe_lin (pc' := 54) dX1_findGifts_53 rfl rfl ?_
      obtain ⟨hi5, h⟩ := am_gd rfl h
      refine fe_as (pc' := 55) (j := x2.toNatClampNeg) dX1_findGifts_54 rfl (sc_n1 sc_125) (sc_1 sc_125) hi5 rfl ?_
      refine fe_lan (pc' := 56) dX1_findGifts_55 rfl rfl ?_
      refine fe_lin (pc' := 57) dX1_findGifts_56 rfl rfl ?_
      refine fe_lin (pc' := 58) dX1_findGifts_57 rfl rfl ?_
      obtain ⟨q6, hq7, h⟩ := am_bd h
      refine fe_iv (pc' := 61) (as := [.ref 28, .int x2, .int x3]) (h1 := (sh0, am_wr g (125 + 1) x2.toNatClampNeg x3)) (r1 := some (.int (am_b q6))) (st' := [.int (am_b q6)]) dX1_findGifts_58 rfl cl_1_58 rfl rfl (sc_o sc_28) ms_27 ⟨(sc_ne sc_28), rfl, by decide, Nat.le_of_ble_eq_true rfl, Nat.le_of_ble_eq_true rfl⟩ (am_le0 _ _ _) (am_up (by decide) (ev_Ca_canBeGiven sc_28 hq7)) rfl ?_
      obtain ⟨q14, hq18, h⟩ := am_bd h
      have K : am_E 4 mX1_findGifts (105, [(0, .ref 121), (1, .ref 28), (2, .int x2), (3, .int x3)], [], (sh0, q14)) hE r := by
        refine fe_inc (pc' := 108) (lo' := [(0, .ref 121), (1, .ref 28), (2, .int x2), (3, .int (x3 + 1))]) dX1_findGifts_105 rfl ic_1 (Nat.le_of_ble_eq_true rfl) rfl rfl ?_
        refine fe_go (tgt := 34) dX1_findGifts_108 rfl ?_
        exact ih q14 x2 (x3 + 1) q h k1
      replace h := hq18
      refine fe_bT (pc' := 64) (tgt := 105) dX1_findGifts_61 rfl rfl rfl (fun hc8 => ?_) (fun hc8 => ?_)
      · replace h := (if_pos hc8).symm.trans h
        refine fe_lan (pc' := 65) dX1_findGifts_64 rfl rfl ?_
        obtain ⟨q9, hq10, h⟩ := am_bd h
        refine fe_iv (pc' := 68) (as := [.ref 121]) (h1 := (sh0, am_wr g (125 + 1) x2.toNatClampNeg x3)) (r1 := some (.int (am_b q9))) (st' := [.int (am_b q9)]) dX1_findGifts_65 rfl cl_1_62 rfl rfl s_121 ms_21 ⟨n_121, rfl, by decide, Nat.le_of_ble_eq_true rfl, Nat.le_of_ble_eq_true rfl⟩ (am_le0 _ _ _) (am_up (by decide) (ev_Bo_isSo hq10)) rfl ?_
        refine fe_bT (pc' := 71) (tgt := 105) dX1_findGifts_68 rfl rfl rfl (fun hc11 => ?_) (fun hc11 => ?_)
        · replace h := (if_pos hc11).symm.trans h
          refine fe_lan (pc' := 72) dX1_findGifts_71 rfl rfl ?_
          refine fe_lan (pc' := 73) dX1_findGifts_72 rfl rfl ?_
          refine fe_gf (pc' := 76) dX1_findGifts_73 rfl fl_1_25 n_121 gf_121_6 ?_
          have K : am_E 4 mX1_findGifts (92, [(0, .ref 121), (1, .ref 28), (2, .int x2), (3, .int x3)], [.int (if ((am_wr g (125 + 1) x2.toNatClampNeg x3).1 121 6) = 0 then (10 * x2) + x3 else (am_wr g (125 + 1) x2.toNatClampNeg x3).1 121 7 : Int32), .ref 121], (sh0, am_wr g (125 + 1) x2.toNatClampNeg x3)) hE r := by
            refine fe_pi (pc' := 95) dX1_findGifts_92 rfl fl_1_28 n_121 s_121 rfl ⟨rfl, Or.inl rfl⟩ ?_
            refine fe_lan (pc' := 96) dX1_findGifts_95 rfl rfl ?_
            refine fe_dup (pc' := 97) dX1_findGifts_96 rfl rfl ?_
            refine fe_gf (pc' := 100) dX1_findGifts_97 rfl fl_1_25 n_121 gf_121_6 ?_
            refine fe_ic (pc' := 101) dX1_findGifts_100 rfl ic_1 ?_
            refine fe_iadd (pc' := 102) dX1_findGifts_101 rfl ?_
            refine fe_pi (pc' := 105) dX1_findGifts_102 rfl fl_1_25 n_121 s_121 rfl ⟨rfl, Or.inl rfl⟩ ?_
            cases h
            exact K
          refine fe_if_ne (pc' := 79) (tgt := 88) dX1_findGifts_76 rfl rfl (fun hc12 => ?_) (fun hc12 => ?_)
          · refine fe_bp (pc' := 81) dX1_findGifts_79 rfl ib_10 ?_
            refine fe_lin (pc' := 82) dX1_findGifts_81 rfl rfl ?_
            refine fe_imul (pc' := 83) dX1_findGifts_82 rfl ?_
            refine fe_lin (pc' := 84) dX1_findGifts_83 rfl rfl ?_
            refine fe_iadd (pc' := 85) dX1_findGifts_84 rfl ?_
            refine fe_go (tgt := 92) dX1_findGifts_85 rfl ?_
            simp only [if_pos hc12] at K ⊢
            exact K
          · refine fe_lan (pc' := 89) dX1_findGifts_88 rfl rfl ?_
            refine fe_gf (pc' := 92) dX1_findGifts_89 rfl fl_1_28 n_121 gf_121_7 ?_
            simp only [if_neg hc12] at K ⊢
            exact K
        · replace h := (if_neg hc11).symm.trans h
          cases h
          exact K
      · replace h := (if_neg hc8).symm.trans h
        cases h
        exact K
set_option maxRecDepth 4000 in
theorem lp_Bo_findGifts_L21 {hE : am_H} {r : Option Value} : ∀ (n : Nat) (g : am_G) (x2 : Int32) (w : am_G), Bo_findGifts_L21 n g x2 = some w → am_E 4 mX1_findGifts (132, [], [], (sh0, w)) hE r → am_E 4 mX1_findGifts (21, [(0, .ref 121), (1, .ref 28), (2, .int x2)], [], (sh0, g)) hE r := by
  intro n
  induction n with
  | zero => intro g x2 q h; cases h
  | succ n ih =>
    intro g x2 q h k1
    replace h : _ = _ := h
    unfold Bo_findGifts_L21 at h
    refine fe_lin (pc' := 22) dX1_findGifts_21 rfl rfl ?_
    refine fe_lan (pc' := 23) dX1_findGifts_22 rfl rfl ?_
    refine fe_gf (pc' := 26) dX1_findGifts_23 rfl fl_1_31 n_121 gf_121_0 ?_
    refine fe_gf (pc' := 29) dX1_findGifts_26 rfl fl_1_48 n_3 gf_3_3 ?_
    refine fe_ic_ge (pc' := 32) (tgt := 132) dX1_findGifts_29 rfl rfl (fun hc3 => ?_) (fun hc3 => ?_)
    · replace h := (if_pos hc3).symm.trans h
      refine fe_pick [] rfl ?_
      cases h
      exact k1
    · replace h := (if_neg hc3).symm.trans h
      refine fe_ic (pc' := 33) dX1_findGifts_32 rfl ic_0 ?_
      refine fe_sin (pc' := 34) (lo' := [(0, .ref 121), (1, .ref 28), (2, .int x2), (3, .int 0)]) dX1_findGifts_33 rfl (Nat.le_of_ble_eq_true rfl) rfl ?_
      obtain ⟨q15, hq19, h⟩ := am_bd h
      refine lp_Bo_findGifts_L34 _ g x2 0 q15 hq19 ?_
      refine fe_lan (pc' := 112) dX1_findGifts_111 rfl rfl ?_
      refine fe_gf (pc' := 115) dX1_findGifts_112 rfl fl_1_40 n_121 gf_121_1 ?_
      refine fe_gf (pc' := 118) dX1_findGifts_115 rfl fl_1_55 (sc_ne sc_125) (cg_6 sc_125) ?_
      refine fe_lin (pc' := 119) dX1_findGifts_118 rfl rfl ?_
      refine fe_lan (pc' := 120) dX1_findGifts_119 rfl rfl ?_
      refine fe_gf (pc' := 123) dX1_findGifts_120 rfl fl_1_55 (sc_ne sc_28) (cg_6 sc_28) ?_
      refine fe_lin (pc' := 124) dX1_findGifts_123 rfl rfl ?_
      obtain ⟨hi16, h⟩ := am_gd rfl h
      refine fe_al (pc' := 125) (j := x2.toNatClampNeg) dX1_findGifts_124 rfl (sc_n1 sc_28) (sc_1 sc_28) hi16 rfl ?_
      refine fe_as (pc' := 126) (j := x2.toNatClampNeg) dX1_findGifts_125 rfl (sc_n1 sc_125) (sc_1 sc_125) hi16 rfl ?_
      refine fe_inc (pc' := 129) (lo' := [(0, .ref 121), (1, .ref 28), (2, .int (x2 + 1))]) dX1_findGifts_126 rfl ic_1 (Nat.le_of_ble_eq_true rfl) rfl rfl ?_
      refine fe_go (tgt := 21) dX1_findGifts_129 rfl ?_
      exact ih (am_wr q15 (125 + 1) x2.toNatClampNeg (q15.1 (28 + 1) x2.toNatClampNeg)) (x2 + 1) q h k1
set_option maxRecDepth 4000 in
theorem ev_Bo_findGifts {g : am_G} {w : am_G} (h : Bo_findGifts g  = some w) : am_Ev 5 20 [.ref 121, .ref 28] (sh0, g) (sh0, w) (none) := by
  unfold Bo_findGifts at h
  refine am_ev mX1_findGifts (by rfl) (Nat.le_of_ble_eq_true rfl) [(0, .ref 121), (1, .ref 28)] rfl ?_
  refine fe_lan (pc' := 1) dX1_findGifts_0 rfl rfl ?_
  refine fe_ic (pc' := 2) dX1_findGifts_1 rfl ic_0 ?_
  refine fe_pi (pc' := 5) dX1_findGifts_2 rfl fl_1_25 n_121 s_121 rfl ⟨rfl, Or.inl rfl⟩ ?_
  refine fe_lan (pc' := 6) dX1_findGifts_5 rfl rfl ?_
  refine fe_bp (pc' := 8) dX1_findGifts_6 rfl ib_m9 ?_
  refine fe_pi (pc' := 11) dX1_findGifts_8 rfl fl_1_28 n_121 s_121 rfl ⟨rfl, Or.inl rfl⟩ ?_
  refine fe_lan (pc' := 12) dX1_findGifts_11 rfl rfl ?_
  refine fe_gf (pc' := 15) dX1_findGifts_12 rfl fl_1_40 n_121 gf_121_1 ?_
  refine fe_lan (pc' := 16) dX1_findGifts_15 rfl rfl ?_
  obtain ⟨q1, hq2, h⟩ := am_bd h
  refine fe_iv (pc' := 19) (as := [.ref 125, .ref 28]) (h1 := (sh0, q1)) (r1 := none) (st' := []) dX1_findGifts_16 rfl cl_1_44 rfl rfl (sc_o sc_125) ms_24 ⟨(sc_ne sc_125), rfl, by decide, Nat.le_of_ble_eq_true rfl, Nat.le_of_ble_eq_true rfl⟩ (am_le0 _ _ _) (am_up (by decide) (ev_Ca_copyFrom sc_125 sc_28 hq2)) rfl ?_
  refine fe_ic (pc' := 20) dX1_findGifts_19 rfl ic_0 ?_
  refine fe_sin (pc' := 21) (lo' := [(0, .ref 121), (1, .ref 28), (2, .int 0)]) dX1_findGifts_20 rfl (Nat.le_of_ble_eq_true rfl) rfl ?_
  obtain ⟨q17, hq20, h⟩ := am_bd h
  refine lp_Bo_findGifts_L21 _ q1 0 q17 hq20 ?_
  cases h
  exact fe_rv dX1_findGifts_132 rfl
-- Tb_sacks: X8_sacks
set_option maxRecDepth 4000 in
theorem ev_Tb_sacks {g : am_G} {x1 : Int32} {w : (am_G × Int32)} (h : Tb_sacks g x1 = some w) : am_Ev 6 101 [.ref 0, .int x1] (sh0, g) (sh0, w.1) (some (.int w.2)) := by
  unfold Tb_sacks at h
  refine am_ev mX8_sacks (by rfl) (Nat.le_of_ble_eq_true rfl) [(0, .ref 0), (1, .int x1)] rfl ?_
  refine fe_lin (pc' := 1) dX8_sacks_0 rfl rfl ?_
  obtain ⟨q1, hq2, h⟩ := am_bd h
  refine fe_is (pc' := 4) (as := [.int x1]) (h1 := (sh0, g)) (r1 := some (.int (am_b q1))) (st' := [.int (am_b q1)]) dX8_sacks_1 rfl cl_8_223 (Or.inl rfl) rfl rfl ⟨Nat.le_of_ble_eq_true rfl, Nat.le_of_ble_eq_true rfl⟩ (am_le0 _ _ _) (am_up (by decide) (ev_Tb_isEither hq2)) rfl ?_
  refine fe_bF (pc' := 7) (tgt := 9) dX8_sacks_4 rfl rfl rfl (fun hc3 => ?_) (fun hc3 => ?_)
  · replace h := (if_pos hc3).symm.trans h
    refine fe_lan (pc' := 10) dX8_sacks_9 rfl rfl ?_
    refine fe_gf (pc' := 13) dX8_sacks_10 rfl fl_8_71 n_0 gf_0_9 ?_
    refine fe_lan (pc' := 14) dX8_sacks_13 rfl rfl ?_
    refine fe_gf (pc' := 17) dX8_sacks_14 rfl fl_8_45 n_0 gf_0_4 ?_
    obtain ⟨q4, hq5, h⟩ := am_bd h
    refine fe_iv (pc' := 20) (as := [.ref 121, .ref 28]) (h1 := (sh0, q4)) (r1 := none) (st' := []) dX8_sacks_17 rfl cl_8_298 rfl rfl s_121 ms_20 ⟨n_121, rfl, by decide, Nat.le_of_ble_eq_true rfl, Nat.le_of_ble_eq_true rfl⟩ (am_le0 _ _ _) (am_up (by decide) (ev_Bo_findGifts hq5)) rfl ?_
    refine fe_lin (pc' := 21) dX8_sacks_20 rfl rfl ?_
    refine fe_if_ne (pc' := 24) (tgt := 34) dX8_sacks_21 rfl rfl (fun hc6 => ?_) (fun hc6 => ?_)
    · replace h := (if_pos hc6).symm.trans h
      refine fe_lan (pc' := 25) dX8_sacks_24 rfl rfl ?_
      refine fe_gf (pc' := 28) dX8_sacks_25 rfl fl_8_71 n_0 gf_0_9 ?_
      refine fe_gf (pc' := 31) dX8_sacks_28 rfl fl_8_301 n_121 gf_121_6 ?_
      refine fe_go (tgt := 41) dX8_sacks_31 rfl ?_
      cases h
      exact fe_ri dX8_sacks_41 rfl
    · replace h := (if_neg hc6).symm.trans h
      refine fe_lan (pc' := 35) dX8_sacks_34 rfl rfl ?_
      refine fe_gf (pc' := 38) dX8_sacks_35 rfl fl_8_71 n_0 gf_0_9 ?_
      refine fe_gf (pc' := 41) dX8_sacks_38 rfl fl_8_304 n_121 gf_121_7 ?_
      cases h
      exact fe_ri dX8_sacks_41 rfl
  · replace h := (if_neg hc3).symm.trans h
    refine fe_ic (pc' := 8) dX8_sacks_7 rfl ic_m1 ?_
    cases h
    exact fe_ri dX8_sacks_8 rfl
-- Tb_asLoad: X8_asLoad
set_option maxRecDepth 4000 in
theorem ev_Tb_asLoad {g : am_G} {x1 : Int32} {w : (am_G × Int32)} (h : Tb_asLoad g x1 = some w) : am_Ev 3 107 [.ref 0, .int x1] (sh0, g) (sh0, w.1) (some (.int w.2)) := by
  unfold Tb_asLoad at h
  refine am_ev mX8_asLoad (by rfl) (Nat.le_of_ble_eq_true rfl) [(0, .ref 0), (1, .int x1)] rfl ?_
  refine fe_lan (pc' := 1) dX8_asLoad_0 rfl rfl ?_
  refine fe_dup (pc' := 2) dX8_asLoad_1 rfl rfl ?_
  refine fe_gf (pc' := 5) dX8_asLoad_2 rfl fl_8_75 n_0 gf_0_10 ?_
  refine fe_lc (pc' := 6) (v := 1) dX8_asLoad_5 rfl rfl ?_
  refine fe_ladd (pc' := 7) dX8_asLoad_6 rfl ?_
  refine fe_pl (pc' := 10) dX8_asLoad_7 rfl fl_8_75 n_0 s_0 rfl ⟨rfl, rfl⟩ ?_
  refine fe_lan (pc' := 11) dX8_asLoad_10 rfl rfl ?_
  refine fe_gf (pc' := 14) dX8_asLoad_11 rfl fl_8_45 n_0 gf_0_4 ?_
  refine fe_lin (pc' := 15) dX8_asLoad_14 rfl rfl ?_
  obtain ⟨q1, hq2, h⟩ := am_bd h
  refine fe_iv (pc' := 18) (as := [.ref 28, .int x1]) (h1 := (sh0, am_wL g 0 10 ((g.2 0 10) + 1))) (r1 := some (.int q1)) (st' := [.int q1]) dX8_asLoad_15 rfl cl_8_160 rfl rfl (sc_o sc_28) ms_30 ⟨(sc_ne sc_28), rfl, by decide, Nat.le_of_ble_eq_true rfl, Nat.le_of_ble_eq_true rfl⟩ (am_le0 _ _ _) (am_up (by decide) (ev_Ca_weight sc_28 hq2)) rfl ?_
  cases h
  exact fe_ri dX8_asLoad_18 rfl
-- Tb_asHeavy: X8_asHeavy
set_option maxRecDepth 4000 in
theorem ev_Tb_asHeavy {g : am_G} {x1 : Int32} {w : (am_G × Int32)} (h : Tb_asHeavy g x1 = some w) : am_Ev 4 108 [.ref 0, .int x1] (sh0, g) (sh0, w.1) (some (.int w.2)) := by
  unfold Tb_asHeavy at h
  refine am_ev mX8_asHeavy (by rfl) (Nat.le_of_ble_eq_true rfl) [(0, .ref 0), (1, .int x1)] rfl ?_
  refine fe_lan (pc' := 1) dX8_asHeavy_0 rfl rfl ?_
  refine fe_dup (pc' := 2) dX8_asHeavy_1 rfl rfl ?_
  refine fe_gf (pc' := 5) dX8_asHeavy_2 rfl fl_8_75 n_0 gf_0_10 ?_
  refine fe_ld2 (pc' := 8) dX8_asHeavy_5 rfl kl_8_329 ?_
  refine fe_ladd (pc' := 9) dX8_asHeavy_8 rfl ?_
  refine fe_pl (pc' := 12) dX8_asHeavy_9 rfl fl_8_75 n_0 s_0 rfl ⟨rfl, rfl⟩ ?_
  refine fe_lan (pc' := 13) dX8_asHeavy_12 rfl rfl ?_
  refine fe_lin (pc' := 14) dX8_asHeavy_13 rfl rfl ?_
  obtain ⟨q1, hq2, h⟩ := am_bd h
  refine fe_iv (pc' := 17) (as := [.ref 0, .int x1]) (h1 := (sh0, q1.1)) (r1 := some (.int q1.2)) (st' := [.int q1.2]) dX8_asHeavy_14 rfl cl_8_308 rfl rfl s_0 ms_107 ⟨n_0, rfl, by decide, Nat.le_of_ble_eq_true rfl, Nat.le_of_ble_eq_true rfl⟩ (am_le0 _ _ _) (am_up (by decide) (ev_Tb_asLoad hq2)) rfl ?_
  refine fe_lan (pc' := 18) dX8_asHeavy_17 rfl rfl ?_
  refine fe_gf (pc' := 21) dX8_asHeavy_18 rfl fl_8_19 n_0 gf_0_1 ?_
  refine fe_gf (pc' := 24) dX8_asHeavy_21 rfl fl_8_142 n_3 gf_3_5 ?_
  refine fe_lin (pc' := 25) dX8_asHeavy_24 rfl rfl ?_
  obtain ⟨hi3, h⟩ := am_gd rfl h
  refine fe_al (pc' := 26) (j := x1.toNatClampNeg) dX8_asHeavy_25 rfl n_7 s_7 hi3 rfl ?_
  refine fe_iadd (pc' := 27) dX8_asHeavy_26 rfl ?_
  cases h
  exact fe_ri dX8_asHeavy_27 rfl
-- Tb_asLight: X8_asLight
set_option maxRecDepth 4000 in
theorem ev_Tb_asLight {g : am_G} {x1 : Int32} {w : (am_G × Int32)} (h : Tb_asLight g x1 = some w) : am_Ev 4 109 [.ref 0, .int x1] (sh0, g) (sh0, w.1) (some (.int w.2)) := by
  unfold Tb_asLight at h
  refine am_ev mX8_asLight (by rfl) (Nat.le_of_ble_eq_true rfl) [(0, .ref 0), (1, .int x1)] rfl ?_
  refine fe_lan (pc' := 1) dX8_asLight_0 rfl rfl ?_
  refine fe_dup (pc' := 2) dX8_asLight_1 rfl rfl ?_
  refine fe_gf (pc' := 5) dX8_asLight_2 rfl fl_8_75 n_0 gf_0_10 ?_
  refine fe_ld2 (pc' := 8) dX8_asLight_5 rfl kl_8_331 ?_
  refine fe_ladd (pc' := 9) dX8_asLight_8 rfl ?_
  refine fe_pl (pc' := 12) dX8_asLight_9 rfl fl_8_75 n_0 s_0 rfl ⟨rfl, rfl⟩ ?_
  refine fe_lan (pc' := 13) dX8_asLight_12 rfl rfl ?_
  refine fe_lin (pc' := 14) dX8_asLight_13 rfl rfl ?_
  obtain ⟨q1, hq2, h⟩ := am_bd h
  refine fe_iv (pc' := 17) (as := [.ref 0, .int x1]) (h1 := (sh0, q1.1)) (r1 := some (.int q1.2)) (st' := [.int q1.2]) dX8_asLight_14 rfl cl_8_308 rfl rfl s_0 ms_107 ⟨n_0, rfl, by decide, Nat.le_of_ble_eq_true rfl, Nat.le_of_ble_eq_true rfl⟩ (am_le0 _ _ _) (am_up (by decide) (ev_Tb_asLoad hq2)) rfl ?_
  refine fe_lan (pc' := 18) dX8_asLight_17 rfl rfl ?_
  refine fe_gf (pc' := 21) dX8_asLight_18 rfl fl_8_19 n_0 gf_0_1 ?_
  refine fe_gf (pc' := 24) dX8_asLight_21 rfl fl_8_139 n_3 gf_3_4 ?_
  refine fe_lin (pc' := 25) dX8_asLight_24 rfl rfl ?_
  obtain ⟨hi3, h⟩ := am_gd rfl h
  refine fe_al (pc' := 26) (j := x1.toNatClampNeg) dX8_asLight_25 rfl n_6 s_6 hi3 rfl ?_
  refine fe_isub (pc' := 27) dX8_asLight_26 rfl ?_
  cases h
  exact fe_ri dX8_asLight_27 rfl
-- Tb_asDamp: X8_asDamp
set_option maxRecDepth 4000 in
theorem ev_Tb_asDamp {g : am_G} {x1 : Int32} {w : (am_G × Int32)} (h : Tb_asDamp g x1 = some w) : am_Ev 5 110 [.ref 0, .int x1] (sh0, g) (sh0, w.1) (some (.int w.2)) := by
  unfold Tb_asDamp at h
  refine am_ev mX8_asDamp (by rfl) (Nat.le_of_ble_eq_true rfl) [(0, .ref 0), (1, .int x1)] rfl ?_
  refine fe_lan (pc' := 1) dX8_asDamp_0 rfl rfl ?_
  refine fe_dup (pc' := 2) dX8_asDamp_1 rfl rfl ?_
  refine fe_gf (pc' := 5) dX8_asDamp_2 rfl fl_8_75 n_0 gf_0_10 ?_
  refine fe_ld2 (pc' := 8) dX8_asDamp_5 rfl kl_8_333 ?_
  refine fe_ladd (pc' := 9) dX8_asDamp_8 rfl ?_
  refine fe_pl (pc' := 12) dX8_asDamp_9 rfl fl_8_75 n_0 s_0 rfl ⟨rfl, rfl⟩ ?_
  refine fe_lan (pc' := 13) dX8_asDamp_12 rfl rfl ?_
  refine fe_lin (pc' := 14) dX8_asDamp_13 rfl rfl ?_
  obtain ⟨q1, hq2, h⟩ := am_bd h
  refine fe_iv (pc' := 17) (as := [.ref 0, .int x1]) (h1 := (sh0, q1.1)) (r1 := some (.int q1.2)) (st' := [.int q1.2]) dX8_asDamp_14 rfl cl_8_311 rfl rfl s_0 ms_108 ⟨n_0, rfl, by decide, Nat.le_of_ble_eq_true rfl, Nat.le_of_ble_eq_true rfl⟩ (am_le0 _ _ _) (am_up (by decide) (ev_Tb_asHeavy hq2)) rfl ?_
  refine fe_ic (pc' := 18) dX8_asDamp_17 rfl ic_2 ?_
  refine fe_imul (pc' := 19) dX8_asDamp_18 rfl ?_
  cases h
  exact fe_ri dX8_asDamp_19 rfl
-- Tb_asEaten: X8_asEaten
set_option maxRecDepth 4000 in
theorem ev_Tb_asEaten {g : am_G} {x1 : Int32} {w : (am_G × Int32)} (h : Tb_asEaten g x1 = some w) : am_Ev 5 111 [.ref 0, .int x1] (sh0, g) (sh0, w.1) (some (.int w.2)) := by
  unfold Tb_asEaten at h
  refine am_ev mX8_asEaten (by rfl) (Nat.le_of_ble_eq_true rfl) [(0, .ref 0), (1, .int x1)] rfl ?_
  refine fe_lan (pc' := 1) dX8_asEaten_0 rfl rfl ?_
  refine fe_dup (pc' := 2) dX8_asEaten_1 rfl rfl ?_
  refine fe_gf (pc' := 5) dX8_asEaten_2 rfl fl_8_75 n_0 gf_0_10 ?_
  refine fe_ld2 (pc' := 8) dX8_asEaten_5 rfl kl_8_335 ?_
  refine fe_ladd (pc' := 9) dX8_asEaten_8 rfl ?_
  refine fe_pl (pc' := 12) dX8_asEaten_9 rfl fl_8_75 n_0 s_0 rfl ⟨rfl, rfl⟩ ?_
  refine fe_lan (pc' := 13) dX8_asEaten_12 rfl rfl ?_
  refine fe_lin (pc' := 14) dX8_asEaten_13 rfl rfl ?_
  obtain ⟨q1, hq2, h⟩ := am_bd h
  refine fe_iv (pc' := 17) (as := [.ref 0, .int x1]) (h1 := (sh0, q1.1)) (r1 := some (.int q1.2)) (st' := [.int q1.2]) dX8_asEaten_14 rfl cl_8_314 rfl rfl s_0 ms_109 ⟨n_0, rfl, by decide, Nat.le_of_ble_eq_true rfl, Nat.le_of_ble_eq_true rfl⟩ (am_le0 _ _ _) (am_up (by decide) (ev_Tb_asLight hq2)) rfl ?_
  refine fe_lan (pc' := 18) dX8_asEaten_17 rfl rfl ?_
  refine fe_gf (pc' := 21) dX8_asEaten_18 rfl fl_8_45 n_0 gf_0_4 ?_
  refine fe_gf (pc' := 24) dX8_asEaten_21 rfl fl_8_197 (sc_ne sc_28) (cg_1 sc_28) ?_
  refine fe_iadd (pc' := 25) dX8_asEaten_24 rfl ?_
  cases h
  exact fe_ri dX8_asEaten_25 rfl
-- Tb_asSilent: X8_asSilent
set_option maxRecDepth 4000 in
theorem ev_Tb_asSilent {g : am_G} {x1 : Int32} {w : (am_G × Int32)} (h : Tb_asSilent g x1 = some w) : am_Ev 4 112 [.ref 0, .int x1] (sh0, g) (sh0, w.1) (some (.int w.2)) := by
  unfold Tb_asSilent at h
  refine am_ev mX8_asSilent (by rfl) (Nat.le_of_ble_eq_true rfl) [(0, .ref 0), (1, .int x1)] rfl ?_
  refine fe_lan (pc' := 1) dX8_asSilent_0 rfl rfl ?_
  refine fe_dup (pc' := 2) dX8_asSilent_1 rfl rfl ?_
  refine fe_gf (pc' := 5) dX8_asSilent_2 rfl fl_8_75 n_0 gf_0_10 ?_
  refine fe_ld2 (pc' := 8) dX8_asSilent_5 rfl kl_8_337 ?_
  refine fe_ladd (pc' := 9) dX8_asSilent_8 rfl ?_
  refine fe_pl (pc' := 12) dX8_asSilent_9 rfl fl_8_75 n_0 s_0 rfl ⟨rfl, rfl⟩ ?_
  refine fe_lan (pc' := 13) dX8_asSilent_12 rfl rfl ?_
  refine fe_lin (pc' := 14) dX8_asSilent_13 rfl rfl ?_
  obtain ⟨q1, hq2, h⟩ := am_bd h
  refine fe_iv (pc' := 17) (as := [.ref 0, .int x1]) (h1 := (sh0, q1.1)) (r1 := some (.int q1.2)) (st' := [.int q1.2]) dX8_asSilent_14 rfl cl_8_308 rfl rfl s_0 ms_107 ⟨n_0, rfl, by decide, Nat.le_of_ble_eq_true rfl, Nat.le_of_ble_eq_true rfl⟩ (am_le0 _ _ _) (am_up (by decide) (ev_Tb_asLoad hq2)) rfl ?_
  refine fe_lan (pc' := 18) dX8_asSilent_17 rfl rfl ?_
  refine fe_gf (pc' := 21) dX8_asSilent_18 rfl fl_8_45 n_0 gf_0_4 ?_
  refine fe_gf (pc' := 24) dX8_asSilent_21 rfl fl_8_181 (sc_ne sc_28) (cg_4 sc_28) ?_
  refine fe_iadd (pc' := 25) dX8_asSilent_24 rfl ?_
  cases h
  exact fe_ri dX8_asSilent_25 rfl
-- Tb_mark: X8_mark
set_option maxRecDepth 4000 in
theorem ev_Tb_mark {g : am_G} {x1 x2 : Int32} {w : (am_G × Int32)} (h : Tb_mark g x1 x2 = some w) : am_Ev 6 102 [.ref 0, .int x1, .int x2] (sh0, g) (sh0, w.1) (some (.int w.2)) := by
  unfold Tb_mark at h
  refine am_ev mX8_mark (by rfl) (Nat.le_of_ble_eq_true rfl) [(0, .ref 0), (1, .int x1), (2, .int x2)] rfl ?_
  refine fe_lan (pc' := 1) dX8_mark_0 rfl rfl ?_
  refine fe_lin (pc' := 2) dX8_mark_1 rfl rfl ?_
  obtain ⟨q1, hq2, h⟩ := am_bd h
  refine fe_iv (pc' := 5) (as := [.ref 0, .int x2]) (h1 := (sh0, g)) (r1 := some (.int (am_b q1))) (st' := [.int (am_b q1)]) dX8_mark_2 rfl cl_8_136 rfl rfl s_0 ms_114 ⟨n_0, rfl, by decide, Nat.le_of_ble_eq_true rfl, Nat.le_of_ble_eq_true rfl⟩ (am_le0 _ _ _) (am_up (by decide) (ev_Tb_isThing hq2)) rfl ?_
  refine fe_bF (pc' := 8) (tgt := 12) dX8_mark_5 rfl rfl rfl (fun hc3 => ?_) (fun hc3 => ?_)
  · replace h := (if_pos hc3).symm.trans h
    refine fe_lin (pc' := 13) dX8_mark_12 rfl rfl ?_
    by_cases hc4 : x1 = 0
    · replace h := (if_pos hc4).symm.trans h
      refine fe_tsI (tgt := 52) dX8_mark_13 0 hc4 (by decide) rfl rfl ?_
      refine fe_lan (pc' := 53) dX8_mark_52 rfl rfl ?_
      refine fe_lin (pc' := 54) dX8_mark_53 rfl rfl ?_
      obtain ⟨q5, hq6, h⟩ := am_bd h
      refine fe_iv (pc' := 57) (as := [.ref 0, .int x2]) (h1 := (sh0, q5.1)) (r1 := some (.int q5.2)) (st' := [.int q5.2]) dX8_mark_54 rfl cl_8_308 rfl rfl s_0 ms_107 ⟨n_0, rfl, by decide, Nat.le_of_ble_eq_true rfl, Nat.le_of_ble_eq_true rfl⟩ (am_le0 _ _ _) (am_up (by decide) (ev_Tb_asLoad hq6)) rfl ?_
      cases h
      exact fe_ri dX8_mark_57 rfl
    replace h := (if_neg hc4).symm.trans h
    by_cases hc7 : x1 = 1
    · replace h := (if_pos hc7).symm.trans h
      refine fe_tsI (tgt := 58) dX8_mark_13 1 hc7 (by decide) rfl rfl ?_
      refine fe_lan (pc' := 59) dX8_mark_58 rfl rfl ?_
      refine fe_lin (pc' := 60) dX8_mark_59 rfl rfl ?_
      obtain ⟨q8, hq9, h⟩ := am_bd h
      refine fe_iv (pc' := 63) (as := [.ref 0, .int x2]) (h1 := (sh0, q8.1)) (r1 := some (.int q8.2)) (st' := [.int q8.2]) dX8_mark_60 rfl cl_8_311 rfl rfl s_0 ms_108 ⟨n_0, rfl, by decide, Nat.le_of_ble_eq_true rfl, Nat.le_of_ble_eq_true rfl⟩ (am_le0 _ _ _) (am_up (by decide) (ev_Tb_asHeavy hq9)) rfl ?_
      cases h
      exact fe_ri dX8_mark_63 rfl
    replace h := (if_neg hc7).symm.trans h
    by_cases hc10 : x1 = 2
    · replace h := (if_pos hc10).symm.trans h
      refine fe_tsI (tgt := 64) dX8_mark_13 2 hc10 (by decide) rfl rfl ?_
      refine fe_lan (pc' := 65) dX8_mark_64 rfl rfl ?_
      refine fe_lin (pc' := 66) dX8_mark_65 rfl rfl ?_
      obtain ⟨q11, hq12, h⟩ := am_bd h
      refine fe_iv (pc' := 69) (as := [.ref 0, .int x2]) (h1 := (sh0, q11.1)) (r1 := some (.int q11.2)) (st' := [.int q11.2]) dX8_mark_66 rfl cl_8_314 rfl rfl s_0 ms_109 ⟨n_0, rfl, by decide, Nat.le_of_ble_eq_true rfl, Nat.le_of_ble_eq_true rfl⟩ (am_le0 _ _ _) (am_up (by decide) (ev_Tb_asLight hq12)) rfl ?_
      cases h
      exact fe_ri dX8_mark_69 rfl
    replace h := (if_neg hc10).symm.trans h
    by_cases hc13 : x1 = 3
    · replace h := (if_pos hc13).symm.trans h
      refine fe_tsI (tgt := 70) dX8_mark_13 3 hc13 (by decide) rfl rfl ?_
      refine fe_lan (pc' := 71) dX8_mark_70 rfl rfl ?_
      refine fe_lin (pc' := 72) dX8_mark_71 rfl rfl ?_
      obtain ⟨q14, hq15, h⟩ := am_bd h
      refine fe_iv (pc' := 75) (as := [.ref 0, .int x2]) (h1 := (sh0, q14.1)) (r1 := some (.int q14.2)) (st' := [.int q14.2]) dX8_mark_72 rfl cl_8_317 rfl rfl s_0 ms_110 ⟨n_0, rfl, by decide, Nat.le_of_ble_eq_true rfl, Nat.le_of_ble_eq_true rfl⟩ (am_le0 _ _ _) (am_up (by decide) (ev_Tb_asDamp hq15)) rfl ?_
      cases h
      exact fe_ri dX8_mark_75 rfl
    replace h := (if_neg hc13).symm.trans h
    by_cases hc16 : x1 = 4
    · replace h := (if_pos hc16).symm.trans h
      refine fe_tsI (tgt := 76) dX8_mark_13 4 hc16 (by decide) rfl rfl ?_
      refine fe_lan (pc' := 77) dX8_mark_76 rfl rfl ?_
      refine fe_lin (pc' := 78) dX8_mark_77 rfl rfl ?_
      obtain ⟨q17, hq18, h⟩ := am_bd h
      refine fe_iv (pc' := 81) (as := [.ref 0, .int x2]) (h1 := (sh0, q17.1)) (r1 := some (.int q17.2)) (st' := [.int q17.2]) dX8_mark_78 rfl cl_8_320 rfl rfl s_0 ms_111 ⟨n_0, rfl, by decide, Nat.le_of_ble_eq_true rfl, Nat.le_of_ble_eq_true rfl⟩ (am_le0 _ _ _) (am_up (by decide) (ev_Tb_asEaten hq18)) rfl ?_
      cases h
      exact fe_ri dX8_mark_81 rfl
    replace h := (if_neg hc16).symm.trans h
    by_cases hc19 : x1 = 5
    · replace h := (if_pos hc19).symm.trans h
      refine fe_tsI (tgt := 82) dX8_mark_13 5 hc19 (by decide) rfl rfl ?_
      refine fe_lan (pc' := 83) dX8_mark_82 rfl rfl ?_
      refine fe_lin (pc' := 84) dX8_mark_83 rfl rfl ?_
      obtain ⟨q20, hq21, h⟩ := am_bd h
      refine fe_iv (pc' := 87) (as := [.ref 0, .int x2]) (h1 := (sh0, q20.1)) (r1 := some (.int q20.2)) (st' := [.int q20.2]) dX8_mark_84 rfl cl_8_323 rfl rfl s_0 ms_112 ⟨n_0, rfl, by decide, Nat.le_of_ble_eq_true rfl, Nat.le_of_ble_eq_true rfl⟩ (am_le0 _ _ _) (am_up (by decide) (ev_Tb_asSilent hq21)) rfl ?_
      cases h
      exact fe_ri dX8_mark_87 rfl
    replace h := (if_neg hc19).symm.trans h
    refine fe_tsO (tgt := 88) dX8_mark_13 (by exact am_tsO 6 (by decide) (fun k hk => by rcases (show k = 0 ∨ k = 1 ∨ k = 2 ∨ k = 3 ∨ k = 4 ∨ k = 5 by omega) with rfl | rfl | rfl | rfl | rfl | rfl <;> assumption)) rfl ?_
    refine fe_ldw (pc' := 91) dX8_mark_88 rfl kc_8_307 ?_
    cases h
    exact fe_ri dX8_mark_91 rfl
  · replace h := (if_neg hc3).symm.trans h
    refine fe_ldw (pc' := 11) dX8_mark_8 rfl kc_8_307 ?_
    cases h
    exact fe_ri dX8_mark_11 rfl
-- Jo_copyFrom: X3_copyFrom
set_option maxRecDepth 4000 in
theorem lp_Jo_copyFrom_L13 {c : Nat} {o : Nat} (hc : c ∈ am_jours) (ho : o ∈ am_jours) {hE : am_H} {r : Option Value} : ∀ (n : Nat) (g : am_G) (x2 : Int32) (w : am_G), Jo_copyFrom_L13 n g c o x2 = some w → am_E 1 mX3_copyFrom (40, [(0, .ref c), (1, .ref o)], [], (sh0, w)) hE r → am_E 1 mX3_copyFrom (13, [(0, .ref c), (1, .ref o), (2, .int x2)], [], (sh0, g)) hE r := by
  intro n
  induction n with
  | zero => intro g x2 q h; cases h
  | succ n ih =>
    intro g x2 q h k1
    replace h : _ = _ := h
    unfold Jo_copyFrom_L13 at h
    refine fe_lin (pc' := 14) dX3_copyFrom_13 rfl rfl ?_
    refine fe_bp (pc' := 16) dX3_copyFrom_14 rfl ib_10 ?_
    refine fe_ic_ge (pc' := 19) (tgt := 40) dX3_copyFrom_16 rfl rfl (fun hc3 => ?_) (fun hc3 => ?_)
    · replace h := (if_pos hc3).symm.trans h
      refine fe_pick [0, 1] rfl ?_
      cases h
      exact k1
    · replace h := (if_neg hc3).symm.trans h
      refine fe_lan (pc' := 20) dX3_copyFrom_19 rfl rfl ?_
      refine fe_gf (pc' := 23) dX3_copyFrom_20 rfl fl_3_11 (sj_ne hc) (jg_1 hc) ?_
      refine fe_lin (pc' := 24) dX3_copyFrom_23 rfl rfl ?_
      obtain ⟨hi4, h⟩ := am_gd rfl h
      refine fe_rl (pc' := 25) (b := c + 6 + 4 * x2.toNatClampNeg) dX3_copyFrom_24 rfl (sj_n1 hc) (sj_1 hc) (Or.inl rfl) hi4 (sj_r hi4) (sc_ne (sj_p hc hi4)) ?_
      refine fe_lan (pc' := 26) dX3_copyFrom_25 rfl rfl ?_
      refine fe_gf (pc' := 29) dX3_copyFrom_26 rfl fl_3_11 (sj_ne ho) (jg_1 ho) ?_
      refine fe_lin (pc' := 30) dX3_copyFrom_29 rfl rfl ?_
      refine fe_rl (pc' := 31) (b := o + 6 + 4 * x2.toNatClampNeg) dX3_copyFrom_30 rfl (sj_n1 ho) (sj_1 ho) (Or.inl rfl) hi4 (sj_r hi4) (sc_ne (sj_p ho hi4)) ?_
      obtain ⟨q5, hq6, h⟩ := am_bd h
      refine fe_iv (pc' := 34) (as := [.ref (c + 6 + 4 * x2.toNatClampNeg), .ref (o + 6 + 4 * x2.toNatClampNeg)]) (h1 := (sh0, q5)) (r1 := none) (st' := []) dX3_copyFrom_31 rfl cl_3_34 rfl rfl (sc_o (sj_p hc hi4)) ms_24 ⟨(sc_ne (sj_p hc hi4)), rfl, by decide, Nat.le_of_ble_eq_true rfl, Nat.le_of_ble_eq_true rfl⟩ (am_le0 _ _ _) (am_up (by decide) (ev_Ca_copyFrom (sj_p hc hi4) (sj_p ho hi4) hq6)) rfl ?_
      refine fe_inc (pc' := 37) (lo' := [(0, .ref c), (1, .ref o), (2, .int (x2 + 1))]) dX3_copyFrom_34 rfl ic_1 (Nat.le_of_ble_eq_true rfl) rfl rfl ?_
      refine fe_go (tgt := 13) dX3_copyFrom_37 rfl ?_
      exact ih q5 (x2 + 1) q h k1
set_option maxRecDepth 4000 in
theorem ev_Jo_copyFrom {g : am_G} {c : Nat} {o : Nat} {w : am_G} (hc : c ∈ am_jours) (ho : o ∈ am_jours) (h : Jo_copyFrom g c o  = some w) : am_Ev 2 48 [.ref c, .ref o] (sh0, g) (sh0, w) (none) := by
  unfold Jo_copyFrom at h
  refine am_ev mX3_copyFrom (by rfl) (Nat.le_of_ble_eq_true rfl) [(0, .ref c), (1, .ref o)] rfl ?_
  refine fe_lan (pc' := 1) dX3_copyFrom_0 rfl rfl ?_
  refine fe_gf (pc' := 4) dX3_copyFrom_1 rfl fl_3_27 (sj_ne hc) (jg_0 hc) ?_
  refine fe_lan (pc' := 5) dX3_copyFrom_4 rfl rfl ?_
  refine fe_gf (pc' := 8) dX3_copyFrom_5 rfl fl_3_27 (sj_ne ho) (jg_0 ho) ?_
  obtain ⟨q1, hq2, h⟩ := am_bd h
  refine fe_iv (pc' := 11) (as := [.ref (c + 2), .ref (o + 2)]) (h1 := (sh0, q1)) (r1 := none) (st' := []) dX3_copyFrom_8 rfl cl_3_34 rfl rfl (sc_o (sj_c hc)) ms_24 ⟨(sc_ne (sj_c hc)), rfl, by decide, Nat.le_of_ble_eq_true rfl, Nat.le_of_ble_eq_true rfl⟩ (am_le0 _ _ _) (am_up (by decide) (ev_Ca_copyFrom (sj_c hc) (sj_c ho) hq2)) rfl ?_
  refine fe_ic (pc' := 12) dX3_copyFrom_11 rfl ic_0 ?_
  refine fe_sin (pc' := 13) (lo' := [(0, .ref c), (1, .ref o), (2, .int 0)]) dX3_copyFrom_12 rfl (Nat.le_of_ble_eq_true rfl) rfl ?_
  obtain ⟨q7, hq8, h⟩ := am_bd h
  refine lp_Jo_copyFrom_L13 hc ho _ q1 0 q7 hq8 ?_
  refine fe_lan (pc' := 41) dX3_copyFrom_40 rfl rfl ?_
  refine fe_lan (pc' := 42) dX3_copyFrom_41 rfl rfl ?_
  refine fe_gf (pc' := 45) dX3_copyFrom_42 rfl fl_3_17 (sj_ne ho) (jg_2 ho) ?_
  refine fe_pi (pc' := 48) dX3_copyFrom_45 rfl fl_3_17 (sj_ne hc) (sj_o hc) rfl ⟨rfl, Or.inl rfl⟩ ?_
  refine fe_lan (pc' := 49) dX3_copyFrom_48 rfl rfl ?_
  refine fe_lan (pc' := 50) dX3_copyFrom_49 rfl rfl ?_
  refine fe_gf (pc' := 53) dX3_copyFrom_50 rfl fl_3_21 (sj_ne ho) (jg_3 ho) ?_
  refine fe_pi (pc' := 56) dX3_copyFrom_53 rfl fl_3_21 (sj_ne hc) (sj_o hc) rfl ⟨rfl, Or.inl rfl⟩ ?_
  cases h
  exact fe_rv dX3_copyFrom_56 rfl
-- Tb_keep: X8_keep
set_option maxRecDepth 4000 in
theorem ev_Tb_keep {g : am_G} {x1 : Int32} {w : (am_G × Int32)} (h : Tb_keep g x1 = some w) : am_Ev 3 103 [.ref 0, .int x1] (sh0, g) (sh0, w.1) (some (.int w.2)) := by
  unfold Tb_keep at h
  refine am_ev mX8_keep (by rfl) (Nat.le_of_ble_eq_true rfl) [(0, .ref 0), (1, .int x1)] rfl ?_
  refine fe_lin (pc' := 1) dX8_keep_0 rfl rfl ?_
  refine fe_ic (pc' := 2) dX8_keep_1 rfl ic_0 ?_
  refine fe_ic (pc' := 3) dX8_keep_2 rfl ic_1 ?_
  obtain ⟨q1, hq2, h⟩ := am_bd h
  refine fe_is (pc' := 6) (as := [.int x1, .int 0, .int 1]) (h1 := (sh0, g)) (r1 := some (.int (am_b q1))) (st' := [.int (am_b q1)]) dX8_keep_3 rfl cl_8_79 (Or.inl rfl) rfl rfl ⟨Nat.le_of_ble_eq_true rfl, Nat.le_of_ble_eq_true rfl⟩ (am_le0 _ _ _) (am_up (by decide) (ev_Tb_isWithin hq2)) rfl ?_
  refine fe_bF (pc' := 9) (tgt := 11) dX8_keep_6 rfl rfl rfl (fun hc3 => ?_) (fun hc3 => ?_)
  · replace h := (if_pos hc3).symm.trans h
    refine fe_lan (pc' := 12) dX8_keep_11 rfl rfl ?_
    refine fe_gf (pc' := 15) dX8_keep_12 rfl fl_8_46 n_0 gf_0_5 ?_
    refine fe_lin (pc' := 16) dX8_keep_15 rfl rfl ?_
    obtain ⟨hi4, h⟩ := am_gd rfl h
    refine fe_rl (pc' := 17) (b := 129 + 46 * x1.toNatClampNeg) dX8_keep_16 rfl n_72 s_72 (Or.inr rfl) hi4 (si_r hi4) (sj_ne (si_j hi4)) ?_
    refine fe_lan (pc' := 18) dX8_keep_17 rfl rfl ?_
    refine fe_gf (pc' := 21) dX8_keep_18 rfl fl_8_37 n_0 gf_0_3 ?_
    obtain ⟨q5, hq6, h⟩ := am_bd h
    refine fe_iv (pc' := 24) (as := [.ref (129 + 46 * x1.toNatClampNeg), .ref 26]) (h1 := (sh0, q5)) (r1 := none) (st' := []) dX8_keep_21 rfl cl_8_326 rfl rfl (sj_o (si_j hi4)) ms_48 ⟨(sj_ne (si_j hi4)), rfl, by decide, Nat.le_of_ble_eq_true rfl, Nat.le_of_ble_eq_true rfl⟩ (am_le0 _ _ _) (am_up (by decide) (ev_Jo_copyFrom (si_j hi4) sj_26 hq6)) rfl ?_
    refine fe_lan (pc' := 25) dX8_keep_24 rfl rfl ?_
    refine fe_gf (pc' := 28) dX8_keep_25 rfl fl_8_50 n_0 gf_0_6 ?_
    refine fe_lin (pc' := 29) dX8_keep_28 rfl rfl ?_
    refine fe_ic (pc' := 30) dX8_keep_29 rfl ic_1 ?_
    refine fe_bs (pc' := 31) (j := x1.toNatClampNeg) dX8_keep_30 rfl n_73 s_73 hi4 rfl (by decide) ?_
    refine fe_lan (pc' := 32) dX8_keep_31 rfl rfl ?_
    refine fe_gf (pc' := 35) dX8_keep_32 rfl fl_8_45 n_0 gf_0_4 ?_
    refine fe_gf (pc' := 38) dX8_keep_35 rfl fl_8_197 (sc_ne sc_28) (cg_1 sc_28) ?_
    cases h
    exact fe_ri dX8_keep_38 rfl
  · replace h := (if_neg hc3).symm.trans h
    refine fe_ic (pc' := 10) dX8_keep_9 rfl ic_m1 ?_
    cases h
    exact fe_ri dX8_keep_10 rfl
-- Tb_back: X8_back
set_option maxRecDepth 4000 in
theorem ev_Tb_back {g : am_G} {x1 : Int32} {w : (am_G × Int32)} (h : Tb_back g x1 = some w) : am_Ev 3 104 [.ref 0, .int x1] (sh0, g) (sh0, w.1) (some (.int w.2)) := by
  unfold Tb_back at h
  refine am_ev mX8_back (by rfl) (Nat.le_of_ble_eq_true rfl) [(0, .ref 0), (1, .int x1)] rfl ?_
  refine fe_lin (pc' := 1) dX8_back_0 rfl rfl ?_
  refine fe_ic (pc' := 2) dX8_back_1 rfl ic_0 ?_
  refine fe_ic (pc' := 3) dX8_back_2 rfl ic_1 ?_
  obtain ⟨q1, hq2, h⟩ := am_bd h
  refine fe_is (pc' := 6) (as := [.int x1, .int 0, .int 1]) (h1 := (sh0, g)) (r1 := some (.int (am_b q1))) (st' := [.int (am_b q1)]) dX8_back_3 rfl cl_8_79 (Or.inl rfl) rfl rfl ⟨Nat.le_of_ble_eq_true rfl, Nat.le_of_ble_eq_true rfl⟩ (am_le0 _ _ _) (am_up (by decide) (ev_Tb_isWithin hq2)) rfl ?_
  refine fe_bF (pc' := 9) (tgt := 11) dX8_back_6 rfl rfl rfl (fun hc3 => ?_) (fun hc3 => ?_)
  · replace h := (if_pos hc3).symm.trans h
    refine fe_lan (pc' := 12) dX8_back_11 rfl rfl ?_
    refine fe_gf (pc' := 15) dX8_back_12 rfl fl_8_50 n_0 gf_0_6 ?_
    refine fe_lin (pc' := 16) dX8_back_15 rfl rfl ?_
    obtain ⟨hi4, h⟩ := am_gd rfl h
    refine fe_bl (pc' := 17) (j := x1.toNatClampNeg) dX8_back_16 rfl n_73 s_73 hi4 rfl ?_
    refine fe_if_ne (pc' := 20) (tgt := 23) dX8_back_17 rfl rfl (fun hc5 => ?_) (fun hc5 => ?_)
    · replace h := (if_pos hc5).symm.trans h
      refine fe_bp (pc' := 22) dX8_back_20 rfl ib_m2 ?_
      cases h
      exact fe_ri dX8_back_22 rfl
    · replace h := (if_neg hc5).symm.trans h
      refine fe_lan (pc' := 24) dX8_back_23 rfl rfl ?_
      refine fe_gf (pc' := 27) dX8_back_24 rfl fl_8_37 n_0 gf_0_3 ?_
      refine fe_lan (pc' := 28) dX8_back_27 rfl rfl ?_
      refine fe_gf (pc' := 31) dX8_back_28 rfl fl_8_46 n_0 gf_0_5 ?_
      refine fe_lin (pc' := 32) dX8_back_31 rfl rfl ?_
      refine fe_rl (pc' := 33) (b := 129 + 46 * x1.toNatClampNeg) dX8_back_32 rfl n_72 s_72 (Or.inr rfl) hi4 (si_r hi4) (sj_ne (si_j hi4)) ?_
      obtain ⟨q6, hq7, h⟩ := am_bd h
      refine fe_iv (pc' := 36) (as := [.ref 26, .ref (129 + 46 * x1.toNatClampNeg)]) (h1 := (sh0, q6)) (r1 := none) (st' := []) dX8_back_33 rfl cl_8_326 rfl rfl (sj_o sj_26) ms_48 ⟨(sj_ne sj_26), rfl, by decide, Nat.le_of_ble_eq_true rfl, Nat.le_of_ble_eq_true rfl⟩ (am_le0 _ _ _) (am_up (by decide) (ev_Jo_copyFrom sj_26 (si_j hi4) hq7)) rfl ?_
      refine fe_lan (pc' := 37) dX8_back_36 rfl rfl ?_
      refine fe_gf (pc' := 40) dX8_back_37 rfl fl_8_45 n_0 gf_0_4 ?_
      refine fe_gf (pc' := 43) dX8_back_40 rfl fl_8_197 (sc_ne sc_28) (cg_1 sc_28) ?_
      cases h
      exact fe_ri dX8_back_43 rfl
  · replace h := (if_neg hc3).symm.trans h
    refine fe_ic (pc' := 10) dX8_back_9 rfl ic_m1 ?_
    cases h
    exact fe_ri dX8_back_10 rfl
-- Tb_count: X8_count
set_option maxRecDepth 4000 in
theorem ev_Tb_count {g : am_G} {x1 : Int32} {w : Int32} (h : Tb_count g x1 = some w) : am_Ev 1 105 [.ref 0, .int x1] (sh0, g) (sh0, g) (some (.int w)) := by
  unfold Tb_count at h
  refine am_ev mX8_count (by rfl) (Nat.le_of_ble_eq_true rfl) [(0, .ref 0), (1, .int x1)] rfl ?_
  refine fe_lin (pc' := 1) dX8_count_0 rfl rfl ?_
  by_cases hc1 : x1 = 0
  · replace h := (if_pos hc1).symm.trans h
    refine fe_tsI (tgt := 40) dX8_count_1 0 hc1 (by decide) rfl rfl ?_
    refine fe_lan (pc' := 41) dX8_count_40 rfl rfl ?_
    refine fe_gf (pc' := 44) dX8_count_41 rfl fl_8_19 n_0 gf_0_1 ?_
    refine fe_gf (pc' := 47) dX8_count_44 rfl fl_8_243 n_3 gf_3_0 ?_
    cases h
    exact fe_ri dX8_count_47 rfl
  replace h := (if_neg hc1).symm.trans h
  by_cases hc2 : x1 = 1
  · replace h := (if_pos hc2).symm.trans h
    refine fe_tsI (tgt := 48) dX8_count_1 1 hc2 (by decide) rfl rfl ?_
    refine fe_lan (pc' := 49) dX8_count_48 rfl rfl ?_
    refine fe_gf (pc' := 52) dX8_count_49 rfl fl_8_19 n_0 gf_0_1 ?_
    refine fe_gf (pc' := 55) dX8_count_52 rfl fl_8_240 n_3 gf_3_3 ?_
    cases h
    exact fe_ri dX8_count_55 rfl
  replace h := (if_neg hc2).symm.trans h
  by_cases hc3 : x1 = 2
  · replace h := (if_pos hc3).symm.trans h
    refine fe_tsI (tgt := 56) dX8_count_1 2 hc3 (by decide) rfl rfl ?_
    refine fe_lan (pc' := 57) dX8_count_56 rfl rfl ?_
    refine fe_gf (pc' := 60) dX8_count_57 rfl fl_8_19 n_0 gf_0_1 ?_
    refine fe_gf (pc' := 63) dX8_count_60 rfl fl_8_163 n_3 gf_3_9 ?_
    cases h
    exact fe_ri dX8_count_63 rfl
  replace h := (if_neg hc3).symm.trans h
  by_cases hc4 : x1 = 3
  · replace h := (if_pos hc4).symm.trans h
    refine fe_tsI (tgt := 64) dX8_count_1 3 hc4 (by decide) rfl rfl ?_
    refine fe_lan (pc' := 65) dX8_count_64 rfl rfl ?_
    refine fe_gf (pc' := 68) dX8_count_65 rfl fl_8_71 n_0 gf_0_9 ?_
    refine fe_gf (pc' := 71) dX8_count_68 rfl fl_8_107 n_121 gf_121_2 ?_
    cases h
    exact fe_ri dX8_count_71 rfl
  replace h := (if_neg hc4).symm.trans h
  by_cases hc5 : x1 = 4
  · replace h := (if_pos hc5).symm.trans h
    refine fe_tsI (tgt := 72) dX8_count_1 4 hc5 (by decide) rfl rfl ?_
    refine fe_lan (pc' := 73) dX8_count_72 rfl rfl ?_
    refine fe_gf (pc' := 76) dX8_count_73 rfl fl_8_37 n_0 gf_0_3 ?_
    refine fe_gf (pc' := 79) dX8_count_76 rfl fl_8_210 (sj_ne sj_26) (jg_2 sj_26) ?_
    cases h
    exact fe_ri dX8_count_79 rfl
  replace h := (if_neg hc5).symm.trans h
  by_cases hc6 : x1 = 5
  · replace h := (if_pos hc6).symm.trans h
    refine fe_tsI (tgt := 80) dX8_count_1 5 hc6 (by decide) rfl rfl ?_
    refine fe_lan (pc' := 81) dX8_count_80 rfl rfl ?_
    refine fe_gf (pc' := 84) dX8_count_81 rfl fl_8_10 n_0 gf_0_0 ?_
    refine fe_gf (pc' := 87) dX8_count_84 rfl fl_8_87 n_1 gf_1_1 ?_
    cases h
    exact fe_ri dX8_count_87 rfl
  replace h := (if_neg hc6).symm.trans h
  refine fe_tsO (tgt := 88) dX8_count_1 (by exact am_tsO 6 (by decide) (fun k hk => by rcases (show k = 0 ∨ k = 1 ∨ k = 2 ∨ k = 3 ∨ k = 4 ∨ k = 5 by omega) with rfl | rfl | rfl | rfl | rfl | rfl <;> assumption)) rfl ?_
  refine fe_ic (pc' := 89) dX8_count_88 rfl ic_m1 ?_
  cases h
  exact fe_ri dX8_count_89 rfl
-- Tb_trace: X8_trace
set_option maxRecDepth 4000 in
theorem ev_Tb_trace {g : am_G} {w : Int64} (h : Tb_trace g  = some w) : am_Ev 1 106 [.ref 0] (sh0, g) (sh0, g) (some (.long w)) := by
  unfold Tb_trace at h
  refine am_ev mX8_trace (by rfl) (Nat.le_of_ble_eq_true rfl) [(0, .ref 0)] rfl ?_
  refine fe_lan (pc' := 1) dX8_trace_0 rfl rfl ?_
  refine fe_gf (pc' := 4) dX8_trace_1 rfl fl_8_75 n_0 gf_0_10 ?_
  cases h
  exact fe_rl' dX8_trace_4 rfl
-- Mo_type: X9_type
set_option maxRecDepth 4000 in
theorem ev_Mo_type {g : am_G} {x1 : Int32} {w : (am_G × Int32)} (h : Mo_type g x1 = some w) : am_Ev 2 122 [.ref 221, .int x1] (sh0, g) (sh0, w.1) (some (.int w.2)) := by
  unfold Mo_type at h
  refine am_ev mX9_type (by rfl) (Nat.le_of_ble_eq_true rfl) [(0, .ref 221), (1, .int x1)] rfl ?_
  refine fe_lin (pc' := 1) dX9_type_0 rfl rfl ?_
  refine fe_ic (pc' := 2) dX9_type_1 rfl ic_0 ?_
  refine fe_sp (pc' := 5) dX9_type_2 rfl is_255 ?_
  obtain ⟨q1, hq2, h⟩ := am_bd h
  refine fe_is (pc' := 8) (as := [.int x1, .int 0, .int 255]) (h1 := (sh0, g)) (r1 := some (.int (am_b q1))) (st' := [.int (am_b q1)]) dX9_type_5 rfl cl_9_48 (Or.inl rfl) rfl rfl ⟨Nat.le_of_ble_eq_true rfl, Nat.le_of_ble_eq_true rfl⟩ (am_le0 _ _ _) (am_up (by decide) (ev_Mo_in hq2)) rfl ?_
  refine fe_bF (pc' := 11) (tgt := 13) dX9_type_8 rfl rfl rfl (fun hc3 => ?_) (fun hc3 => ?_)
  · replace h := (if_pos hc3).symm.trans h
    refine fe_lan (pc' := 14) dX9_type_13 rfl rfl ?_
    refine fe_gf (pc' := 17) dX9_type_14 rfl fl_9_52 n_221 gf_221_2 ?_
    refine fe_sp (pc' := 20) dX9_type_17 rfl is_200 ?_
    refine fe_ic_ne (pc' := 23) (tgt := 26) dX9_type_20 rfl rfl (fun hc4 => ?_) (fun hc4 => ?_)
    · replace h := (if_pos hc4).symm.trans h
      refine fe_bp (pc' := 25) dX9_type_23 rfl ib_m3 ?_
      cases h
      exact fe_ri dX9_type_25 rfl
    · replace h := (if_neg hc4).symm.trans h
      refine fe_lan (pc' := 27) dX9_type_26 rfl rfl ?_
      refine fe_gf (pc' := 30) dX9_type_27 rfl fl_9_7 n_221 gf_221_1 ?_
      refine fe_lan (pc' := 31) dX9_type_30 rfl rfl ?_
      refine fe_gf (pc' := 34) dX9_type_31 rfl fl_9_52 n_221 gf_221_2 ?_
      refine fe_lin (pc' := 35) dX9_type_34 rfl rfl ?_
      obtain ⟨hi5, h⟩ := am_gd rfl h
      refine fe_as (pc' := 36) (j := (g.1 221 2).toNatClampNeg) dX9_type_35 rfl n_222 s_222 hi5 rfl ?_
      refine fe_lan (pc' := 37) dX9_type_36 rfl rfl ?_
      refine fe_dup (pc' := 38) dX9_type_37 rfl rfl ?_
      refine fe_gf (pc' := 41) dX9_type_38 rfl fl_9_52 n_221 gf_221_2 ?_
      refine fe_ic (pc' := 42) dX9_type_41 rfl ic_1 ?_
      refine fe_iadd (pc' := 43) dX9_type_42 rfl ?_
      refine fe_pi (pc' := 46) dX9_type_43 rfl fl_9_52 n_221 s_221 rfl ⟨rfl, Or.inl rfl⟩ ?_
      refine fe_lan (pc' := 47) dX9_type_46 rfl rfl ?_
      refine fe_gf (pc' := 50) dX9_type_47 rfl fl_9_52 n_221 gf_221_2 ?_
      cases h
      exact fe_ri dX9_type_50 rfl
  · replace h := (if_neg hc3).symm.trans h
    refine fe_ic (pc' := 12) dX9_type_11 rfl ic_m1 ?_
    cases h
    exact fe_ri dX9_type_12 rfl
-- Mo_clear: X9_clear
set_option maxRecDepth 4000 in
theorem ev_Mo_clear {g : am_G} {w : (am_G × Int32)} (h : Mo_clear g  = some w) : am_Ev 1 123 [.ref 221] (sh0, g) (sh0, w.1) (some (.int w.2)) := by
  unfold Mo_clear at h
  refine am_ev mX9_clear (by rfl) (Nat.le_of_ble_eq_true rfl) [(0, .ref 221)] rfl ?_
  refine fe_lan (pc' := 1) dX9_clear_0 rfl rfl ?_
  refine fe_gf (pc' := 4) dX9_clear_1 rfl fl_9_52 n_221 gf_221_2 ?_
  refine fe_sin (pc' := 5) (lo' := [(0, .ref 221), (1, .int (g.1 221 2))]) dX9_clear_4 rfl (Nat.le_of_ble_eq_true rfl) rfl ?_
  refine fe_lan (pc' := 6) dX9_clear_5 rfl rfl ?_
  refine fe_ic (pc' := 7) dX9_clear_6 rfl ic_0 ?_
  refine fe_pi (pc' := 10) dX9_clear_7 rfl fl_9_52 n_221 s_221 rfl ⟨rfl, Or.inl rfl⟩ ?_
  refine fe_lin (pc' := 11) dX9_clear_10 rfl rfl ?_
  cases h
  exact fe_ri dX9_clear_11 rfl
-- Mo_way: X9_way
set_option maxRecDepth 4000 in
theorem ev_Mo_way {g : am_G} {w : (am_G × Int32)} (h : Mo_way g  = some w) : am_Ev 8 135 [.ref 221] (sh0, g) (sh0, w.1) (some (.int w.2)) := by
  unfold Mo_way at h
  refine am_ev mX9_way (by rfl) (Nat.le_of_ble_eq_true rfl) [(0, .ref 221)] rfl ?_
  refine fe_lan (pc' := 1) dX9_way_0 rfl rfl ?_
  obtain ⟨q1, hq2, h⟩ := am_bd h
  refine fe_iv (pc' := 4) (as := [.ref 221]) (h1 := (sh0, q1.1)) (r1 := some (.int (am_b q1.2))) (st' := [.int (am_b q1.2)]) dX9_way_1 rfl cl_9_41 rfl rfl s_221 ms_133 ⟨n_221, rfl, by decide, Nat.le_of_ble_eq_true rfl, Nat.le_of_ble_eq_true rfl⟩ (am_le0 _ _ _) (am_up (by decide) (ev_Mo_reads hq2)) rfl ?_
  refine fe_bF (pc' := 7) (tgt := 15) dX9_way_4 rfl rfl rfl (fun hc3 => ?_) (fun hc3 => ?_)
  · replace h := (if_pos hc3).symm.trans h
    refine fe_lan (pc' := 16) dX9_way_15 rfl rfl ?_
    obtain ⟨q4, hq5, h⟩ := am_bd h
    refine fe_iv (pc' := 19) (as := [.ref 221]) (h1 := (sh0, q4)) (r1 := none) (st' := []) dX9_way_16 rfl cl_9_45 rfl rfl s_221 ms_134 ⟨n_221, rfl, by decide, Nat.le_of_ble_eq_true rfl, Nat.le_of_ble_eq_true rfl⟩ (am_le0 _ _ _) (am_up (by decide) (ev_Mo_tells hq5)) rfl ?_
    refine fe_lan (pc' := 20) dX9_way_19 rfl rfl ?_
    refine fe_ic (pc' := 21) dX9_way_20 rfl ic_0 ?_
    refine fe_pi (pc' := 24) dX9_way_21 rfl fl_9_52 n_221 s_221 rfl ⟨rfl, Or.inl rfl⟩ ?_
    refine fe_lan (pc' := 25) dX9_way_24 rfl rfl ?_
    refine fe_gf (pc' := 28) dX9_way_25 rfl fl_9_13 n_221 gf_221_3 ?_
    refine fe_ic (pc' := 29) dX9_way_28 rfl ic_3 ?_
    refine fe_al (pc' := 30) (j := 3) dX9_way_29 rfl n_223 s_223 (by decide) (by decide) ?_
    cases h
    exact fe_ri dX9_way_30 rfl
  · replace h := (if_neg hc3).symm.trans h
    refine fe_bp (pc' := 9) dX9_way_7 rfl ib_m10 ?_
    refine fe_lan (pc' := 10) dX9_way_9 rfl rfl ?_
    refine fe_gf (pc' := 13) dX9_way_10 rfl fl_9_63 n_221 gf_221_12 ?_
    refine fe_isub (pc' := 14) dX9_way_13 rfl ?_
    cases h
    exact fe_ri dX9_way_14 rfl
-- Mo_isWalker: X9_isWalker
set_option maxRecDepth 4000 in
theorem ev_Mo_isWalker {g : am_G} {x1 : Int32} {w : Bool} (h : Mo_isWalker g x1 = some w) : am_Ev 2 120 [.ref 221, .int x1] (sh0, g) (sh0, g) (some (.int (am_b w))) := by
  unfold Mo_isWalker at h
  refine am_ev mX9_isWalker (by rfl) (Nat.le_of_ble_eq_true rfl) [(0, .ref 221), (1, .int x1)] rfl ?_
  refine fe_lin (pc' := 1) dX9_isWalker_0 rfl rfl ?_
  refine fe_ic (pc' := 2) dX9_isWalker_1 rfl ic_0 ?_
  refine fe_lan (pc' := 3) dX9_isWalker_2 rfl rfl ?_
  refine fe_gf (pc' := 6) dX9_isWalker_3 rfl fl_9_13 n_221 gf_221_3 ?_
  refine fe_ic (pc' := 7) dX9_isWalker_6 rfl ic_0 ?_
  refine fe_al (pc' := 8) (j := 0) dX9_isWalker_7 rfl n_223 s_223 (by decide) (by decide) ?_
  refine fe_ic (pc' := 9) dX9_isWalker_8 rfl ic_1 ?_
  refine fe_isub (pc' := 10) dX9_isWalker_9 rfl ?_
  obtain ⟨q1, hq2, h⟩ := am_bd h
  refine fe_is (pc' := 13) (as := [.int x1, .int 0, .int ((g.1 223 0) - 1)]) (h1 := (sh0, g)) (r1 := some (.int (am_b q1))) (st' := [.int (am_b q1)]) dX9_isWalker_10 rfl cl_9_48 (Or.inl rfl) rfl rfl ⟨Nat.le_of_ble_eq_true rfl, Nat.le_of_ble_eq_true rfl⟩ (am_le0 _ _ _) (am_up (by decide) (ev_Mo_in hq2)) rfl ?_
  cases h
  exact fe_rz _ dX9_isWalker_13 rfl rfl
-- Mo_weighs: X9_weighs
set_option maxRecDepth 4000 in
theorem ev_Mo_weighs {g : am_G} {x1 : Int32} {w : Int32} (h : Mo_weighs g x1 = some w) : am_Ev 1 136 [.ref 221, .int x1] (sh0, g) (sh0, g) (some (.int w)) := by
  unfold Mo_weighs at h
  refine am_ev mX9_weighs (by rfl) (Nat.le_of_ble_eq_true rfl) [(0, .ref 221), (1, .int x1)] rfl ?_
  refine fe_lan (pc' := 1) dX9_weighs_0 rfl rfl ?_
  refine fe_gf (pc' := 4) dX9_weighs_1 rfl fl_9_19 n_221 gf_221_5 ?_
  refine fe_bp (pc' := 6) dX9_weighs_4 rfl ib_15 ?_
  refine fe_lin (pc' := 7) dX9_weighs_6 rfl rfl ?_
  refine fe_iadd (pc' := 8) dX9_weighs_7 rfl ?_
  obtain ⟨hi1, h⟩ := am_gd rfl h
  refine fe_al (pc' := 9) (j := (15 + x1).toNatClampNeg) dX9_weighs_8 rfl n_225 s_225 hi1 rfl ?_
  refine fe_lan (pc' := 10) dX9_weighs_9 rfl rfl ?_
  refine fe_gf (pc' := 13) dX9_weighs_10 rfl fl_9_19 n_221 gf_221_5 ?_
  refine fe_bp (pc' := 15) dX9_weighs_13 rfl ib_22 ?_
  refine fe_lin (pc' := 16) dX9_weighs_15 rfl rfl ?_
  refine fe_iadd (pc' := 17) dX9_weighs_16 rfl ?_
  obtain ⟨hi2, h⟩ := am_gd rfl h
  refine fe_al (pc' := 18) (j := (22 + x1).toNatClampNeg) dX9_weighs_17 rfl n_225 s_225 hi2 rfl ?_
  refine fe_ic (pc' := 19) dX9_weighs_18 rfl ic_1 ?_
  refine fe_ic_ne (pc' := 22) (tgt := 46) dX9_weighs_19 rfl rfl (fun hc3 => ?_) (fun hc3 => ?_)
  · replace h := (if_pos hc3).symm.trans h
    refine fe_lan (pc' := 23) dX9_weighs_22 rfl rfl ?_
    refine fe_gf (pc' := 26) dX9_weighs_23 rfl fl_9_19 n_221 gf_221_5 ?_
    refine fe_bp (pc' := 28) dX9_weighs_26 rfl ib_15 ?_
    refine fe_lin (pc' := 29) dX9_weighs_28 rfl rfl ?_
    refine fe_iadd (pc' := 30) dX9_weighs_29 rfl ?_
    refine fe_al (pc' := 31) (j := (15 + x1).toNatClampNeg) dX9_weighs_30 rfl n_225 s_225 hi1 rfl ?_
    refine fe_if_le (pc' := 34) (tgt := 46) dX9_weighs_31 rfl rfl (fun hc4 => ?_) (fun hc4 => ?_)
    · replace h := (if_pos hc4).symm.trans h
      refine fe_ic (pc' := 47) dX9_weighs_46 rfl ic_0 ?_
      refine fe_iadd (pc' := 48) dX9_weighs_47 rfl ?_
      cases h
      exact fe_ri dX9_weighs_48 rfl
    · replace h := (if_neg hc4).symm.trans h
      refine fe_lan (pc' := 35) dX9_weighs_34 rfl rfl ?_
      refine fe_gf (pc' := 38) dX9_weighs_35 rfl fl_9_13 n_221 gf_221_3 ?_
      refine fe_bp (pc' := 40) dX9_weighs_38 rfl ib_19 ?_
      refine fe_lin (pc' := 41) dX9_weighs_40 rfl rfl ?_
      refine fe_iadd (pc' := 42) dX9_weighs_41 rfl ?_
      obtain ⟨hi5, h⟩ := am_gd rfl h
      refine fe_al (pc' := 43) (j := (19 + x1).toNatClampNeg) dX9_weighs_42 rfl n_223 s_223 hi5 rfl ?_
      refine fe_go (tgt := 47) dX9_weighs_43 rfl ?_
      refine fe_iadd (pc' := 48) dX9_weighs_47 rfl ?_
      cases h
      exact fe_ri dX9_weighs_48 rfl
  · replace h := (if_neg hc3).symm.trans h
    refine fe_ic (pc' := 47) dX9_weighs_46 rfl ic_0 ?_
    refine fe_iadd (pc' := 48) dX9_weighs_47 rfl ?_
    cases h
    exact fe_ri dX9_weighs_48 rfl
-- Mo_load: X9_load
set_option maxRecDepth 4000 in
theorem lp_Mo_load_L4 {hE : am_H} {r : Option Value} : ∀ (n : Nat) (g : am_G) (x1 : Int32) (x2 : Int32) (x3 : Int32) (w : Int32), Mo_load_L4 n g x1 x2 x3 = some w → am_E 1 mX9_load (45, [(2, .int w)], [], (sh0, g)) hE r → am_E 1 mX9_load (4, [(0, .ref 221), (1, .int x1), (2, .int x2), (3, .int x3)], [], (sh0, g)) hE r := by
  intro n
  induction n with
  | zero => intro g x1 x2 x3 q h; cases h
  | succ n ih =>
    intro g x1 x2 x3 q h k1
    replace h : _ = _ := h
    unfold Mo_load_L4 at h
    refine fe_lin (pc' := 5) dX9_load_4 rfl rfl ?_
    refine fe_lan (pc' := 6) dX9_load_5 rfl rfl ?_
    refine fe_gf (pc' := 9) dX9_load_6 rfl fl_9_13 n_221 gf_221_3 ?_
    refine fe_ic (pc' := 10) dX9_load_9 rfl ic_1 ?_
    refine fe_al (pc' := 11) (j := 1) dX9_load_10 rfl n_223 s_223 (by decide) (by decide) ?_
    refine fe_ic_ge (pc' := 14) (tgt := 45) dX9_load_11 rfl rfl (fun hc1 => ?_) (fun hc1 => ?_)
    · replace h := (if_pos hc1).symm.trans h
      refine fe_pick [2] rfl ?_
      cases h
      exact k1
    · replace h := (if_neg hc1).symm.trans h
      refine fe_lin (pc' := 15) dX9_load_14 rfl rfl ?_
      refine fe_lan (pc' := 16) dX9_load_15 rfl rfl ?_
      refine fe_gf (pc' := 19) dX9_load_16 rfl fl_9_19 n_221 gf_221_5 ?_
      refine fe_bp (pc' := 21) dX9_load_19 rfl ib_8 ?_
      refine fe_lin (pc' := 22) dX9_load_21 rfl rfl ?_
      refine fe_iadd (pc' := 23) dX9_load_22 rfl ?_
      obtain ⟨hi2, h⟩ := am_gd rfl h
      refine fe_al (pc' := 24) (j := (8 + x3).toNatClampNeg) dX9_load_23 rfl n_225 s_225 hi2 rfl ?_
      refine fe_lin (pc' := 25) dX9_load_24 rfl rfl ?_
      obtain ⟨q6, hq8, h⟩ := am_bd h
      have K : am_E 1 mX9_load (37, [(0, .ref 221), (1, .int x1), (3, .int x3)], [.int q6, .int x2], (sh0, g)) hE r := by
        refine fe_iadd (pc' := 38) dX9_load_37 rfl ?_
        refine fe_sin (pc' := 39) (lo' := [(0, .ref 221), (1, .int x1), (2, .int (x2 + q6)), (3, .int x3)]) dX9_load_38 rfl (Nat.le_of_ble_eq_true rfl) rfl ?_
        refine fe_inc (pc' := 42) (lo' := [(0, .ref 221), (1, .int x1), (2, .int (x2 + q6)), (3, .int (x3 + 1))]) dX9_load_39 rfl ic_1 (Nat.le_of_ble_eq_true rfl) rfl rfl ?_
        refine fe_go (tgt := 4) dX9_load_42 rfl ?_
        exact ih g x1 (x2 + q6) (x3 + 1) q h k1
      replace h := hq8
      refine fe_ic_ne (pc' := 28) (tgt := 36) dX9_load_25 rfl rfl (fun hc3 => ?_) (fun hc3 => ?_)
      · replace h := (if_pos hc3).symm.trans h
        refine fe_lan (pc' := 29) dX9_load_28 rfl rfl ?_
        refine fe_lin (pc' := 30) dX9_load_29 rfl rfl ?_
        obtain ⟨q4, hq5, h⟩ := am_bd h
        refine fe_iv (pc' := 33) (as := [.ref 221, .int x3]) (h1 := (sh0, g)) (r1 := some (.int q4)) (st' := [.int q4, .int x2]) dX9_load_30 rfl cl_9_100 rfl rfl s_221 ms_136 ⟨n_221, rfl, by decide, Nat.le_of_ble_eq_true rfl, Nat.le_of_ble_eq_true rfl⟩ (am_le0 _ _ _) (am_up (by decide) (ev_Mo_weighs hq5)) rfl ?_
        refine fe_go (tgt := 37) dX9_load_33 rfl ?_
        refine fe_pick [0, 1, 3] rfl ?_
        cases h
        exact K
      · replace h := (if_neg hc3).symm.trans h
        refine fe_ic (pc' := 37) dX9_load_36 rfl ic_0 ?_
        refine fe_pick [0, 1, 3] rfl ?_
        cases h
        exact K
set_option maxRecDepth 4000 in
theorem ev_Mo_load {g : am_G} {x1 : Int32} {w : Int32} (h : Mo_load g x1 = some w) : am_Ev 2 137 [.ref 221, .int x1] (sh0, g) (sh0, g) (some (.int w)) := by
  unfold Mo_load at h
  refine am_ev mX9_load (by rfl) (Nat.le_of_ble_eq_true rfl) [(0, .ref 221), (1, .int x1)] rfl ?_
  refine fe_ic (pc' := 1) dX9_load_0 rfl ic_0 ?_
  refine fe_sin (pc' := 2) (lo' := [(0, .ref 221), (1, .int x1), (2, .int 0)]) dX9_load_1 rfl (Nat.le_of_ble_eq_true rfl) rfl ?_
  refine fe_ic (pc' := 3) dX9_load_2 rfl ic_0 ?_
  refine fe_sin (pc' := 4) (lo' := [(0, .ref 221), (1, .int x1), (2, .int 0), (3, .int 0)]) dX9_load_3 rfl (Nat.le_of_ble_eq_true rfl) rfl ?_
  obtain ⟨q7, hq9, h⟩ := am_bd h
  refine lp_Mo_load_L4 _ g x1 0 0 q7 hq9 ?_
  refine fe_lin (pc' := 46) dX9_load_45 rfl rfl ?_
  cases h
  exact fe_ri dX9_load_46 rfl
-- Mo_force: X9_force
set_option maxRecDepth 4000 in
theorem ev_Mo_force {g : am_G} {x1 : Int32} {w : Int32} (h : Mo_force g x1 = some w) : am_Ev 1 138 [.ref 221, .int x1] (sh0, g) (sh0, g) (some (.int w)) := by
  unfold Mo_force at h
  refine am_ev mX9_force (by rfl) (Nat.le_of_ble_eq_true rfl) [(0, .ref 221), (1, .int x1)] rfl ?_
  refine fe_lan (pc' := 1) dX9_force_0 rfl rfl ?_
  refine fe_gf (pc' := 4) dX9_force_1 rfl fl_9_13 n_221 gf_221_3 ?_
  refine fe_ic (pc' := 5) dX9_force_4 rfl ic_4 ?_
  refine fe_lin (pc' := 6) dX9_force_5 rfl rfl ?_
  refine fe_iadd (pc' := 7) dX9_force_6 rfl ?_
  obtain ⟨hi1, h⟩ := am_gd rfl h
  refine fe_al (pc' := 8) (j := (4 + x1).toNatClampNeg) dX9_force_7 rfl n_223 s_223 hi1 rfl ?_
  refine fe_lan (pc' := 9) dX9_force_8 rfl rfl ?_
  refine fe_gf (pc' := 12) dX9_force_9 rfl fl_9_19 n_221 gf_221_5 ?_
  refine fe_ic (pc' := 13) dX9_force_12 rfl ic_4 ?_
  refine fe_lin (pc' := 14) dX9_force_13 rfl rfl ?_
  refine fe_iadd (pc' := 15) dX9_force_14 rfl ?_
  obtain ⟨hi2, h⟩ := am_gd rfl h
  refine fe_al (pc' := 16) (j := (4 + x1).toNatClampNeg) dX9_force_15 rfl n_225 s_225 hi2 rfl ?_
  refine fe_isub (pc' := 17) dX9_force_16 rfl ?_
  cases h
  exact fe_ri dX9_force_17 rfl
-- Mo_pace: X9_pace
set_option maxRecDepth 4000 in
theorem ev_Mo_pace {g : am_G} {x1 x2 : Int32} {w : Int32} (h : Mo_pace g x1 x2 = some w) : am_Ev 2 139 [.ref 221, .int x1, .int x2] (sh0, g) (sh0, g) (some (.int w)) := by
  unfold Mo_pace at h
  refine am_ev mX9_pace (by rfl) (Nat.le_of_ble_eq_true rfl) [(0, .ref 221), (1, .int x1), (2, .int x2)] rfl ?_
  refine fe_lan (pc' := 1) dX9_pace_0 rfl rfl ?_
  refine fe_lin (pc' := 2) dX9_pace_1 rfl rfl ?_
  obtain ⟨q1, hq2, h⟩ := am_bd h
  refine fe_iv (pc' := 5) (as := [.ref 221, .int x1]) (h1 := (sh0, g)) (r1 := some (.int q1)) (st' := [.int q1]) dX9_pace_2 rfl cl_9_103 rfl rfl s_221 ms_138 ⟨n_221, rfl, by decide, Nat.le_of_ble_eq_true rfl, Nat.le_of_ble_eq_true rfl⟩ (am_le0 _ _ _) (am_up (by decide) (ev_Mo_force hq2)) rfl ?_
  refine fe_lin (pc' := 6) dX9_pace_5 rfl rfl ?_
  refine fe_isub (pc' := 7) dX9_pace_6 rfl ?_
  refine fe_bp (pc' := 9) dX9_pace_7 rfl ib_10 ?_
  refine fe_iadd (pc' := 10) dX9_pace_9 rfl ?_
  refine fe_sin (pc' := 11) (lo' := [(0, .ref 221), (1, .int x1), (2, .int x2), (3, .int ((q1 - x2) + 10))]) dX9_pace_10 rfl (Nat.le_of_ble_eq_true rfl) rfl ?_
  refine fe_lin (pc' := 12) dX9_pace_11 rfl rfl ?_
  refine fe_ic (pc' := 13) dX9_pace_12 rfl ic_1 ?_
  refine fe_ic_ge (pc' := 16) (tgt := 20) dX9_pace_13 rfl rfl (fun hc3 => ?_) (fun hc3 => ?_)
  · replace h := (if_pos hc3).symm.trans h
    refine fe_lin (pc' := 21) dX9_pace_20 rfl rfl ?_
    refine fe_bp (pc' := 23) dX9_pace_21 rfl ib_20 ?_
    refine fe_ic_le (pc' := 26) (tgt := 31) dX9_pace_23 rfl rfl (fun hc4 => ?_) (fun hc4 => ?_)
    · replace h := (if_pos hc4).symm.trans h
      refine fe_lin (pc' := 32) dX9_pace_31 rfl rfl ?_
      cases h
      exact fe_ri dX9_pace_32 rfl
    · replace h := (if_neg hc4).symm.trans h
      refine fe_bp (pc' := 28) dX9_pace_26 rfl ib_20 ?_
      refine fe_go (tgt := 32) dX9_pace_28 rfl ?_
      cases h
      exact fe_ri dX9_pace_32 rfl
  · replace h := (if_neg hc3).symm.trans h
    refine fe_ic (pc' := 17) dX9_pace_16 rfl ic_1 ?_
    refine fe_go (tgt := 32) dX9_pace_17 rfl ?_
    cases h
    exact fe_ri dX9_pace_32 rfl
-- Mo_walker: X9_walker
set_option maxRecDepth 4000 in
theorem lp_Mo_walker_L24 {hE : am_H} {r : Option Value} : ∀ (n : Nat) (g : am_G) (x1 : Int32) (x2 : Int32) (x3 : Int32) (x4 : Int32) (w : Int32), Mo_walker_L24 n g x1 x2 x3 x4 = some w → am_E 2 mX9_walker (66, [(0, .ref 221), (1, .int x1), (2, .int x2), (3, .int w)], [], (sh0, g)) hE r → am_E 2 mX9_walker (24, [(0, .ref 221), (1, .int x1), (2, .int x2), (3, .int x3), (4, .int x4)], [], (sh0, g)) hE r := by
  intro n
  induction n with
  | zero => intro g x1 x2 x3 x4 q h; cases h
  | succ n ih =>
    intro g x1 x2 x3 x4 q h k1
    replace h : _ = _ := h
    unfold Mo_walker_L24 at h
    refine fe_li (pc' := 26) dX9_walker_24 rfl rfl ?_
    refine fe_lan (pc' := 27) dX9_walker_26 rfl rfl ?_
    refine fe_gf (pc' := 30) dX9_walker_27 rfl fl_9_13 n_221 gf_221_3 ?_
    refine fe_ic (pc' := 31) dX9_walker_30 rfl ic_1 ?_
    refine fe_al (pc' := 32) (j := 1) dX9_walker_31 rfl n_223 s_223 (by decide) (by decide) ?_
    refine fe_ic_ge (pc' := 35) (tgt := 66) dX9_walker_32 rfl rfl (fun hc7 => ?_) (fun hc7 => ?_)
    · replace h := (if_pos hc7).symm.trans h
      refine fe_pick [0, 1, 2, 3] rfl ?_
      cases h
      exact k1
    · replace h := (if_neg hc7).symm.trans h
      refine fe_lin (pc' := 36) dX9_walker_35 rfl rfl ?_
      refine fe_lan (pc' := 37) dX9_walker_36 rfl rfl ?_
      refine fe_gf (pc' := 40) dX9_walker_37 rfl fl_9_19 n_221 gf_221_5 ?_
      refine fe_bp (pc' := 42) dX9_walker_40 rfl ib_8 ?_
      refine fe_li (pc' := 44) dX9_walker_42 rfl rfl ?_
      refine fe_iadd (pc' := 45) dX9_walker_44 rfl ?_
      obtain ⟨hi8, h⟩ := am_gd rfl h
      refine fe_al (pc' := 46) (j := (8 + x4).toNatClampNeg) dX9_walker_45 rfl n_225 s_225 hi8 rfl ?_
      refine fe_lin (pc' := 47) dX9_walker_46 rfl rfl ?_
      have K : am_E 2 mX9_walker (58, [(0, .ref 221), (1, .int x1), (2, .int x2), (4, .int x4)], [.int (if (g.1 225 (8 + x4).toNatClampNeg) = x1 then 1 <<< (x4 &&& 31) else 0 : Int32), .int x3], (sh0, g)) hE r := by
        refine fe_ior (pc' := 59) dX9_walker_58 rfl ?_
        refine fe_sin (pc' := 60) (lo' := [(0, .ref 221), (1, .int x1), (2, .int x2), (3, .int (x3 ||| (if (g.1 225 (8 + x4).toNatClampNeg) = x1 then 1 <<< (x4 &&& 31) else 0 : Int32))), (4, .int x4)]) dX9_walker_59 rfl (Nat.le_of_ble_eq_true rfl) rfl ?_
        refine fe_inc (pc' := 63) (lo' := [(0, .ref 221), (1, .int x1), (2, .int x2), (3, .int (x3 ||| (if (g.1 225 (8 + x4).toNatClampNeg) = x1 then 1 <<< (x4 &&& 31) else 0 : Int32))), (4, .int (x4 + 1))]) dX9_walker_60 rfl ic_1 (Nat.le_of_ble_eq_true rfl) rfl rfl ?_
        refine fe_go (tgt := 24) dX9_walker_63 rfl ?_
        exact ih g x1 x2 (x3 ||| (if (g.1 225 (8 + x4).toNatClampNeg) = x1 then 1 <<< (x4 &&& 31) else 0 : Int32)) (x4 + 1) q h k1
      refine fe_ic_ne (pc' := 50) (tgt := 57) dX9_walker_47 rfl rfl (fun hc9 => ?_) (fun hc9 => ?_)
      · refine fe_ic (pc' := 51) dX9_walker_50 rfl ic_1 ?_
        refine fe_li (pc' := 53) dX9_walker_51 rfl rfl ?_
        refine fe_ishl (pc' := 54) dX9_walker_53 rfl ?_
        refine fe_go (tgt := 58) dX9_walker_54 rfl ?_
        refine fe_pick [0, 1, 2, 4] rfl ?_
        simp only [if_pos hc9] at K ⊢
        exact K
      · refine fe_ic (pc' := 58) dX9_walker_57 rfl ic_0 ?_
        refine fe_pick [0, 1, 2, 4] rfl ?_
        simp only [if_neg hc9] at K ⊢
        exact K
set_option maxRecDepth 4000 in
theorem ev_Mo_walker {g : am_G} {x1 x2 : Int32} {w : Int32} (h : Mo_walker g x1 x2 = some w) : am_Ev 3 141 [.ref 221, .int x1, .int x2] (sh0, g) (sh0, g) (some (.int w)) := by
  unfold Mo_walker at h
  refine am_ev mX9_walker (by rfl) (Nat.le_of_ble_eq_true rfl) [(0, .ref 221), (1, .int x1), (2, .int x2)] rfl ?_
  refine fe_lan (pc' := 1) dX9_walker_0 rfl rfl ?_
  refine fe_lin (pc' := 2) dX9_walker_1 rfl rfl ?_
  obtain ⟨q1, hq2, h⟩ := am_bd h
  refine fe_iv (pc' := 5) (as := [.ref 221, .int x1]) (h1 := (sh0, g)) (r1 := some (.int (am_b q1))) (st' := [.int (am_b q1)]) dX9_walker_2 rfl cl_9_106 rfl rfl s_221 ms_120 ⟨n_221, rfl, by decide, Nat.le_of_ble_eq_true rfl, Nat.le_of_ble_eq_true rfl⟩ (am_le0 _ _ _) (am_up (by decide) (ev_Mo_isWalker hq2)) rfl ?_
  refine fe_bT (pc' := 8) (tgt := 17) dX9_walker_5 rfl rfl rfl (fun hc3 => ?_) (fun hc3 => ?_)
  · replace h := (if_pos hc3).symm.trans h
    refine fe_lin (pc' := 9) dX9_walker_8 rfl rfl ?_
    refine fe_ic (pc' := 10) dX9_walker_9 rfl ic_0 ?_
    refine fe_ic (pc' := 11) dX9_walker_10 rfl ic_5 ?_
    obtain ⟨q4, hq5, h⟩ := am_bd h
    refine fe_is (pc' := 14) (as := [.int x2, .int 0, .int 5]) (h1 := (sh0, g)) (r1 := some (.int (am_b q4))) (st' := [.int (am_b q4)]) dX9_walker_11 rfl cl_9_48 (Or.inl rfl) rfl rfl ⟨Nat.le_of_ble_eq_true rfl, Nat.le_of_ble_eq_true rfl⟩ (am_le0 _ _ _) (am_up (by decide) (ev_Mo_in hq5)) rfl ?_
    refine fe_bF (pc' := 17) (tgt := 19) dX9_walker_14 rfl rfl rfl (fun hc6 => ?_) (fun hc6 => ?_)
    · replace h := (if_pos hc6).symm.trans h
      refine fe_ic (pc' := 20) dX9_walker_19 rfl ic_0 ?_
      refine fe_sin (pc' := 21) (lo' := [(0, .ref 221), (1, .int x1), (2, .int x2), (3, .int 0)]) dX9_walker_20 rfl (Nat.le_of_ble_eq_true rfl) rfl ?_
      refine fe_ic (pc' := 22) dX9_walker_21 rfl ic_0 ?_
      refine fe_si (pc' := 24) (lo' := [(0, .ref 221), (1, .int x1), (2, .int x2), (3, .int 0), (4, .int 0)]) dX9_walker_22 rfl (Nat.le_of_ble_eq_true rfl) rfl ?_
      obtain ⟨q11, hq26, h⟩ := am_bd h
      refine lp_Mo_walker_L24 _ g x1 x2 0 0 q11 hq26 ?_
      refine fe_lin (pc' := 67) dX9_walker_66 rfl rfl ?_
      refine fe_if_ne (pc' := 70) (tgt := 81) dX9_walker_67 rfl rfl (fun hc12 => ?_) (fun hc12 => ?_)
      · replace h := (if_pos hc12).symm.trans h
        refine fe_lan (pc' := 71) dX9_walker_70 rfl rfl ?_
        refine fe_gf (pc' := 74) dX9_walker_71 rfl fl_9_13 n_221 gf_221_3 ?_
        refine fe_ic (pc' := 75) dX9_walker_74 rfl ic_4 ?_
        refine fe_lin (pc' := 76) dX9_walker_75 rfl rfl ?_
        refine fe_iadd (pc' := 77) dX9_walker_76 rfl ?_
        obtain ⟨hi13, h⟩ := am_gd rfl h
        refine fe_al (pc' := 78) (j := (4 + x1).toNatClampNeg) dX9_walker_77 rfl n_223 s_223 hi13 rfl ?_
        refine fe_go (tgt := 146) dX9_walker_78 rfl ?_
        cases h
        exact fe_ri dX9_walker_146 rfl
      · replace h := (if_neg hc12).symm.trans h
        refine fe_lin (pc' := 82) dX9_walker_81 rfl rfl ?_
        refine fe_ic (pc' := 83) dX9_walker_82 rfl ic_1 ?_
        refine fe_ic_ne (pc' := 86) (tgt := 98) dX9_walker_83 rfl rfl (fun hc14 => ?_) (fun hc14 => ?_)
        · replace h := (if_pos hc14).symm.trans h
          refine fe_lan (pc' := 87) dX9_walker_86 rfl rfl ?_
          refine fe_gf (pc' := 90) dX9_walker_87 rfl fl_9_13 n_221 gf_221_3 ?_
          refine fe_bp (pc' := 92) dX9_walker_90 rfl ib_8 ?_
          refine fe_lin (pc' := 93) dX9_walker_92 rfl rfl ?_
          refine fe_iadd (pc' := 94) dX9_walker_93 rfl ?_
          obtain ⟨hi15, h⟩ := am_gd rfl h
          refine fe_al (pc' := 95) (j := (8 + x1).toNatClampNeg) dX9_walker_94 rfl n_223 s_223 hi15 rfl ?_
          refine fe_go (tgt := 146) dX9_walker_95 rfl ?_
          cases h
          exact fe_ri dX9_walker_146 rfl
        · replace h := (if_neg hc14).symm.trans h
          refine fe_lin (pc' := 99) dX9_walker_98 rfl rfl ?_
          refine fe_ic (pc' := 100) dX9_walker_99 rfl ic_2 ?_
          refine fe_ic_ne (pc' := 103) (tgt := 114) dX9_walker_100 rfl rfl (fun hc16 => ?_) (fun hc16 => ?_)
          · replace h := (if_pos hc16).symm.trans h
            refine fe_lan (pc' := 104) dX9_walker_103 rfl rfl ?_
            refine fe_gf (pc' := 107) dX9_walker_104 rfl fl_9_19 n_221 gf_221_5 ?_
            refine fe_ic (pc' := 108) dX9_walker_107 rfl ic_4 ?_
            refine fe_lin (pc' := 109) dX9_walker_108 rfl rfl ?_
            refine fe_iadd (pc' := 110) dX9_walker_109 rfl ?_
            obtain ⟨hi17, h⟩ := am_gd rfl h
            refine fe_al (pc' := 111) (j := (4 + x1).toNatClampNeg) dX9_walker_110 rfl n_225 s_225 hi17 rfl ?_
            refine fe_go (tgt := 146) dX9_walker_111 rfl ?_
            cases h
            exact fe_ri dX9_walker_146 rfl
          · replace h := (if_neg hc16).symm.trans h
            refine fe_lin (pc' := 115) dX9_walker_114 rfl rfl ?_
            refine fe_ic (pc' := 116) dX9_walker_115 rfl ic_3 ?_
            refine fe_ic_ne (pc' := 119) (tgt := 127) dX9_walker_116 rfl rfl (fun hc18 => ?_) (fun hc18 => ?_)
            · replace h := (if_pos hc18).symm.trans h
              refine fe_lan (pc' := 120) dX9_walker_119 rfl rfl ?_
              refine fe_lin (pc' := 121) dX9_walker_120 rfl rfl ?_
              obtain ⟨q19, hq20, h⟩ := am_bd h
              refine fe_iv (pc' := 124) (as := [.ref 221, .int x1]) (h1 := (sh0, g)) (r1 := some (.int q19)) (st' := [.int q19]) dX9_walker_121 rfl cl_9_109 rfl rfl s_221 ms_137 ⟨n_221, rfl, by decide, Nat.le_of_ble_eq_true rfl, Nat.le_of_ble_eq_true rfl⟩ (am_le0 _ _ _) (am_up (by decide) (ev_Mo_load hq20)) rfl ?_
              refine fe_go (tgt := 146) dX9_walker_124 rfl ?_
              cases h
              exact fe_ri dX9_walker_146 rfl
            · replace h := (if_neg hc18).symm.trans h
              refine fe_lin (pc' := 128) dX9_walker_127 rfl rfl ?_
              refine fe_ic (pc' := 129) dX9_walker_128 rfl ic_4 ?_
              refine fe_ic_ne (pc' := 132) (tgt := 145) dX9_walker_129 rfl rfl (fun hc21 => ?_) (fun hc21 => ?_)
              · replace h := (if_pos hc21).symm.trans h
                refine fe_lan (pc' := 133) dX9_walker_132 rfl rfl ?_
                refine fe_lin (pc' := 134) dX9_walker_133 rfl rfl ?_
                refine fe_lan (pc' := 135) dX9_walker_134 rfl rfl ?_
                refine fe_lin (pc' := 136) dX9_walker_135 rfl rfl ?_
                obtain ⟨q22, hq23, h⟩ := am_bd h
                refine fe_iv (pc' := 139) (as := [.ref 221, .int x1]) (h1 := (sh0, g)) (r1 := some (.int q22)) (st' := [.int q22, .int x1, .ref 221]) dX9_walker_136 rfl cl_9_109 rfl rfl s_221 ms_137 ⟨n_221, rfl, by decide, Nat.le_of_ble_eq_true rfl, Nat.le_of_ble_eq_true rfl⟩ (am_le0 _ _ _) (am_up (by decide) (ev_Mo_load hq23)) rfl ?_
                obtain ⟨q24, hq25, h⟩ := am_bd h
                refine fe_iv (pc' := 142) (as := [.ref 221, .int x1, .int q22]) (h1 := (sh0, g)) (r1 := some (.int q24)) (st' := [.int q24]) dX9_walker_139 rfl cl_9_112 rfl rfl s_221 ms_139 ⟨n_221, rfl, by decide, Nat.le_of_ble_eq_true rfl, Nat.le_of_ble_eq_true rfl⟩ (am_le0 _ _ _) (am_up (by decide) (ev_Mo_pace hq25)) rfl ?_
                refine fe_go (tgt := 146) dX9_walker_142 rfl ?_
                cases h
                exact fe_ri dX9_walker_146 rfl
              · replace h := (if_neg hc21).symm.trans h
                refine fe_lin (pc' := 146) dX9_walker_145 rfl rfl ?_
                cases h
                exact fe_ri dX9_walker_146 rfl
    · replace h := (if_neg hc6).symm.trans h
      refine fe_ic (pc' := 18) dX9_walker_17 rfl ic_m1 ?_
      cases h
      exact fe_ri dX9_walker_18 rfl
  · replace h := (if_neg hc3).symm.trans h
    refine fe_ic (pc' := 18) dX9_walker_17 rfl ic_m1 ?_
    cases h
    exact fe_ri dX9_walker_18 rfl
-- Mo_isThing: X9_isThing
set_option maxRecDepth 4000 in
theorem ev_Mo_isThing {g : am_G} {x1 : Int32} {w : Bool} (h : Mo_isThing g x1 = some w) : am_Ev 2 121 [.ref 221, .int x1] (sh0, g) (sh0, g) (some (.int (am_b w))) := by
  unfold Mo_isThing at h
  refine am_ev mX9_isThing (by rfl) (Nat.le_of_ble_eq_true rfl) [(0, .ref 221), (1, .int x1)] rfl ?_
  refine fe_lin (pc' := 1) dX9_isThing_0 rfl rfl ?_
  refine fe_ic (pc' := 2) dX9_isThing_1 rfl ic_0 ?_
  refine fe_lan (pc' := 3) dX9_isThing_2 rfl rfl ?_
  refine fe_gf (pc' := 6) dX9_isThing_3 rfl fl_9_13 n_221 gf_221_3 ?_
  refine fe_ic (pc' := 7) dX9_isThing_6 rfl ic_1 ?_
  refine fe_al (pc' := 8) (j := 1) dX9_isThing_7 rfl n_223 s_223 (by decide) (by decide) ?_
  refine fe_ic (pc' := 9) dX9_isThing_8 rfl ic_1 ?_
  refine fe_isub (pc' := 10) dX9_isThing_9 rfl ?_
  obtain ⟨q1, hq2, h⟩ := am_bd h
  refine fe_is (pc' := 13) (as := [.int x1, .int 0, .int ((g.1 223 1) - 1)]) (h1 := (sh0, g)) (r1 := some (.int (am_b q1))) (st' := [.int (am_b q1)]) dX9_isThing_10 rfl cl_9_48 (Or.inl rfl) rfl rfl ⟨Nat.le_of_ble_eq_true rfl, Nat.le_of_ble_eq_true rfl⟩ (am_le0 _ _ _) (am_up (by decide) (ev_Mo_in hq2)) rfl ?_
  cases h
  exact fe_rz _ dX9_isThing_13 rfl rfl
-- Mo_thing: X9_thing
set_option maxRecDepth 4000 in
theorem ev_Mo_thing {g : am_G} {x1 x2 : Int32} {w : Int32} (h : Mo_thing g x1 x2 = some w) : am_Ev 3 142 [.ref 221, .int x1, .int x2] (sh0, g) (sh0, g) (some (.int w)) := by
  unfold Mo_thing at h
  refine am_ev mX9_thing (by rfl) (Nat.le_of_ble_eq_true rfl) [(0, .ref 221), (1, .int x1), (2, .int x2)] rfl ?_
  refine fe_lan (pc' := 1) dX9_thing_0 rfl rfl ?_
  refine fe_lin (pc' := 2) dX9_thing_1 rfl rfl ?_
  obtain ⟨q1, hq2, h⟩ := am_bd h
  refine fe_iv (pc' := 5) (as := [.ref 221, .int x1]) (h1 := (sh0, g)) (r1 := some (.int (am_b q1))) (st' := [.int (am_b q1)]) dX9_thing_2 rfl cl_9_116 rfl rfl s_221 ms_121 ⟨n_221, rfl, by decide, Nat.le_of_ble_eq_true rfl, Nat.le_of_ble_eq_true rfl⟩ (am_le0 _ _ _) (am_up (by decide) (ev_Mo_isThing hq2)) rfl ?_
  refine fe_bT (pc' := 8) (tgt := 18) dX9_thing_5 rfl rfl rfl (fun hc3 => ?_) (fun hc3 => ?_)
  · replace h := (if_pos hc3).symm.trans h
    refine fe_lin (pc' := 9) dX9_thing_8 rfl rfl ?_
    refine fe_ic (pc' := 10) dX9_thing_9 rfl ic_0 ?_
    refine fe_bp (pc' := 12) dX9_thing_10 rfl ib_7 ?_
    obtain ⟨q4, hq5, h⟩ := am_bd h
    refine fe_is (pc' := 15) (as := [.int x2, .int 0, .int 7]) (h1 := (sh0, g)) (r1 := some (.int (am_b q4))) (st' := [.int (am_b q4)]) dX9_thing_12 rfl cl_9_48 (Or.inl rfl) rfl rfl ⟨Nat.le_of_ble_eq_true rfl, Nat.le_of_ble_eq_true rfl⟩ (am_le0 _ _ _) (am_up (by decide) (ev_Mo_in hq5)) rfl ?_
    refine fe_bF (pc' := 18) (tgt := 20) dX9_thing_15 rfl rfl rfl (fun hc6 => ?_) (fun hc6 => ?_)
    · replace h := (if_pos hc6).symm.trans h
      refine fe_lin (pc' := 21) dX9_thing_20 rfl rfl ?_
      refine fe_ic (pc' := 22) dX9_thing_21 rfl ic_4 ?_
      refine fe_ic_ge (pc' := 25) (tgt := 42) dX9_thing_22 rfl rfl (fun hc7 => ?_) (fun hc7 => ?_)
      · replace h := (if_pos hc7).symm.trans h
        refine fe_lin (pc' := 43) dX9_thing_42 rfl rfl ?_
        refine fe_bp (pc' := 45) dX9_thing_43 rfl ib_7 ?_
        refine fe_ic_ne (pc' := 48) (tgt := 56) dX9_thing_45 rfl rfl (fun hc8 => ?_) (fun hc8 => ?_)
        · replace h := (if_pos hc8).symm.trans h
          refine fe_lan (pc' := 49) dX9_thing_48 rfl rfl ?_
          refine fe_lin (pc' := 50) dX9_thing_49 rfl rfl ?_
          obtain ⟨q9, hq10, h⟩ := am_bd h
          refine fe_iv (pc' := 53) (as := [.ref 221, .int x1]) (h1 := (sh0, g)) (r1 := some (.int q9)) (st' := [.int q9]) dX9_thing_50 rfl cl_9_100 rfl rfl s_221 ms_136 ⟨n_221, rfl, by decide, Nat.le_of_ble_eq_true rfl, Nat.le_of_ble_eq_true rfl⟩ (am_le0 _ _ _) (am_up (by decide) (ev_Mo_weighs hq10)) rfl ?_
          refine fe_go (tgt := 72) dX9_thing_53 rfl ?_
          cases h
          exact fe_ri dX9_thing_72 rfl
        · replace h := (if_neg hc8).symm.trans h
          refine fe_lan (pc' := 57) dX9_thing_56 rfl rfl ?_
          refine fe_gf (pc' := 60) dX9_thing_57 rfl fl_9_19 n_221 gf_221_5 ?_
          refine fe_bp (pc' := 62) dX9_thing_60 rfl ib_8 ?_
          refine fe_bp (pc' := 64) dX9_thing_62 rfl ib_7 ?_
          refine fe_lin (pc' := 65) dX9_thing_64 rfl rfl ?_
          refine fe_ic (pc' := 66) dX9_thing_65 rfl ic_4 ?_
          refine fe_isub (pc' := 67) dX9_thing_66 rfl ?_
          refine fe_imul (pc' := 68) dX9_thing_67 rfl ?_
          refine fe_iadd (pc' := 69) dX9_thing_68 rfl ?_
          refine fe_lin (pc' := 70) dX9_thing_69 rfl rfl ?_
          refine fe_iadd (pc' := 71) dX9_thing_70 rfl ?_
          obtain ⟨hi11, h⟩ := am_gd rfl h
          refine fe_al (pc' := 72) (j := ((8 + (7 * (x2 - 4))) + x1).toNatClampNeg) dX9_thing_71 rfl n_225 s_225 hi11 rfl ?_
          cases h
          exact fe_ri dX9_thing_72 rfl
      · replace h := (if_neg hc7).symm.trans h
        refine fe_lan (pc' := 26) dX9_thing_25 rfl rfl ?_
        refine fe_gf (pc' := 29) dX9_thing_26 rfl fl_9_13 n_221 gf_221_3 ?_
        refine fe_bp (pc' := 31) dX9_thing_29 rfl ib_12 ?_
        refine fe_bp (pc' := 33) dX9_thing_31 rfl ib_7 ?_
        refine fe_lin (pc' := 34) dX9_thing_33 rfl rfl ?_
        refine fe_imul (pc' := 35) dX9_thing_34 rfl ?_
        refine fe_iadd (pc' := 36) dX9_thing_35 rfl ?_
        refine fe_lin (pc' := 37) dX9_thing_36 rfl rfl ?_
        refine fe_iadd (pc' := 38) dX9_thing_37 rfl ?_
        obtain ⟨hi12, h⟩ := am_gd rfl h
        refine fe_al (pc' := 39) (j := ((12 + (7 * x2)) + x1).toNatClampNeg) dX9_thing_38 rfl n_223 s_223 hi12 rfl ?_
        refine fe_go (tgt := 72) dX9_thing_39 rfl ?_
        cases h
        exact fe_ri dX9_thing_72 rfl
    · replace h := (if_neg hc6).symm.trans h
      refine fe_ic (pc' := 19) dX9_thing_18 rfl ic_m1 ?_
      cases h
      exact fe_ri dX9_thing_19 rfl
  · replace h := (if_neg hc3).symm.trans h
    refine fe_ic (pc' := 19) dX9_thing_18 rfl ic_m1 ?_
    cases h
    exact fe_ri dX9_thing_19 rfl
-- Mo_stage: X9_stage
set_option maxRecDepth 4000 in
theorem ev_Mo_stage {g : am_G} {x1 x2 : Int32} {w : Int32} (h : Mo_stage g x1 x2 = some w) : am_Ev 2 143 [.ref 221, .int x1, .int x2] (sh0, g) (sh0, g) (some (.int w)) := by
  unfold Mo_stage at h
  refine am_ev mX9_stage (by rfl) (Nat.le_of_ble_eq_true rfl) [(0, .ref 221), (1, .int x1), (2, .int x2)] rfl ?_
  refine fe_lin (pc' := 1) dX9_stage_0 rfl rfl ?_
  refine fe_ic (pc' := 2) dX9_stage_1 rfl ic_0 ?_
  refine fe_lan (pc' := 3) dX9_stage_2 rfl rfl ?_
  refine fe_gf (pc' := 6) dX9_stage_3 rfl fl_9_13 n_221 gf_221_3 ?_
  refine fe_ic (pc' := 7) dX9_stage_6 rfl ic_2 ?_
  refine fe_al (pc' := 8) (j := 2) dX9_stage_7 rfl n_223 s_223 (by decide) (by decide) ?_
  refine fe_ic (pc' := 9) dX9_stage_8 rfl ic_1 ?_
  refine fe_isub (pc' := 10) dX9_stage_9 rfl ?_
  obtain ⟨q1, hq2, h⟩ := am_bd h
  refine fe_is (pc' := 13) (as := [.int x1, .int 0, .int ((g.1 223 2) - 1)]) (h1 := (sh0, g)) (r1 := some (.int (am_b q1))) (st' := [.int (am_b q1)]) dX9_stage_10 rfl cl_9_48 (Or.inl rfl) rfl rfl ⟨Nat.le_of_ble_eq_true rfl, Nat.le_of_ble_eq_true rfl⟩ (am_le0 _ _ _) (am_up (by decide) (ev_Mo_in hq2)) rfl ?_
  refine fe_bT (pc' := 16) (tgt := 42) dX9_stage_13 rfl rfl rfl (fun hc3 => ?_) (fun hc3 => ?_)
  · replace h := (if_pos hc3).symm.trans h
    refine fe_lin (pc' := 17) dX9_stage_16 rfl rfl ?_
    refine fe_ic (pc' := 18) dX9_stage_17 rfl ic_0 ?_
    refine fe_ic (pc' := 19) dX9_stage_18 rfl ic_2 ?_
    obtain ⟨q4, hq5, h⟩ := am_bd h
    refine fe_is (pc' := 22) (as := [.int x2, .int 0, .int 2]) (h1 := (sh0, g)) (r1 := some (.int (am_b q4))) (st' := [.int (am_b q4)]) dX9_stage_19 rfl cl_9_48 (Or.inl rfl) rfl rfl ⟨Nat.le_of_ble_eq_true rfl, Nat.le_of_ble_eq_true rfl⟩ (am_le0 _ _ _) (am_up (by decide) (ev_Mo_in hq5)) rfl ?_
    refine fe_bT (pc' := 25) (tgt := 42) dX9_stage_22 rfl rfl rfl (fun hc6 => ?_) (fun hc6 => ?_)
    · replace h := (if_pos hc6).symm.trans h
      refine fe_lan (pc' := 26) dX9_stage_25 rfl rfl ?_
      refine fe_gf (pc' := 29) dX9_stage_26 rfl fl_9_13 n_221 gf_221_3 ?_
      refine fe_bp (pc' := 31) dX9_stage_29 rfl ib_47 ?_
      refine fe_bp (pc' := 33) dX9_stage_31 rfl ib_8 ?_
      refine fe_lin (pc' := 34) dX9_stage_33 rfl rfl ?_
      refine fe_imul (pc' := 35) dX9_stage_34 rfl ?_
      refine fe_iadd (pc' := 36) dX9_stage_35 rfl ?_
      refine fe_lin (pc' := 37) dX9_stage_36 rfl rfl ?_
      refine fe_iadd (pc' := 38) dX9_stage_37 rfl ?_
      obtain ⟨hi7, h⟩ := am_gd rfl h
      refine fe_al (pc' := 39) (j := ((47 + (8 * x2)) + x1).toNatClampNeg) dX9_stage_38 rfl n_223 s_223 hi7 rfl ?_
      refine fe_go (tgt := 43) dX9_stage_39 rfl ?_
      cases h
      exact fe_ri dX9_stage_43 rfl
    · replace h := (if_neg hc6).symm.trans h
      refine fe_ic (pc' := 43) dX9_stage_42 rfl ic_m1 ?_
      cases h
      exact fe_ri dX9_stage_43 rfl
  · replace h := (if_neg hc3).symm.trans h
    refine fe_ic (pc' := 43) dX9_stage_42 rfl ic_m1 ?_
    cases h
    exact fe_ri dX9_stage_43 rfl
-- Mo_keeps: X9_keeps
set_option maxRecDepth 4000 in
theorem lp_Mo_keeps_L15 {hE : am_H} {r : Option Value} : ∀ (n : Nat) (g : am_G) (x1 : Int32) (w : am_G), Mo_keeps_L15 n g x1 = some w → am_E 0 mX9_keeps (43, [(0, .ref 221)], [], (sh0, w)) hE r → am_E 0 mX9_keeps (15, [(0, .ref 221), (1, .int x1)], [], (sh0, g)) hE r := by
  intro n
  induction n with
  | zero => intro g x1 q h; cases h
  | succ n ih =>
    intro g x1 q h k1
    replace h : _ = _ := h
    unfold Mo_keeps_L15 at h
    refine fe_lin (pc' := 16) dX9_keeps_15 rfl rfl ?_
    refine fe_sp (pc' := 19) dX9_keeps_16 rfl is_291 ?_
    refine fe_ic_ge (pc' := 22) (tgt := 43) dX9_keeps_19 rfl rfl (fun hc2 => ?_) (fun hc2 => ?_)
    · replace h := (if_pos hc2).symm.trans h
      refine fe_pick [0] rfl ?_
      cases h
      exact k1
    · replace h := (if_neg hc2).symm.trans h
      refine fe_lan (pc' := 23) dX9_keeps_22 rfl rfl ?_
      refine fe_gf (pc' := 26) dX9_keeps_23 rfl fl_9_19 n_221 gf_221_5 ?_
      refine fe_lin (pc' := 27) dX9_keeps_26 rfl rfl ?_
      refine fe_lan (pc' := 28) dX9_keeps_27 rfl rfl ?_
      refine fe_gf (pc' := 31) dX9_keeps_28 rfl fl_9_19 n_221 gf_221_5 ?_
      refine fe_lin (pc' := 32) dX9_keeps_31 rfl rfl ?_
      refine fe_bp (pc' := 34) dX9_keeps_32 rfl ib_29 ?_
      refine fe_iadd (pc' := 35) dX9_keeps_34 rfl ?_
      obtain ⟨hi3, h⟩ := am_gd rfl h
      refine fe_al (pc' := 36) (j := (x1 + 29).toNatClampNeg) dX9_keeps_35 rfl n_225 s_225 hi3 rfl ?_
      obtain ⟨hi4, h⟩ := am_gd rfl h
      refine fe_as (pc' := 37) (j := x1.toNatClampNeg) dX9_keeps_36 rfl n_225 s_225 hi4 rfl ?_
      refine fe_inc (pc' := 40) (lo' := [(0, .ref 221), (1, .int (x1 + 1))]) dX9_keeps_37 rfl ic_1 (Nat.le_of_ble_eq_true rfl) rfl rfl ?_
      refine fe_go (tgt := 15) dX9_keeps_40 rfl ?_
      exact ih (am_wr g 225 x1.toNatClampNeg (g.1 225 (x1 + 29).toNatClampNeg)) (x1 + 1) q h k1
set_option maxRecDepth 4000 in
theorem lp_Mo_keeps_L70 {hE : am_H} {r : Option Value} : ∀ (n : Nat) (g : am_G) (x1 : Int32) (x2 : Int32) (w : am_G), Mo_keeps_L70 n g x1 x2 = some w → am_E 0 mX9_keeps (96, [(0, .ref 221)], [], (sh0, w)) hE r → am_E 0 mX9_keeps (70, [(0, .ref 221), (1, .int x1), (2, .int x2)], [], (sh0, g)) hE r := by
  intro n
  induction n with
  | zero => intro g x1 x2 q h; cases h
  | succ n ih =>
    intro g x1 x2 q h k1
    replace h : _ = _ := h
    unfold Mo_keeps_L70 at h
    refine fe_lin (pc' := 71) dX9_keeps_70 rfl rfl ?_
    refine fe_bp (pc' := 73) dX9_keeps_71 rfl ib_29 ?_
    refine fe_ic_ge (pc' := 76) (tgt := 96) dX9_keeps_73 rfl rfl (fun hc7 => ?_) (fun hc7 => ?_)
    · replace h := (if_pos hc7).symm.trans h
      refine fe_pick [0] rfl ?_
      cases h
      exact k1
    · replace h := (if_neg hc7).symm.trans h
      refine fe_lan (pc' := 77) dX9_keeps_76 rfl rfl ?_
      refine fe_gf (pc' := 80) dX9_keeps_77 rfl fl_9_19 n_221 gf_221_5 ?_
      refine fe_lin (pc' := 81) dX9_keeps_80 rfl rfl ?_
      refine fe_lin (pc' := 82) dX9_keeps_81 rfl rfl ?_
      refine fe_iadd (pc' := 83) dX9_keeps_82 rfl ?_
      refine fe_lan (pc' := 84) dX9_keeps_83 rfl rfl ?_
      refine fe_gf (pc' := 87) dX9_keeps_84 rfl fl_9_19 n_221 gf_221_5 ?_
      refine fe_lin (pc' := 88) dX9_keeps_87 rfl rfl ?_
      obtain ⟨hi8, h⟩ := am_gd rfl h
      refine fe_al (pc' := 89) (j := x2.toNatClampNeg) dX9_keeps_88 rfl n_225 s_225 hi8 rfl ?_
      obtain ⟨hi9, h⟩ := am_gd rfl h
      refine fe_as (pc' := 90) (j := (x1 + x2).toNatClampNeg) dX9_keeps_89 rfl n_225 s_225 hi9 rfl ?_
      refine fe_inc (pc' := 93) (lo' := [(0, .ref 221), (1, .int x1), (2, .int (x2 + 1))]) dX9_keeps_90 rfl ic_1 (Nat.le_of_ble_eq_true rfl) rfl rfl ?_
      refine fe_go (tgt := 70) dX9_keeps_93 rfl ?_
      exact ih (am_wr g 225 (x1 + x2).toNatClampNeg (g.1 225 x2.toNatClampNeg)) x1 (x2 + 1) q h k1
set_option maxRecDepth 4000 in
theorem ev_Mo_keeps {g : am_G} {w : am_G} (h : Mo_keeps g  = some w) : am_Ev 1 144 [.ref 221] (sh0, g) (sh0, w) (none) := by
  unfold Mo_keeps at h
  refine am_ev mX9_keeps (by rfl) (Nat.le_of_ble_eq_true rfl) [(0, .ref 221)] rfl ?_
  refine fe_lan (pc' := 1) dX9_keeps_0 rfl rfl ?_
  refine fe_gf (pc' := 4) dX9_keeps_1 rfl fl_9_19 n_221 gf_221_5 ?_
  refine fe_bp (pc' := 6) dX9_keeps_4 rfl ib_29 ?_
  refine fe_al (pc' := 7) (j := 29) dX9_keeps_6 rfl n_225 s_225 (by decide) (by decide) ?_
  refine fe_bp (pc' := 9) dX9_keeps_7 rfl ib_10 ?_
  obtain ⟨q6, hq11, h⟩ := am_bd h
  have K : am_E 0 mX9_keeps (54, [(0, .ref 221)], [], (sh0, q6)) (sh0, w) (none) := by
    refine fe_bp (pc' := 56) dX9_keeps_54 rfl ib_30 ?_
    refine fe_bp (pc' := 58) dX9_keeps_56 rfl ib_29 ?_
    refine fe_lan (pc' := 59) dX9_keeps_58 rfl rfl ?_
    refine fe_gf (pc' := 62) dX9_keeps_59 rfl fl_9_19 n_221 gf_221_5 ?_
    refine fe_bp (pc' := 64) dX9_keeps_62 rfl ib_29 ?_
    refine fe_al (pc' := 65) (j := 29) dX9_keeps_64 rfl n_225 s_225 (by decide) (by decide) ?_
    refine fe_imul (pc' := 66) dX9_keeps_65 rfl ?_
    refine fe_iadd (pc' := 67) dX9_keeps_66 rfl ?_
    refine fe_sin (pc' := 68) (lo' := [(0, .ref 221), (1, .int (30 + (29 * (q6.1 225 29))))]) dX9_keeps_67 rfl (Nat.le_of_ble_eq_true rfl) rfl ?_
    refine fe_ic (pc' := 69) dX9_keeps_68 rfl ic_0 ?_
    refine fe_sin (pc' := 70) (lo' := [(0, .ref 221), (1, .int (30 + (29 * (q6.1 225 29)))), (2, .int 0)]) dX9_keeps_69 rfl (Nat.le_of_ble_eq_true rfl) rfl ?_
    obtain ⟨q10, hq12, h⟩ := am_bd h
    refine lp_Mo_keeps_L70 _ q6 (30 + (29 * (q6.1 225 29))) 0 q10 hq12 ?_
    refine fe_lan (pc' := 97) dX9_keeps_96 rfl rfl ?_
    refine fe_gf (pc' := 100) dX9_keeps_97 rfl fl_9_19 n_221 gf_221_5 ?_
    refine fe_bp (pc' := 102) dX9_keeps_100 rfl ib_29 ?_
    refine fe_dup2 (pc' := 103) dX9_keeps_102 rfl ⟨rfl, rfl⟩ ?_
    refine fe_al (pc' := 104) (j := 29) dX9_keeps_103 rfl n_225 s_225 (by decide) (by decide) ?_
    refine fe_ic (pc' := 105) dX9_keeps_104 rfl ic_1 ?_
    refine fe_iadd (pc' := 106) dX9_keeps_105 rfl ?_
    refine fe_as (pc' := 107) (j := 29) dX9_keeps_106 rfl n_225 s_225 (by decide) (by decide) ?_
    cases h
    exact fe_rv dX9_keeps_107 rfl
  replace h := hq11
  refine fe_ic_ne (pc' := 12) (tgt := 54) dX9_keeps_9 rfl rfl (fun hc1 => ?_) (fun hc1 => ?_)
  · replace h := (if_pos hc1).symm.trans h
    refine fe_bp (pc' := 14) dX9_keeps_12 rfl ib_30 ?_
    refine fe_sin (pc' := 15) (lo' := [(0, .ref 221), (1, .int 30)]) dX9_keeps_14 rfl (Nat.le_of_ble_eq_true rfl) rfl ?_
    obtain ⟨q5, hq13, h⟩ := am_bd h
    refine lp_Mo_keeps_L15 _ g 30 q5 hq13 ?_
    refine fe_lan (pc' := 44) dX9_keeps_43 rfl rfl ?_
    refine fe_gf (pc' := 47) dX9_keeps_44 rfl fl_9_19 n_221 gf_221_5 ?_
    refine fe_bp (pc' := 49) dX9_keeps_47 rfl ib_29 ?_
    refine fe_dup2 (pc' := 50) dX9_keeps_49 rfl ⟨rfl, rfl⟩ ?_
    refine fe_al (pc' := 51) (j := 29) dX9_keeps_50 rfl n_225 s_225 (by decide) (by decide) ?_
    refine fe_ic (pc' := 52) dX9_keeps_51 rfl ic_1 ?_
    refine fe_isub (pc' := 53) dX9_keeps_52 rfl ?_
    refine fe_as (pc' := 54) (j := 29) dX9_keeps_53 rfl n_225 s_225 (by decide) (by decide) ?_
    cases h
    exact K
  · replace h := (if_neg hc1).symm.trans h
    cases h
    exact K
-- Mo_gives: X9_gives
set_option maxRecDepth 4000 in
theorem ev_Mo_gives {g : am_G} {x1 x2 : Int32} {w : (am_G × Int32)} (h : Mo_gives g x1 x2 = some w) : am_Ev 3 145 [.ref 221, .int x1, .int x2] (sh0, g) (sh0, w.1) (some (.int w.2)) := by
  unfold Mo_gives at h
  refine am_ev mX9_gives (by rfl) (Nat.le_of_ble_eq_true rfl) [(0, .ref 221), (1, .int x1), (2, .int x2)] rfl ?_
  refine fe_lan (pc' := 1) dX9_gives_0 rfl rfl ?_
  refine fe_lin (pc' := 2) dX9_gives_1 rfl rfl ?_
  obtain ⟨q1, hq2, h⟩ := am_bd h
  refine fe_iv (pc' := 5) (as := [.ref 221, .int x1]) (h1 := (sh0, g)) (r1 := some (.int (am_b q1))) (st' := [.int (am_b q1)]) dX9_gives_2 rfl cl_9_116 rfl rfl s_221 ms_121 ⟨n_221, rfl, by decide, Nat.le_of_ble_eq_true rfl, Nat.le_of_ble_eq_true rfl⟩ (am_le0 _ _ _) (am_up (by decide) (ev_Mo_isThing hq2)) rfl ?_
  refine fe_bT (pc' := 8) (tgt := 16) dX9_gives_5 rfl rfl rfl (fun hc3 => ?_) (fun hc3 => ?_)
  · replace h := (if_pos hc3).symm.trans h
    refine fe_lan (pc' := 9) dX9_gives_8 rfl rfl ?_
    refine fe_lin (pc' := 10) dX9_gives_9 rfl rfl ?_
    obtain ⟨q4, hq5, h⟩ := am_bd h
    refine fe_iv (pc' := 13) (as := [.ref 221, .int x2]) (h1 := (sh0, g)) (r1 := some (.int (am_b q4))) (st' := [.int (am_b q4)]) dX9_gives_10 rfl cl_9_106 rfl rfl s_221 ms_120 ⟨n_221, rfl, by decide, Nat.le_of_ble_eq_true rfl, Nat.le_of_ble_eq_true rfl⟩ (am_le0 _ _ _) (am_up (by decide) (ev_Mo_isWalker hq5)) rfl ?_
    refine fe_bF (pc' := 16) (tgt := 18) dX9_gives_13 rfl rfl rfl (fun hc6 => ?_) (fun hc6 => ?_)
    · replace h := (if_pos hc6).symm.trans h
      refine fe_lan (pc' := 19) dX9_gives_18 rfl rfl ?_
      refine fe_gf (pc' := 22) dX9_gives_19 rfl fl_9_19 n_221 gf_221_5 ?_
      refine fe_bp (pc' := 24) dX9_gives_22 rfl ib_8 ?_
      refine fe_lin (pc' := 25) dX9_gives_24 rfl rfl ?_
      refine fe_iadd (pc' := 26) dX9_gives_25 rfl ?_
      obtain ⟨hi7, h⟩ := am_gd rfl h
      refine fe_al (pc' := 27) (j := (8 + x1).toNatClampNeg) dX9_gives_26 rfl n_225 s_225 hi7 rfl ?_
      refine fe_sin (pc' := 28) (lo' := [(0, .ref 221), (1, .int x1), (2, .int x2), (3, .int (g.1 225 (8 + x1).toNatClampNeg))]) dX9_gives_27 rfl (Nat.le_of_ble_eq_true rfl) rfl ?_
      refine fe_lin (pc' := 29) dX9_gives_28 rfl rfl ?_
      refine fe_bp (pc' := 31) dX9_gives_29 rfl ib_9 ?_
      refine fe_ic_eq (pc' := 34) (tgt := 39) dX9_gives_31 rfl rfl (fun hc8 => ?_) (fun hc8 => ?_)
      · replace h := (if_pos hc8).symm.trans h
        refine fe_bp (pc' := 41) dX9_gives_39 rfl ib_m2 ?_
        cases h
        exact fe_ri dX9_gives_41 rfl
      · replace h := (if_neg hc8).symm.trans h
        refine fe_lin (pc' := 35) dX9_gives_34 rfl rfl ?_
        refine fe_lin (pc' := 36) dX9_gives_35 rfl rfl ?_
        refine fe_ic_ne (pc' := 39) (tgt := 42) dX9_gives_36 rfl rfl (fun hc9 => ?_) (fun hc9 => ?_)
        · replace h := (if_pos hc9).symm.trans h
          refine fe_bp (pc' := 41) dX9_gives_39 rfl ib_m2 ?_
          cases h
          exact fe_ri dX9_gives_41 rfl
        · replace h := (if_neg hc9).symm.trans h
          refine fe_lan (pc' := 43) dX9_gives_42 rfl rfl ?_
          obtain ⟨q10, hq11, h⟩ := am_bd h
          refine fe_iv (pc' := 46) (as := [.ref 221]) (h1 := (sh0, q10)) (r1 := none) (st' := []) dX9_gives_43 rfl cl_9_119 rfl rfl s_221 ms_144 ⟨n_221, rfl, by decide, Nat.le_of_ble_eq_true rfl, Nat.le_of_ble_eq_true rfl⟩ (am_le0 _ _ _) (am_up (by decide) (ev_Mo_keeps hq11)) rfl ?_
          refine fe_lan (pc' := 47) dX9_gives_46 rfl rfl ?_
          refine fe_gf (pc' := 50) dX9_gives_47 rfl fl_9_19 n_221 gf_221_5 ?_
          refine fe_bp (pc' := 52) dX9_gives_50 rfl ib_8 ?_
          refine fe_lin (pc' := 53) dX9_gives_52 rfl rfl ?_
          refine fe_iadd (pc' := 54) dX9_gives_53 rfl ?_
          refine fe_lin (pc' := 55) dX9_gives_54 rfl rfl ?_
          refine fe_as (pc' := 56) (j := (8 + x1).toNatClampNeg) dX9_gives_55 rfl n_225 s_225 hi7 rfl ?_
          refine fe_lan (pc' := 57) dX9_gives_56 rfl rfl ?_
          refine fe_gf (pc' := 60) dX9_gives_57 rfl fl_9_19 n_221 gf_221_5 ?_
          refine fe_ic (pc' := 61) dX9_gives_60 rfl ic_3 ?_
          refine fe_dup2 (pc' := 62) dX9_gives_61 rfl ⟨rfl, rfl⟩ ?_
          refine fe_al (pc' := 63) (j := 3) dX9_gives_62 rfl n_225 s_225 (by decide) (by decide) ?_
          refine fe_ic (pc' := 64) dX9_gives_63 rfl ic_1 ?_
          refine fe_iadd (pc' := 65) dX9_gives_64 rfl ?_
          refine fe_as (pc' := 66) (j := 3) dX9_gives_65 rfl n_225 s_225 (by decide) (by decide) ?_
          refine fe_lin (pc' := 67) dX9_gives_66 rfl rfl ?_
          cases h
          exact fe_ri dX9_gives_67 rfl
    · replace h := (if_neg hc6).symm.trans h
      refine fe_ic (pc' := 17) dX9_gives_16 rfl ic_m1 ?_
      cases h
      exact fe_ri dX9_gives_17 rfl
  · replace h := (if_neg hc3).symm.trans h
    refine fe_ic (pc' := 17) dX9_gives_16 rfl ic_m1 ?_
    cases h
    exact fe_ri dX9_gives_17 rfl
-- Mo_isHut: X9_isHut
set_option maxRecDepth 4000 in
theorem ev_Mo_isHut {g : am_G} {w : Bool} (h : Mo_isHut g  = some w) : am_Ev 1 146 [.ref 221] (sh0, g) (sh0, g) (some (.int (am_b w))) := by
  unfold Mo_isHut at h
  refine am_ev mX9_isHut (by rfl) (Nat.le_of_ble_eq_true rfl) [(0, .ref 221)] rfl ?_
  refine fe_lan (pc' := 1) dX9_isHut_0 rfl rfl ?_
  refine fe_gf (pc' := 4) dX9_isHut_1 rfl fl_9_19 n_221 gf_221_5 ?_
  refine fe_ic (pc' := 5) dX9_isHut_4 rfl ic_0 ?_
  refine fe_al (pc' := 6) (j := 0) dX9_isHut_5 rfl n_225 s_225 (by decide) (by decide) ?_
  refine fe_if_eq (pc' := 9) (tgt := 29) dX9_isHut_6 rfl rfl (fun hc1 => ?_) (fun hc1 => ?_)
  · replace h := (if_pos hc1).symm.trans h
    refine fe_ic (pc' := 30) dX9_isHut_29 rfl ic_1 ?_
    refine fe_go (tgt := 34) dX9_isHut_30 rfl ?_
    cases h
    exact fe_rz _ dX9_isHut_34 rfl rfl
  · replace h := (if_neg hc1).symm.trans h
    refine fe_lan (pc' := 10) dX9_isHut_9 rfl rfl ?_
    refine fe_gf (pc' := 13) dX9_isHut_10 rfl fl_9_13 n_221 gf_221_3 ?_
    refine fe_bp (pc' := 15) dX9_isHut_13 rfl ib_63 ?_
    refine fe_lan (pc' := 16) dX9_isHut_15 rfl rfl ?_
    refine fe_gf (pc' := 19) dX9_isHut_16 rfl fl_9_19 n_221 gf_221_5 ?_
    refine fe_ic (pc' := 20) dX9_isHut_19 rfl ic_0 ?_
    refine fe_al (pc' := 21) (j := 0) dX9_isHut_20 rfl n_225 s_225 (by decide) (by decide) ?_
    refine fe_iadd (pc' := 22) dX9_isHut_21 rfl ?_
    refine fe_ic (pc' := 23) dX9_isHut_22 rfl ic_1 ?_
    refine fe_isub (pc' := 24) dX9_isHut_23 rfl ?_
    obtain ⟨hi2, h⟩ := am_gd rfl h
    refine fe_al (pc' := 25) (j := ((63 + (g.1 225 0)) - 1).toNatClampNeg) dX9_isHut_24 rfl n_223 s_223 hi2 rfl ?_
    refine fe_ic (pc' := 26) dX9_isHut_25 rfl ic_1 ?_
    refine fe_ic_ne (pc' := 29) (tgt := 33) dX9_isHut_26 rfl rfl (fun hc3 => ?_) (fun hc3 => ?_)
    · replace h := (if_pos hc3).symm.trans h
      refine fe_ic (pc' := 30) dX9_isHut_29 rfl ic_1 ?_
      refine fe_go (tgt := 34) dX9_isHut_30 rfl ?_
      cases h
      exact fe_rz _ dX9_isHut_34 rfl rfl
    · replace h := (if_neg hc3).symm.trans h
      refine fe_ic (pc' := 34) dX9_isHut_33 rfl ic_0 ?_
      cases h
      exact fe_rz _ dX9_isHut_34 rfl rfl
-- Mo_leaves: X9_leaves
set_option maxRecDepth 4000 in
theorem ev_Mo_leaves {g : am_G} {x1 : Int32} {w : (am_G × Int32)} (h : Mo_leaves g x1 = some w) : am_Ev 3 147 [.ref 221, .int x1] (sh0, g) (sh0, w.1) (some (.int w.2)) := by
  unfold Mo_leaves at h
  refine am_ev mX9_leaves (by rfl) (Nat.le_of_ble_eq_true rfl) [(0, .ref 221), (1, .int x1)] rfl ?_
  refine fe_lan (pc' := 1) dX9_leaves_0 rfl rfl ?_
  refine fe_lin (pc' := 2) dX9_leaves_1 rfl rfl ?_
  obtain ⟨q1, hq2, h⟩ := am_bd h
  refine fe_iv (pc' := 5) (as := [.ref 221, .int x1]) (h1 := (sh0, g)) (r1 := some (.int (am_b q1))) (st' := [.int (am_b q1)]) dX9_leaves_2 rfl cl_9_116 rfl rfl s_221 ms_121 ⟨n_221, rfl, by decide, Nat.le_of_ble_eq_true rfl, Nat.le_of_ble_eq_true rfl⟩ (am_le0 _ _ _) (am_up (by decide) (ev_Mo_isThing hq2)) rfl ?_
  refine fe_bF (pc' := 8) (tgt := 10) dX9_leaves_5 rfl rfl rfl (fun hc3 => ?_) (fun hc3 => ?_)
  · replace h := (if_pos hc3).symm.trans h
    refine fe_lan (pc' := 11) dX9_leaves_10 rfl rfl ?_
    refine fe_gf (pc' := 14) dX9_leaves_11 rfl fl_9_19 n_221 gf_221_5 ?_
    refine fe_bp (pc' := 16) dX9_leaves_14 rfl ib_8 ?_
    refine fe_lin (pc' := 17) dX9_leaves_16 rfl rfl ?_
    refine fe_iadd (pc' := 18) dX9_leaves_17 rfl ?_
    obtain ⟨hi4, h⟩ := am_gd rfl h
    refine fe_al (pc' := 19) (j := (8 + x1).toNatClampNeg) dX9_leaves_18 rfl n_225 s_225 hi4 rfl ?_
    refine fe_sin (pc' := 20) (lo' := [(0, .ref 221), (1, .int x1), (2, .int (g.1 225 (8 + x1).toNatClampNeg))]) dX9_leaves_19 rfl (Nat.le_of_ble_eq_true rfl) rfl ?_
    refine fe_lin (pc' := 21) dX9_leaves_20 rfl rfl ?_
    refine fe_bp (pc' := 23) dX9_leaves_21 rfl ib_9 ?_
    refine fe_ic_eq (pc' := 26) (tgt := 33) dX9_leaves_23 rfl rfl (fun hc5 => ?_) (fun hc5 => ?_)
    · replace h := (if_pos hc5).symm.trans h
      refine fe_bp (pc' := 35) dX9_leaves_33 rfl ib_m2 ?_
      cases h
      exact fe_ri dX9_leaves_35 rfl
    · replace h := (if_neg hc5).symm.trans h
      refine fe_lan (pc' := 27) dX9_leaves_26 rfl rfl ?_
      obtain ⟨q6, hq7, h⟩ := am_bd h
      refine fe_iv (pc' := 30) (as := [.ref 221]) (h1 := (sh0, g)) (r1 := some (.int (am_b q6))) (st' := [.int (am_b q6)]) dX9_leaves_27 rfl cl_9_122 rfl rfl s_221 ms_146 ⟨n_221, rfl, by decide, Nat.le_of_ble_eq_true rfl, Nat.le_of_ble_eq_true rfl⟩ (am_le0 _ _ _) (am_up (by decide) (ev_Mo_isHut hq7)) rfl ?_
      refine fe_bF (pc' := 33) (tgt := 36) dX9_leaves_30 rfl rfl rfl (fun hc8 => ?_) (fun hc8 => ?_)
      · replace h := (if_pos hc8).symm.trans h
        refine fe_lan (pc' := 37) dX9_leaves_36 rfl rfl ?_
        obtain ⟨q9, hq10, h⟩ := am_bd h
        refine fe_iv (pc' := 40) (as := [.ref 221]) (h1 := (sh0, q9)) (r1 := none) (st' := []) dX9_leaves_37 rfl cl_9_119 rfl rfl s_221 ms_144 ⟨n_221, rfl, by decide, Nat.le_of_ble_eq_true rfl, Nat.le_of_ble_eq_true rfl⟩ (am_le0 _ _ _) (am_up (by decide) (ev_Mo_keeps hq10)) rfl ?_
        refine fe_lan (pc' := 41) dX9_leaves_40 rfl rfl ?_
        refine fe_gf (pc' := 44) dX9_leaves_41 rfl fl_9_19 n_221 gf_221_5 ?_
        refine fe_bp (pc' := 46) dX9_leaves_44 rfl ib_8 ?_
        refine fe_lin (pc' := 47) dX9_leaves_46 rfl rfl ?_
        refine fe_iadd (pc' := 48) dX9_leaves_47 rfl ?_
        refine fe_bp (pc' := 50) dX9_leaves_48 rfl ib_9 ?_
        refine fe_as (pc' := 51) (j := (8 + x1).toNatClampNeg) dX9_leaves_50 rfl n_225 s_225 hi4 rfl ?_
        refine fe_lin (pc' := 52) dX9_leaves_51 rfl rfl ?_
        cases h
        exact fe_ri dX9_leaves_52 rfl
      · replace h := (if_neg hc8).symm.trans h
        refine fe_bp (pc' := 35) dX9_leaves_33 rfl ib_m2 ?_
        cases h
        exact fe_ri dX9_leaves_35 rfl
  · replace h := (if_neg hc3).symm.trans h
    refine fe_ic (pc' := 9) dX9_leaves_8 rfl ic_m1 ?_
    cases h
    exact fe_ri dX9_leaves_9 rfl
-- Mo_isStage: X9_isStage
set_option maxRecDepth 4000 in
theorem ev_Mo_isStage {g : am_G} {w : Bool} (h : Mo_isStage g  = some w) : am_Ev 1 153 [.ref 221] (sh0, g) (sh0, g) (some (.int (am_b w))) := by
  unfold Mo_isStage at h
  refine am_ev mX9_isStage (by rfl) (Nat.le_of_ble_eq_true rfl) [(0, .ref 221)] rfl ?_
  refine fe_lan (pc' := 1) dX9_isStage_0 rfl rfl ?_
  refine fe_gf (pc' := 4) dX9_isStage_1 rfl fl_9_19 n_221 gf_221_5 ?_
  refine fe_ic (pc' := 5) dX9_isStage_4 rfl ic_0 ?_
  refine fe_al (pc' := 6) (j := 0) dX9_isStage_5 rfl n_225 s_225 (by decide) (by decide) ?_
  refine fe_lan (pc' := 7) dX9_isStage_6 rfl rfl ?_
  refine fe_gf (pc' := 10) dX9_isStage_7 rfl fl_9_13 n_221 gf_221_3 ?_
  refine fe_ic (pc' := 11) dX9_isStage_10 rfl ic_2 ?_
  refine fe_al (pc' := 12) (j := 2) dX9_isStage_11 rfl n_223 s_223 (by decide) (by decide) ?_
  refine fe_ic_ge (pc' := 15) (tgt := 19) dX9_isStage_12 rfl rfl (fun hc1 => ?_) (fun hc1 => ?_)
  · replace h := (if_pos hc1).symm.trans h
    refine fe_ic (pc' := 20) dX9_isStage_19 rfl ic_0 ?_
    cases h
    exact fe_rz _ dX9_isStage_20 rfl rfl
  · replace h := (if_neg hc1).symm.trans h
    refine fe_ic (pc' := 16) dX9_isStage_15 rfl ic_1 ?_
    refine fe_go (tgt := 20) dX9_isStage_16 rfl ?_
    cases h
    exact fe_rz _ dX9_isStage_20 rfl rfl
-- Mo_plainOrder: X9_plainOrder
set_option maxRecDepth 4000 in
theorem lp_Mo_plainOrder_L2 {hE : am_H} {r : Option Value} : ∀ (n : Nat) (g : am_G) (x1 : Int32) (w : am_G), Mo_plainOrder_L2 n g x1 = some w → am_E 0 mX9_plainOrder (21, [], [], (sh0, w)) hE r → am_E 0 mX9_plainOrder (2, [(0, .ref 221), (1, .int x1)], [], (sh0, g)) hE r := by
  intro n
  induction n with
  | zero => intro g x1 q h; cases h
  | succ n ih =>
    intro g x1 q h k1
    replace h : _ = _ := h
    unfold Mo_plainOrder_L2 at h
    refine fe_lin (pc' := 3) dX9_plainOrder_2 rfl rfl ?_
    refine fe_bp (pc' := 5) dX9_plainOrder_3 rfl ib_7 ?_
    refine fe_ic_ge (pc' := 8) (tgt := 21) dX9_plainOrder_5 rfl rfl (fun hc1 => ?_) (fun hc1 => ?_)
    · replace h := (if_pos hc1).symm.trans h
      refine fe_pick [] rfl ?_
      cases h
      exact k1
    · replace h := (if_neg hc1).symm.trans h
      refine fe_lan (pc' := 9) dX9_plainOrder_8 rfl rfl ?_
      refine fe_gf (pc' := 12) dX9_plainOrder_9 rfl fl_9_32 n_221 gf_221_14 ?_
      refine fe_lin (pc' := 13) dX9_plainOrder_12 rfl rfl ?_
      refine fe_lin (pc' := 14) dX9_plainOrder_13 rfl rfl ?_
      obtain ⟨hi2, h⟩ := am_gd rfl h
      refine fe_as (pc' := 15) (j := x1.toNatClampNeg) dX9_plainOrder_14 rfl n_229 s_229 hi2 rfl ?_
      refine fe_inc (pc' := 18) (lo' := [(0, .ref 221), (1, .int (x1 + 1))]) dX9_plainOrder_15 rfl ic_1 (Nat.le_of_ble_eq_true rfl) rfl rfl ?_
      refine fe_go (tgt := 2) dX9_plainOrder_18 rfl ?_
      exact ih (am_wr g 229 x1.toNatClampNeg x1) (x1 + 1) q h k1
set_option maxRecDepth 4000 in
theorem ev_Mo_plainOrder {g : am_G} {w : am_G} (h : Mo_plainOrder g  = some w) : am_Ev 1 150 [.ref 221] (sh0, g) (sh0, w) (none) := by
  unfold Mo_plainOrder at h
  refine am_ev mX9_plainOrder (by rfl) (Nat.le_of_ble_eq_true rfl) [(0, .ref 221)] rfl ?_
  refine fe_ic (pc' := 1) dX9_plainOrder_0 rfl ic_0 ?_
  refine fe_sin (pc' := 2) (lo' := [(0, .ref 221), (1, .int 0)]) dX9_plainOrder_1 rfl (Nat.le_of_ble_eq_true rfl) rfl ?_
  obtain ⟨q3, hq4, h⟩ := am_bd h
  refine lp_Mo_plainOrder_L2 _ g 0 q3 hq4 ?_
  cases h
  exact fe_rv dX9_plainOrder_21 rfl
-- Mo_isRain: X9_isRain
set_option maxRecDepth 4000 in
theorem ev_Mo_isRain {g : am_G} {w : Bool} (h : Mo_isRain g  = some w) : am_Ev 1 154 [.ref 221] (sh0, g) (sh0, g) (some (.int (am_b w))) := by
  unfold Mo_isRain at h
  refine am_ev mX9_isRain (by rfl) (Nat.le_of_ble_eq_true rfl) [(0, .ref 221)] rfl ?_
  refine fe_lan (pc' := 1) dX9_isRain_0 rfl rfl ?_
  refine fe_gf (pc' := 4) dX9_isRain_1 rfl fl_9_13 n_221 gf_221_3 ?_
  refine fe_bp (pc' := 6) dX9_isRain_4 rfl ib_55 ?_
  refine fe_lan (pc' := 7) dX9_isRain_6 rfl rfl ?_
  refine fe_gf (pc' := 10) dX9_isRain_7 rfl fl_9_19 n_221 gf_221_5 ?_
  refine fe_ic (pc' := 11) dX9_isRain_10 rfl ic_0 ?_
  refine fe_al (pc' := 12) (j := 0) dX9_isRain_11 rfl n_225 s_225 (by decide) (by decide) ?_
  refine fe_iadd (pc' := 13) dX9_isRain_12 rfl ?_
  obtain ⟨hi1, h⟩ := am_gd rfl h
  refine fe_al (pc' := 14) (j := (55 + (g.1 225 0)).toNatClampNeg) dX9_isRain_13 rfl n_223 s_223 hi1 rfl ?_
  refine fe_ic (pc' := 15) dX9_isRain_14 rfl ic_1 ?_
  refine fe_ic_ne (pc' := 18) (tgt := 22) dX9_isRain_15 rfl rfl (fun hc2 => ?_) (fun hc2 => ?_)
  · replace h := (if_pos hc2).symm.trans h
    refine fe_ic (pc' := 19) dX9_isRain_18 rfl ic_1 ?_
    refine fe_go (tgt := 23) dX9_isRain_19 rfl ?_
    cases h
    exact fe_rz _ dX9_isRain_23 rfl rfl
  · replace h := (if_neg hc2).symm.trans h
    refine fe_ic (pc' := 23) dX9_isRain_22 rfl ic_0 ?_
    cases h
    exact fe_rz _ dX9_isRain_23 rfl rfl
-- Mo_rains: X9_rains
set_option maxRecDepth 4000 in
theorem lp_Mo_rains_L2 {hE : am_H} {r : Option Value} : ∀ (n : Nat) (g : am_G) (x1 : Int32) (x2 : Int32) (w : am_G), Mo_rains_L2 n g x1 x2 = some w → am_E 0 mX9_rains (58, [], [], (sh0, w)) hE r → am_E 0 mX9_rains (2, [(0, .ref 221), (1, .int x1), (2, .int x2)], [], (sh0, g)) hE r := by
  intro n
  induction n with
  | zero => intro g x1 x2 q h; cases h
  | succ n ih =>
    intro g x1 x2 q h k1
    replace h : _ = _ := h
    unfold Mo_rains_L2 at h
    refine fe_lin (pc' := 3) dX9_rains_2 rfl rfl ?_
    refine fe_lan (pc' := 4) dX9_rains_3 rfl rfl ?_
    refine fe_gf (pc' := 7) dX9_rains_4 rfl fl_9_13 n_221 gf_221_3 ?_
    refine fe_ic (pc' := 8) dX9_rains_7 rfl ic_1 ?_
    refine fe_al (pc' := 9) (j := 1) dX9_rains_8 rfl n_223 s_223 (by decide) (by decide) ?_
    refine fe_ic_ge (pc' := 12) (tgt := 58) dX9_rains_9 rfl rfl (fun hc1 => ?_) (fun hc1 => ?_)
    · replace h := (if_pos hc1).symm.trans h
      refine fe_pick [] rfl ?_
      cases h
      exact k1
    · replace h := (if_neg hc1).symm.trans h
      refine fe_lan (pc' := 13) dX9_rains_12 rfl rfl ?_
      refine fe_gf (pc' := 16) dX9_rains_13 rfl fl_9_19 n_221 gf_221_5 ?_
      refine fe_bp (pc' := 18) dX9_rains_16 rfl ib_22 ?_
      refine fe_lin (pc' := 19) dX9_rains_18 rfl rfl ?_
      refine fe_iadd (pc' := 20) dX9_rains_19 rfl ?_
      refine fe_lin (pc' := 21) dX9_rains_20 rfl rfl ?_
      obtain ⟨q7, hq10, h⟩ := am_bd h
      have K : am_E 0 mX9_rains (51, [(0, .ref 221), (1, .int x1), (2, .int x2)], [.int q7, .int (22 + x2), .ref 225], (sh0, g)) hE r := by
        obtain ⟨hi8, h⟩ := am_gd rfl h
        refine fe_as (pc' := 52) (j := (22 + x2).toNatClampNeg) dX9_rains_51 rfl n_225 s_225 hi8 rfl ?_
        refine fe_inc (pc' := 55) (lo' := [(0, .ref 221), (1, .int x1), (2, .int (x2 + 1))]) dX9_rains_52 rfl ic_1 (Nat.le_of_ble_eq_true rfl) rfl rfl ?_
        refine fe_go (tgt := 2) dX9_rains_55 rfl ?_
        exact ih (am_wr g 225 (22 + x2).toNatClampNeg q7) x1 (x2 + 1) q h k1
      replace h := hq10
      refine fe_if_eq (pc' := 24) (tgt := 42) dX9_rains_21 rfl rfl (fun hc2 => ?_) (fun hc2 => ?_)
      · replace h := (if_pos hc2).symm.trans h
        refine fe_lan (pc' := 43) dX9_rains_42 rfl rfl ?_
        refine fe_gf (pc' := 46) dX9_rains_43 rfl fl_9_19 n_221 gf_221_5 ?_
        refine fe_bp (pc' := 48) dX9_rains_46 rfl ib_22 ?_
        refine fe_lin (pc' := 49) dX9_rains_48 rfl rfl ?_
        refine fe_iadd (pc' := 50) dX9_rains_49 rfl ?_
        obtain ⟨hi3, h⟩ := am_gd rfl h
        refine fe_al (pc' := 51) (j := (22 + x2).toNatClampNeg) dX9_rains_50 rfl n_225 s_225 hi3 rfl ?_
        cases h
        exact K
      · replace h := (if_neg hc2).symm.trans h
        refine fe_lan (pc' := 25) dX9_rains_24 rfl rfl ?_
        refine fe_gf (pc' := 28) dX9_rains_25 rfl fl_9_19 n_221 gf_221_5 ?_
        refine fe_bp (pc' := 30) dX9_rains_28 rfl ib_8 ?_
        refine fe_lin (pc' := 31) dX9_rains_30 rfl rfl ?_
        refine fe_iadd (pc' := 32) dX9_rains_31 rfl ?_
        obtain ⟨hi4, h⟩ := am_gd rfl h
        refine fe_al (pc' := 33) (j := (8 + x2).toNatClampNeg) dX9_rains_32 rfl n_225 s_225 hi4 rfl ?_
        refine fe_bp (pc' := 35) dX9_rains_33 rfl ib_9 ?_
        refine fe_ic_eq (pc' := 38) (tgt := 42) dX9_rains_35 rfl rfl (fun hc5 => ?_) (fun hc5 => ?_)
        · replace h := (if_pos hc5).symm.trans h
          refine fe_lan (pc' := 43) dX9_rains_42 rfl rfl ?_
          refine fe_gf (pc' := 46) dX9_rains_43 rfl fl_9_19 n_221 gf_221_5 ?_
          refine fe_bp (pc' := 48) dX9_rains_46 rfl ib_22 ?_
          refine fe_lin (pc' := 49) dX9_rains_48 rfl rfl ?_
          refine fe_iadd (pc' := 50) dX9_rains_49 rfl ?_
          obtain ⟨hi6, h⟩ := am_gd rfl h
          refine fe_al (pc' := 51) (j := (22 + x2).toNatClampNeg) dX9_rains_50 rfl n_225 s_225 hi6 rfl ?_
          cases h
          exact K
        · replace h := (if_neg hc5).symm.trans h
          refine fe_ic (pc' := 39) dX9_rains_38 rfl ic_1 ?_
          refine fe_go (tgt := 51) dX9_rains_39 rfl ?_
          cases h
          exact K
set_option maxRecDepth 4000 in
theorem ev_Mo_rains {g : am_G} {x1 : Int32} {w : am_G} (h : Mo_rains g x1 = some w) : am_Ev 1 148 [.ref 221, .int x1] (sh0, g) (sh0, w) (none) := by
  unfold Mo_rains at h
  refine am_ev mX9_rains (by rfl) (Nat.le_of_ble_eq_true rfl) [(0, .ref 221), (1, .int x1)] rfl ?_
  refine fe_ic (pc' := 1) dX9_rains_0 rfl ic_0 ?_
  refine fe_sin (pc' := 2) (lo' := [(0, .ref 221), (1, .int x1), (2, .int 0)]) dX9_rains_1 rfl (Nat.le_of_ble_eq_true rfl) rfl ?_
  obtain ⟨q9, hq11, h⟩ := am_bd h
  refine lp_Mo_rains_L2 _ g x1 0 q9 hq11 ?_
  cases h
  exact fe_rv dX9_rains_58 rfl
-- Mo_takes: X9_takes
set_option maxRecDepth 4000 in
theorem ev_Mo_takes {g : am_G} {x0 x1 : Int32} {w : Int32} (h : Mo_takes g x0 x1 = some w) : am_Ev 1 140 [.int x0, .int x1] (sh0, g) (sh0, g) (some (.int w)) := by
  unfold Mo_takes at h
  refine am_ev mX9_takes (by rfl) (Nat.le_of_ble_eq_true rfl) [(0, .int x0), (1, .int x1)] rfl ?_
  refine fe_bp (pc' := 2) dX9_takes_0 rfl ib_60 ?_
  refine fe_lin (pc' := 3) dX9_takes_2 rfl rfl ?_
  refine fe_imul (pc' := 4) dX9_takes_3 rfl ?_
  refine fe_lin (pc' := 5) dX9_takes_4 rfl rfl ?_
  refine fe_iadd (pc' := 6) dX9_takes_5 rfl ?_
  refine fe_ic (pc' := 7) dX9_takes_6 rfl ic_1 ?_
  refine fe_isub (pc' := 8) dX9_takes_7 rfl ?_
  refine fe_lin (pc' := 9) dX9_takes_8 rfl rfl ?_
  obtain ⟨hz1, h⟩ := am_gd rfl h
  refine fe_idiv (pc' := 10) dX9_takes_9 rfl hz1 ?_
  cases h
  exact fe_ri dX9_takes_10 rfl
-- Mo_slowest: X9_slowest
set_option maxRecDepth 4000 in
theorem lp_Mo_slowest_L4 {hE : am_H} {r : Option Value} : ∀ (n : Nat) (g : am_G) (x1 : Int32) (x2 : Int32) (x3 : Int32) (w : Int32), Mo_slowest_L4 n g x1 x2 x3 = some w → am_E 2 mX9_slowest (49, [(2, .int w)], [], (sh0, g)) hE r → am_E 2 mX9_slowest (4, [(0, .ref 221), (1, .int x1), (2, .int x2), (3, .int x3)], [], (sh0, g)) hE r := by
  intro n
  induction n with
  | zero => intro g x1 x2 x3 q h; cases h
  | succ n ih =>
    intro g x1 x2 x3 q h k1
    replace h : _ = _ := h
    unfold Mo_slowest_L4 at h
    refine fe_lin (pc' := 5) dX9_slowest_4 rfl rfl ?_
    refine fe_lan (pc' := 6) dX9_slowest_5 rfl rfl ?_
    refine fe_gf (pc' := 9) dX9_slowest_6 rfl fl_9_13 n_221 gf_221_3 ?_
    refine fe_ic (pc' := 10) dX9_slowest_9 rfl ic_0 ?_
    refine fe_al (pc' := 11) (j := 0) dX9_slowest_10 rfl n_223 s_223 (by decide) (by decide) ?_
    refine fe_ic_ge (pc' := 14) (tgt := 49) dX9_slowest_11 rfl rfl (fun hc1 => ?_) (fun hc1 => ?_)
    · replace h := (if_pos hc1).symm.trans h
      refine fe_pick [2] rfl ?_
      cases h
      exact k1
    · replace h := (if_neg hc1).symm.trans h
      refine fe_lin (pc' := 15) dX9_slowest_14 rfl rfl ?_
      refine fe_lan (pc' := 16) dX9_slowest_15 rfl rfl ?_
      refine fe_lin (pc' := 17) dX9_slowest_16 rfl rfl ?_
      refine fe_lan (pc' := 18) dX9_slowest_17 rfl rfl ?_
      refine fe_lin (pc' := 19) dX9_slowest_18 rfl rfl ?_
      obtain ⟨q2, hq3, h⟩ := am_bd h
      refine fe_iv (pc' := 22) (as := [.ref 221, .int x3]) (h1 := (sh0, g)) (r1 := some (.int q2)) (st' := [.int q2, .int x3, .ref 221, .int x1]) dX9_slowest_19 rfl cl_9_109 rfl rfl s_221 ms_137 ⟨n_221, rfl, by decide, Nat.le_of_ble_eq_true rfl, Nat.le_of_ble_eq_true rfl⟩ (am_le0 _ _ _) (am_up (by decide) (ev_Mo_load hq3)) rfl ?_
      obtain ⟨q4, hq5, h⟩ := am_bd h
      refine fe_iv (pc' := 25) (as := [.ref 221, .int x3, .int q2]) (h1 := (sh0, g)) (r1 := some (.int q4)) (st' := [.int q4, .int x1]) dX9_slowest_22 rfl cl_9_112 rfl rfl s_221 ms_139 ⟨n_221, rfl, by decide, Nat.le_of_ble_eq_true rfl, Nat.le_of_ble_eq_true rfl⟩ (am_le0 _ _ _) (am_up (by decide) (ev_Mo_pace hq5)) rfl ?_
      obtain ⟨q6, hq7, h⟩ := am_bd h
      refine fe_is (pc' := 28) (as := [.int x1, .int q4]) (h1 := (sh0, g)) (r1 := some (.int q6)) (st' := [.int q6]) dX9_slowest_25 rfl cl_9_125 (Or.inl rfl) rfl rfl ⟨Nat.le_of_ble_eq_true rfl, Nat.le_of_ble_eq_true rfl⟩ (am_le0 _ _ _) (am_up (by decide) (ev_Mo_takes hq7)) rfl ?_
      refine fe_si (pc' := 30) (lo' := [(0, .ref 221), (1, .int x1), (2, .int x2), (3, .int x3), (4, .int q6)]) dX9_slowest_28 rfl (Nat.le_of_ble_eq_true rfl) rfl ?_
      refine fe_li (pc' := 32) dX9_slowest_30 rfl rfl ?_
      refine fe_lin (pc' := 33) dX9_slowest_32 rfl rfl ?_
      have K : am_E 2 mX9_slowest (42, [(0, .ref 221), (1, .int x1), (3, .int x3)], [.int (if q6 ≤ x2 then x2 else q6 : Int32)], (sh0, g)) hE r := by
        refine fe_sin (pc' := 43) (lo' := [(0, .ref 221), (1, .int x1), (2, .int (if q6 ≤ x2 then x2 else q6 : Int32)), (3, .int x3)]) dX9_slowest_42 rfl (Nat.le_of_ble_eq_true rfl) rfl ?_
        refine fe_inc (pc' := 46) (lo' := [(0, .ref 221), (1, .int x1), (2, .int (if q6 ≤ x2 then x2 else q6 : Int32)), (3, .int (x3 + 1))]) dX9_slowest_43 rfl ic_1 (Nat.le_of_ble_eq_true rfl) rfl rfl ?_
        refine fe_go (tgt := 4) dX9_slowest_46 rfl ?_
        exact ih g x1 (if q6 ≤ x2 then x2 else q6 : Int32) (x3 + 1) q h k1
      refine fe_ic_le (pc' := 36) (tgt := 41) dX9_slowest_33 rfl rfl (fun hc8 => ?_) (fun hc8 => ?_)
      · refine fe_lin (pc' := 42) dX9_slowest_41 rfl rfl ?_
        refine fe_pick [0, 1, 3] rfl ?_
        simp only [if_pos hc8] at K ⊢
        exact K
      · refine fe_li (pc' := 38) dX9_slowest_36 rfl rfl ?_
        refine fe_go (tgt := 42) dX9_slowest_38 rfl ?_
        refine fe_pick [0, 1, 3] rfl ?_
        simp only [if_neg hc8] at K ⊢
        exact K
set_option maxRecDepth 4000 in
theorem ev_Mo_slowest {g : am_G} {x1 : Int32} {w : Int32} (h : Mo_slowest g x1 = some w) : am_Ev 3 149 [.ref 221, .int x1] (sh0, g) (sh0, g) (some (.int w)) := by
  unfold Mo_slowest at h
  refine am_ev mX9_slowest (by rfl) (Nat.le_of_ble_eq_true rfl) [(0, .ref 221), (1, .int x1)] rfl ?_
  refine fe_ic (pc' := 1) dX9_slowest_0 rfl ic_0 ?_
  refine fe_sin (pc' := 2) (lo' := [(0, .ref 221), (1, .int x1), (2, .int 0)]) dX9_slowest_1 rfl (Nat.le_of_ble_eq_true rfl) rfl ?_
  refine fe_ic (pc' := 3) dX9_slowest_2 rfl ic_0 ?_
  refine fe_sin (pc' := 4) (lo' := [(0, .ref 221), (1, .int x1), (2, .int 0), (3, .int 0)]) dX9_slowest_3 rfl (Nat.le_of_ble_eq_true rfl) rfl ?_
  obtain ⟨q10, hq11, h⟩ := am_bd h
  refine lp_Mo_slowest_L4 _ g x1 0 0 q10 hq11 ?_
  refine fe_lin (pc' := 50) dX9_slowest_49 rfl rfl ?_
  cases h
  exact fe_ri dX9_slowest_50 rfl
-- Mo_eats: X9_eats
set_option maxRecDepth 4000 in
theorem lp_Mo_eats_L11 {hE : am_H} {r : Option Value} : ∀ (n : Nat) (g : am_G) (x1 : Int32) (x2 : Int32) (w : am_G × Int32), Mo_eats_L11 n g x1 x2 = some w → am_E 0 mX9_eats (124, [(0, .ref 221), (1, .int w.2)], [], (sh0, w.1)) hE r → am_E 0 mX9_eats (11, [(0, .ref 221), (1, .int x1), (2, .int x2)], [], (sh0, g)) hE r := by
  intro n
  induction n with
  | zero => intro g x1 x2 q h; cases h
  | succ n ih =>
    intro g x1 x2 q h k1
    replace h : _ = _ := h
    unfold Mo_eats_L11 at h
    refine fe_lin (pc' := 12) dX9_eats_11 rfl rfl ?_
    refine fe_lan (pc' := 13) dX9_eats_12 rfl rfl ?_
    refine fe_gf (pc' := 16) dX9_eats_13 rfl fl_9_13 n_221 gf_221_3 ?_
    refine fe_ic (pc' := 17) dX9_eats_16 rfl ic_1 ?_
    refine fe_al (pc' := 18) (j := 1) dX9_eats_17 rfl n_223 s_223 (by decide) (by decide) ?_
    refine fe_ic_ge (pc' := 21) (tgt := 124) dX9_eats_18 rfl rfl (fun hc1 => ?_) (fun hc1 => ?_)
    · replace h := (if_pos hc1).symm.trans h
      refine fe_pick [0, 1] rfl ?_
      cases h
      exact k1
    · replace h := (if_neg hc1).symm.trans h
      refine fe_lan (pc' := 22) dX9_eats_21 rfl rfl ?_
      refine fe_gf (pc' := 25) dX9_eats_22 rfl fl_9_32 n_221 gf_221_14 ?_
      refine fe_lin (pc' := 26) dX9_eats_25 rfl rfl ?_
      obtain ⟨hi2, h⟩ := am_gd rfl h
      refine fe_al (pc' := 27) (j := x2.toNatClampNeg) dX9_eats_26 rfl n_229 s_229 hi2 rfl ?_
      refine fe_sin (pc' := 28) (lo' := [(0, .ref 221), (1, .int x1), (2, .int x2), (3, .int (g.1 229 x2.toNatClampNeg))]) dX9_eats_27 rfl (Nat.le_of_ble_eq_true rfl) rfl ?_
      refine fe_lan (pc' := 29) dX9_eats_28 rfl rfl ?_
      refine fe_gf (pc' := 32) dX9_eats_29 rfl fl_9_13 n_221 gf_221_3 ?_
      refine fe_bp (pc' := 34) dX9_eats_32 rfl ib_26 ?_
      refine fe_lin (pc' := 35) dX9_eats_34 rfl rfl ?_
      refine fe_iadd (pc' := 36) dX9_eats_35 rfl ?_
      obtain ⟨hi3, h⟩ := am_gd rfl h
      refine fe_al (pc' := 37) (j := (26 + (g.1 229 x2.toNatClampNeg)).toNatClampNeg) dX9_eats_36 rfl n_223 s_223 hi3 rfl ?_
      refine fe_ic (pc' := 38) dX9_eats_37 rfl ic_1 ?_
      obtain ⟨q7, hq14, h⟩ := am_bd h
      have K : am_E 0 mX9_eats (60, [(0, .ref 221), (1, .int x1), (2, .int x2), (3, .int (g.1 229 x2.toNatClampNeg))], [.int q7], (sh0, g)) hE r := by
        refine fe_si (pc' := 62) (lo' := [(0, .ref 221), (1, .int x1), (2, .int x2), (3, .int (g.1 229 x2.toNatClampNeg)), (4, .int q7)]) dX9_eats_60 rfl (Nat.le_of_ble_eq_true rfl) rfl ?_
        refine fe_li (pc' := 64) dX9_eats_62 rfl rfl ?_
        obtain ⟨q11, hq15, h⟩ := am_bd h
        have K : am_E 0 mX9_eats (97, [(0, .ref 221), (1, .int x1), (2, .int x2), (3, .int (g.1 229 x2.toNatClampNeg))], [.int q11], (sh0, g)) hE r := by
          refine fe_si (pc' := 99) (lo' := [(0, .ref 221), (1, .int x1), (2, .int x2), (3, .int (g.1 229 x2.toNatClampNeg)), (5, .int q11)]) dX9_eats_97 rfl (Nat.le_of_ble_eq_true rfl) rfl ?_
          refine fe_lan (pc' := 100) dX9_eats_99 rfl rfl ?_
          refine fe_gf (pc' := 103) dX9_eats_100 rfl fl_9_19 n_221 gf_221_5 ?_
          refine fe_bp (pc' := 105) dX9_eats_103 rfl ib_15 ?_
          refine fe_lin (pc' := 106) dX9_eats_105 rfl rfl ?_
          refine fe_iadd (pc' := 107) dX9_eats_106 rfl ?_
          refine fe_dup2 (pc' := 108) dX9_eats_107 rfl ⟨rfl, rfl⟩ ?_
          obtain ⟨hi12, h⟩ := am_gd rfl h
          refine fe_al (pc' := 109) (j := (15 + (g.1 229 x2.toNatClampNeg)).toNatClampNeg) dX9_eats_108 rfl n_225 s_225 hi12 rfl ?_
          refine fe_li (pc' := 111) dX9_eats_109 rfl rfl ?_
          refine fe_isub (pc' := 112) dX9_eats_111 rfl ?_
          refine fe_as (pc' := 113) (j := (15 + (g.1 229 x2.toNatClampNeg)).toNatClampNeg) dX9_eats_112 rfl n_225 s_225 hi12 rfl ?_
          refine fe_lin (pc' := 114) dX9_eats_113 rfl rfl ?_
          refine fe_li (pc' := 116) dX9_eats_114 rfl rfl ?_
          refine fe_isub (pc' := 117) dX9_eats_116 rfl ?_
          refine fe_sin (pc' := 118) (lo' := [(0, .ref 221), (1, .int (x1 - q11)), (2, .int x2), (3, .int (g.1 229 x2.toNatClampNeg)), (5, .int q11)]) dX9_eats_117 rfl (Nat.le_of_ble_eq_true rfl) rfl ?_
          refine fe_inc (pc' := 121) (lo' := [(0, .ref 221), (1, .int (x1 - q11)), (2, .int (x2 + 1)), (3, .int (g.1 229 x2.toNatClampNeg)), (5, .int q11)]) dX9_eats_118 rfl ic_1 (Nat.le_of_ble_eq_true rfl) rfl rfl ?_
          refine fe_go (tgt := 11) dX9_eats_121 rfl ?_
          refine fe_pick [0, 1, 2] rfl ?_
          exact ih (am_wr g 225 (15 + (g.1 229 x2.toNatClampNeg)).toNatClampNeg ((g.1 225 (15 + (g.1 229 x2.toNatClampNeg)).toNatClampNeg) - q11)) (x1 - q11) (x2 + 1) q h k1
        replace h := hq15
        refine fe_if_ne (pc' := 67) (tgt := 71) dX9_eats_64 rfl rfl (fun hc8 => ?_) (fun hc8 => ?_)
        · replace h := (if_pos hc8).symm.trans h
          refine fe_ic (pc' := 68) dX9_eats_67 rfl ic_0 ?_
          refine fe_go (tgt := 97) dX9_eats_68 rfl ?_
          refine fe_pick [0, 1, 2, 3] rfl ?_
          cases h
          exact K
        · replace h := (if_neg hc8).symm.trans h
          refine fe_lan (pc' := 72) dX9_eats_71 rfl rfl ?_
          refine fe_gf (pc' := 75) dX9_eats_72 rfl fl_9_19 n_221 gf_221_5 ?_
          refine fe_bp (pc' := 77) dX9_eats_75 rfl ib_15 ?_
          refine fe_lin (pc' := 78) dX9_eats_77 rfl rfl ?_
          refine fe_iadd (pc' := 79) dX9_eats_78 rfl ?_
          obtain ⟨hi9, h⟩ := am_gd rfl h
          refine fe_al (pc' := 80) (j := (15 + (g.1 229 x2.toNatClampNeg)).toNatClampNeg) dX9_eats_79 rfl n_225 s_225 hi9 rfl ?_
          refine fe_lin (pc' := 81) dX9_eats_80 rfl rfl ?_
          refine fe_ic_ge (pc' := 84) (tgt := 96) dX9_eats_81 rfl rfl (fun hc10 => ?_) (fun hc10 => ?_)
          · replace h := (if_pos hc10).symm.trans h
            refine fe_lin (pc' := 97) dX9_eats_96 rfl rfl ?_
            refine fe_pick [0, 1, 2, 3] rfl ?_
            cases h
            exact K
          · replace h := (if_neg hc10).symm.trans h
            refine fe_lan (pc' := 85) dX9_eats_84 rfl rfl ?_
            refine fe_gf (pc' := 88) dX9_eats_85 rfl fl_9_19 n_221 gf_221_5 ?_
            refine fe_bp (pc' := 90) dX9_eats_88 rfl ib_15 ?_
            refine fe_lin (pc' := 91) dX9_eats_90 rfl rfl ?_
            refine fe_iadd (pc' := 92) dX9_eats_91 rfl ?_
            refine fe_al (pc' := 93) (j := (15 + (g.1 229 x2.toNatClampNeg)).toNatClampNeg) dX9_eats_92 rfl n_225 s_225 hi9 rfl ?_
            refine fe_go (tgt := 97) dX9_eats_93 rfl ?_
            refine fe_pick [0, 1, 2, 3] rfl ?_
            cases h
            exact K
      replace h := hq14
      refine fe_ic_ne (pc' := 41) (tgt := 59) dX9_eats_38 rfl rfl (fun hc4 => ?_) (fun hc4 => ?_)
      · replace h := (if_pos hc4).symm.trans h
        refine fe_lan (pc' := 42) dX9_eats_41 rfl rfl ?_
        refine fe_gf (pc' := 45) dX9_eats_42 rfl fl_9_19 n_221 gf_221_5 ?_
        refine fe_bp (pc' := 47) dX9_eats_45 rfl ib_8 ?_
        refine fe_lin (pc' := 48) dX9_eats_47 rfl rfl ?_
        refine fe_iadd (pc' := 49) dX9_eats_48 rfl ?_
        obtain ⟨hi5, h⟩ := am_gd rfl h
        refine fe_al (pc' := 50) (j := (8 + (g.1 229 x2.toNatClampNeg)).toNatClampNeg) dX9_eats_49 rfl n_225 s_225 hi5 rfl ?_
        refine fe_bp (pc' := 52) dX9_eats_50 rfl ib_9 ?_
        refine fe_ic_eq (pc' := 55) (tgt := 59) dX9_eats_52 rfl rfl (fun hc6 => ?_) (fun hc6 => ?_)
        · replace h := (if_pos hc6).symm.trans h
          refine fe_ic (pc' := 60) dX9_eats_59 rfl ic_0 ?_
          cases h
          exact K
        · replace h := (if_neg hc6).symm.trans h
          refine fe_ic (pc' := 56) dX9_eats_55 rfl ic_1 ?_
          refine fe_go (tgt := 60) dX9_eats_56 rfl ?_
          cases h
          exact K
      · replace h := (if_neg hc4).symm.trans h
        refine fe_ic (pc' := 60) dX9_eats_59 rfl ic_0 ?_
        cases h
        exact K
set_option maxRecDepth 4000 in
theorem ev_Mo_eats {g : am_G} {w : am_G} (h : Mo_eats g  = some w) : am_Ev 1 151 [.ref 221] (sh0, g) (sh0, w) (none) := by
  unfold Mo_eats at h
  refine am_ev mX9_eats (by rfl) (Nat.le_of_ble_eq_true rfl) [(0, .ref 221)] rfl ?_
  refine fe_ic (pc' := 1) dX9_eats_0 rfl ic_2 ?_
  refine fe_lan (pc' := 2) dX9_eats_1 rfl rfl ?_
  refine fe_gf (pc' := 5) dX9_eats_2 rfl fl_9_13 n_221 gf_221_3 ?_
  refine fe_ic (pc' := 6) dX9_eats_5 rfl ic_0 ?_
  refine fe_al (pc' := 7) (j := 0) dX9_eats_6 rfl n_223 s_223 (by decide) (by decide) ?_
  refine fe_imul (pc' := 8) dX9_eats_7 rfl ?_
  refine fe_sin (pc' := 9) (lo' := [(0, .ref 221), (1, .int (2 * (g.1 223 0)))]) dX9_eats_8 rfl (Nat.le_of_ble_eq_true rfl) rfl ?_
  refine fe_ic (pc' := 10) dX9_eats_9 rfl ic_0 ?_
  refine fe_sin (pc' := 11) (lo' := [(0, .ref 221), (1, .int (2 * (g.1 223 0))), (2, .int 0)]) dX9_eats_10 rfl (Nat.le_of_ble_eq_true rfl) rfl ?_
  obtain ⟨q13, hq16, h⟩ := am_bd h
  refine lp_Mo_eats_L11 _ g (2 * (g.1 223 0)) 0 q13 hq16 ?_
  refine fe_lan (pc' := 125) dX9_eats_124 rfl rfl ?_
  refine fe_gf (pc' := 128) dX9_eats_125 rfl fl_9_19 n_221 gf_221_5 ?_
  refine fe_ic (pc' := 129) dX9_eats_128 rfl ic_2 ?_
  refine fe_dup2 (pc' := 130) dX9_eats_129 rfl ⟨rfl, rfl⟩ ?_
  refine fe_al (pc' := 131) (j := 2) dX9_eats_130 rfl n_225 s_225 (by decide) (by decide) ?_
  refine fe_lin (pc' := 132) dX9_eats_131 rfl rfl ?_
  refine fe_iadd (pc' := 133) dX9_eats_132 rfl ?_
  refine fe_as (pc' := 134) (j := 2) dX9_eats_133 rfl n_225 s_225 (by decide) (by decide) ?_
  cases h
  exact fe_rv dX9_eats_134 rfl
-- Mo_stageGoes: X9_stageGoes
set_option maxRecDepth 4000 in
theorem lp_Mo_stageGoes_L26 {hE : am_H} {r : Option Value} : ∀ (n : Nat) (g : am_G) (x1 : Int32) (x2 : Int32) (x3 : Int32) (w : am_G), Mo_stageGoes_L26 n g x1 x2 x3 = some w → am_E 3 mX9_stageGoes (129, [(0, .ref 221), (1, .int x1), (2, .int x2)], [], (sh0, w)) hE r → am_E 3 mX9_stageGoes (26, [(0, .ref 221), (1, .int x1), (2, .int x2), (3, .int x3)], [], (sh0, g)) hE r := by
  intro n
  induction n with
  | zero => intro g x1 x2 x3 q h; cases h
  | succ n ih =>
    intro g x1 x2 x3 q h k1
    replace h : _ = _ := h
    unfold Mo_stageGoes_L26 at h
    refine fe_lin (pc' := 27) dX9_stageGoes_26 rfl rfl ?_
    refine fe_lan (pc' := 28) dX9_stageGoes_27 rfl rfl ?_
    refine fe_gf (pc' := 31) dX9_stageGoes_28 rfl fl_9_13 n_221 gf_221_3 ?_
    refine fe_ic (pc' := 32) dX9_stageGoes_31 rfl ic_0 ?_
    refine fe_al (pc' := 33) (j := 0) dX9_stageGoes_32 rfl n_223 s_223 (by decide) (by decide) ?_
    refine fe_ic_ge (pc' := 36) (tgt := 129) dX9_stageGoes_33 rfl rfl (fun hc6 => ?_) (fun hc6 => ?_)
    · replace h := (if_pos hc6).symm.trans h
      refine fe_pick [0, 1, 2] rfl ?_
      cases h
      exact k1
    · replace h := (if_neg hc6).symm.trans h
      refine fe_lan (pc' := 37) dX9_stageGoes_36 rfl rfl ?_
      refine fe_lin (pc' := 38) dX9_stageGoes_37 rfl rfl ?_
      obtain ⟨q7, hq8, h⟩ := am_bd h
      refine fe_iv (pc' := 41) (as := [.ref 221, .int x3]) (h1 := (sh0, g)) (r1 := some (.int q7)) (st' := [.int q7]) dX9_stageGoes_38 rfl cl_9_109 rfl rfl s_221 ms_137 ⟨n_221, rfl, by decide, Nat.le_of_ble_eq_true rfl, Nat.le_of_ble_eq_true rfl⟩ (am_le0 _ _ _) (am_up (by decide) (ev_Mo_load hq8)) rfl ?_
      refine fe_lan (pc' := 42) dX9_stageGoes_41 rfl rfl ?_
      refine fe_lin (pc' := 43) dX9_stageGoes_42 rfl rfl ?_
      obtain ⟨q9, hq10, h⟩ := am_bd h
      refine fe_iv (pc' := 46) (as := [.ref 221, .int x3]) (h1 := (sh0, g)) (r1 := some (.int q9)) (st' := [.int q9, .int q7]) dX9_stageGoes_43 rfl cl_9_103 rfl rfl s_221 ms_138 ⟨n_221, rfl, by decide, Nat.le_of_ble_eq_true rfl, Nat.le_of_ble_eq_true rfl⟩ (am_le0 _ _ _) (am_up (by decide) (ev_Mo_force hq10)) rfl ?_
      have K : am_E 3 mX9_stageGoes (54, [(0, .ref 221), (1, .int x1), (2, .int x2), (3, .int x3)], [.int (if q7 ≤ q9 then 0 else 1 : Int32)], (sh0, g)) hE r := by
        refine fe_si (pc' := 56) (lo' := [(0, .ref 221), (1, .int x1), (2, .int x2), (3, .int x3), (4, .int (if q7 ≤ q9 then 0 else 1 : Int32))]) dX9_stageGoes_54 rfl (Nat.le_of_ble_eq_true rfl) rfl ?_
        refine fe_li (pc' := 58) dX9_stageGoes_56 rfl rfl ?_
        obtain ⟨q17, hq35, h⟩ := am_bd h
        have K : am_E 3 mX9_stageGoes (92, [(0, .ref 221), (1, .int x1), (2, .int x2), (3, .int x3)], [.int q17], (sh0, g)) hE r := by
          refine fe_si (pc' := 94) (lo' := [(0, .ref 221), (1, .int x1), (2, .int x2), (3, .int x3), (5, .int q17)]) dX9_stageGoes_92 rfl (Nat.le_of_ble_eq_true rfl) rfl ?_
          refine fe_lan (pc' := 95) dX9_stageGoes_94 rfl rfl ?_
          refine fe_gf (pc' := 98) dX9_stageGoes_95 rfl fl_9_35 n_221 gf_221_15 ?_
          refine fe_lin (pc' := 99) dX9_stageGoes_98 rfl rfl ?_
          refine fe_li (pc' := 101) dX9_stageGoes_99 rfl rfl ?_
          have K : am_E 3 mX9_stageGoes (122, [(0, .ref 221), (1, .int x1), (2, .int x2), (3, .int x3)], [.int (if 0 ≤ q17 then if q17 ≤ 20 then q17 else 20 else 0 : Int32), .int x3, .ref 230], (sh0, g)) hE r := by
            obtain ⟨hi21, h⟩ := am_gd rfl h
            refine fe_as (pc' := 123) (j := x3.toNatClampNeg) dX9_stageGoes_122 rfl n_230 s_230 hi21 rfl ?_
            refine fe_inc (pc' := 126) (lo' := [(0, .ref 221), (1, .int x1), (2, .int x2), (3, .int (x3 + 1))]) dX9_stageGoes_123 rfl ic_1 (Nat.le_of_ble_eq_true rfl) rfl rfl ?_
            refine fe_go (tgt := 26) dX9_stageGoes_126 rfl ?_
            exact ih (am_wr g 230 x3.toNatClampNeg (if 0 ≤ q17 then if q17 ≤ 20 then q17 else 20 else 0 : Int32)) x1 x2 (x3 + 1) q h k1
          refine fe_if_ge (pc' := 104) (tgt := 108) dX9_stageGoes_101 rfl rfl (fun hc18 => ?_) (fun hc18 => ?_)
          · refine fe_li (pc' := 110) dX9_stageGoes_108 rfl rfl ?_
            refine fe_bp (pc' := 112) dX9_stageGoes_110 rfl ib_20 ?_
            refine fe_ic_le (pc' := 115) (tgt := 120) dX9_stageGoes_112 rfl rfl (fun hc19 => ?_) (fun hc19 => ?_)
            · refine fe_li (pc' := 122) dX9_stageGoes_120 rfl rfl ?_
              refine fe_pick [0, 1, 2, 3] rfl ?_
              simp only [if_pos hc18, if_pos hc19] at K ⊢
              exact K
            · refine fe_bp (pc' := 117) dX9_stageGoes_115 rfl ib_20 ?_
              refine fe_go (tgt := 122) dX9_stageGoes_117 rfl ?_
              refine fe_pick [0, 1, 2, 3] rfl ?_
              simp only [if_pos hc18, if_neg hc19] at K ⊢
              exact K
          · refine fe_ic (pc' := 105) dX9_stageGoes_104 rfl ic_0 ?_
            refine fe_go (tgt := 122) dX9_stageGoes_105 rfl ?_
            refine fe_pick [0, 1, 2, 3] rfl ?_
            simp only [if_neg hc18] at K ⊢
            exact K
        replace h := hq35
        refine fe_if_eq (pc' := 61) (tgt := 74) dX9_stageGoes_58 rfl rfl (fun hc13 => ?_) (fun hc13 => ?_)
        · replace h := (if_pos hc13).symm.trans h
          refine fe_lan (pc' := 75) dX9_stageGoes_74 rfl rfl ?_
          refine fe_gf (pc' := 78) dX9_stageGoes_75 rfl fl_9_19 n_221 gf_221_5 ?_
          refine fe_ic (pc' := 79) dX9_stageGoes_78 rfl ic_4 ?_
          refine fe_lin (pc' := 80) dX9_stageGoes_79 rfl rfl ?_
          refine fe_iadd (pc' := 81) dX9_stageGoes_80 rfl ?_
          obtain ⟨hi14, h⟩ := am_gd rfl h
          refine fe_al (pc' := 82) (j := (4 + x3).toNatClampNeg) dX9_stageGoes_81 rfl n_225 s_225 hi14 rfl ?_
          refine fe_lan (pc' := 83) dX9_stageGoes_82 rfl rfl ?_
          refine fe_gf (pc' := 86) dX9_stageGoes_83 rfl fl_9_13 n_221 gf_221_3 ?_
          refine fe_bp (pc' := 88) dX9_stageGoes_86 rfl ib_8 ?_
          refine fe_lin (pc' := 89) dX9_stageGoes_88 rfl rfl ?_
          refine fe_iadd (pc' := 90) dX9_stageGoes_89 rfl ?_
          obtain ⟨hi15, h⟩ := am_gd rfl h
          refine fe_al (pc' := 91) (j := (8 + x3).toNatClampNeg) dX9_stageGoes_90 rfl n_223 s_223 hi15 rfl ?_
          refine fe_isub (pc' := 92) dX9_stageGoes_91 rfl ?_
          refine fe_pick [0, 1, 2, 3] rfl ?_
          cases h
          exact K
        · replace h := (if_neg hc13).symm.trans h
          refine fe_lan (pc' := 62) dX9_stageGoes_61 rfl rfl ?_
          refine fe_gf (pc' := 65) dX9_stageGoes_62 rfl fl_9_19 n_221 gf_221_5 ?_
          refine fe_ic (pc' := 66) dX9_stageGoes_65 rfl ic_4 ?_
          refine fe_lin (pc' := 67) dX9_stageGoes_66 rfl rfl ?_
          refine fe_iadd (pc' := 68) dX9_stageGoes_67 rfl ?_
          obtain ⟨hi16, h⟩ := am_gd rfl h
          refine fe_al (pc' := 69) (j := (4 + x3).toNatClampNeg) dX9_stageGoes_68 rfl n_225 s_225 hi16 rfl ?_
          refine fe_ic (pc' := 70) dX9_stageGoes_69 rfl ic_2 ?_
          refine fe_iadd (pc' := 71) dX9_stageGoes_70 rfl ?_
          refine fe_go (tgt := 92) dX9_stageGoes_71 rfl ?_
          refine fe_pick [0, 1, 2, 3] rfl ?_
          cases h
          exact K
      refine fe_ic_le (pc' := 49) (tgt := 53) dX9_stageGoes_46 rfl rfl (fun hc11 => ?_) (fun hc11 => ?_)
      · refine fe_ic (pc' := 54) dX9_stageGoes_53 rfl ic_0 ?_
        simp only [if_pos hc11] at K ⊢
        exact K
      · refine fe_ic (pc' := 50) dX9_stageGoes_49 rfl ic_1 ?_
        refine fe_go (tgt := 54) dX9_stageGoes_50 rfl ?_
        simp only [if_neg hc11] at K ⊢
        exact K
set_option maxRecDepth 4000 in
theorem lp_Mo_stageGoes_L131 {hE : am_H} {r : Option Value} : ∀ (n : Nat) (g : am_G) (x1 : Int32) (x2 : Int32) (x3 : Int32) (w : am_G), Mo_stageGoes_L131 n g x1 x2 x3 = some w → am_E 3 mX9_stageGoes (161, [(0, .ref 221), (1, .int x1), (2, .int x2)], [], (sh0, w)) hE r → am_E 3 mX9_stageGoes (131, [(0, .ref 221), (1, .int x1), (2, .int x2), (3, .int x3)], [], (sh0, g)) hE r := by
  intro n
  induction n with
  | zero => intro g x1 x2 x3 q h; cases h
  | succ n ih =>
    intro g x1 x2 x3 q h k1
    replace h : _ = _ := h
    unfold Mo_stageGoes_L131 at h
    refine fe_lin (pc' := 132) dX9_stageGoes_131 rfl rfl ?_
    refine fe_lan (pc' := 133) dX9_stageGoes_132 rfl rfl ?_
    refine fe_gf (pc' := 136) dX9_stageGoes_133 rfl fl_9_13 n_221 gf_221_3 ?_
    refine fe_ic (pc' := 137) dX9_stageGoes_136 rfl ic_0 ?_
    refine fe_al (pc' := 138) (j := 0) dX9_stageGoes_137 rfl n_223 s_223 (by decide) (by decide) ?_
    refine fe_ic_ge (pc' := 141) (tgt := 161) dX9_stageGoes_138 rfl rfl (fun hc23 => ?_) (fun hc23 => ?_)
    · replace h := (if_pos hc23).symm.trans h
      refine fe_pick [0, 1, 2] rfl ?_
      cases h
      exact k1
    · replace h := (if_neg hc23).symm.trans h
      refine fe_lan (pc' := 142) dX9_stageGoes_141 rfl rfl ?_
      refine fe_gf (pc' := 145) dX9_stageGoes_142 rfl fl_9_19 n_221 gf_221_5 ?_
      refine fe_ic (pc' := 146) dX9_stageGoes_145 rfl ic_4 ?_
      refine fe_lin (pc' := 147) dX9_stageGoes_146 rfl rfl ?_
      refine fe_iadd (pc' := 148) dX9_stageGoes_147 rfl ?_
      refine fe_lan (pc' := 149) dX9_stageGoes_148 rfl rfl ?_
      refine fe_gf (pc' := 152) dX9_stageGoes_149 rfl fl_9_35 n_221 gf_221_15 ?_
      refine fe_lin (pc' := 153) dX9_stageGoes_152 rfl rfl ?_
      obtain ⟨hi24, h⟩ := am_gd rfl h
      refine fe_al (pc' := 154) (j := x3.toNatClampNeg) dX9_stageGoes_153 rfl n_230 s_230 hi24 rfl ?_
      obtain ⟨hi25, h⟩ := am_gd rfl h
      refine fe_as (pc' := 155) (j := (4 + x3).toNatClampNeg) dX9_stageGoes_154 rfl n_225 s_225 hi25 rfl ?_
      refine fe_inc (pc' := 158) (lo' := [(0, .ref 221), (1, .int x1), (2, .int x2), (3, .int (x3 + 1))]) dX9_stageGoes_155 rfl ic_1 (Nat.le_of_ble_eq_true rfl) rfl rfl ?_
      refine fe_go (tgt := 131) dX9_stageGoes_158 rfl ?_
      exact ih (am_wr g 225 (4 + x3).toNatClampNeg (g.1 230 x3.toNatClampNeg)) x1 x2 (x3 + 1) q h k1
set_option maxRecDepth 4000 in
theorem lp_Mo_stageGoes_L167 {hE : am_H} {r : Option Value} : ∀ (n : Nat) (g : am_G) (x1 : Int32) (x2 : Int32) (x3 : Int32) (w : am_G), Mo_stageGoes_L167 n g x1 x2 x3 = some w → am_E 3 mX9_stageGoes (209, [(0, .ref 221), (2, .int x2)], [], (sh0, w)) hE r → am_E 3 mX9_stageGoes (167, [(0, .ref 221), (1, .int x1), (2, .int x2), (3, .int x3)], [], (sh0, g)) hE r := by
  intro n
  induction n with
  | zero => intro g x1 x2 x3 q h; cases h
  | succ n ih =>
    intro g x1 x2 x3 q h k1
    replace h : _ = _ := h
    unfold Mo_stageGoes_L167 at h
    refine fe_lin (pc' := 168) dX9_stageGoes_167 rfl rfl ?_
    refine fe_lan (pc' := 169) dX9_stageGoes_168 rfl rfl ?_
    refine fe_gf (pc' := 172) dX9_stageGoes_169 rfl fl_9_13 n_221 gf_221_3 ?_
    refine fe_ic (pc' := 173) dX9_stageGoes_172 rfl ic_1 ?_
    refine fe_al (pc' := 174) (j := 1) dX9_stageGoes_173 rfl n_223 s_223 (by decide) (by decide) ?_
    refine fe_ic_ge (pc' := 177) (tgt := 209) dX9_stageGoes_174 rfl rfl (fun hc29 => ?_) (fun hc29 => ?_)
    · replace h := (if_pos hc29).symm.trans h
      refine fe_pick [0, 2] rfl ?_
      cases h
      exact k1
    · replace h := (if_neg hc29).symm.trans h
      refine fe_lan (pc' := 178) dX9_stageGoes_177 rfl rfl ?_
      refine fe_gf (pc' := 181) dX9_stageGoes_178 rfl fl_9_19 n_221 gf_221_5 ?_
      refine fe_bp (pc' := 183) dX9_stageGoes_181 rfl ib_22 ?_
      refine fe_lin (pc' := 184) dX9_stageGoes_183 rfl rfl ?_
      refine fe_iadd (pc' := 185) dX9_stageGoes_184 rfl ?_
      refine fe_lin (pc' := 186) dX9_stageGoes_185 rfl rfl ?_
      obtain ⟨q32, hq36, h⟩ := am_bd h
      have K : am_E 3 mX9_stageGoes (202, [(0, .ref 221), (1, .int x1), (2, .int x2), (3, .int x3)], [.int q32, .int (22 + x3), .ref 225], (sh0, g)) hE r := by
        obtain ⟨hi33, h⟩ := am_gd rfl h
        refine fe_as (pc' := 203) (j := (22 + x3).toNatClampNeg) dX9_stageGoes_202 rfl n_225 s_225 hi33 rfl ?_
        refine fe_inc (pc' := 206) (lo' := [(0, .ref 221), (1, .int x1), (2, .int x2), (3, .int (x3 + 1))]) dX9_stageGoes_203 rfl ic_1 (Nat.le_of_ble_eq_true rfl) rfl rfl ?_
        refine fe_go (tgt := 167) dX9_stageGoes_206 rfl ?_
        exact ih (am_wr g 225 (22 + x3).toNatClampNeg q32) x1 x2 (x3 + 1) q h k1
      replace h := hq36
      refine fe_if_eq (pc' := 189) (tgt := 201) dX9_stageGoes_186 rfl rfl (fun hc30 => ?_) (fun hc30 => ?_)
      · replace h := (if_pos hc30).symm.trans h
        refine fe_ic (pc' := 202) dX9_stageGoes_201 rfl ic_0 ?_
        cases h
        exact K
      · replace h := (if_neg hc30).symm.trans h
        refine fe_lan (pc' := 190) dX9_stageGoes_189 rfl rfl ?_
        refine fe_gf (pc' := 193) dX9_stageGoes_190 rfl fl_9_19 n_221 gf_221_5 ?_
        refine fe_bp (pc' := 195) dX9_stageGoes_193 rfl ib_22 ?_
        refine fe_lin (pc' := 196) dX9_stageGoes_195 rfl rfl ?_
        refine fe_iadd (pc' := 197) dX9_stageGoes_196 rfl ?_
        obtain ⟨hi31, h⟩ := am_gd rfl h
        refine fe_al (pc' := 198) (j := (22 + x3).toNatClampNeg) dX9_stageGoes_197 rfl n_225 s_225 hi31 rfl ?_
        refine fe_go (tgt := 202) dX9_stageGoes_198 rfl ?_
        cases h
        exact K
set_option maxRecDepth 4000 in
theorem ev_Mo_stageGoes {g : am_G} {x1 : Int32} {w : (am_G × Int32)} (h : Mo_stageGoes g x1 = some w) : am_Ev 4 152 [.ref 221, .int x1] (sh0, g) (sh0, w.1) (some (.int w.2)) := by
  unfold Mo_stageGoes at h
  refine am_ev mX9_stageGoes (by rfl) (Nat.le_of_ble_eq_true rfl) [(0, .ref 221), (1, .int x1)] rfl ?_
  refine fe_lan (pc' := 1) dX9_stageGoes_0 rfl rfl ?_
  refine fe_lin (pc' := 2) dX9_stageGoes_1 rfl rfl ?_
  obtain ⟨q1, hq2, h⟩ := am_bd h
  refine fe_iv (pc' := 5) (as := [.ref 221, .int x1]) (h1 := (sh0, q1)) (r1 := none) (st' := []) dX9_stageGoes_2 rfl cl_9_128 rfl rfl s_221 ms_148 ⟨n_221, rfl, by decide, Nat.le_of_ble_eq_true rfl, Nat.le_of_ble_eq_true rfl⟩ (am_le0 _ _ _) (am_up (by decide) (ev_Mo_rains hq2)) rfl ?_
  refine fe_lan (pc' := 6) dX9_stageGoes_5 rfl rfl ?_
  refine fe_lan (pc' := 7) dX9_stageGoes_6 rfl rfl ?_
  refine fe_gf (pc' := 10) dX9_stageGoes_7 rfl fl_9_13 n_221 gf_221_3 ?_
  refine fe_bp (pc' := 12) dX9_stageGoes_10 rfl ib_47 ?_
  refine fe_lan (pc' := 13) dX9_stageGoes_12 rfl rfl ?_
  refine fe_gf (pc' := 16) dX9_stageGoes_13 rfl fl_9_19 n_221 gf_221_5 ?_
  refine fe_ic (pc' := 17) dX9_stageGoes_16 rfl ic_0 ?_
  refine fe_al (pc' := 18) (j := 0) dX9_stageGoes_17 rfl n_225 s_225 (by decide) (by decide) ?_
  refine fe_iadd (pc' := 19) dX9_stageGoes_18 rfl ?_
  obtain ⟨hi3, h⟩ := am_gd rfl h
  refine fe_al (pc' := 20) (j := (47 + (q1.1 225 0)).toNatClampNeg) dX9_stageGoes_19 rfl n_223 s_223 hi3 rfl ?_
  obtain ⟨q4, hq5, h⟩ := am_bd h
  refine fe_iv (pc' := 23) (as := [.ref 221, .int (q1.1 223 (47 + (q1.1 225 0)).toNatClampNeg)]) (h1 := (sh0, q1)) (r1 := some (.int q4)) (st' := [.int q4]) dX9_stageGoes_20 rfl cl_9_132 rfl rfl s_221 ms_149 ⟨n_221, rfl, by decide, Nat.le_of_ble_eq_true rfl, Nat.le_of_ble_eq_true rfl⟩ (am_le0 _ _ _) (am_up (by decide) (ev_Mo_slowest hq5)) rfl ?_
  refine fe_sin (pc' := 24) (lo' := [(0, .ref 221), (1, .int x1), (2, .int q4)]) dX9_stageGoes_23 rfl (Nat.le_of_ble_eq_true rfl) rfl ?_
  refine fe_ic (pc' := 25) dX9_stageGoes_24 rfl ic_0 ?_
  refine fe_sin (pc' := 26) (lo' := [(0, .ref 221), (1, .int x1), (2, .int q4), (3, .int 0)]) dX9_stageGoes_25 rfl (Nat.le_of_ble_eq_true rfl) rfl ?_
  obtain ⟨q22, hq37, h⟩ := am_bd h
  refine lp_Mo_stageGoes_L26 _ q1 x1 q4 0 q22 hq37 ?_
  refine fe_ic (pc' := 130) dX9_stageGoes_129 rfl ic_0 ?_
  refine fe_sin (pc' := 131) (lo' := [(0, .ref 221), (1, .int x1), (2, .int q4), (3, .int 0)]) dX9_stageGoes_130 rfl (Nat.le_of_ble_eq_true rfl) rfl ?_
  obtain ⟨q26, hq38, h⟩ := am_bd h
  refine lp_Mo_stageGoes_L131 _ q22 x1 q4 0 q26 hq38 ?_
  refine fe_lan (pc' := 162) dX9_stageGoes_161 rfl rfl ?_
  obtain ⟨q27, hq28, h⟩ := am_bd h
  refine fe_iv (pc' := 165) (as := [.ref 221]) (h1 := (sh0, q27)) (r1 := none) (st' := []) dX9_stageGoes_162 rfl cl_9_135 rfl rfl s_221 ms_151 ⟨n_221, rfl, by decide, Nat.le_of_ble_eq_true rfl, Nat.le_of_ble_eq_true rfl⟩ (am_le0 _ _ _) (am_up (by decide) (ev_Mo_eats hq28)) rfl ?_
  refine fe_ic (pc' := 166) dX9_stageGoes_165 rfl ic_0 ?_
  refine fe_sin (pc' := 167) (lo' := [(0, .ref 221), (1, .int x1), (2, .int q4), (3, .int 0)]) dX9_stageGoes_166 rfl (Nat.le_of_ble_eq_true rfl) rfl ?_
  obtain ⟨q34, hq39, h⟩ := am_bd h
  refine lp_Mo_stageGoes_L167 _ q27 x1 q4 0 q34 hq39 ?_
  refine fe_lan (pc' := 210) dX9_stageGoes_209 rfl rfl ?_
  refine fe_gf (pc' := 213) dX9_stageGoes_210 rfl fl_9_19 n_221 gf_221_5 ?_
  refine fe_ic (pc' := 214) dX9_stageGoes_213 rfl ic_1 ?_
  refine fe_dup2 (pc' := 215) dX9_stageGoes_214 rfl ⟨rfl, rfl⟩ ?_
  refine fe_al (pc' := 216) (j := 1) dX9_stageGoes_215 rfl n_225 s_225 (by decide) (by decide) ?_
  refine fe_lin (pc' := 217) dX9_stageGoes_216 rfl rfl ?_
  refine fe_iadd (pc' := 218) dX9_stageGoes_217 rfl ?_
  refine fe_as (pc' := 219) (j := 1) dX9_stageGoes_218 rfl n_225 s_225 (by decide) (by decide) ?_
  refine fe_lan (pc' := 220) dX9_stageGoes_219 rfl rfl ?_
  refine fe_gf (pc' := 223) dX9_stageGoes_220 rfl fl_9_19 n_221 gf_221_5 ?_
  refine fe_ic (pc' := 224) dX9_stageGoes_223 rfl ic_0 ?_
  refine fe_dup2 (pc' := 225) dX9_stageGoes_224 rfl ⟨rfl, rfl⟩ ?_
  refine fe_al (pc' := 226) (j := 0) dX9_stageGoes_225 rfl n_225 s_225 (by decide) (by decide) ?_
  refine fe_ic (pc' := 227) dX9_stageGoes_226 rfl ic_1 ?_
  refine fe_iadd (pc' := 228) dX9_stageGoes_227 rfl ?_
  refine fe_as (pc' := 229) (j := 0) dX9_stageGoes_228 rfl n_225 s_225 (by decide) (by decide) ?_
  refine fe_lin (pc' := 230) dX9_stageGoes_229 rfl rfl ?_
  cases h
  exact fe_ri dX9_stageGoes_230 rfl
-- Mo_goes: X9_goes
set_option maxRecDepth 4000 in
theorem ev_Mo_goes {g : am_G} {w : (am_G × Int32)} (h : Mo_goes g  = some w) : am_Ev 5 155 [.ref 221] (sh0, g) (sh0, w.1) (some (.int w.2)) := by
  unfold Mo_goes at h
  refine am_ev mX9_goes (by rfl) (Nat.le_of_ble_eq_true rfl) [(0, .ref 221)] rfl ?_
  refine fe_lan (pc' := 1) dX9_goes_0 rfl rfl ?_
  obtain ⟨q1, hq2, h⟩ := am_bd h
  refine fe_iv (pc' := 4) (as := [.ref 221]) (h1 := (sh0, g)) (r1 := some (.int (am_b q1))) (st' := [.int (am_b q1)]) dX9_goes_1 rfl cl_9_138 rfl rfl s_221 ms_153 ⟨n_221, rfl, by decide, Nat.le_of_ble_eq_true rfl, Nat.le_of_ble_eq_true rfl⟩ (am_le0 _ _ _) (am_up (by decide) (ev_Mo_isStage hq2)) rfl ?_
  refine fe_bF (pc' := 7) (tgt := 10) dX9_goes_4 rfl rfl rfl (fun hc3 => ?_) (fun hc3 => ?_)
  · replace h := (if_pos hc3).symm.trans h
    refine fe_lan (pc' := 11) dX9_goes_10 rfl rfl ?_
    obtain ⟨q4, hq5, h⟩ := am_bd h
    refine fe_iv (pc' := 14) (as := [.ref 221]) (h1 := (sh0, q4)) (r1 := none) (st' := []) dX9_goes_11 rfl cl_9_119 rfl rfl s_221 ms_144 ⟨n_221, rfl, by decide, Nat.le_of_ble_eq_true rfl, Nat.le_of_ble_eq_true rfl⟩ (am_le0 _ _ _) (am_up (by decide) (ev_Mo_keeps hq5)) rfl ?_
    refine fe_lan (pc' := 15) dX9_goes_14 rfl rfl ?_
    obtain ⟨q6, hq7, h⟩ := am_bd h
    refine fe_iv (pc' := 18) (as := [.ref 221]) (h1 := (sh0, q6)) (r1 := none) (st' := []) dX9_goes_15 rfl cl_9_141 rfl rfl s_221 ms_150 ⟨n_221, rfl, by decide, Nat.le_of_ble_eq_true rfl, Nat.le_of_ble_eq_true rfl⟩ (am_le0 _ _ _) (am_up (by decide) (ev_Mo_plainOrder hq7)) rfl ?_
    refine fe_lan (pc' := 19) dX9_goes_18 rfl rfl ?_
    refine fe_lan (pc' := 20) dX9_goes_19 rfl rfl ?_
    obtain ⟨q8, hq9, h⟩ := am_bd h
    refine fe_iv (pc' := 23) (as := [.ref 221]) (h1 := (sh0, q6)) (r1 := some (.int (am_b q8))) (st' := [.int (am_b q8), .ref 221]) dX9_goes_20 rfl cl_9_144 rfl rfl s_221 ms_154 ⟨n_221, rfl, by decide, Nat.le_of_ble_eq_true rfl, Nat.le_of_ble_eq_true rfl⟩ (am_le0 _ _ _) (am_up (by decide) (ev_Mo_isRain hq9)) rfl ?_
    obtain ⟨q10, hq11, h⟩ := am_bd h
    refine fe_iv (pc' := 26) (as := [.ref 221, .int (am_b q8)]) (h1 := (sh0, q10.1)) (r1 := some (.int q10.2)) (st' := [.int q10.2]) dX9_goes_23 rfl cl_9_147 rfl rfl s_221 ms_152 ⟨n_221, rfl, by decide, Nat.le_of_ble_eq_true rfl, Nat.le_of_ble_eq_true rfl⟩ (am_le0 _ _ _) (am_up (by decide) (ev_Mo_stageGoes hq11)) rfl ?_
    cases h
    exact fe_ri dX9_goes_26 rfl
  · replace h := (if_neg hc3).symm.trans h
    refine fe_bp (pc' := 9) dX9_goes_7 rfl ib_m2 ?_
    cases h
    exact fe_ri dX9_goes_9 rfl
-- Mo_undo: X9_undo
set_option maxRecDepth 4000 in
theorem lp_Mo_undo_L40 {hE : am_H} {r : Option Value} : ∀ (n : Nat) (g : am_G) (x1 : Int32) (x2 : Int32) (w : am_G), Mo_undo_L40 n g x1 x2 = some w → am_E 0 mX9_undo (66, [(0, .ref 221)], [], (sh0, w)) hE r → am_E 0 mX9_undo (40, [(0, .ref 221), (1, .int x1), (2, .int x2)], [], (sh0, g)) hE r := by
  intro n
  induction n with
  | zero => intro g x1 x2 q h; cases h
  | succ n ih =>
    intro g x1 x2 q h k1
    replace h : _ = _ := h
    unfold Mo_undo_L40 at h
    refine fe_lin (pc' := 41) dX9_undo_40 rfl rfl ?_
    refine fe_bp (pc' := 43) dX9_undo_41 rfl ib_29 ?_
    refine fe_ic_ge (pc' := 46) (tgt := 66) dX9_undo_43 rfl rfl (fun hc2 => ?_) (fun hc2 => ?_)
    · replace h := (if_pos hc2).symm.trans h
      refine fe_pick [0] rfl ?_
      cases h
      exact k1
    · replace h := (if_neg hc2).symm.trans h
      refine fe_lan (pc' := 47) dX9_undo_46 rfl rfl ?_
      refine fe_gf (pc' := 50) dX9_undo_47 rfl fl_9_19 n_221 gf_221_5 ?_
      refine fe_lin (pc' := 51) dX9_undo_50 rfl rfl ?_
      refine fe_lan (pc' := 52) dX9_undo_51 rfl rfl ?_
      refine fe_gf (pc' := 55) dX9_undo_52 rfl fl_9_19 n_221 gf_221_5 ?_
      refine fe_lin (pc' := 56) dX9_undo_55 rfl rfl ?_
      refine fe_lin (pc' := 57) dX9_undo_56 rfl rfl ?_
      refine fe_iadd (pc' := 58) dX9_undo_57 rfl ?_
      obtain ⟨hi3, h⟩ := am_gd rfl h
      refine fe_al (pc' := 59) (j := (x1 + x2).toNatClampNeg) dX9_undo_58 rfl n_225 s_225 hi3 rfl ?_
      obtain ⟨hi4, h⟩ := am_gd rfl h
      refine fe_as (pc' := 60) (j := x2.toNatClampNeg) dX9_undo_59 rfl n_225 s_225 hi4 rfl ?_
      refine fe_inc (pc' := 63) (lo' := [(0, .ref 221), (1, .int x1), (2, .int (x2 + 1))]) dX9_undo_60 rfl ic_1 (Nat.le_of_ble_eq_true rfl) rfl rfl ?_
      refine fe_go (tgt := 40) dX9_undo_63 rfl ?_
      exact ih (am_wr g 225 x2.toNatClampNeg (g.1 225 (x1 + x2).toNatClampNeg)) x1 (x2 + 1) q h k1
set_option maxRecDepth 4000 in
theorem ev_Mo_undo {g : am_G} {w : (am_G × Int32)} (h : Mo_undo g  = some w) : am_Ev 1 156 [.ref 221] (sh0, g) (sh0, w.1) (some (.int w.2)) := by
  unfold Mo_undo at h
  refine am_ev mX9_undo (by rfl) (Nat.le_of_ble_eq_true rfl) [(0, .ref 221)] rfl ?_
  refine fe_lan (pc' := 1) dX9_undo_0 rfl rfl ?_
  refine fe_gf (pc' := 4) dX9_undo_1 rfl fl_9_19 n_221 gf_221_5 ?_
  refine fe_bp (pc' := 6) dX9_undo_4 rfl ib_29 ?_
  refine fe_al (pc' := 7) (j := 29) dX9_undo_6 rfl n_225 s_225 (by decide) (by decide) ?_
  refine fe_if_ne (pc' := 10) (tgt := 13) dX9_undo_7 rfl rfl (fun hc1 => ?_) (fun hc1 => ?_)
  · replace h := (if_pos hc1).symm.trans h
    refine fe_bp (pc' := 12) dX9_undo_10 rfl ib_m2 ?_
    cases h
    exact fe_ri dX9_undo_12 rfl
  · replace h := (if_neg hc1).symm.trans h
    refine fe_lan (pc' := 14) dX9_undo_13 rfl rfl ?_
    refine fe_gf (pc' := 17) dX9_undo_14 rfl fl_9_19 n_221 gf_221_5 ?_
    refine fe_bp (pc' := 19) dX9_undo_17 rfl ib_29 ?_
    refine fe_dup2 (pc' := 20) dX9_undo_19 rfl ⟨rfl, rfl⟩ ?_
    refine fe_al (pc' := 21) (j := 29) dX9_undo_20 rfl n_225 s_225 (by decide) (by decide) ?_
    refine fe_ic (pc' := 22) dX9_undo_21 rfl ic_1 ?_
    refine fe_isub (pc' := 23) dX9_undo_22 rfl ?_
    refine fe_as (pc' := 24) (j := 29) dX9_undo_23 rfl n_225 s_225 (by decide) (by decide) ?_
    refine fe_bp (pc' := 26) dX9_undo_24 rfl ib_30 ?_
    refine fe_bp (pc' := 28) dX9_undo_26 rfl ib_29 ?_
    refine fe_lan (pc' := 29) dX9_undo_28 rfl rfl ?_
    refine fe_gf (pc' := 32) dX9_undo_29 rfl fl_9_19 n_221 gf_221_5 ?_
    refine fe_bp (pc' := 34) dX9_undo_32 rfl ib_29 ?_
    refine fe_al (pc' := 35) (j := 29) dX9_undo_34 rfl n_225 s_225 (by decide) (by decide) ?_
    refine fe_imul (pc' := 36) dX9_undo_35 rfl ?_
    refine fe_iadd (pc' := 37) dX9_undo_36 rfl ?_
    refine fe_sin (pc' := 38) (lo' := [(0, .ref 221), (1, .int (30 + (29 * ((am_wr g 225 29 ((g.1 225 29) - 1)).1 225 29))))]) dX9_undo_37 rfl (Nat.le_of_ble_eq_true rfl) rfl ?_
    refine fe_ic (pc' := 39) dX9_undo_38 rfl ic_0 ?_
    refine fe_sin (pc' := 40) (lo' := [(0, .ref 221), (1, .int (30 + (29 * ((am_wr g 225 29 ((g.1 225 29) - 1)).1 225 29)))), (2, .int 0)]) dX9_undo_39 rfl (Nat.le_of_ble_eq_true rfl) rfl ?_
    obtain ⟨q5, hq6, h⟩ := am_bd h
    refine lp_Mo_undo_L40 _ (am_wr g 225 29 ((g.1 225 29) - 1)) (30 + (29 * ((am_wr g 225 29 ((g.1 225 29) - 1)).1 225 29))) 0 q5 hq6 ?_
    refine fe_lan (pc' := 67) dX9_undo_66 rfl rfl ?_
    refine fe_gf (pc' := 70) dX9_undo_67 rfl fl_9_19 n_221 gf_221_5 ?_
    refine fe_bp (pc' := 72) dX9_undo_70 rfl ib_29 ?_
    refine fe_al (pc' := 73) (j := 29) dX9_undo_72 rfl n_225 s_225 (by decide) (by decide) ?_
    cases h
    exact fe_ri dX9_undo_73 rfl
-- Mo_fair: X9_fair
set_option maxRecDepth 4000 in
theorem lp_Mo_fair_L7 {hE : am_H} {r : Option Value} : ∀ (n : Nat) (g : am_G) (x1 : Int32) (x2 : Int32) (x3 : Int32) (x4 : Int32) (w : Int32 × Int32), Mo_fair_L7 n g x1 x2 x3 x4 = some w → am_E 2 mX9_fair (88, [(2, .int w.1), (3, .int w.2)], [], (sh0, g)) hE r → am_E 2 mX9_fair (7, [(0, .ref 221), (1, .int x1), (2, .int x2), (3, .int x3), (4, .int x4)], [], (sh0, g)) hE r := by
  intro n
  induction n with
  | zero => intro g x1 x2 x3 x4 q h; cases h
  | succ n ih =>
    intro g x1 x2 x3 x4 q h k1
    replace h : _ = _ := h
    unfold Mo_fair_L7 at h
    refine fe_li (pc' := 9) dX9_fair_7 rfl rfl ?_
    refine fe_lan (pc' := 10) dX9_fair_9 rfl rfl ?_
    refine fe_gf (pc' := 13) dX9_fair_10 rfl fl_9_13 n_221 gf_221_3 ?_
    refine fe_ic (pc' := 14) dX9_fair_13 rfl ic_0 ?_
    refine fe_al (pc' := 15) (j := 0) dX9_fair_14 rfl n_223 s_223 (by decide) (by decide) ?_
    refine fe_ic_ge (pc' := 18) (tgt := 88) dX9_fair_15 rfl rfl (fun hc1 => ?_) (fun hc1 => ?_)
    · replace h := (if_pos hc1).symm.trans h
      refine fe_pick [2, 3] rfl ?_
      cases h
      exact k1
    · replace h := (if_neg hc1).symm.trans h
      refine fe_lin (pc' := 19) dX9_fair_18 rfl rfl ?_
      obtain ⟨q9, hq17, h⟩ := am_bd h
      have K : am_E 2 mX9_fair (44, [(0, .ref 221), (1, .int x1), (2, .int x2), (3, .int x3), (4, .int x4)], [.int q9], (sh0, g)) hE r := by
        refine fe_si (pc' := 46) (lo' := [(0, .ref 221), (1, .int x1), (2, .int x2), (3, .int x3), (4, .int x4), (5, .int q9)]) dX9_fair_44 rfl (Nat.le_of_ble_eq_true rfl) rfl ?_
        refine fe_li (pc' := 48) dX9_fair_46 rfl rfl ?_
        have K : am_E 2 mX9_fair (63, [(0, .ref 221), (1, .int x1), (3, .int x3), (4, .int x4), (5, .int q9)], [.int (if x4 = 0 then q9 else if q9 ≤ x2 then x2 else q9 : Int32)], (sh0, g)) hE r := by
          refine fe_sin (pc' := 64) (lo' := [(0, .ref 221), (1, .int x1), (2, .int (if x4 = 0 then q9 else if q9 ≤ x2 then x2 else q9 : Int32)), (3, .int x3), (4, .int x4), (5, .int q9)]) dX9_fair_63 rfl (Nat.le_of_ble_eq_true rfl) rfl ?_
          refine fe_li (pc' := 66) dX9_fair_64 rfl rfl ?_
          have K : am_E 2 mX9_fair (81, [(0, .ref 221), (1, .int x1), (2, .int (if x4 = 0 then q9 else if q9 ≤ x2 then x2 else q9 : Int32)), (4, .int x4)], [.int (if x4 = 0 then q9 else if x3 ≤ q9 then x3 else q9 : Int32)], (sh0, g)) hE r := by
            refine fe_sin (pc' := 82) (lo' := [(0, .ref 221), (1, .int x1), (2, .int (if x4 = 0 then q9 else if q9 ≤ x2 then x2 else q9 : Int32)), (3, .int (if x4 = 0 then q9 else if x3 ≤ q9 then x3 else q9 : Int32)), (4, .int x4)]) dX9_fair_81 rfl (Nat.le_of_ble_eq_true rfl) rfl ?_
            refine fe_inc (pc' := 85) (lo' := [(0, .ref 221), (1, .int x1), (2, .int (if x4 = 0 then q9 else if q9 ≤ x2 then x2 else q9 : Int32)), (3, .int (if x4 = 0 then q9 else if x3 ≤ q9 then x3 else q9 : Int32)), (4, .int (x4 + 1))]) dX9_fair_82 rfl ic_1 (Nat.le_of_ble_eq_true rfl) rfl rfl ?_
            refine fe_go (tgt := 7) dX9_fair_85 rfl ?_
            exact ih g x1 (if x4 = 0 then q9 else if q9 ≤ x2 then x2 else q9 : Int32) (if x4 = 0 then q9 else if x3 ≤ q9 then x3 else q9 : Int32) (x4 + 1) q h k1
          refine fe_if_eq (pc' := 69) (tgt := 75) dX9_fair_66 rfl rfl (fun hc13 => ?_) (fun hc13 => ?_)
          · refine fe_li (pc' := 77) dX9_fair_75 rfl rfl ?_
            refine fe_go (tgt := 81) dX9_fair_77 rfl ?_
            refine fe_pick [0, 1, 2, 4] rfl ?_
            simp only [if_pos hc13] at K ⊢
            exact K
          · refine fe_li (pc' := 71) dX9_fair_69 rfl rfl ?_
            refine fe_lin (pc' := 72) dX9_fair_71 rfl rfl ?_
            refine fe_ic_ge (pc' := 75) (tgt := 80) dX9_fair_72 rfl rfl (fun hc14 => ?_) (fun hc14 => ?_)
            · refine fe_lin (pc' := 81) dX9_fair_80 rfl rfl ?_
              refine fe_pick [0, 1, 2, 4] rfl ?_
              simp only [if_neg hc13, if_pos hc14] at K ⊢
              exact K
            · refine fe_li (pc' := 77) dX9_fair_75 rfl rfl ?_
              refine fe_go (tgt := 81) dX9_fair_77 rfl ?_
              refine fe_pick [0, 1, 2, 4] rfl ?_
              simp only [if_neg hc13, if_neg hc14] at K ⊢
              exact K
        refine fe_if_eq (pc' := 51) (tgt := 57) dX9_fair_48 rfl rfl (fun hc10 => ?_) (fun hc10 => ?_)
        · refine fe_li (pc' := 59) dX9_fair_57 rfl rfl ?_
          refine fe_go (tgt := 63) dX9_fair_59 rfl ?_
          refine fe_pick [0, 1, 3, 4, 5] rfl ?_
          simp only [if_pos hc10] at K ⊢
          exact K
        · refine fe_li (pc' := 53) dX9_fair_51 rfl rfl ?_
          refine fe_lin (pc' := 54) dX9_fair_53 rfl rfl ?_
          refine fe_ic_le (pc' := 57) (tgt := 62) dX9_fair_54 rfl rfl (fun hc11 => ?_) (fun hc11 => ?_)
          · refine fe_lin (pc' := 63) dX9_fair_62 rfl rfl ?_
            refine fe_pick [0, 1, 3, 4, 5] rfl ?_
            simp only [if_neg hc10, if_pos hc11] at K ⊢
            exact K
          · refine fe_li (pc' := 59) dX9_fair_57 rfl rfl ?_
            refine fe_go (tgt := 63) dX9_fair_59 rfl ?_
            refine fe_pick [0, 1, 3, 4, 5] rfl ?_
            simp only [if_neg hc10, if_neg hc11] at K ⊢
            exact K
      replace h := hq17
      refine fe_if_eq (pc' := 22) (tgt := 38) dX9_fair_19 rfl rfl (fun hc2 => ?_) (fun hc2 => ?_)
      · replace h := (if_pos hc2).symm.trans h
        refine fe_lan (pc' := 39) dX9_fair_38 rfl rfl ?_
        refine fe_li (pc' := 41) dX9_fair_39 rfl rfl ?_
        obtain ⟨q3, hq4, h⟩ := am_bd h
        refine fe_iv (pc' := 44) (as := [.ref 221, .int x4]) (h1 := (sh0, g)) (r1 := some (.int q3)) (st' := [.int q3]) dX9_fair_41 rfl cl_9_109 rfl rfl s_221 ms_137 ⟨n_221, rfl, by decide, Nat.le_of_ble_eq_true rfl, Nat.le_of_ble_eq_true rfl⟩ (am_le0 _ _ _) (am_up (by decide) (ev_Mo_load hq4)) rfl ?_
        cases h
        exact K
      · replace h := (if_neg hc2).symm.trans h
        refine fe_lan (pc' := 23) dX9_fair_22 rfl rfl ?_
        refine fe_li (pc' := 25) dX9_fair_23 rfl rfl ?_
        obtain ⟨q5, hq6, h⟩ := am_bd h
        refine fe_iv (pc' := 28) (as := [.ref 221, .int x4]) (h1 := (sh0, g)) (r1 := some (.int q5)) (st' := [.int q5]) dX9_fair_25 rfl cl_9_103 rfl rfl s_221 ms_138 ⟨n_221, rfl, by decide, Nat.le_of_ble_eq_true rfl, Nat.le_of_ble_eq_true rfl⟩ (am_le0 _ _ _) (am_up (by decide) (ev_Mo_force hq6)) rfl ?_
        refine fe_lan (pc' := 29) dX9_fair_28 rfl rfl ?_
        refine fe_li (pc' := 31) dX9_fair_29 rfl rfl ?_
        obtain ⟨q7, hq8, h⟩ := am_bd h
        refine fe_iv (pc' := 34) (as := [.ref 221, .int x4]) (h1 := (sh0, g)) (r1 := some (.int q7)) (st' := [.int q7, .int q5]) dX9_fair_31 rfl cl_9_109 rfl rfl s_221 ms_137 ⟨n_221, rfl, by decide, Nat.le_of_ble_eq_true rfl, Nat.le_of_ble_eq_true rfl⟩ (am_le0 _ _ _) (am_up (by decide) (ev_Mo_load hq8)) rfl ?_
        refine fe_isub (pc' := 35) dX9_fair_34 rfl ?_
        refine fe_go (tgt := 44) dX9_fair_35 rfl ?_
        cases h
        exact K
set_option maxRecDepth 4000 in
theorem ev_Mo_fair {g : am_G} {x1 : Int32} {w : Int32} (h : Mo_fair g x1 = some w) : am_Ev 3 157 [.ref 221, .int x1] (sh0, g) (sh0, g) (some (.int w)) := by
  unfold Mo_fair at h
  refine am_ev mX9_fair (by rfl) (Nat.le_of_ble_eq_true rfl) [(0, .ref 221), (1, .int x1)] rfl ?_
  refine fe_ic (pc' := 1) dX9_fair_0 rfl ic_0 ?_
  refine fe_sin (pc' := 2) (lo' := [(0, .ref 221), (1, .int x1), (2, .int 0)]) dX9_fair_1 rfl (Nat.le_of_ble_eq_true rfl) rfl ?_
  refine fe_ic (pc' := 3) dX9_fair_2 rfl ic_0 ?_
  refine fe_sin (pc' := 4) (lo' := [(0, .ref 221), (1, .int x1), (2, .int 0), (3, .int 0)]) dX9_fair_3 rfl (Nat.le_of_ble_eq_true rfl) rfl ?_
  refine fe_ic (pc' := 5) dX9_fair_4 rfl ic_0 ?_
  refine fe_si (pc' := 7) (lo' := [(0, .ref 221), (1, .int x1), (2, .int 0), (3, .int 0), (4, .int 0)]) dX9_fair_5 rfl (Nat.le_of_ble_eq_true rfl) rfl ?_
  obtain ⟨q16, hq18, h⟩ := am_bd h
  refine lp_Mo_fair_L7 _ g x1 0 0 0 q16 hq18 ?_
  refine fe_lin (pc' := 89) dX9_fair_88 rfl rfl ?_
  refine fe_lin (pc' := 90) dX9_fair_89 rfl rfl ?_
  refine fe_isub (pc' := 91) dX9_fair_90 rfl ?_
  cases h
  exact fe_ri dX9_fair_91 rfl
