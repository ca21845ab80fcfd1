-- Mo_truly: X9_truly
set_option maxRecDepth 4000 in
theorem lp_Mo_truly_L52 {hE : am_H} {r : Option Value} : ∀ (n : Nat) (g : am_G) (x1 : Int32) (x2 : Int32) (x3 : Int32) (x4 : Int32) (x5 : Int32) (x6 : Int32) (x7 : Int32) (w : Int32 × Int32), Mo_truly_L52 n g x1 x2 x3 x4 x5 x6 x7 = some w → am_E 2 mX9_truly (122, [(4, .int x4), (5, .int w.1), (6, .int w.2)], [], (sh0, g)) hE r → am_E 2 mX9_truly (52, [(0, .ref 221), (1, .int x1), (2, .int x2), (3, .int x3), (4, .int x4), (5, .int x5), (6, .int x6), (7, .int x7)], [], (sh0, g)) hE r := by
  intro n
  induction n with
  | zero => intro g x1 x2 x3 x4 x5 x6 x7 q h; cases h
  | succ n ih =>
    intro g x1 x2 x3 x4 x5 x6 x7 q h k1
    replace h : _ = _ := h
    unfold Mo_truly_L52 at h
    refine fe_li (pc' := 54) dX9_truly_52 rfl rfl ?_
    refine fe_bp (pc' := 56) dX9_truly_54 rfl ib_100 ?_
    refine fe_ic_ge (pc' := 59) (tgt := 122) dX9_truly_56 rfl rfl (fun hc13 => ?_) (fun hc13 => ?_)
    · replace h := (if_pos hc13).symm.trans h
      refine fe_pick [4, 5, 6] rfl ?_
      cases h
      exact k1
    · replace h := (if_neg hc13).symm.trans h
      refine fe_lin (pc' := 60) dX9_truly_59 rfl rfl ?_
      refine fe_lan (pc' := 61) dX9_truly_60 rfl rfl ?_
      refine fe_lin (pc' := 62) dX9_truly_61 rfl rfl ?_
      refine fe_li (pc' := 64) dX9_truly_62 rfl rfl ?_
      obtain ⟨q14, hq15, h⟩ := am_bd h
      refine fe_iv (pc' := 67) (as := [.ref 221, .int x1, .int x7]) (h1 := (sh0, g)) (r1 := some (.int q14)) (st' := [.int q14, .int x2]) dX9_truly_64 rfl cl_9_112 rfl rfl s_221 ms_139 ⟨n_221, rfl, by decide, Nat.le_of_ble_eq_true rfl, Nat.le_of_ble_eq_true rfl⟩ (am_le0 _ _ _) (am_up (by decide) (ev_Mo_pace hq15)) rfl ?_
      obtain ⟨q16, hq17, h⟩ := am_bd h
      refine fe_is (pc' := 70) (as := [.int x2, .int q14]) (h1 := (sh0, g)) (r1 := some (.int q16)) (st' := [.int q16]) dX9_truly_67 rfl cl_9_125 (Or.inl rfl) rfl rfl ⟨Nat.le_of_ble_eq_true rfl, Nat.le_of_ble_eq_true rfl⟩ (am_le0 _ _ _) (am_up (by decide) (ev_Mo_takes hq17)) rfl ?_
      refine fe_lin (pc' := 71) dX9_truly_70 rfl rfl ?_
      have K : am_E 2 mX9_truly (79, [(0, .ref 221), (1, .int x1), (2, .int x2), (3, .int x3), (4, .int x4), (5, .int x5), (6, .int x6), (7, .int x7)], [.int (if q16 = x3 then 1 else 0 : Int32)], (sh0, g)) hE r := by
        refine fe_si (pc' := 81) (lo' := [(0, .ref 221), (1, .int x1), (2, .int x2), (3, .int x3), (4, .int x4), (5, .int x5), (6, .int x6), (7, .int x7), (8, .int (if q16 = x3 then 1 else 0 : Int32))]) dX9_truly_79 rfl (Nat.le_of_ble_eq_true rfl) rfl ?_
        refine fe_li (pc' := 83) dX9_truly_81 rfl rfl ?_
        have K : am_E 2 mX9_truly (100, [(0, .ref 221), (1, .int x1), (2, .int x2), (3, .int x3), (4, .int x4), (6, .int x6), (7, .int x7), (8, .int (if q16 = x3 then 1 else 0 : Int32))], [.int (if (if q16 = x3 then 1 else 0 : Int32) = 0 then x5 else if x5 = (-9) then x7 else x5 : Int32)], (sh0, g)) hE r := by
          refine fe_si (pc' := 102) (lo' := [(0, .ref 221), (1, .int x1), (2, .int x2), (3, .int x3), (4, .int x4), (5, .int (if (if q16 = x3 then 1 else 0 : Int32) = 0 then x5 else if x5 = (-9) then x7 else x5 : Int32)), (6, .int x6), (7, .int x7), (8, .int (if q16 = x3 then 1 else 0 : Int32))]) dX9_truly_100 rfl (Nat.le_of_ble_eq_true rfl) rfl ?_
          refine fe_li (pc' := 104) dX9_truly_102 rfl rfl ?_
          have K : am_E 2 mX9_truly (114, [(0, .ref 221), (1, .int x1), (2, .int x2), (3, .int x3), (4, .int x4), (5, .int (if (if q16 = x3 then 1 else 0 : Int32) = 0 then x5 else if x5 = (-9) then x7 else x5 : Int32)), (7, .int x7)], [.int (if (if q16 = x3 then 1 else 0 : Int32) = 0 then x6 else x7 : Int32)], (sh0, g)) hE r := by
            refine fe_si (pc' := 116) (lo' := [(0, .ref 221), (1, .int x1), (2, .int x2), (3, .int x3), (4, .int x4), (5, .int (if (if q16 = x3 then 1 else 0 : Int32) = 0 then x5 else if x5 = (-9) then x7 else x5 : Int32)), (6, .int (if (if q16 = x3 then 1 else 0 : Int32) = 0 then x6 else x7 : Int32)), (7, .int x7)]) dX9_truly_114 rfl (Nat.le_of_ble_eq_true rfl) rfl ?_
            refine fe_inc (pc' := 119) (lo' := [(0, .ref 221), (1, .int x1), (2, .int x2), (3, .int x3), (4, .int x4), (5, .int (if (if q16 = x3 then 1 else 0 : Int32) = 0 then x5 else if x5 = (-9) then x7 else x5 : Int32)), (6, .int (if (if q16 = x3 then 1 else 0 : Int32) = 0 then x6 else x7 : Int32)), (7, .int (x7 + 1))]) dX9_truly_116 rfl ic_1 (Nat.le_of_ble_eq_true rfl) rfl rfl ?_
            refine fe_go (tgt := 52) dX9_truly_119 rfl ?_
            exact ih g x1 x2 x3 x4 (if (if q16 = x3 then 1 else 0 : Int32) = 0 then x5 else if x5 = (-9) then x7 else x5 : Int32) (if (if q16 = x3 then 1 else 0 : Int32) = 0 then x6 else x7 : Int32) (x7 + 1) q h k1
          refine fe_if_eq (pc' := 107) (tgt := 112) dX9_truly_104 rfl rfl (fun hc23 => ?_) (fun hc23 => ?_)
          · refine fe_li (pc' := 114) dX9_truly_112 rfl rfl ?_
            refine fe_pick [0, 1, 2, 3, 4, 5, 7] rfl ?_
            simp only [if_pos hc23] at K ⊢
            exact K
          · refine fe_li (pc' := 109) dX9_truly_107 rfl rfl ?_
            refine fe_go (tgt := 114) dX9_truly_109 rfl ?_
            refine fe_pick [0, 1, 2, 3, 4, 5, 7] rfl ?_
            simp only [if_neg hc23] at K ⊢
            exact K
        refine fe_if_eq (pc' := 86) (tgt := 98) dX9_truly_83 rfl rfl (fun hc20 => ?_) (fun hc20 => ?_)
        · refine fe_li (pc' := 100) dX9_truly_98 rfl rfl ?_
          refine fe_pick [0, 1, 2, 3, 4, 6, 7, 8] rfl ?_
          simp only [if_pos hc20] at K ⊢
          exact K
        · refine fe_li (pc' := 88) dX9_truly_86 rfl rfl ?_
          refine fe_bp (pc' := 90) dX9_truly_88 rfl ib_m9 ?_
          refine fe_ic_ne (pc' := 93) (tgt := 98) dX9_truly_90 rfl rfl (fun hc21 => ?_) (fun hc21 => ?_)
          · refine fe_li (pc' := 95) dX9_truly_93 rfl rfl ?_
            refine fe_go (tgt := 100) dX9_truly_95 rfl ?_
            refine fe_pick [0, 1, 2, 3, 4, 6, 7, 8] rfl ?_
            simp only [if_neg hc20, if_pos hc21] at K ⊢
            exact K
          · refine fe_li (pc' := 100) dX9_truly_98 rfl rfl ?_
            refine fe_pick [0, 1, 2, 3, 4, 6, 7, 8] rfl ?_
            simp only [if_neg hc20, if_neg hc21] at K ⊢
            exact K
      refine fe_ic_ne (pc' := 74) (tgt := 78) dX9_truly_71 rfl rfl (fun hc18 => ?_) (fun hc18 => ?_)
      · refine fe_ic (pc' := 75) dX9_truly_74 rfl ic_1 ?_
        refine fe_go (tgt := 79) dX9_truly_75 rfl ?_
        simp only [if_pos hc18] at K ⊢
        exact K
      · refine fe_ic (pc' := 79) dX9_truly_78 rfl ic_0 ?_
        simp only [if_neg hc18] at K ⊢
        exact K
set_option maxRecDepth 4000 in
theorem ev_Mo_truly {g : am_G} {x1 x2 x3 x4 : Int32} {w : Int32} (h : Mo_truly g x1 x2 x3 x4 = some w) : am_Ev 3 170 [.ref 221, .int x1, .int x2, .int x3, .int x4] (sh0, g) (sh0, g) (some (.int w)) := by
  unfold Mo_truly at h
  refine am_ev mX9_truly (by rfl) (Nat.le_of_ble_eq_true rfl) [(0, .ref 221), (1, .int x1), (2, .int x2), (3, .int x3), (4, .int x4)] rfl ?_
  refine fe_lan (pc' := 1) dX9_truly_0 rfl rfl ?_
  refine fe_lin (pc' := 2) dX9_truly_1 rfl rfl ?_
  obtain ⟨q1, hq2, h⟩ := am_bd h
  refine fe_iv (pc' := 5) (as := [.ref 221, .int x1]) (h1 := (sh0, g)) (r1 := some (.int (am_b q1))) (st' := [.int (am_b q1)]) dX9_truly_2 rfl cl_9_106 rfl rfl s_221 ms_120 ⟨n_221, rfl, by decide, Nat.le_of_ble_eq_true rfl, Nat.le_of_ble_eq_true rfl⟩ (am_le0 _ _ _) (am_up (by decide) (ev_Mo_isWalker hq2)) rfl ?_
  refine fe_bT (pc' := 8) (tgt := 39) dX9_truly_5 rfl rfl rfl (fun hc3 => ?_) (fun hc3 => ?_)
  · replace h := (if_pos hc3).symm.trans h
    refine fe_lin (pc' := 9) dX9_truly_8 rfl rfl ?_
    refine fe_ic (pc' := 10) dX9_truly_9 rfl ic_1 ?_
    refine fe_bp (pc' := 12) dX9_truly_10 rfl ib_20 ?_
    obtain ⟨q4, hq5, h⟩ := am_bd h
    refine fe_is (pc' := 15) (as := [.int x2, .int 1, .int 20]) (h1 := (sh0, g)) (r1 := some (.int (am_b q4))) (st' := [.int (am_b q4)]) dX9_truly_12 rfl cl_9_48 (Or.inl rfl) rfl rfl ⟨Nat.le_of_ble_eq_true rfl, Nat.le_of_ble_eq_true rfl⟩ (am_le0 _ _ _) (am_up (by decide) (ev_Mo_in hq5)) rfl ?_
    refine fe_bT (pc' := 18) (tgt := 39) dX9_truly_15 rfl rfl rfl (fun hc6 => ?_) (fun hc6 => ?_)
    · replace h := (if_pos hc6).symm.trans h
      refine fe_lin (pc' := 19) dX9_truly_18 rfl rfl ?_
      refine fe_ic (pc' := 20) dX9_truly_19 rfl ic_1 ?_
      refine fe_sp (pc' := 23) dX9_truly_20 rfl is_999 ?_
      obtain ⟨q7, hq8, h⟩ := am_bd h
      refine fe_is (pc' := 26) (as := [.int x3, .int 1, .int 999]) (h1 := (sh0, g)) (r1 := some (.int (am_b q7))) (st' := [.int (am_b q7)]) dX9_truly_23 rfl cl_9_48 (Or.inl rfl) rfl rfl ⟨Nat.le_of_ble_eq_true rfl, Nat.le_of_ble_eq_true rfl⟩ (am_le0 _ _ _) (am_up (by decide) (ev_Mo_in hq8)) rfl ?_
      refine fe_bT (pc' := 29) (tgt := 39) dX9_truly_26 rfl rfl rfl (fun hc9 => ?_) (fun hc9 => ?_)
      · replace h := (if_pos hc9).symm.trans h
        refine fe_li (pc' := 31) dX9_truly_29 rfl rfl ?_
        refine fe_ic (pc' := 32) dX9_truly_31 rfl ic_0 ?_
        refine fe_ic (pc' := 33) dX9_truly_32 rfl ic_1 ?_
        obtain ⟨q10, hq11, h⟩ := am_bd h
        refine fe_is (pc' := 36) (as := [.int x4, .int 0, .int 1]) (h1 := (sh0, g)) (r1 := some (.int (am_b q10))) (st' := [.int (am_b q10)]) dX9_truly_33 rfl cl_9_48 (Or.inl rfl) rfl rfl ⟨Nat.le_of_ble_eq_true rfl, Nat.le_of_ble_eq_true rfl⟩ (am_le0 _ _ _) (am_up (by decide) (ev_Mo_in hq11)) rfl ?_
        refine fe_bF (pc' := 39) (tgt := 41) dX9_truly_36 rfl rfl rfl (fun hc12 => ?_) (fun hc12 => ?_)
        · replace h := (if_pos hc12).symm.trans h
          refine fe_bp (pc' := 43) dX9_truly_41 rfl ib_m9 ?_
          refine fe_si (pc' := 45) (lo' := [(0, .ref 221), (1, .int x1), (2, .int x2), (3, .int x3), (4, .int x4), (5, .int (-9))]) dX9_truly_43 rfl (Nat.le_of_ble_eq_true rfl) rfl ?_
          refine fe_bp (pc' := 47) dX9_truly_45 rfl ib_m9 ?_
          refine fe_si (pc' := 49) (lo' := [(0, .ref 221), (1, .int x1), (2, .int x2), (3, .int x3), (4, .int x4), (5, .int (-9)), (6, .int (-9))]) dX9_truly_47 rfl (Nat.le_of_ble_eq_true rfl) rfl ?_
          refine fe_ic (pc' := 50) dX9_truly_49 rfl ic_0 ?_
          refine fe_si (pc' := 52) (lo' := [(0, .ref 221), (1, .int x1), (2, .int x2), (3, .int x3), (4, .int x4), (5, .int (-9)), (6, .int (-9)), (7, .int 0)]) dX9_truly_50 rfl (Nat.le_of_ble_eq_true rfl) rfl ?_
          obtain ⟨q25, hq27, h⟩ := am_bd h
          refine lp_Mo_truly_L52 _ g x1 x2 x3 x4 (-9) (-9) 0 q25 hq27 ?_
          refine fe_li (pc' := 124) dX9_truly_122 rfl rfl ?_
          refine fe_if_ne (pc' := 127) (tgt := 132) dX9_truly_124 rfl rfl (fun hc26 => ?_) (fun hc26 => ?_)
          · replace h := (if_pos hc26).symm.trans h
            refine fe_li (pc' := 129) dX9_truly_127 rfl rfl ?_
            refine fe_go (tgt := 134) dX9_truly_129 rfl ?_
            cases h
            exact fe_ri dX9_truly_134 rfl
          · replace h := (if_neg hc26).symm.trans h
            refine fe_li (pc' := 134) dX9_truly_132 rfl rfl ?_
            cases h
            exact fe_ri dX9_truly_134 rfl
        · replace h := (if_neg hc12).symm.trans h
          refine fe_ic (pc' := 40) dX9_truly_39 rfl ic_m1 ?_
          cases h
          exact fe_ri dX9_truly_40 rfl
      · replace h := (if_neg hc9).symm.trans h
        refine fe_ic (pc' := 40) dX9_truly_39 rfl ic_m1 ?_
        cases h
        exact fe_ri dX9_truly_40 rfl
    · replace h := (if_neg hc6).symm.trans h
      refine fe_ic (pc' := 40) dX9_truly_39 rfl ic_m1 ?_
      cases h
      exact fe_ri dX9_truly_40 rfl
  · replace h := (if_neg hc3).symm.trans h
    refine fe_ic (pc' := 40) dX9_truly_39 rfl ic_m1 ?_
    cases h
    exact fe_ri dX9_truly_40 rfl
-- Mo_odds: X9_odds
set_option maxRecDepth 4000 in
theorem lp_Mo_odds_L58 {hE : am_H} {r : Option Value} : ∀ (n : Nat) (g : am_G) (x1 : Int32) (x2 : Int32) (x3 : Int32) (x4 : Int32) (x5 : Int64) (x7 : Int64) (x9 : Int32) (w : Int64), Mo_odds_L58 n g x1 x2 x3 x4 x5 x7 x9 = some w → am_E 4 mX9_odds (79, [(0, .ref 221), (1, .int x1), (2, .int x2), (3, .int x3), (4, .int x4), (5, .long x5), (7, .long w)], [], (sh0, g)) hE r → am_E 4 mX9_odds (58, [(0, .ref 221), (1, .int x1), (2, .int x2), (3, .int x3), (4, .int x4), (5, .long x5), (7, .long x7), (9, .int x9)], [], (sh0, g)) hE r := by
  intro n
  induction n with
  | zero => intro g x1 x2 x3 x4 x5 x7 x9 q h; cases h
  | succ n ih =>
    intro g x1 x2 x3 x4 x5 x7 x9 q h k1
    replace h : _ = _ := h
    unfold Mo_odds_L58 at h
    refine fe_li (pc' := 60) dX9_odds_58 rfl rfl ?_
    refine fe_li (pc' := 62) dX9_odds_60 rfl rfl ?_
    refine fe_ic_ge (pc' := 65) (tgt := 79) dX9_odds_62 rfl rfl (fun hc10 => ?_) (fun hc10 => ?_)
    · replace h := (if_pos hc10).symm.trans h
      refine fe_pick [0, 1, 2, 3, 4, 5, 6] rfl ?_
      cases h
      exact k1
    · replace h := (if_neg hc10).symm.trans h
      refine fe_ll (pc' := 67) dX9_odds_65 rfl rfl ?_
      refine fe_ld2 (pc' := 70) dX9_odds_67 rfl kl_9_174 ?_
      refine fe_lmul (pc' := 71) dX9_odds_70 rfl ?_
      refine fe_sl (pc' := 73) (lo' := [(0, .ref 221), (1, .int x1), (2, .int x2), (3, .int x3), (4, .int x4), (5, .long x5), (7, .long (x7 * 10)), (9, .int x9)]) dX9_odds_71 rfl (Nat.le_of_ble_eq_true rfl) rfl ?_
      refine fe_inc (pc' := 76) (lo' := [(0, .ref 221), (1, .int x1), (2, .int x2), (3, .int x3), (4, .int x4), (5, .long x5), (7, .long (x7 * 10)), (9, .int (x9 + 1))]) dX9_odds_73 rfl ic_1 (Nat.le_of_ble_eq_true rfl) rfl rfl ?_
      refine fe_go (tgt := 58) dX9_odds_76 rfl ?_
      exact ih g x1 x2 x3 x4 x5 (x7 * 10) (x9 + 1) q h k1
set_option maxRecDepth 4000 in
theorem lp_Mo_odds_L105 {hE : am_H} {r : Option Value} : ∀ (n : Nat) (g : am_G) (x1 : Int32) (x2 : Int32) (x3 : Int32) (x4 : Int32) (x5 : Int64) (x7 : Int64) (x9 : Int32) (x10 : Int64) (x12 : Int32) (w : am_G × Int64), Mo_odds_L105 n g x1 x2 x3 x4 x5 x7 x9 x10 x12 = some w → am_E 4 mX9_odds (163, [(0, .ref 221), (1, .int x1), (2, .int x2), (3, .int x3), (4, .int x4), (5, .long x5), (7, .long x7), (9, .int x9), (10, .long w.2)], [], (sh0, w.1)) hE r → am_E 4 mX9_odds (105, [(0, .ref 221), (1, .int x1), (2, .int x2), (3, .int x3), (4, .int x4), (5, .long x5), (7, .long x7), (9, .int x9), (10, .long x10), (12, .int x12)], [], (sh0, g)) hE r := by
  intro n
  induction n with
  | zero => intro g x1 x2 x3 x4 x5 x7 x9 x10 x12 q h; cases h
  | succ n ih =>
    intro g x1 x2 x3 x4 x5 x7 x9 x10 x12 q h k1
    replace h : _ = _ := h
    unfold Mo_odds_L105 at h
    refine fe_li (pc' := 107) dX9_odds_105 rfl rfl ?_
    refine fe_li (pc' := 109) dX9_odds_107 rfl rfl ?_
    refine fe_ic_ge (pc' := 112) (tgt := 163) dX9_odds_109 rfl rfl (fun hc17 => ?_) (fun hc17 => ?_)
    · replace h := (if_pos hc17).symm.trans h
      refine fe_pick [0, 1, 2, 3, 4, 5, 6, 7, 8] rfl ?_
      cases h
      exact k1
    · replace h := (if_neg hc17).symm.trans h
      refine fe_li (pc' := 114) dX9_odds_112 rfl rfl ?_
      refine fe_li (pc' := 116) dX9_odds_114 rfl rfl ?_
      refine fe_ishr (pc' := 117) dX9_odds_116 rfl ?_
      refine fe_ic (pc' := 118) dX9_odds_117 rfl ic_1 ?_
      refine fe_iand (pc' := 119) dX9_odds_118 rfl ?_
      refine fe_ic (pc' := 120) dX9_odds_119 rfl ic_1 ?_
      have K : am_E 4 mX9_odds (128, [(0, .ref 221), (1, .int x1), (2, .int x2), (3, .int x3), (4, .int x4), (5, .long x5), (7, .long x7), (9, .int x9), (10, .long x10), (12, .int x12)], [.int (if ((x9 >>> (x12 &&& 31)) &&& 1) = 1 then 1 else 0 : Int32)], (sh0, g)) hE r := by
        refine fe_si (pc' := 130) (lo' := [(0, .ref 221), (1, .int x1), (2, .int x2), (3, .int x3), (4, .int x4), (5, .long x5), (7, .long x7), (9, .int x9), (10, .long x10), (12, .int x12), (13, .int (if ((x9 >>> (x12 &&& 31)) &&& 1) = 1 then 1 else 0 : Int32))]) dX9_odds_128 rfl (Nat.le_of_ble_eq_true rfl) rfl ?_
        refine fe_ll (pc' := 132) dX9_odds_130 rfl rfl ?_
        refine fe_li (pc' := 134) dX9_odds_132 rfl rfl ?_
        have K : am_E 4 mX9_odds (147, [(0, .ref 221), (1, .int x1), (2, .int x2), (3, .int x3), (4, .int x4), (5, .long x5), (7, .long x7), (9, .int x9), (12, .int x12), (13, .int (if ((x9 >>> (x12 &&& 31)) &&& 1) = 1 then 1 else 0 : Int32))], [.long (if (if ((x9 >>> (x12 &&& 31)) &&& 1) = 1 then 1 else 0 : Int32) = 0 then (10 - x1).toInt64 else x1.toInt64 : Int64), .long x10], (sh0, g)) hE r := by
          refine fe_lmul (pc' := 148) dX9_odds_147 rfl ?_
          refine fe_sl (pc' := 150) (lo' := [(0, .ref 221), (1, .int x1), (2, .int x2), (3, .int x3), (4, .int x4), (5, .long x5), (7, .long x7), (9, .int x9), (10, .long (x10 * (if (if ((x9 >>> (x12 &&& 31)) &&& 1) = 1 then 1 else 0 : Int32) = 0 then (10 - x1).toInt64 else x1.toInt64 : Int64))), (12, .int x12), (13, .int (if ((x9 >>> (x12 &&& 31)) &&& 1) = 1 then 1 else 0 : Int32))]) dX9_odds_148 rfl (Nat.le_of_ble_eq_true rfl) rfl ?_
          refine fe_lan (pc' := 151) dX9_odds_150 rfl rfl ?_
          refine fe_li (pc' := 153) dX9_odds_151 rfl rfl ?_
          obtain ⟨q22, hq23, h⟩ := am_bd h
          refine fe_iv (pc' := 156) (as := [.ref 221, .int (if ((x9 >>> (x12 &&& 31)) &&& 1) = 1 then 1 else 0 : Int32)]) (h1 := (sh0, q22.1)) (r1 := some (.int q22.2)) (st' := [.int q22.2]) dX9_odds_153 rfl cl_9_147 rfl rfl s_221 ms_152 ⟨n_221, rfl, by decide, Nat.le_of_ble_eq_true rfl, Nat.le_of_ble_eq_true rfl⟩ (am_le0 _ _ _) (am_up (by decide) (ev_Mo_stageGoes hq23)) rfl ?_
          refine fe_pop (pc' := 157) dX9_odds_156 rfl rfl ?_
          refine fe_inc (pc' := 160) (lo' := [(0, .ref 221), (1, .int x1), (2, .int x2), (3, .int x3), (4, .int x4), (5, .long x5), (7, .long x7), (9, .int x9), (10, .long (x10 * (if (if ((x9 >>> (x12 &&& 31)) &&& 1) = 1 then 1 else 0 : Int32) = 0 then (10 - x1).toInt64 else x1.toInt64 : Int64))), (12, .int (x12 + 1)), (13, .int (if ((x9 >>> (x12 &&& 31)) &&& 1) = 1 then 1 else 0 : Int32))]) dX9_odds_157 rfl ic_1 (Nat.le_of_ble_eq_true rfl) rfl rfl ?_
          refine fe_go (tgt := 105) dX9_odds_160 rfl ?_
          refine fe_pick [0, 1, 2, 3, 4, 5, 6, 7, 8, 9] rfl ?_
          exact ih q22.1 x1 x2 x3 x4 x5 x7 x9 (x10 * (if (if ((x9 >>> (x12 &&& 31)) &&& 1) = 1 then 1 else 0 : Int32) = 0 then (10 - x1).toInt64 else x1.toInt64 : Int64)) (x12 + 1) q h k1
        refine fe_if_eq (pc' := 137) (tgt := 142) dX9_odds_134 rfl rfl (fun hc20 => ?_) (fun hc20 => ?_)
        · refine fe_bp (pc' := 144) dX9_odds_142 rfl ib_10 ?_
          refine fe_lin (pc' := 145) dX9_odds_144 rfl rfl ?_
          refine fe_isub (pc' := 146) dX9_odds_145 rfl ?_
          refine fe_i2l (pc' := 147) dX9_odds_146 rfl ?_
          refine fe_pick [0, 1, 2, 3, 4, 5, 6, 7, 9, 10] rfl ?_
          simp only [if_pos hc20] at K ⊢
          exact K
        · refine fe_lin (pc' := 138) dX9_odds_137 rfl rfl ?_
          refine fe_i2l (pc' := 139) dX9_odds_138 rfl ?_
          refine fe_go (tgt := 147) dX9_odds_139 rfl ?_
          refine fe_pick [0, 1, 2, 3, 4, 5, 6, 7, 9, 10] rfl ?_
          simp only [if_neg hc20] at K ⊢
          exact K
      refine fe_ic_ne (pc' := 123) (tgt := 127) dX9_odds_120 rfl rfl (fun hc18 => ?_) (fun hc18 => ?_)
      · refine fe_ic (pc' := 124) dX9_odds_123 rfl ic_1 ?_
        refine fe_go (tgt := 128) dX9_odds_124 rfl ?_
        simp only [if_pos hc18] at K ⊢
        exact K
      · refine fe_ic (pc' := 128) dX9_odds_127 rfl ic_0 ?_
        simp only [if_neg hc18] at K ⊢
        exact K
set_option maxRecDepth 4000 in
theorem lp_Mo_odds_L90 {hE : am_H} {r : Option Value} : ∀ (n : Nat) (g : am_G) (x1 : Int32) (x2 : Int32) (x3 : Int32) (x4 : Int32) (x5 : Int64) (x7 : Int64) (x9 : Int32) (w : am_G × Int64), Mo_odds_L90 n g x1 x2 x3 x4 x5 x7 x9 = some w → am_E 4 mX9_odds (201, [(3, .int x3), (5, .long w.2), (7, .long x7)], [], (sh0, w.1)) hE r → am_E 4 mX9_odds (90, [(0, .ref 221), (1, .int x1), (2, .int x2), (3, .int x3), (4, .int x4), (5, .long x5), (7, .long x7), (9, .int x9)], [], (sh0, g)) hE r := by
  intro n
  induction n with
  | zero => intro g x1 x2 x3 x4 x5 x7 x9 q h; cases h
  | succ n ih =>
    intro g x1 x2 x3 x4 x5 x7 x9 q h k1
    replace h : _ = _ := h
    unfold Mo_odds_L90 at h
    refine fe_li (pc' := 92) dX9_odds_90 rfl rfl ?_
    refine fe_ic (pc' := 93) dX9_odds_92 rfl ic_1 ?_
    refine fe_li (pc' := 95) dX9_odds_93 rfl rfl ?_
    refine fe_ishl (pc' := 96) dX9_odds_95 rfl ?_
    refine fe_ic_ge (pc' := 99) (tgt := 201) dX9_odds_96 rfl rfl (fun hc16 => ?_) (fun hc16 => ?_)
    · replace h := (if_pos hc16).symm.trans h
      refine fe_pick [3, 5, 6] rfl ?_
      cases h
      exact k1
    · replace h := (if_neg hc16).symm.trans h
      refine fe_lc (pc' := 100) (v := 1) dX9_odds_99 rfl rfl ?_
      refine fe_sl (pc' := 102) (lo' := [(0, .ref 221), (1, .int x1), (2, .int x2), (3, .int x3), (4, .int x4), (5, .long x5), (7, .long x7), (9, .int x9), (10, .long 1)]) dX9_odds_100 rfl (Nat.le_of_ble_eq_true rfl) rfl ?_
      refine fe_ic (pc' := 103) dX9_odds_102 rfl ic_0 ?_
      refine fe_si (pc' := 105) (lo' := [(0, .ref 221), (1, .int x1), (2, .int x2), (3, .int x3), (4, .int x4), (5, .long x5), (7, .long x7), (9, .int x9), (10, .long 1), (12, .int 0)]) dX9_odds_103 rfl (Nat.le_of_ble_eq_true rfl) rfl ?_
      obtain ⟨q24, hq36, h⟩ := am_bd h
      refine lp_Mo_odds_L105 _ g x1 x2 x3 x4 x5 x7 x9 1 0 q24 hq36 ?_
      refine fe_ll (pc' := 165) dX9_odds_163 rfl rfl ?_
      refine fe_lan (pc' := 166) dX9_odds_165 rfl rfl ?_
      refine fe_gf (pc' := 169) dX9_odds_166 rfl fl_9_19 n_221 gf_221_5 ?_
      refine fe_ic (pc' := 170) dX9_odds_169 rfl ic_1 ?_
      refine fe_al (pc' := 171) (j := 1) dX9_odds_170 rfl n_225 s_225 (by decide) (by decide) ?_
      refine fe_lan (pc' := 172) dX9_odds_171 rfl rfl ?_
      refine fe_gf (pc' := 175) dX9_odds_172 rfl fl_9_38 n_221 gf_221_16 ?_
      refine fe_ic (pc' := 176) dX9_odds_175 rfl ic_1 ?_
      refine fe_al (pc' := 177) (j := 1) dX9_odds_176 rfl n_231 s_231 (by decide) (by decide) ?_
      refine fe_isub (pc' := 178) dX9_odds_177 rfl ?_
      refine fe_lin (pc' := 179) dX9_odds_178 rfl rfl ?_
      have K : am_E 4 mX9_odds (188, [(0, .ref 221), (1, .int x1), (2, .int x2), (3, .int x3), (4, .int x4), (7, .long x7), (9, .int x9)], [.long (if x2 < ((q24.1.1 225 1) - (q24.1.1 231 1)) then 0 else q24.2 : Int64), .long x5], (sh0, q24.1)) hE r := by
        refine fe_ladd (pc' := 189) dX9_odds_188 rfl ?_
        refine fe_sl (pc' := 191) (lo' := [(0, .ref 221), (1, .int x1), (2, .int x2), (3, .int x3), (4, .int x4), (5, .long (x5 + (if x2 < ((q24.1.1 225 1) - (q24.1.1 231 1)) then 0 else q24.2 : Int64))), (7, .long x7), (9, .int x9)]) dX9_odds_189 rfl (Nat.le_of_ble_eq_true rfl) rfl ?_
        refine fe_lan (pc' := 192) dX9_odds_191 rfl rfl ?_
        obtain ⟨q27, hq28, h⟩ := am_bd h
        refine fe_iv (pc' := 195) (as := [.ref 221]) (h1 := (sh0, q27)) (r1 := none) (st' := []) dX9_odds_192 rfl cl_9_161 rfl rfl s_221 ms_161 ⟨n_221, rfl, by decide, Nat.le_of_ble_eq_true rfl, Nat.le_of_ble_eq_true rfl⟩ (am_le0 _ _ _) (am_up (by decide) (ev_Mo_lets hq28)) rfl ?_
        refine fe_inc (pc' := 198) (lo' := [(0, .ref 221), (1, .int x1), (2, .int x2), (3, .int x3), (4, .int x4), (5, .long (x5 + (if x2 < ((q24.1.1 225 1) - (q24.1.1 231 1)) then 0 else q24.2 : Int64))), (7, .long x7), (9, .int (x9 + 1))]) dX9_odds_195 rfl ic_1 (Nat.le_of_ble_eq_true rfl) rfl rfl ?_
        refine fe_go (tgt := 90) dX9_odds_198 rfl ?_
        exact ih q27 x1 x2 x3 x4 (x5 + (if x2 < ((q24.1.1 225 1) - (q24.1.1 231 1)) then 0 else q24.2 : Int64)) x7 (x9 + 1) q h k1
      refine fe_ic_gt (pc' := 182) (tgt := 187) dX9_odds_179 rfl rfl (fun hc25 => ?_) (fun hc25 => ?_)
      · refine fe_lc (pc' := 188) (v := 0) dX9_odds_187 rfl rfl ?_
        refine fe_pick [0, 1, 2, 3, 4, 6, 7] rfl ?_
        simp only [if_pos hc25] at K ⊢
        exact K
      · refine fe_ll (pc' := 184) dX9_odds_182 rfl rfl ?_
        refine fe_go (tgt := 188) dX9_odds_184 rfl ?_
        refine fe_pick [0, 1, 2, 3, 4, 6, 7] rfl ?_
        simp only [if_neg hc25] at K ⊢
        exact K
set_option maxRecDepth 4000 in
theorem lp_Mo_odds_L209 {hE : am_H} {r : Option Value} : ∀ (n : Nat) (g : am_G) (x3 : Int32) (x5 : Int64) (x7 : Int64) (x9 : Int64) (x11 : Int64) (w : Int64), Mo_odds_L209 n g x3 x5 x7 x9 x11 = some w → am_E 4 mX9_odds (234, [(3, .int x3), (5, .long x5), (7, .long x7), (9, .long w)], [], (sh0, g)) hE r → am_E 4 mX9_odds (209, [(3, .int x3), (5, .long x5), (7, .long x7), (9, .long x9), (11, .long x11)], [], (sh0, g)) hE r := by
  intro n
  induction n with
  | zero => intro g x3 x5 x7 x9 x11 q h; cases h
  | succ n ih =>
    intro g x3 x5 x7 x9 x11 q h k1
    replace h : _ = _ := h
    unfold Mo_odds_L209 at h
    refine fe_ll (pc' := 211) dX9_odds_209 rfl rfl ?_
    refine fe_lc (pc' := 212) (v := 0) dX9_odds_211 rfl rfl ?_
    refine fe_lcmp (pc' := 213) dX9_odds_212 rfl ?_
    refine fe_if_eq (pc' := 216) (tgt := 234) dX9_odds_213 rfl rfl (fun hc30 => ?_) (fun hc30 => ?_)
    · replace h := (if_pos hc30).symm.trans h
      refine fe_pick [0, 1, 2, 3] rfl ?_
      cases h
      exact k1
    · replace h := (if_neg hc30).symm.trans h
      refine fe_ll (pc' := 218) dX9_odds_216 rfl rfl ?_
      refine fe_ll (pc' := 220) dX9_odds_218 rfl rfl ?_
      obtain ⟨hz31, h⟩ := am_gd rfl h
      refine fe_lrem (pc' := 221) dX9_odds_220 rfl hz31 ?_
      refine fe_sl (pc' := 223) (lo' := [(3, .int x3), (5, .long x5), (7, .long x7), (9, .long x9), (11, .long x11), (13, .long (x9 - x9 / x11 * x11))]) dX9_odds_221 rfl (Nat.le_of_ble_eq_true rfl) rfl ?_
      refine fe_ll (pc' := 225) dX9_odds_223 rfl rfl ?_
      refine fe_sl (pc' := 227) (lo' := [(3, .int x3), (5, .long x5), (7, .long x7), (9, .long x11), (11, .long x11), (13, .long (x9 - x9 / x11 * x11))]) dX9_odds_225 rfl (Nat.le_of_ble_eq_true rfl) rfl ?_
      refine fe_ll (pc' := 229) dX9_odds_227 rfl rfl ?_
      refine fe_sl (pc' := 231) (lo' := [(3, .int x3), (5, .long x5), (7, .long x7), (9, .long x11), (11, .long (x9 - x9 / x11 * x11)), (13, .long (x9 - x9 / x11 * x11))]) dX9_odds_229 rfl (Nat.le_of_ble_eq_true rfl) rfl ?_
      refine fe_go (tgt := 209) dX9_odds_231 rfl ?_
      refine fe_pick [0, 1, 2, 3, 4] rfl ?_
      exact ih g x3 x5 x7 x11 (x9 - x9 / x11 * x11) q h k1
set_option maxRecDepth 4000 in
theorem ev_Mo_odds {g : am_G} {x1 x2 x3 : Int32} {w : (am_G × Int64)} (h : Mo_odds g x1 x2 x3 = some w) : am_Ev 5 171 [.ref 221, .int x1, .int x2, .int x3] (sh0, g) (sh0, w.1) (some (.long w.2)) := by
  unfold Mo_odds at h
  refine am_ev mX9_odds (by rfl) (Nat.le_of_ble_eq_true rfl) [(0, .ref 221), (1, .int x1), (2, .int x2), (3, .int x3)] rfl ?_
  refine fe_lin (pc' := 1) dX9_odds_0 rfl rfl ?_
  refine fe_ic (pc' := 2) dX9_odds_1 rfl ic_0 ?_
  refine fe_bp (pc' := 4) dX9_odds_2 rfl ib_10 ?_
  obtain ⟨q1, hq2, h⟩ := am_bd h
  refine fe_is (pc' := 7) (as := [.int x1, .int 0, .int 10]) (h1 := (sh0, g)) (r1 := some (.int (am_b q1))) (st' := [.int (am_b q1)]) dX9_odds_4 rfl cl_9_48 (Or.inl rfl) rfl rfl ⟨Nat.le_of_ble_eq_true rfl, Nat.le_of_ble_eq_true rfl⟩ (am_le0 _ _ _) (am_up (by decide) (ev_Mo_in hq2)) rfl ?_
  refine fe_bT (pc' := 10) (tgt := 30) dX9_odds_7 rfl rfl rfl (fun hc3 => ?_) (fun hc3 => ?_)
  · replace h := (if_pos hc3).symm.trans h
    refine fe_lin (pc' := 11) dX9_odds_10 rfl rfl ?_
    refine fe_ic (pc' := 12) dX9_odds_11 rfl ic_0 ?_
    refine fe_sp (pc' := 15) dX9_odds_12 rfl is_9999 ?_
    obtain ⟨q4, hq5, h⟩ := am_bd h
    refine fe_is (pc' := 18) (as := [.int x2, .int 0, .int 9999]) (h1 := (sh0, g)) (r1 := some (.int (am_b q4))) (st' := [.int (am_b q4)]) dX9_odds_15 rfl cl_9_48 (Or.inl rfl) rfl rfl ⟨Nat.le_of_ble_eq_true rfl, Nat.le_of_ble_eq_true rfl⟩ (am_le0 _ _ _) (am_up (by decide) (ev_Mo_in hq5)) rfl ?_
    refine fe_bT (pc' := 21) (tgt := 30) dX9_odds_18 rfl rfl rfl (fun hc6 => ?_) (fun hc6 => ?_)
    · replace h := (if_pos hc6).symm.trans h
      refine fe_lin (pc' := 22) dX9_odds_21 rfl rfl ?_
      refine fe_ic (pc' := 23) dX9_odds_22 rfl ic_0 ?_
      refine fe_ic (pc' := 24) dX9_odds_23 rfl ic_1 ?_
      obtain ⟨q7, hq8, h⟩ := am_bd h
      refine fe_is (pc' := 27) (as := [.int x3, .int 0, .int 1]) (h1 := (sh0, g)) (r1 := some (.int (am_b q7))) (st' := [.int (am_b q7)]) dX9_odds_24 rfl cl_9_48 (Or.inl rfl) rfl rfl ⟨Nat.le_of_ble_eq_true rfl, Nat.le_of_ble_eq_true rfl⟩ (am_le0 _ _ _) (am_up (by decide) (ev_Mo_in hq8)) rfl ?_
      refine fe_bF (pc' := 30) (tgt := 34) dX9_odds_27 rfl rfl rfl (fun hc9 => ?_) (fun hc9 => ?_)
      · replace h := (if_pos hc9).symm.trans h
        refine fe_lan (pc' := 35) dX9_odds_34 rfl rfl ?_
        refine fe_gf (pc' := 38) dX9_odds_35 rfl fl_9_13 n_221 gf_221_3 ?_
        refine fe_ic (pc' := 39) dX9_odds_38 rfl ic_2 ?_
        refine fe_al (pc' := 40) (j := 2) dX9_odds_39 rfl n_223 s_223 (by decide) (by decide) ?_
        refine fe_lan (pc' := 41) dX9_odds_40 rfl rfl ?_
        refine fe_gf (pc' := 44) dX9_odds_41 rfl fl_9_19 n_221 gf_221_5 ?_
        refine fe_ic (pc' := 45) dX9_odds_44 rfl ic_0 ?_
        refine fe_al (pc' := 46) (j := 0) dX9_odds_45 rfl n_225 s_225 (by decide) (by decide) ?_
        refine fe_isub (pc' := 47) dX9_odds_46 rfl ?_
        refine fe_si (pc' := 49) (lo' := [(0, .ref 221), (1, .int x1), (2, .int x2), (3, .int x3), (4, .int ((g.1 223 2) - (g.1 225 0)))]) dX9_odds_47 rfl (Nat.le_of_ble_eq_true rfl) rfl ?_
        refine fe_lc (pc' := 50) (v := 0) dX9_odds_49 rfl rfl ?_
        refine fe_sl (pc' := 52) (lo' := [(0, .ref 221), (1, .int x1), (2, .int x2), (3, .int x3), (4, .int ((g.1 223 2) - (g.1 225 0))), (5, .long 0)]) dX9_odds_50 rfl (Nat.le_of_ble_eq_true rfl) rfl ?_
        refine fe_lc (pc' := 53) (v := 1) dX9_odds_52 rfl rfl ?_
        refine fe_sl (pc' := 55) (lo' := [(0, .ref 221), (1, .int x1), (2, .int x2), (3, .int x3), (4, .int ((g.1 223 2) - (g.1 225 0))), (5, .long 0), (7, .long 1)]) dX9_odds_53 rfl (Nat.le_of_ble_eq_true rfl) rfl ?_
        refine fe_ic (pc' := 56) dX9_odds_55 rfl ic_0 ?_
        refine fe_si (pc' := 58) (lo' := [(0, .ref 221), (1, .int x1), (2, .int x2), (3, .int x3), (4, .int ((g.1 223 2) - (g.1 225 0))), (5, .long 0), (7, .long 1), (9, .int 0)]) dX9_odds_56 rfl (Nat.le_of_ble_eq_true rfl) rfl ?_
        obtain ⟨q11, hq37, h⟩ := am_bd h
        refine lp_Mo_odds_L58 _ g x1 x2 x3 ((g.1 223 2) - (g.1 225 0)) 0 1 0 q11 hq37 ?_
        refine fe_lan (pc' := 80) dX9_odds_79 rfl rfl ?_
        obtain ⟨q12, hq13, h⟩ := am_bd h
        refine fe_iv (pc' := 83) (as := [.ref 221]) (h1 := (sh0, q12)) (r1 := none) (st' := []) dX9_odds_80 rfl cl_9_158 rfl rfl s_221 ms_160 ⟨n_221, rfl, by decide, Nat.le_of_ble_eq_true rfl, Nat.le_of_ble_eq_true rfl⟩ (am_le0 _ _ _) (am_up (by decide) (ev_Mo_holds hq13)) rfl ?_
        refine fe_lan (pc' := 84) dX9_odds_83 rfl rfl ?_
        obtain ⟨q14, hq15, h⟩ := am_bd h
        refine fe_iv (pc' := 87) (as := [.ref 221]) (h1 := (sh0, q14)) (r1 := none) (st' := []) dX9_odds_84 rfl cl_9_141 rfl rfl s_221 ms_150 ⟨n_221, rfl, by decide, Nat.le_of_ble_eq_true rfl, Nat.le_of_ble_eq_true rfl⟩ (am_le0 _ _ _) (am_up (by decide) (ev_Mo_plainOrder hq15)) rfl ?_
        refine fe_ic (pc' := 88) dX9_odds_87 rfl ic_0 ?_
        refine fe_si (pc' := 90) (lo' := [(0, .ref 221), (1, .int x1), (2, .int x2), (3, .int x3), (4, .int ((g.1 223 2) - (g.1 225 0))), (5, .long 0), (7, .long q11), (9, .int 0)]) dX9_odds_88 rfl (Nat.le_of_ble_eq_true rfl) rfl ?_
        obtain ⟨q29, hq38, h⟩ := am_bd h
        refine lp_Mo_odds_L90 _ q14 x1 x2 x3 ((g.1 223 2) - (g.1 225 0)) 0 q11 0 q29 hq38 ?_
        refine fe_ll (pc' := 203) dX9_odds_201 rfl rfl ?_
        refine fe_sl (pc' := 205) (lo' := [(3, .int x3), (5, .long q29.2), (7, .long q11), (9, .long q29.2)]) dX9_odds_203 rfl (Nat.le_of_ble_eq_true rfl) rfl ?_
        refine fe_ll (pc' := 207) dX9_odds_205 rfl rfl ?_
        refine fe_sl (pc' := 209) (lo' := [(3, .int x3), (5, .long q29.2), (7, .long q11), (9, .long q29.2), (11, .long q11)]) dX9_odds_207 rfl (Nat.le_of_ble_eq_true rfl) rfl ?_
        obtain ⟨q32, hq39, h⟩ := am_bd h
        refine lp_Mo_odds_L209 _ q29.1 x3 q29.2 q11 q29.2 q11 q32 hq39 ?_
        refine fe_lin (pc' := 235) dX9_odds_234 rfl rfl ?_
        refine fe_if_ne (pc' := 238) (tgt := 246) dX9_odds_235 rfl rfl (fun hc33 => ?_) (fun hc33 => ?_)
        · replace h := (if_pos hc33).symm.trans h
          refine fe_ll (pc' := 240) dX9_odds_238 rfl rfl ?_
          refine fe_ll (pc' := 242) dX9_odds_240 rfl rfl ?_
          obtain ⟨hz34, h⟩ := am_gd rfl h
          refine fe_ldiv (pc' := 243) dX9_odds_242 rfl hz34 ?_
          refine fe_go (tgt := 251) dX9_odds_243 rfl ?_
          cases h
          exact fe_rl' dX9_odds_251 rfl
        · replace h := (if_neg hc33).symm.trans h
          refine fe_ll (pc' := 248) dX9_odds_246 rfl rfl ?_
          refine fe_ll (pc' := 250) dX9_odds_248 rfl rfl ?_
          obtain ⟨hz35, h⟩ := am_gd rfl h
          refine fe_ldiv (pc' := 251) dX9_odds_250 rfl hz35 ?_
          cases h
          exact fe_rl' dX9_odds_251 rfl
      · replace h := (if_neg hc9).symm.trans h
        refine fe_ld2 (pc' := 33) dX9_odds_30 rfl kl_9_172 ?_
        cases h
        exact fe_rl' dX9_odds_33 rfl
    · replace h := (if_neg hc6).symm.trans h
      refine fe_ld2 (pc' := 33) dX9_odds_30 rfl kl_9_172 ?_
      cases h
      exact fe_rl' dX9_odds_33 rfl
  · replace h := (if_neg hc3).symm.trans h
    refine fe_ld2 (pc' := 33) dX9_odds_30 rfl kl_9_172 ?_
    cases h
    exact fe_rl' dX9_odds_33 rfl
-- Mo_book: X9_book
set_option maxRecDepth 4000 in
theorem ev_Mo_book {g : am_G} {x1 x2 x3 : Int32} {w : (am_G × Int32)} (h : Mo_book g x1 x2 x3 = some w) : am_Ev 3 172 [.ref 221, .int x1, .int x2, .int x3] (sh0, g) (sh0, w.1) (some (.int w.2)) := by
  unfold Mo_book at h
  refine am_ev mX9_book (by rfl) (Nat.le_of_ble_eq_true rfl) [(0, .ref 221), (1, .int x1), (2, .int x2), (3, .int x3)] rfl ?_
  refine fe_lan (pc' := 1) dX9_book_0 rfl rfl ?_
  refine fe_lin (pc' := 2) dX9_book_1 rfl rfl ?_
  obtain ⟨q1, hq2, h⟩ := am_bd h
  refine fe_iv (pc' := 5) (as := [.ref 221, .int x1]) (h1 := (sh0, g)) (r1 := some (.int (am_b q1))) (st' := [.int (am_b q1)]) dX9_book_2 rfl cl_9_106 rfl rfl s_221 ms_120 ⟨n_221, rfl, by decide, Nat.le_of_ble_eq_true rfl, Nat.le_of_ble_eq_true rfl⟩ (am_le0 _ _ _) (am_up (by decide) (ev_Mo_isWalker hq2)) rfl ?_
  refine fe_bT (pc' := 8) (tgt := 29) dX9_book_5 rfl rfl rfl (fun hc3 => ?_) (fun hc3 => ?_)
  · replace h := (if_pos hc3).symm.trans h
    refine fe_lin (pc' := 9) dX9_book_8 rfl rfl ?_
    refine fe_ic (pc' := 10) dX9_book_9 rfl ic_1 ?_
    refine fe_bp (pc' := 12) dX9_book_10 rfl ib_20 ?_
    obtain ⟨q4, hq5, h⟩ := am_bd h
    refine fe_is (pc' := 15) (as := [.int x2, .int 1, .int 20]) (h1 := (sh0, g)) (r1 := some (.int (am_b q4))) (st' := [.int (am_b q4)]) dX9_book_12 rfl cl_9_48 (Or.inl rfl) rfl rfl ⟨Nat.le_of_ble_eq_true rfl, Nat.le_of_ble_eq_true rfl⟩ (am_le0 _ _ _) (am_up (by decide) (ev_Mo_in hq5)) rfl ?_
    refine fe_bT (pc' := 18) (tgt := 29) dX9_book_15 rfl rfl rfl (fun hc6 => ?_) (fun hc6 => ?_)
    · replace h := (if_pos hc6).symm.trans h
      refine fe_lin (pc' := 19) dX9_book_18 rfl rfl ?_
      refine fe_ic (pc' := 20) dX9_book_19 rfl ic_1 ?_
      refine fe_sp (pc' := 23) dX9_book_20 rfl is_999 ?_
      obtain ⟨q7, hq8, h⟩ := am_bd h
      refine fe_is (pc' := 26) (as := [.int x3, .int 1, .int 999]) (h1 := (sh0, g)) (r1 := some (.int (am_b q7))) (st' := [.int (am_b q7)]) dX9_book_23 rfl cl_9_48 (Or.inl rfl) rfl rfl ⟨Nat.le_of_ble_eq_true rfl, Nat.le_of_ble_eq_true rfl⟩ (am_le0 _ _ _) (am_up (by decide) (ev_Mo_in hq8)) rfl ?_
      refine fe_bF (pc' := 29) (tgt := 31) dX9_book_26 rfl rfl rfl (fun hc9 => ?_) (fun hc9 => ?_)
      · replace h := (if_pos hc9).symm.trans h
        refine fe_lan (pc' := 32) dX9_book_31 rfl rfl ?_
        refine fe_gf (pc' := 35) dX9_book_32 rfl fl_9_97 n_221 gf_221_9 ?_
        refine fe_bp (pc' := 37) dX9_book_35 rfl ib_6 ?_
        refine fe_ic_ne (pc' := 40) (tgt := 43) dX9_book_37 rfl rfl (fun hc10 => ?_) (fun hc10 => ?_)
        · replace h := (if_pos hc10).symm.trans h
          refine fe_bp (pc' := 42) dX9_book_40 rfl ib_m3 ?_
          cases h
          exact fe_ri dX9_book_42 rfl
        · replace h := (if_neg hc10).symm.trans h
          refine fe_lan (pc' := 44) dX9_book_43 rfl rfl ?_
          refine fe_gf (pc' := 47) dX9_book_44 rfl fl_9_29 n_221 gf_221_8 ?_
          refine fe_ic (pc' := 48) dX9_book_47 rfl ic_3 ?_
          refine fe_lan (pc' := 49) dX9_book_48 rfl rfl ?_
          refine fe_gf (pc' := 52) dX9_book_49 rfl fl_9_97 n_221 gf_221_9 ?_
          refine fe_imul (pc' := 53) dX9_book_52 rfl ?_
          refine fe_lin (pc' := 54) dX9_book_53 rfl rfl ?_
          obtain ⟨hi11, h⟩ := am_gd rfl h
          refine fe_as (pc' := 55) (j := (3 * (g.1 221 9)).toNatClampNeg) dX9_book_54 rfl n_228 s_228 hi11 rfl ?_
          refine fe_lan (pc' := 56) dX9_book_55 rfl rfl ?_
          refine fe_gf (pc' := 59) dX9_book_56 rfl fl_9_29 n_221 gf_221_8 ?_
          refine fe_ic (pc' := 60) dX9_book_59 rfl ic_3 ?_
          refine fe_lan (pc' := 61) dX9_book_60 rfl rfl ?_
          refine fe_gf (pc' := 64) dX9_book_61 rfl fl_9_97 n_221 gf_221_9 ?_
          refine fe_imul (pc' := 65) dX9_book_64 rfl ?_
          refine fe_ic (pc' := 66) dX9_book_65 rfl ic_1 ?_
          refine fe_iadd (pc' := 67) dX9_book_66 rfl ?_
          refine fe_lin (pc' := 68) dX9_book_67 rfl rfl ?_
          obtain ⟨hi12, h⟩ := am_gd rfl h
          refine fe_as (pc' := 69) (j := ((3 * ((am_wr g 228 (3 * (g.1 221 9)).toNatClampNeg x1).1 221 9)) + 1).toNatClampNeg) dX9_book_68 rfl n_228 s_228 hi12 rfl ?_
          refine fe_lan (pc' := 70) dX9_book_69 rfl rfl ?_
          refine fe_gf (pc' := 73) dX9_book_70 rfl fl_9_29 n_221 gf_221_8 ?_
          refine fe_ic (pc' := 74) dX9_book_73 rfl ic_3 ?_
          refine fe_lan (pc' := 75) dX9_book_74 rfl rfl ?_
          refine fe_gf (pc' := 78) dX9_book_75 rfl fl_9_97 n_221 gf_221_9 ?_
          refine fe_imul (pc' := 79) dX9_book_78 rfl ?_
          refine fe_ic (pc' := 80) dX9_book_79 rfl ic_2 ?_
          refine fe_iadd (pc' := 81) dX9_book_80 rfl ?_
          refine fe_lin (pc' := 82) dX9_book_81 rfl rfl ?_
          obtain ⟨hi13, h⟩ := am_gd rfl h
          refine fe_as (pc' := 83) (j := ((3 * ((am_wr (am_wr g 228 (3 * (g.1 221 9)).toNatClampNeg x1) 228 ((3 * ((am_wr g 228 (3 * (g.1 221 9)).toNatClampNeg x1).1 221 9)) + 1).toNatClampNeg x2).1 221 9)) + 2).toNatClampNeg) dX9_book_82 rfl n_228 s_228 hi13 rfl ?_
          refine fe_lan (pc' := 84) dX9_book_83 rfl rfl ?_
          refine fe_dup (pc' := 85) dX9_book_84 rfl rfl ?_
          refine fe_gf (pc' := 88) dX9_book_85 rfl fl_9_97 n_221 gf_221_9 ?_
          refine fe_ic (pc' := 89) dX9_book_88 rfl ic_1 ?_
          refine fe_iadd (pc' := 90) dX9_book_89 rfl ?_
          refine fe_pi (pc' := 93) dX9_book_90 rfl fl_9_97 n_221 s_221 rfl ⟨rfl, Or.inl rfl⟩ ?_
          refine fe_lan (pc' := 94) dX9_book_93 rfl rfl ?_
          refine fe_gf (pc' := 97) dX9_book_94 rfl fl_9_97 n_221 gf_221_9 ?_
          cases h
          exact fe_ri dX9_book_97 rfl
      · replace h := (if_neg hc9).symm.trans h
        refine fe_ic (pc' := 30) dX9_book_29 rfl ic_m1 ?_
        cases h
        exact fe_ri dX9_book_30 rfl
    · replace h := (if_neg hc6).symm.trans h
      refine fe_ic (pc' := 30) dX9_book_29 rfl ic_m1 ?_
      cases h
      exact fe_ri dX9_book_30 rfl
  · replace h := (if_neg hc3).symm.trans h
    refine fe_ic (pc' := 30) dX9_book_29 rfl ic_m1 ?_
    cases h
    exact fe_ri dX9_book_30 rfl
-- Mo_burn: X9_burn
set_option maxRecDepth 4000 in
theorem ev_Mo_burn {g : am_G} {w : (am_G × Int32)} (h : Mo_burn g  = some w) : am_Ev 1 173 [.ref 221] (sh0, g) (sh0, w.1) (some (.int w.2)) := by
  unfold Mo_burn at h
  refine am_ev mX9_burn (by rfl) (Nat.le_of_ble_eq_true rfl) [(0, .ref 221)] rfl ?_
  refine fe_lan (pc' := 1) dX9_burn_0 rfl rfl ?_
  refine fe_gf (pc' := 4) dX9_burn_1 rfl fl_9_97 n_221 gf_221_9 ?_
  refine fe_sin (pc' := 5) (lo' := [(0, .ref 221), (1, .int (g.1 221 9))]) dX9_burn_4 rfl (Nat.le_of_ble_eq_true rfl) rfl ?_
  refine fe_lan (pc' := 6) dX9_burn_5 rfl rfl ?_
  refine fe_ic (pc' := 7) dX9_burn_6 rfl ic_0 ?_
  refine fe_pi (pc' := 10) dX9_burn_7 rfl fl_9_97 n_221 s_221 rfl ⟨rfl, Or.inl rfl⟩ ?_
  refine fe_lin (pc' := 11) dX9_burn_10 rfl rfl ?_
  cases h
  exact fe_ri dX9_burn_11 rfl
-- Mo_isSo: X9_isSo
set_option maxRecDepth 4000 in
theorem lp_Mo_isSo_L4 {hE : am_H} {r : Option Value} : ∀ (n : Nat) (g : am_G) (x1 : Int32) (x2 : Int32) (w : Int32), Mo_isSo_L4 n g x1 x2 = some w → am_E 2 mX9_isSo (73, [(1, .int w)], [], (sh0, g)) hE r → am_E 2 mX9_isSo (4, [(0, .ref 221), (1, .int x1), (2, .int x2)], [], (sh0, g)) hE r := by
  intro n
  induction n with
  | zero => intro g x1 x2 q h; cases h
  | succ n ih =>
    intro g x1 x2 q h k1
    replace h : _ = _ := h
    unfold Mo_isSo_L4 at h
    refine fe_lin (pc' := 5) dX9_isSo_4 rfl rfl ?_
    refine fe_lan (pc' := 6) dX9_isSo_5 rfl rfl ?_
    refine fe_gf (pc' := 9) dX9_isSo_6 rfl fl_9_97 n_221 gf_221_9 ?_
    refine fe_ic_ge (pc' := 12) (tgt := 73) dX9_isSo_9 rfl rfl (fun hc1 => ?_) (fun hc1 => ?_)
    · replace h := (if_pos hc1).symm.trans h
      refine fe_pick [1] rfl ?_
      cases h
      exact k1
    · replace h := (if_neg hc1).symm.trans h
      refine fe_lan (pc' := 13) dX9_isSo_12 rfl rfl ?_
      refine fe_gf (pc' := 16) dX9_isSo_13 rfl fl_9_29 n_221 gf_221_8 ?_
      refine fe_ic (pc' := 17) dX9_isSo_16 rfl ic_3 ?_
      refine fe_lin (pc' := 18) dX9_isSo_17 rfl rfl ?_
      refine fe_imul (pc' := 19) dX9_isSo_18 rfl ?_
      obtain ⟨hi2, h⟩ := am_gd rfl h
      refine fe_al (pc' := 20) (j := (3 * x2).toNatClampNeg) dX9_isSo_19 rfl n_228 s_228 hi2 rfl ?_
      refine fe_sin (pc' := 21) (lo' := [(0, .ref 221), (1, .int x1), (2, .int x2), (3, .int (g.1 228 (3 * x2).toNatClampNeg))]) dX9_isSo_20 rfl (Nat.le_of_ble_eq_true rfl) rfl ?_
      refine fe_lin (pc' := 22) dX9_isSo_21 rfl rfl ?_
      obtain ⟨q13, hq16, h⟩ := am_bd h
      have K : am_E 2 mX9_isSo (66, [(0, .ref 221), (2, .int x2)], [.int q13], (sh0, g)) hE r := by
        refine fe_sin (pc' := 67) (lo' := [(0, .ref 221), (1, .int q13), (2, .int x2)]) dX9_isSo_66 rfl (Nat.le_of_ble_eq_true rfl) rfl ?_
        refine fe_inc (pc' := 70) (lo' := [(0, .ref 221), (1, .int q13), (2, .int (x2 + 1))]) dX9_isSo_67 rfl ic_1 (Nat.le_of_ble_eq_true rfl) rfl rfl ?_
        refine fe_go (tgt := 4) dX9_isSo_70 rfl ?_
        exact ih g q13 (x2 + 1) q h k1
      replace h := hq16
      refine fe_if_eq (pc' := 25) (tgt := 65) dX9_isSo_22 rfl rfl (fun hc3 => ?_) (fun hc3 => ?_)
      · replace h := (if_pos hc3).symm.trans h
        refine fe_ic (pc' := 66) dX9_isSo_65 rfl ic_0 ?_
        refine fe_pick [0, 2] rfl ?_
        cases h
        exact K
      · replace h := (if_neg hc3).symm.trans h
        refine fe_lan (pc' := 26) dX9_isSo_25 rfl rfl ?_
        refine fe_gf (pc' := 29) dX9_isSo_26 rfl fl_9_29 n_221 gf_221_8 ?_
        refine fe_ic (pc' := 30) dX9_isSo_29 rfl ic_3 ?_
        refine fe_lin (pc' := 31) dX9_isSo_30 rfl rfl ?_
        refine fe_imul (pc' := 32) dX9_isSo_31 rfl ?_
        refine fe_ic (pc' := 33) dX9_isSo_32 rfl ic_1 ?_
        refine fe_iadd (pc' := 34) dX9_isSo_33 rfl ?_
        obtain ⟨hi4, h⟩ := am_gd rfl h
        refine fe_al (pc' := 35) (j := ((3 * x2) + 1).toNatClampNeg) dX9_isSo_34 rfl n_228 s_228 hi4 rfl ?_
        refine fe_lan (pc' := 36) dX9_isSo_35 rfl rfl ?_
        refine fe_lin (pc' := 37) dX9_isSo_36 rfl rfl ?_
        refine fe_lan (pc' := 38) dX9_isSo_37 rfl rfl ?_
        refine fe_lin (pc' := 39) dX9_isSo_38 rfl rfl ?_
        obtain ⟨q5, hq6, h⟩ := am_bd h
        refine fe_iv (pc' := 42) (as := [.ref 221, .int (g.1 228 (3 * x2).toNatClampNeg)]) (h1 := (sh0, g)) (r1 := some (.int q5)) (st' := [.int q5, .int (g.1 228 (3 * x2).toNatClampNeg), .ref 221, .int (g.1 228 ((3 * x2) + 1).toNatClampNeg)]) dX9_isSo_39 rfl cl_9_109 rfl rfl s_221 ms_137 ⟨n_221, rfl, by decide, Nat.le_of_ble_eq_true rfl, Nat.le_of_ble_eq_true rfl⟩ (am_le0 _ _ _) (am_up (by decide) (ev_Mo_load hq6)) rfl ?_
        obtain ⟨q7, hq8, h⟩ := am_bd h
        refine fe_iv (pc' := 45) (as := [.ref 221, .int (g.1 228 (3 * x2).toNatClampNeg), .int q5]) (h1 := (sh0, g)) (r1 := some (.int q7)) (st' := [.int q7, .int (g.1 228 ((3 * x2) + 1).toNatClampNeg)]) dX9_isSo_42 rfl cl_9_112 rfl rfl s_221 ms_139 ⟨n_221, rfl, by decide, Nat.le_of_ble_eq_true rfl, Nat.le_of_ble_eq_true rfl⟩ (am_le0 _ _ _) (am_up (by decide) (ev_Mo_pace hq8)) rfl ?_
        obtain ⟨q9, hq10, h⟩ := am_bd h
        refine fe_is (pc' := 48) (as := [.int (g.1 228 ((3 * x2) + 1).toNatClampNeg), .int q7]) (h1 := (sh0, g)) (r1 := some (.int q9)) (st' := [.int q9]) dX9_isSo_45 rfl cl_9_125 (Or.inl rfl) rfl rfl ⟨Nat.le_of_ble_eq_true rfl, Nat.le_of_ble_eq_true rfl⟩ (am_le0 _ _ _) (am_up (by decide) (ev_Mo_takes hq10)) rfl ?_
        refine fe_lan (pc' := 49) dX9_isSo_48 rfl rfl ?_
        refine fe_gf (pc' := 52) dX9_isSo_49 rfl fl_9_29 n_221 gf_221_8 ?_
        refine fe_ic (pc' := 53) dX9_isSo_52 rfl ic_3 ?_
        refine fe_lin (pc' := 54) dX9_isSo_53 rfl rfl ?_
        refine fe_imul (pc' := 55) dX9_isSo_54 rfl ?_
        refine fe_ic (pc' := 56) dX9_isSo_55 rfl ic_2 ?_
        refine fe_iadd (pc' := 57) dX9_isSo_56 rfl ?_
        obtain ⟨hi11, h⟩ := am_gd rfl h
        refine fe_al (pc' := 58) (j := ((3 * x2) + 2).toNatClampNeg) dX9_isSo_57 rfl n_228 s_228 hi11 rfl ?_
        refine fe_ic_ne (pc' := 61) (tgt := 65) dX9_isSo_58 rfl rfl (fun hc12 => ?_) (fun hc12 => ?_)
        · replace h := (if_pos hc12).symm.trans h
          refine fe_ic (pc' := 62) dX9_isSo_61 rfl ic_1 ?_
          refine fe_go (tgt := 66) dX9_isSo_62 rfl ?_
          refine fe_pick [0, 2] rfl ?_
          cases h
          exact K
        · replace h := (if_neg hc12).symm.trans h
          refine fe_ic (pc' := 66) dX9_isSo_65 rfl ic_0 ?_
          refine fe_pick [0, 2] rfl ?_
          cases h
          exact K
set_option maxRecDepth 4000 in
theorem ev_Mo_isSo {g : am_G} {w : Bool} (h : Mo_isSo g  = some w) : am_Ev 3 174 [.ref 221] (sh0, g) (sh0, g) (some (.int (am_b w))) := by
  unfold Mo_isSo at h
  refine am_ev mX9_isSo (by rfl) (Nat.le_of_ble_eq_true rfl) [(0, .ref 221)] rfl ?_
  refine fe_ic (pc' := 1) dX9_isSo_0 rfl ic_1 ?_
  refine fe_sin (pc' := 2) (lo' := [(0, .ref 221), (1, .int 1)]) dX9_isSo_1 rfl (Nat.le_of_ble_eq_true rfl) rfl ?_
  refine fe_ic (pc' := 3) dX9_isSo_2 rfl ic_0 ?_
  refine fe_sin (pc' := 4) (lo' := [(0, .ref 221), (1, .int 1), (2, .int 0)]) dX9_isSo_3 rfl (Nat.le_of_ble_eq_true rfl) rfl ?_
  obtain ⟨q14, hq17, h⟩ := am_bd h
  refine lp_Mo_isSo_L4 _ g 1 0 q14 hq17 ?_
  refine fe_lin (pc' := 74) dX9_isSo_73 rfl rfl ?_
  obtain ⟨hz15, h⟩ := am_gd rfl h
  cases h
  exact fe_rz _ dX9_isSo_74 rfl (am_bzz hz15)
-- Mo_sacks: X9_sacks
set_option maxRecDepth 4000 in
theorem lp_Mo_sacks_L53 {hE : am_H} {r : Option Value} : ∀ (n : Nat) (g : am_G) (x1 : Int32) (x2 : Int32) (x3 : Int32) (x4 : Int32) (x5 : Int32) (x6 : Int32) (w : am_G × Int32 × Int32), Mo_sacks_L53 n g x1 x2 x3 x4 x5 x6 = some w → am_E 3 mX9_sacks (127, [(0, .ref 221), (1, .int x1), (2, .int w.2.1), (3, .int w.2.2), (4, .int x4), (5, .int x5)], [], (sh0, w.1)) hE r → am_E 3 mX9_sacks (53, [(0, .ref 221), (1, .int x1), (2, .int x2), (3, .int x3), (4, .int x4), (5, .int x5), (6, .int x6)], [], (sh0, g)) hE r := by
  intro n
  induction n with
  | zero => intro g x1 x2 x3 x4 x5 x6 q h; cases h
  | succ n ih =>
    intro g x1 x2 x3 x4 x5 x6 q h k1
    replace h : _ = _ := h
    unfold Mo_sacks_L53 at h
    refine fe_li (pc' := 55) dX9_sacks_53 rfl rfl ?_
    refine fe_if_lt (pc' := 58) (tgt := 127) dX9_sacks_55 rfl rfl (fun hc6 => ?_) (fun hc6 => ?_)
    · replace h := (if_pos hc6).symm.trans h
      refine fe_pick [0, 1, 2, 3, 4, 5] rfl ?_
      cases h
      exact k1
    · replace h := (if_neg hc6).symm.trans h
      refine fe_li (pc' := 60) dX9_sacks_58 rfl rfl ?_
      refine fe_bp (pc' := 62) dX9_sacks_60 rfl ib_9 ?_
      obtain ⟨q16, hq21, h⟩ := am_bd h
      have K : am_E 3 mX9_sacks (121, [(0, .ref 221), (1, .int x1), (2, .int q16.2.1), (3, .int q16.2.2), (4, .int x4), (5, .int x5), (6, .int x6)], [], (sh0, q16.1)) hE r := by
        refine fe_inc (pc' := 124) (lo' := [(0, .ref 221), (1, .int x1), (2, .int q16.2.1), (3, .int q16.2.2), (4, .int x4), (5, .int x5), (6, .int (x6 + (-1)))]) dX9_sacks_121 rfl ic_m1 (Nat.le_of_ble_eq_true rfl) rfl rfl ?_
        refine fe_go (tgt := 53) dX9_sacks_124 rfl ?_
        exact ih q16.1 x1 q16.2.1 q16.2.2 x4 x5 (x6 + (-1)) q h k1
      replace h := hq21
      refine fe_ic_eq (pc' := 65) (tgt := 121) dX9_sacks_62 rfl rfl (fun hc7 => ?_) (fun hc7 => ?_)
      · replace h := (if_pos hc7).symm.trans h
        cases h
        exact K
      · replace h := (if_neg hc7).symm.trans h
        refine fe_li (pc' := 67) dX9_sacks_65 rfl rfl ?_
        refine fe_li (pc' := 69) dX9_sacks_67 rfl rfl ?_
        refine fe_ic_eq (pc' := 72) (tgt := 121) dX9_sacks_69 rfl rfl (fun hc8 => ?_) (fun hc8 => ?_)
        · replace h := (if_pos hc8).symm.trans h
          cases h
          exact K
        · replace h := (if_neg hc8).symm.trans h
          refine fe_lan (pc' := 73) dX9_sacks_72 rfl rfl ?_
          refine fe_gf (pc' := 76) dX9_sacks_73 rfl fl_9_19 n_221 gf_221_5 ?_
          refine fe_bp (pc' := 78) dX9_sacks_76 rfl ib_8 ?_
          refine fe_li (pc' := 80) dX9_sacks_78 rfl rfl ?_
          refine fe_iadd (pc' := 81) dX9_sacks_80 rfl ?_
          refine fe_li (pc' := 83) dX9_sacks_81 rfl rfl ?_
          obtain ⟨hi9, h⟩ := am_gd rfl h
          refine fe_as (pc' := 84) (j := (8 + x4).toNatClampNeg) dX9_sacks_83 rfl n_225 s_225 hi9 rfl ?_
          refine fe_lan (pc' := 85) dX9_sacks_84 rfl rfl ?_
          obtain ⟨q10, hq11, h⟩ := am_bd h
          refine fe_iv (pc' := 88) (as := [.ref 221]) (h1 := (sh0, am_wr g 225 (8 + x4).toNatClampNeg x6)) (r1 := some (.int (am_b q10))) (st' := [.int (am_b q10)]) dX9_sacks_85 rfl cl_9_176 rfl rfl s_221 ms_174 ⟨n_221, rfl, by decide, Nat.le_of_ble_eq_true rfl, Nat.le_of_ble_eq_true rfl⟩ (am_le0 _ _ _) (am_up (by decide) (ev_Mo_isSo hq11)) rfl ?_
          refine fe_si (pc' := 90) (lo' := [(0, .ref 221), (1, .int x1), (2, .int x2), (3, .int x3), (4, .int x4), (5, .int x5), (6, .int x6), (7, .int (am_b q10))]) dX9_sacks_88 rfl (Nat.le_of_ble_eq_true rfl) rfl ?_
          refine fe_lin (pc' := 91) dX9_sacks_90 rfl rfl ?_
          refine fe_li (pc' := 93) dX9_sacks_91 rfl rfl ?_
          have K : am_E 3 mX9_sacks (101, [(0, .ref 221), (1, .int x1), (3, .int x3), (4, .int x4), (5, .int x5), (6, .int x6), (7, .int (am_b q10))], [.int (if q10 = true then 1 else 0 : Int32), .int x2], (sh0, am_wr g 225 (8 + x4).toNatClampNeg x6)) hE r := by
            refine fe_iadd (pc' := 102) dX9_sacks_101 rfl ?_
            refine fe_sin (pc' := 103) (lo' := [(0, .ref 221), (1, .int x1), (2, .int (x2 + (if q10 = true then 1 else 0 : Int32))), (3, .int x3), (4, .int x4), (5, .int x5), (6, .int x6), (7, .int (am_b q10))]) dX9_sacks_102 rfl (Nat.le_of_ble_eq_true rfl) rfl ?_
            refine fe_li (pc' := 105) dX9_sacks_103 rfl rfl ?_
            have K : am_E 3 mX9_sacks (120, [(0, .ref 221), (1, .int x1), (2, .int (x2 + (if q10 = true then 1 else 0 : Int32))), (4, .int x4), (5, .int x5), (6, .int x6)], [.int (if q10 = true then (10 * x4) + x6 else x3 : Int32)], (sh0, am_wr g 225 (8 + x4).toNatClampNeg x6)) hE r := by
              refine fe_sin (pc' := 121) (lo' := [(0, .ref 221), (1, .int x1), (2, .int (x2 + (if q10 = true then 1 else 0 : Int32))), (3, .int (if q10 = true then (10 * x4) + x6 else x3 : Int32)), (4, .int x4), (5, .int x5), (6, .int x6)]) dX9_sacks_120 rfl (Nat.le_of_ble_eq_true rfl) rfl ?_
              cases h
              exact K
            refine fe_bT (pc' := 108) (tgt := 119) dX9_sacks_105 rfl rfl rfl (fun hc14 => ?_) (fun hc14 => ?_)
            · refine fe_bp (pc' := 110) dX9_sacks_108 rfl ib_10 ?_
              refine fe_li (pc' := 112) dX9_sacks_110 rfl rfl ?_
              refine fe_imul (pc' := 113) dX9_sacks_112 rfl ?_
              refine fe_li (pc' := 115) dX9_sacks_113 rfl rfl ?_
              refine fe_iadd (pc' := 116) dX9_sacks_115 rfl ?_
              refine fe_go (tgt := 120) dX9_sacks_116 rfl ?_
              refine fe_pick [0, 1, 2, 4, 5, 6] rfl ?_
              simp only [if_pos hc14] at K ⊢
              exact K
            · refine fe_lin (pc' := 120) dX9_sacks_119 rfl rfl ?_
              refine fe_pick [0, 1, 2, 4, 5, 6] rfl ?_
              simp only [if_neg hc14] at K ⊢
              exact K
          refine fe_bT (pc' := 96) (tgt := 100) dX9_sacks_93 rfl rfl rfl (fun hc12 => ?_) (fun hc12 => ?_)
          · refine fe_ic (pc' := 97) dX9_sacks_96 rfl ic_1 ?_
            refine fe_go (tgt := 101) dX9_sacks_97 rfl ?_
            refine fe_pick [0, 1, 3, 4, 5, 6, 7] rfl ?_
            simp only [if_pos hc12] at K ⊢
            exact K
          · refine fe_ic (pc' := 101) dX9_sacks_100 rfl ic_0 ?_
            refine fe_pick [0, 1, 3, 4, 5, 6, 7] rfl ?_
            simp only [if_neg hc12] at K ⊢
            exact K
set_option maxRecDepth 4000 in
theorem lp_Mo_sacks_L26 {hE : am_H} {r : Option Value} : ∀ (n : Nat) (g : am_G) (x1 : Int32) (x2 : Int32) (x3 : Int32) (x4 : Int32) (w : am_G × Int32 × Int32), Mo_sacks_L26 n g x1 x2 x3 x4 = some w → am_E 3 mX9_sacks (145, [(1, .int x1), (2, .int w.2.1), (3, .int w.2.2)], [], (sh0, w.1)) hE r → am_E 3 mX9_sacks (26, [(0, .ref 221), (1, .int x1), (2, .int x2), (3, .int x3), (4, .int x4)], [], (sh0, g)) hE r := by
  intro n
  induction n with
  | zero => intro g x1 x2 x3 x4 q h; cases h
  | succ n ih =>
    intro g x1 x2 x3 x4 q h k1
    replace h : _ = _ := h
    unfold Mo_sacks_L26 at h
    refine fe_li (pc' := 28) dX9_sacks_26 rfl rfl ?_
    refine fe_if_lt (pc' := 31) (tgt := 145) dX9_sacks_28 rfl rfl (fun hc4 => ?_) (fun hc4 => ?_)
    · replace h := (if_pos hc4).symm.trans h
      refine fe_pick [1, 2, 3] rfl ?_
      cases h
      exact k1
    · replace h := (if_neg hc4).symm.trans h
      refine fe_lan (pc' := 32) dX9_sacks_31 rfl rfl ?_
      refine fe_gf (pc' := 35) dX9_sacks_32 rfl fl_9_19 n_221 gf_221_5 ?_
      refine fe_bp (pc' := 37) dX9_sacks_35 rfl ib_8 ?_
      refine fe_li (pc' := 39) dX9_sacks_37 rfl rfl ?_
      refine fe_iadd (pc' := 40) dX9_sacks_39 rfl ?_
      obtain ⟨hi5, h⟩ := am_gd rfl h
      refine fe_al (pc' := 41) (j := (8 + x4).toNatClampNeg) dX9_sacks_40 rfl n_225 s_225 hi5 rfl ?_
      refine fe_si (pc' := 43) (lo' := [(0, .ref 221), (1, .int x1), (2, .int x2), (3, .int x3), (4, .int x4), (5, .int (g.1 225 (8 + x4).toNatClampNeg))]) dX9_sacks_41 rfl (Nat.le_of_ble_eq_true rfl) rfl ?_
      refine fe_lan (pc' := 44) dX9_sacks_43 rfl rfl ?_
      refine fe_gf (pc' := 47) dX9_sacks_44 rfl fl_9_13 n_221 gf_221_3 ?_
      refine fe_ic (pc' := 48) dX9_sacks_47 rfl ic_0 ?_
      refine fe_al (pc' := 49) (j := 0) dX9_sacks_48 rfl n_223 s_223 (by decide) (by decide) ?_
      refine fe_ic (pc' := 50) dX9_sacks_49 rfl ic_1 ?_
      refine fe_isub (pc' := 51) dX9_sacks_50 rfl ?_
      refine fe_si (pc' := 53) (lo' := [(0, .ref 221), (1, .int x1), (2, .int x2), (3, .int x3), (4, .int x4), (5, .int (g.1 225 (8 + x4).toNatClampNeg)), (6, .int ((g.1 223 0) - 1))]) dX9_sacks_51 rfl (Nat.le_of_ble_eq_true rfl) rfl ?_
      obtain ⟨q17, hq22, h⟩ := am_bd h
      refine lp_Mo_sacks_L53 _ g x1 x2 x3 x4 (g.1 225 (8 + x4).toNatClampNeg) ((g.1 223 0) - 1) q17 hq22 ?_
      refine fe_lan (pc' := 128) dX9_sacks_127 rfl rfl ?_
      refine fe_gf (pc' := 131) dX9_sacks_128 rfl fl_9_19 n_221 gf_221_5 ?_
      refine fe_bp (pc' := 133) dX9_sacks_131 rfl ib_8 ?_
      refine fe_li (pc' := 135) dX9_sacks_133 rfl rfl ?_
      refine fe_iadd (pc' := 136) dX9_sacks_135 rfl ?_
      refine fe_li (pc' := 138) dX9_sacks_136 rfl rfl ?_
      obtain ⟨hi18, h⟩ := am_gd rfl h
      refine fe_as (pc' := 139) (j := (8 + x4).toNatClampNeg) dX9_sacks_138 rfl n_225 s_225 hi18 rfl ?_
      refine fe_inc (pc' := 142) (lo' := [(0, .ref 221), (1, .int x1), (2, .int q17.2.1), (3, .int q17.2.2), (4, .int (x4 + (-1))), (5, .int (g.1 225 (8 + x4).toNatClampNeg))]) dX9_sacks_139 rfl ic_m1 (Nat.le_of_ble_eq_true rfl) rfl rfl ?_
      refine fe_go (tgt := 26) dX9_sacks_142 rfl ?_
      refine fe_pick [0, 1, 2, 3, 4] rfl ?_
      exact ih (am_wr q17.1 225 (8 + x4).toNatClampNeg (g.1 225 (8 + x4).toNatClampNeg)) x1 q17.2.1 q17.2.2 (x4 + (-1)) q h k1
set_option maxRecDepth 4000 in
theorem ev_Mo_sacks {g : am_G} {x1 : Int32} {w : (am_G × Int32)} (h : Mo_sacks g x1 = some w) : am_Ev 4 175 [.ref 221, .int x1] (sh0, g) (sh0, w.1) (some (.int w.2)) := by
  unfold Mo_sacks at h
  refine am_ev mX9_sacks (by rfl) (Nat.le_of_ble_eq_true rfl) [(0, .ref 221), (1, .int x1)] rfl ?_
  refine fe_lin (pc' := 1) dX9_sacks_0 rfl rfl ?_
  refine fe_ic (pc' := 2) dX9_sacks_1 rfl ic_0 ?_
  refine fe_ic (pc' := 3) dX9_sacks_2 rfl ic_1 ?_
  obtain ⟨q1, hq2, h⟩ := am_bd h
  refine fe_is (pc' := 6) (as := [.int x1, .int 0, .int 1]) (h1 := (sh0, g)) (r1 := some (.int (am_b q1))) (st' := [.int (am_b q1)]) dX9_sacks_3 rfl cl_9_48 (Or.inl rfl) rfl rfl ⟨Nat.le_of_ble_eq_true rfl, Nat.le_of_ble_eq_true rfl⟩ (am_le0 _ _ _) (am_up (by decide) (ev_Mo_in hq2)) rfl ?_
  refine fe_bF (pc' := 9) (tgt := 11) dX9_sacks_6 rfl rfl rfl (fun hc3 => ?_) (fun hc3 => ?_)
  · replace h := (if_pos hc3).symm.trans h
    refine fe_ic (pc' := 12) dX9_sacks_11 rfl ic_0 ?_
    refine fe_sin (pc' := 13) (lo' := [(0, .ref 221), (1, .int x1), (2, .int 0)]) dX9_sacks_12 rfl (Nat.le_of_ble_eq_true rfl) rfl ?_
    refine fe_bp (pc' := 15) dX9_sacks_13 rfl ib_m9 ?_
    refine fe_sin (pc' := 16) (lo' := [(0, .ref 221), (1, .int x1), (2, .int 0), (3, .int (-9))]) dX9_sacks_15 rfl (Nat.le_of_ble_eq_true rfl) rfl ?_
    refine fe_lan (pc' := 17) dX9_sacks_16 rfl rfl ?_
    refine fe_gf (pc' := 20) dX9_sacks_17 rfl fl_9_13 n_221 gf_221_3 ?_
    refine fe_ic (pc' := 21) dX9_sacks_20 rfl ic_1 ?_
    refine fe_al (pc' := 22) (j := 1) dX9_sacks_21 rfl n_223 s_223 (by decide) (by decide) ?_
    refine fe_ic (pc' := 23) dX9_sacks_22 rfl ic_1 ?_
    refine fe_isub (pc' := 24) dX9_sacks_23 rfl ?_
    refine fe_si (pc' := 26) (lo' := [(0, .ref 221), (1, .int x1), (2, .int 0), (3, .int (-9)), (4, .int ((g.1 223 1) - 1))]) dX9_sacks_24 rfl (Nat.le_of_ble_eq_true rfl) rfl ?_
    obtain ⟨q19, hq23, h⟩ := am_bd h
    refine lp_Mo_sacks_L26 _ g x1 0 (-9) ((g.1 223 1) - 1) q19 hq23 ?_
    refine fe_lin (pc' := 146) dX9_sacks_145 rfl rfl ?_
    refine fe_if_ne (pc' := 149) (tgt := 153) dX9_sacks_146 rfl rfl (fun hc20 => ?_) (fun hc20 => ?_)
    · replace h := (if_pos hc20).symm.trans h
      refine fe_lin (pc' := 150) dX9_sacks_149 rfl rfl ?_
      refine fe_go (tgt := 154) dX9_sacks_150 rfl ?_
      cases h
      exact fe_ri dX9_sacks_154 rfl
    · replace h := (if_neg hc20).symm.trans h
      refine fe_lin (pc' := 154) dX9_sacks_153 rfl rfl ?_
      cases h
      exact fe_ri dX9_sacks_154 rfl
  · replace h := (if_neg hc3).symm.trans h
    refine fe_ic (pc' := 10) dX9_sacks_9 rfl ic_m1 ?_
    cases h
    exact fe_ri dX9_sacks_10 rfl
-- Mo_mark: X9_mark
set_option maxRecDepth 4000 in
theorem ev_Mo_mark {g : am_G} {x1 x2 : Int32} {w : (am_G × Int32)} (h : Mo_mark g x1 x2 = some w) : am_Ev 3 176 [.ref 221, .int x1, .int x2] (sh0, g) (sh0, w.1) (some (.int w.2)) := by
  unfold Mo_mark at h
  refine am_ev mX9_mark (by rfl) (Nat.le_of_ble_eq_true rfl) [(0, .ref 221), (1, .int x1), (2, .int x2)] rfl ?_
  refine fe_lin (pc' := 1) dX9_mark_0 rfl rfl ?_
  refine fe_ic (pc' := 2) dX9_mark_1 rfl ic_0 ?_
  refine fe_ic (pc' := 3) dX9_mark_2 rfl ic_5 ?_
  obtain ⟨q1, hq2, h⟩ := am_bd h
  refine fe_is (pc' := 6) (as := [.int x1, .int 0, .int 5]) (h1 := (sh0, g)) (r1 := some (.int (am_b q1))) (st' := [.int (am_b q1)]) dX9_mark_3 rfl cl_9_48 (Or.inl rfl) rfl rfl ⟨Nat.le_of_ble_eq_true rfl, Nat.le_of_ble_eq_true rfl⟩ (am_le0 _ _ _) (am_up (by decide) (ev_Mo_in hq2)) rfl ?_
  refine fe_bT (pc' := 9) (tgt := 17) dX9_mark_6 rfl rfl rfl (fun hc3 => ?_) (fun hc3 => ?_)
  · replace h := (if_pos hc3).symm.trans h
    refine fe_lan (pc' := 10) dX9_mark_9 rfl rfl ?_
    refine fe_lin (pc' := 11) dX9_mark_10 rfl rfl ?_
    obtain ⟨q4, hq5, h⟩ := am_bd h
    refine fe_iv (pc' := 14) (as := [.ref 221, .int x2]) (h1 := (sh0, g)) (r1 := some (.int (am_b q4))) (st' := [.int (am_b q4)]) dX9_mark_11 rfl cl_9_116 rfl rfl s_221 ms_121 ⟨n_221, rfl, by decide, Nat.le_of_ble_eq_true rfl, Nat.le_of_ble_eq_true rfl⟩ (am_le0 _ _ _) (am_up (by decide) (ev_Mo_isThing hq5)) rfl ?_
    refine fe_bF (pc' := 17) (tgt := 20) dX9_mark_14 rfl rfl rfl (fun hc6 => ?_) (fun hc6 => ?_)
    · replace h := (if_pos hc6).symm.trans h
      refine fe_lan (pc' := 21) dX9_mark_20 rfl rfl ?_
      refine fe_dup (pc' := 22) dX9_mark_21 rfl rfl ?_
      refine fe_gf (pc' := 25) dX9_mark_22 rfl fl_9_180 n_221 gf_221_0 ?_
      refine fe_lin (pc' := 26) dX9_mark_25 rfl rfl ?_
      have K : am_E 2 mX9_mark (80, [(0, .ref 221), (1, .int x1), (2, .int x2)], [.long (if x1 = 0 then 1 else if x1 = 1 then 11 else if x1 = 2 then 101 else if x1 = 3 then 1011 else if x1 = 4 then 10101 else 100001 : Int64), .long (g.2 221 0), .ref 221], (sh0, g)) (sh0, w.1) (some (.int w.2)) := by
        refine fe_ladd (pc' := 81) dX9_mark_80 rfl ?_
        refine fe_pl (pc' := 84) dX9_mark_81 rfl fl_9_180 n_221 s_221 rfl ⟨rfl, rfl⟩ ?_
        refine fe_lan (pc' := 85) dX9_mark_84 rfl rfl ?_
        refine fe_lin (pc' := 86) dX9_mark_85 rfl rfl ?_
        obtain ⟨q13, hq14, h⟩ := am_bd h
        refine fe_iv (pc' := 89) (as := [.ref 221, .int x2]) (h1 := (sh0, am_wL g 221 0 ((g.2 221 0) + (if x1 = 0 then 1 else if x1 = 1 then 11 else if x1 = 2 then 101 else if x1 = 3 then 1011 else if x1 = 4 then 10101 else 100001 : Int64)))) (r1 := some (.int q13)) (st' := [.int q13]) dX9_mark_86 rfl cl_9_100 rfl rfl s_221 ms_136 ⟨n_221, rfl, by decide, Nat.le_of_ble_eq_true rfl, Nat.le_of_ble_eq_true rfl⟩ (am_le0 _ _ _) (am_up (by decide) (ev_Mo_weighs hq14)) rfl ?_
        refine fe_sin (pc' := 90) (lo' := [(0, .ref 221), (1, .int x1), (2, .int x2), (3, .int q13)]) dX9_mark_89 rfl (Nat.le_of_ble_eq_true rfl) rfl ?_
        refine fe_lin (pc' := 91) dX9_mark_90 rfl rfl ?_
        refine fe_lan (pc' := 92) dX9_mark_91 rfl rfl ?_
        refine fe_gf (pc' := 95) dX9_mark_92 rfl fl_9_13 n_221 gf_221_3 ?_
        refine fe_bp (pc' := 97) dX9_mark_95 rfl ib_19 ?_
        refine fe_lin (pc' := 98) dX9_mark_97 rfl rfl ?_
        refine fe_iadd (pc' := 99) dX9_mark_98 rfl ?_
        obtain ⟨hi15, h⟩ := am_gd rfl h
        refine fe_al (pc' := 100) (j := (19 + x2).toNatClampNeg) dX9_mark_99 rfl n_223 s_223 hi15 rfl ?_
        refine fe_iadd (pc' := 101) dX9_mark_100 rfl ?_
        refine fe_si (pc' := 103) (lo' := [(0, .ref 221), (1, .int x1), (2, .int x2), (3, .int q13), (4, .int (q13 + ((am_wL g 221 0 ((g.2 221 0) + (if x1 = 0 then 1 else if x1 = 1 then 11 else if x1 = 2 then 101 else if x1 = 3 then 1011 else if x1 = 4 then 10101 else 100001 : Int64))).1 223 (19 + x2).toNatClampNeg)))]) dX9_mark_101 rfl (Nat.le_of_ble_eq_true rfl) rfl ?_
        refine fe_lin (pc' := 104) dX9_mark_103 rfl rfl ?_
        refine fe_lan (pc' := 105) dX9_mark_104 rfl rfl ?_
        refine fe_gf (pc' := 108) dX9_mark_105 rfl fl_9_13 n_221 gf_221_3 ?_
        refine fe_bp (pc' := 110) dX9_mark_108 rfl ib_12 ?_
        refine fe_lin (pc' := 111) dX9_mark_110 rfl rfl ?_
        refine fe_iadd (pc' := 112) dX9_mark_111 rfl ?_
        obtain ⟨hi16, h⟩ := am_gd rfl h
        refine fe_al (pc' := 113) (j := (12 + x2).toNatClampNeg) dX9_mark_112 rfl n_223 s_223 hi16 rfl ?_
        refine fe_isub (pc' := 114) dX9_mark_113 rfl ?_
        refine fe_si (pc' := 116) (lo' := [(0, .ref 221), (1, .int x1), (2, .int x2), (3, .int q13), (4, .int (q13 + ((am_wL g 221 0 ((g.2 221 0) + (if x1 = 0 then 1 else if x1 = 1 then 11 else if x1 = 2 then 101 else if x1 = 3 then 1011 else if x1 = 4 then 10101 else 100001 : Int64))).1 223 (19 + x2).toNatClampNeg))), (5, .int (q13 - ((am_wL g 221 0 ((g.2 221 0) + (if x1 = 0 then 1 else if x1 = 1 then 11 else if x1 = 2 then 101 else if x1 = 3 then 1011 else if x1 = 4 then 10101 else 100001 : Int64))).1 223 (12 + x2).toNatClampNeg)))]) dX9_mark_114 rfl (Nat.le_of_ble_eq_true rfl) rfl ?_
        refine fe_lin (pc' := 117) dX9_mark_116 rfl rfl ?_
        refine fe_if_ne (pc' := 120) (tgt := 124) dX9_mark_117 rfl rfl (fun hc17 => ?_) (fun hc17 => ?_)
        · replace h := (if_pos hc17).symm.trans h
          refine fe_lin (pc' := 121) dX9_mark_120 rfl rfl ?_
          refine fe_go (tgt := 181) dX9_mark_121 rfl ?_
          cases h
          exact fe_ri dX9_mark_181 rfl
        · replace h := (if_neg hc17).symm.trans h
          refine fe_lin (pc' := 125) dX9_mark_124 rfl rfl ?_
          refine fe_ic (pc' := 126) dX9_mark_125 rfl ic_1 ?_
          refine fe_ic_ne (pc' := 129) (tgt := 134) dX9_mark_126 rfl rfl (fun hc18 => ?_) (fun hc18 => ?_)
          · replace h := (if_pos hc18).symm.trans h
            refine fe_li (pc' := 131) dX9_mark_129 rfl rfl ?_
            refine fe_go (tgt := 181) dX9_mark_131 rfl ?_
            cases h
            exact fe_ri dX9_mark_181 rfl
          · replace h := (if_neg hc18).symm.trans h
            refine fe_lin (pc' := 135) dX9_mark_134 rfl rfl ?_
            refine fe_ic (pc' := 136) dX9_mark_135 rfl ic_2 ?_
            refine fe_ic_ne (pc' := 139) (tgt := 144) dX9_mark_136 rfl rfl (fun hc19 => ?_) (fun hc19 => ?_)
            · replace h := (if_pos hc19).symm.trans h
              refine fe_li (pc' := 141) dX9_mark_139 rfl rfl ?_
              refine fe_go (tgt := 181) dX9_mark_141 rfl ?_
              cases h
              exact fe_ri dX9_mark_181 rfl
            · replace h := (if_neg hc19).symm.trans h
              refine fe_lin (pc' := 145) dX9_mark_144 rfl rfl ?_
              refine fe_ic (pc' := 146) dX9_mark_145 rfl ic_3 ?_
              refine fe_ic_ne (pc' := 149) (tgt := 156) dX9_mark_146 rfl rfl (fun hc20 => ?_) (fun hc20 => ?_)
              · replace h := (if_pos hc20).symm.trans h
                refine fe_ic (pc' := 150) dX9_mark_149 rfl ic_2 ?_
                refine fe_li (pc' := 152) dX9_mark_150 rfl rfl ?_
                refine fe_imul (pc' := 153) dX9_mark_152 rfl ?_
                refine fe_go (tgt := 181) dX9_mark_153 rfl ?_
                cases h
                exact fe_ri dX9_mark_181 rfl
              · replace h := (if_neg hc20).symm.trans h
                refine fe_lin (pc' := 157) dX9_mark_156 rfl rfl ?_
                refine fe_ic (pc' := 158) dX9_mark_157 rfl ic_4 ?_
                refine fe_ic_ne (pc' := 161) (tgt := 173) dX9_mark_158 rfl rfl (fun hc21 => ?_) (fun hc21 => ?_)
                · replace h := (if_pos hc21).symm.trans h
                  refine fe_li (pc' := 163) dX9_mark_161 rfl rfl ?_
                  refine fe_lan (pc' := 164) dX9_mark_163 rfl rfl ?_
                  refine fe_gf (pc' := 167) dX9_mark_164 rfl fl_9_19 n_221 gf_221_5 ?_
                  refine fe_ic (pc' := 168) dX9_mark_167 rfl ic_0 ?_
                  refine fe_al (pc' := 169) (j := 0) dX9_mark_168 rfl n_225 s_225 (by decide) (by decide) ?_
                  refine fe_iadd (pc' := 170) dX9_mark_169 rfl ?_
                  refine fe_go (tgt := 181) dX9_mark_170 rfl ?_
                  cases h
                  exact fe_ri dX9_mark_181 rfl
                · replace h := (if_neg hc21).symm.trans h
                  refine fe_lin (pc' := 174) dX9_mark_173 rfl rfl ?_
                  refine fe_lan (pc' := 175) dX9_mark_174 rfl rfl ?_
                  refine fe_gf (pc' := 178) dX9_mark_175 rfl fl_9_19 n_221 gf_221_5 ?_
                  refine fe_ic (pc' := 179) dX9_mark_178 rfl ic_3 ?_
                  refine fe_al (pc' := 180) (j := 3) dX9_mark_179 rfl n_225 s_225 (by decide) (by decide) ?_
                  refine fe_iadd (pc' := 181) dX9_mark_180 rfl ?_
                  cases h
                  exact fe_ri dX9_mark_181 rfl
      refine fe_if_ne (pc' := 29) (tgt := 33) dX9_mark_26 rfl rfl (fun hc7 => ?_) (fun hc7 => ?_)
      · refine fe_lc (pc' := 30) (v := 1) dX9_mark_29 rfl rfl ?_
        refine fe_go (tgt := 80) dX9_mark_30 rfl ?_
        simp only [if_pos hc7] at K ⊢
        exact K
      · refine fe_lin (pc' := 34) dX9_mark_33 rfl rfl ?_
        refine fe_ic (pc' := 35) dX9_mark_34 rfl ic_1 ?_
        refine fe_ic_ne (pc' := 38) (tgt := 44) dX9_mark_35 rfl rfl (fun hc8 => ?_) (fun hc8 => ?_)
        · refine fe_ld2 (pc' := 41) dX9_mark_38 rfl kl_9_184 ?_
          refine fe_go (tgt := 80) dX9_mark_41 rfl ?_
          simp only [if_neg hc7, if_pos hc8] at K ⊢
          exact K
        · refine fe_lin (pc' := 45) dX9_mark_44 rfl rfl ?_
          refine fe_ic (pc' := 46) dX9_mark_45 rfl ic_2 ?_
          refine fe_ic_ne (pc' := 49) (tgt := 55) dX9_mark_46 rfl rfl (fun hc9 => ?_) (fun hc9 => ?_)
          · refine fe_ld2 (pc' := 52) dX9_mark_49 rfl kl_9_186 ?_
            refine fe_go (tgt := 80) dX9_mark_52 rfl ?_
            simp only [if_neg hc7, if_neg hc8, if_pos hc9] at K ⊢
            exact K
          · refine fe_lin (pc' := 56) dX9_mark_55 rfl rfl ?_
            refine fe_ic (pc' := 57) dX9_mark_56 rfl ic_3 ?_
            refine fe_ic_ne (pc' := 60) (tgt := 66) dX9_mark_57 rfl rfl (fun hc10 => ?_) (fun hc10 => ?_)
            · refine fe_ld2 (pc' := 63) dX9_mark_60 rfl kl_9_188 ?_
              refine fe_go (tgt := 80) dX9_mark_63 rfl ?_
              simp only [if_neg hc7, if_neg hc8, if_neg hc9, if_pos hc10] at K ⊢
              exact K
            · refine fe_lin (pc' := 67) dX9_mark_66 rfl rfl ?_
              refine fe_ic (pc' := 68) dX9_mark_67 rfl ic_4 ?_
              refine fe_ic_ne (pc' := 71) (tgt := 77) dX9_mark_68 rfl rfl (fun hc11 => ?_) (fun hc11 => ?_)
              · refine fe_ld2 (pc' := 74) dX9_mark_71 rfl kl_9_190 ?_
                refine fe_go (tgt := 80) dX9_mark_74 rfl ?_
                simp only [if_neg hc7, if_neg hc8, if_neg hc9, if_neg hc10, if_pos hc11] at K ⊢
                exact K
              · refine fe_ld2 (pc' := 80) dX9_mark_77 rfl kl_9_192 ?_
                simp only [if_neg hc7, if_neg hc8, if_neg hc9, if_neg hc10, if_neg hc11] at K ⊢
                exact K
    · replace h := (if_neg hc6).symm.trans h
      refine fe_ldc (pc' := 19) dX9_mark_17 rfl kc_9_179 ?_
      cases h
      exact fe_ri dX9_mark_19 rfl
  · replace h := (if_neg hc3).symm.trans h
    refine fe_ldc (pc' := 19) dX9_mark_17 rfl kc_9_179 ?_
    cases h
    exact fe_ri dX9_mark_19 rfl
-- Mo_keep: X9_keep
set_option maxRecDepth 4000 in
theorem lp_Mo_keep_L13 {hE : am_H} {r : Option Value} : ∀ (n : Nat) (g : am_G) (x1 : Int32) (x2 : Int32) (w : am_G), Mo_keep_L13 n g x1 x2 = some w → am_E 1 mX9_keep (44, [(0, .ref 221), (1, .int x1)], [], (sh0, w)) hE r → am_E 1 mX9_keep (13, [(0, .ref 221), (1, .int x1), (2, .int x2)], [], (sh0, g)) hE r := by
  intro n
  induction n with
  | zero => intro g x1 x2 q h; cases h
  | succ n ih =>
    intro g x1 x2 q h k1
    replace h : _ = _ := h
    unfold Mo_keep_L13 at h
    refine fe_lin (pc' := 14) dX9_keep_13 rfl rfl ?_
    refine fe_sp (pc' := 17) dX9_keep_14 rfl is_320 ?_
    refine fe_ic_ge (pc' := 20) (tgt := 44) dX9_keep_17 rfl rfl (fun hc4 => ?_) (fun hc4 => ?_)
    · replace h := (if_pos hc4).symm.trans h
      refine fe_pick [0, 1] rfl ?_
      cases h
      exact k1
    · replace h := (if_neg hc4).symm.trans h
      refine fe_lan (pc' := 21) dX9_keep_20 rfl rfl ?_
      refine fe_gf (pc' := 24) dX9_keep_21 rfl fl_9_22 n_221 gf_221_6 ?_
      refine fe_sp (pc' := 27) dX9_keep_24 rfl is_320 ?_
      refine fe_lin (pc' := 28) dX9_keep_27 rfl rfl ?_
      refine fe_imul (pc' := 29) dX9_keep_28 rfl ?_
      refine fe_lin (pc' := 30) dX9_keep_29 rfl rfl ?_
      refine fe_iadd (pc' := 31) dX9_keep_30 rfl ?_
      refine fe_lan (pc' := 32) dX9_keep_31 rfl rfl ?_
      refine fe_gf (pc' := 35) dX9_keep_32 rfl fl_9_19 n_221 gf_221_5 ?_
      refine fe_lin (pc' := 36) dX9_keep_35 rfl rfl ?_
      obtain ⟨hi5, h⟩ := am_gd rfl h
      refine fe_al (pc' := 37) (j := x2.toNatClampNeg) dX9_keep_36 rfl n_225 s_225 hi5 rfl ?_
      obtain ⟨hi6, h⟩ := am_gd rfl h
      refine fe_as (pc' := 38) (j := ((320 * x1) + x2).toNatClampNeg) dX9_keep_37 rfl n_226 s_226 hi6 rfl ?_
      refine fe_inc (pc' := 41) (lo' := [(0, .ref 221), (1, .int x1), (2, .int (x2 + 1))]) dX9_keep_38 rfl ic_1 (Nat.le_of_ble_eq_true rfl) rfl rfl ?_
      refine fe_go (tgt := 13) dX9_keep_41 rfl ?_
      exact ih (am_wr g 226 ((320 * x1) + x2).toNatClampNeg (g.1 225 x2.toNatClampNeg)) x1 (x2 + 1) q h k1
set_option maxRecDepth 4000 in
theorem ev_Mo_keep {g : am_G} {x1 : Int32} {w : (am_G × Int32)} (h : Mo_keep g x1 = some w) : am_Ev 2 177 [.ref 221, .int x1] (sh0, g) (sh0, w.1) (some (.int w.2)) := by
  unfold Mo_keep at h
  refine am_ev mX9_keep (by rfl) (Nat.le_of_ble_eq_true rfl) [(0, .ref 221), (1, .int x1)] rfl ?_
  refine fe_lin (pc' := 1) dX9_keep_0 rfl rfl ?_
  refine fe_ic (pc' := 2) dX9_keep_1 rfl ic_0 ?_
  refine fe_ic (pc' := 3) dX9_keep_2 rfl ic_1 ?_
  obtain ⟨q1, hq2, h⟩ := am_bd h
  refine fe_is (pc' := 6) (as := [.int x1, .int 0, .int 1]) (h1 := (sh0, g)) (r1 := some (.int (am_b q1))) (st' := [.int (am_b q1)]) dX9_keep_3 rfl cl_9_48 (Or.inl rfl) rfl rfl ⟨Nat.le_of_ble_eq_true rfl, Nat.le_of_ble_eq_true rfl⟩ (am_le0 _ _ _) (am_up (by decide) (ev_Mo_in hq2)) rfl ?_
  refine fe_bF (pc' := 9) (tgt := 11) dX9_keep_6 rfl rfl rfl (fun hc3 => ?_) (fun hc3 => ?_)
  · replace h := (if_pos hc3).symm.trans h
    refine fe_ic (pc' := 12) dX9_keep_11 rfl ic_0 ?_
    refine fe_sin (pc' := 13) (lo' := [(0, .ref 221), (1, .int x1), (2, .int 0)]) dX9_keep_12 rfl (Nat.le_of_ble_eq_true rfl) rfl ?_
    obtain ⟨q7, hq9, h⟩ := am_bd h
    refine lp_Mo_keep_L13 _ g x1 0 q7 hq9 ?_
    refine fe_lan (pc' := 45) dX9_keep_44 rfl rfl ?_
    refine fe_gf (pc' := 48) dX9_keep_45 rfl fl_9_25 n_221 gf_221_7 ?_
    refine fe_lin (pc' := 49) dX9_keep_48 rfl rfl ?_
    refine fe_ic (pc' := 50) dX9_keep_49 rfl ic_1 ?_
    obtain ⟨hi8, h⟩ := am_gd rfl h
    refine fe_bs (pc' := 51) (j := x1.toNatClampNeg) dX9_keep_50 rfl n_227 s_227 hi8 rfl (by decide) ?_
    refine fe_lan (pc' := 52) dX9_keep_51 rfl rfl ?_
    refine fe_gf (pc' := 55) dX9_keep_52 rfl fl_9_19 n_221 gf_221_5 ?_
    refine fe_ic (pc' := 56) dX9_keep_55 rfl ic_0 ?_
    refine fe_al (pc' := 57) (j := 0) dX9_keep_56 rfl n_225 s_225 (by decide) (by decide) ?_
    cases h
    exact fe_ri dX9_keep_57 rfl
  · replace h := (if_neg hc3).symm.trans h
    refine fe_ic (pc' := 10) dX9_keep_9 rfl ic_m1 ?_
    cases h
    exact fe_ri dX9_keep_10 rfl
-- Mo_back: X9_back
set_option maxRecDepth 4000 in
theorem lp_Mo_back_L25 {hE : am_H} {r : Option Value} : ∀ (n : Nat) (g : am_G) (x1 : Int32) (x2 : Int32) (w : am_G), Mo_back_L25 n g x1 x2 = some w → am_E 1 mX9_back (56, [(0, .ref 221)], [], (sh0, w)) hE r → am_E 1 mX9_back (25, [(0, .ref 221), (1, .int x1), (2, .int x2)], [], (sh0, g)) hE r := by
  intro n
  induction n with
  | zero => intro g x1 x2 q h; cases h
  | succ n ih =>
    intro g x1 x2 q h k1
    replace h : _ = _ := h
    unfold Mo_back_L25 at h
    refine fe_lin (pc' := 26) dX9_back_25 rfl rfl ?_
    refine fe_sp (pc' := 29) dX9_back_26 rfl is_320 ?_
    refine fe_ic_ge (pc' := 32) (tgt := 56) dX9_back_29 rfl rfl (fun hc6 => ?_) (fun hc6 => ?_)
    · replace h := (if_pos hc6).symm.trans h
      refine fe_pick [0] rfl ?_
      cases h
      exact k1
    · replace h := (if_neg hc6).symm.trans h
      refine fe_lan (pc' := 33) dX9_back_32 rfl rfl ?_
      refine fe_gf (pc' := 36) dX9_back_33 rfl fl_9_19 n_221 gf_221_5 ?_
      refine fe_lin (pc' := 37) dX9_back_36 rfl rfl ?_
      refine fe_lan (pc' := 38) dX9_back_37 rfl rfl ?_
      refine fe_gf (pc' := 41) dX9_back_38 rfl fl_9_22 n_221 gf_221_6 ?_
      refine fe_sp (pc' := 44) dX9_back_41 rfl is_320 ?_
      refine fe_lin (pc' := 45) dX9_back_44 rfl rfl ?_
      refine fe_imul (pc' := 46) dX9_back_45 rfl ?_
      refine fe_lin (pc' := 47) dX9_back_46 rfl rfl ?_
      refine fe_iadd (pc' := 48) dX9_back_47 rfl ?_
      obtain ⟨hi7, h⟩ := am_gd rfl h
      refine fe_al (pc' := 49) (j := ((320 * x1) + x2).toNatClampNeg) dX9_back_48 rfl n_226 s_226 hi7 rfl ?_
      obtain ⟨hi8, h⟩ := am_gd rfl h
      refine fe_as (pc' := 50) (j := x2.toNatClampNeg) dX9_back_49 rfl n_225 s_225 hi8 rfl ?_
      refine fe_inc (pc' := 53) (lo' := [(0, .ref 221), (1, .int x1), (2, .int (x2 + 1))]) dX9_back_50 rfl ic_1 (Nat.le_of_ble_eq_true rfl) rfl rfl ?_
      refine fe_go (tgt := 25) dX9_back_53 rfl ?_
      exact ih (am_wr g 225 x2.toNatClampNeg (g.1 226 ((320 * x1) + x2).toNatClampNeg)) x1 (x2 + 1) q h k1
set_option maxRecDepth 4000 in
theorem ev_Mo_back {g : am_G} {x1 : Int32} {w : (am_G × Int32)} (h : Mo_back g x1 = some w) : am_Ev 2 178 [.ref 221, .int x1] (sh0, g) (sh0, w.1) (some (.int w.2)) := by
  unfold Mo_back at h
  refine am_ev mX9_back (by rfl) (Nat.le_of_ble_eq_true rfl) [(0, .ref 221), (1, .int x1)] rfl ?_
  refine fe_lin (pc' := 1) dX9_back_0 rfl rfl ?_
  refine fe_ic (pc' := 2) dX9_back_1 rfl ic_0 ?_
  refine fe_ic (pc' := 3) dX9_back_2 rfl ic_1 ?_
  obtain ⟨q1, hq2, h⟩ := am_bd h
  refine fe_is (pc' := 6) (as := [.int x1, .int 0, .int 1]) (h1 := (sh0, g)) (r1 := some (.int (am_b q1))) (st' := [.int (am_b q1)]) dX9_back_3 rfl cl_9_48 (Or.inl rfl) rfl rfl ⟨Nat.le_of_ble_eq_true rfl, Nat.le_of_ble_eq_true rfl⟩ (am_le0 _ _ _) (am_up (by decide) (ev_Mo_in hq2)) rfl ?_
  refine fe_bF (pc' := 9) (tgt := 11) dX9_back_6 rfl rfl rfl (fun hc3 => ?_) (fun hc3 => ?_)
  · replace h := (if_pos hc3).symm.trans h
    refine fe_lan (pc' := 12) dX9_back_11 rfl rfl ?_
    refine fe_gf (pc' := 15) dX9_back_12 rfl fl_9_25 n_221 gf_221_7 ?_
    refine fe_lin (pc' := 16) dX9_back_15 rfl rfl ?_
    obtain ⟨hi4, h⟩ := am_gd rfl h
    refine fe_bl (pc' := 17) (j := x1.toNatClampNeg) dX9_back_16 rfl n_227 s_227 hi4 rfl ?_
    refine fe_if_ne (pc' := 20) (tgt := 23) dX9_back_17 rfl rfl (fun hc5 => ?_) (fun hc5 => ?_)
    · replace h := (if_pos hc5).symm.trans h
      refine fe_bp (pc' := 22) dX9_back_20 rfl ib_m2 ?_
      cases h
      exact fe_ri dX9_back_22 rfl
    · replace h := (if_neg hc5).symm.trans h
      refine fe_ic (pc' := 24) dX9_back_23 rfl ic_0 ?_
      refine fe_sin (pc' := 25) (lo' := [(0, .ref 221), (1, .int x1), (2, .int 0)]) dX9_back_24 rfl (Nat.le_of_ble_eq_true rfl) rfl ?_
      obtain ⟨q9, hq10, h⟩ := am_bd h
      refine lp_Mo_back_L25 _ g x1 0 q9 hq10 ?_
      refine fe_lan (pc' := 57) dX9_back_56 rfl rfl ?_
      refine fe_gf (pc' := 60) dX9_back_57 rfl fl_9_19 n_221 gf_221_5 ?_
      refine fe_ic (pc' := 61) dX9_back_60 rfl ic_0 ?_
      refine fe_al (pc' := 62) (j := 0) dX9_back_61 rfl n_225 s_225 (by decide) (by decide) ?_
      cases h
      exact fe_ri dX9_back_62 rfl
  · replace h := (if_neg hc3).symm.trans h
    refine fe_ic (pc' := 10) dX9_back_9 rfl ic_m1 ?_
    cases h
    exact fe_ri dX9_back_10 rfl
-- Mo_count: X9_count
set_option maxRecDepth 4000 in
theorem ev_Mo_count {g : am_G} {x1 : Int32} {w : Int32} (h : Mo_count g x1 = some w) : am_Ev 2 179 [.ref 221, .int x1] (sh0, g) (sh0, g) (some (.int w)) := by
  unfold Mo_count at h
  refine am_ev mX9_count (by rfl) (Nat.le_of_ble_eq_true rfl) [(0, .ref 221), (1, .int x1)] rfl ?_
  refine fe_lin (pc' := 1) dX9_count_0 rfl rfl ?_
  refine fe_ic (pc' := 2) dX9_count_1 rfl ic_0 ?_
  refine fe_ic (pc' := 3) dX9_count_2 rfl ic_5 ?_
  obtain ⟨q1, hq2, h⟩ := am_bd h
  refine fe_is (pc' := 6) (as := [.int x1, .int 0, .int 5]) (h1 := (sh0, g)) (r1 := some (.int (am_b q1))) (st' := [.int (am_b q1)]) dX9_count_3 rfl cl_9_48 (Or.inl rfl) rfl rfl ⟨Nat.le_of_ble_eq_true rfl, Nat.le_of_ble_eq_true rfl⟩ (am_le0 _ _ _) (am_up (by decide) (ev_Mo_in hq2)) rfl ?_
  refine fe_bF (pc' := 9) (tgt := 11) dX9_count_6 rfl rfl rfl (fun hc3 => ?_) (fun hc3 => ?_)
  · replace h := (if_pos hc3).symm.trans h
    refine fe_lin (pc' := 12) dX9_count_11 rfl rfl ?_
    refine fe_ic (pc' := 13) dX9_count_12 rfl ic_3 ?_
    refine fe_ic_ge (pc' := 16) (tgt := 25) dX9_count_13 rfl rfl (fun hc4 => ?_) (fun hc4 => ?_)
    · replace h := (if_pos hc4).symm.trans h
      refine fe_lin (pc' := 26) dX9_count_25 rfl rfl ?_
      refine fe_ic (pc' := 27) dX9_count_26 rfl ic_3 ?_
      refine fe_ic_ne (pc' := 30) (tgt := 37) dX9_count_27 rfl rfl (fun hc5 => ?_) (fun hc5 => ?_)
      · replace h := (if_pos hc5).symm.trans h
        refine fe_lan (pc' := 31) dX9_count_30 rfl rfl ?_
        refine fe_gf (pc' := 34) dX9_count_31 rfl fl_9_97 n_221 gf_221_9 ?_
        refine fe_go (tgt := 56) dX9_count_34 rfl ?_
        cases h
        exact fe_ri dX9_count_56 rfl
      · replace h := (if_neg hc5).symm.trans h
        refine fe_lin (pc' := 38) dX9_count_37 rfl rfl ?_
        refine fe_ic (pc' := 39) dX9_count_38 rfl ic_4 ?_
        refine fe_ic_ne (pc' := 42) (tgt := 52) dX9_count_39 rfl rfl (fun hc6 => ?_) (fun hc6 => ?_)
        · replace h := (if_pos hc6).symm.trans h
          refine fe_lan (pc' := 43) dX9_count_42 rfl rfl ?_
          refine fe_gf (pc' := 46) dX9_count_43 rfl fl_9_19 n_221 gf_221_5 ?_
          refine fe_bp (pc' := 48) dX9_count_46 rfl ib_29 ?_
          refine fe_al (pc' := 49) (j := 29) dX9_count_48 rfl n_225 s_225 (by decide) (by decide) ?_
          refine fe_go (tgt := 56) dX9_count_49 rfl ?_
          cases h
          exact fe_ri dX9_count_56 rfl
        · replace h := (if_neg hc6).symm.trans h
          refine fe_lan (pc' := 53) dX9_count_52 rfl rfl ?_
          refine fe_gf (pc' := 56) dX9_count_53 rfl fl_9_52 n_221 gf_221_2 ?_
          cases h
          exact fe_ri dX9_count_56 rfl
    · replace h := (if_neg hc4).symm.trans h
      refine fe_lan (pc' := 17) dX9_count_16 rfl rfl ?_
      refine fe_gf (pc' := 20) dX9_count_17 rfl fl_9_13 n_221 gf_221_3 ?_
      refine fe_lin (pc' := 21) dX9_count_20 rfl rfl ?_
      obtain ⟨hi7, h⟩ := am_gd rfl h
      refine fe_al (pc' := 22) (j := x1.toNatClampNeg) dX9_count_21 rfl n_223 s_223 hi7 rfl ?_
      refine fe_go (tgt := 56) dX9_count_22 rfl ?_
      cases h
      exact fe_ri dX9_count_56 rfl
  · replace h := (if_neg hc3).symm.trans h
    refine fe_ic (pc' := 10) dX9_count_9 rfl ic_m1 ?_
    cases h
    exact fe_ri dX9_count_10 rfl
-- Mo_trace: X9_trace
set_option maxRecDepth 4000 in
theorem ev_Mo_trace {g : am_G} {w : Int64} (h : Mo_trace g  = some w) : am_Ev 1 180 [.ref 221] (sh0, g) (sh0, g) (some (.long w)) := by
  unfold Mo_trace at h
  refine am_ev mX9_trace (by rfl) (Nat.le_of_ble_eq_true rfl) [(0, .ref 221)] rfl ?_
  refine fe_lan (pc' := 1) dX9_trace_0 rfl rfl ?_
  refine fe_gf (pc' := 4) dX9_trace_1 rfl fl_9_180 n_221 gf_221_0 ?_
  cases h
  exact fe_rl' dX9_trace_4 rfl
