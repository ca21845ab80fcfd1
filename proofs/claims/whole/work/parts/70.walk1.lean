-- Mo_byteAt: X9_byteAt
set_option maxRecDepth 4000 in
theorem ev_Mo_byteAt {g : am_G} {x1 : Int32} {w : Int32} (h : Mo_byteAt g x1 = some w) : am_Ev 1 124 [.ref 221, .int x1] (sh0, g) (sh0, g) (some (.int w)) := by
  unfold Mo_byteAt at h
  refine am_ev mX9_byteAt (by rfl) (Nat.le_of_ble_eq_true rfl) [(0, .ref 221), (1, .int x1)] rfl ?_
  refine fe_lin (pc' := 1) dX9_byteAt_0 rfl rfl ?_
  refine fe_lan (pc' := 2) dX9_byteAt_1 rfl rfl ?_
  refine fe_gf (pc' := 5) dX9_byteAt_2 rfl fl_9_52 n_221 gf_221_2 ?_
  refine fe_ic_ge (pc' := 8) (tgt := 17) dX9_byteAt_5 rfl rfl (fun hc1 => ?_) (fun hc1 => ?_)
  · replace h := (if_pos hc1).symm.trans h
    refine fe_ic (pc' := 18) dX9_byteAt_17 rfl ic_m1 ?_
    cases h
    exact fe_ri dX9_byteAt_18 rfl
  · replace h := (if_neg hc1).symm.trans h
    refine fe_lan (pc' := 9) dX9_byteAt_8 rfl rfl ?_
    refine fe_gf (pc' := 12) dX9_byteAt_9 rfl fl_9_7 n_221 gf_221_1 ?_
    refine fe_lin (pc' := 13) dX9_byteAt_12 rfl rfl ?_
    obtain ⟨hi2, h⟩ := am_gd rfl h
    refine fe_al (pc' := 14) (j := x1.toNatClampNeg) dX9_byteAt_13 rfl n_222 s_222 hi2 rfl ?_
    refine fe_go (tgt := 18) dX9_byteAt_14 rfl ?_
    cases h
    exact fe_ri dX9_byteAt_18 rfl
-- Mo_in: X9_in
set_option maxRecDepth 4000 in
theorem ev_Mo_in {g : am_G} {x0 x1 x2 : Int32} {w : Bool} (h : Mo_in g x0 x1 x2 = some w) : am_Ev 1 119 [.int x0, .int x1, .int x2] (sh0, g) (sh0, g) (some (.int (am_b w))) := by
  unfold Mo_in at h
  refine am_ev mX9_in (by rfl) (Nat.le_of_ble_eq_true rfl) [(0, .int x0), (1, .int x1), (2, .int x2)] rfl ?_
  refine fe_lin (pc' := 1) dX9_in_0 rfl rfl ?_
  refine fe_lin (pc' := 2) dX9_in_1 rfl rfl ?_
  refine fe_ic_lt (pc' := 5) (tgt := 14) dX9_in_2 rfl rfl (fun hc1 => ?_) (fun hc1 => ?_)
  · replace h := (if_pos hc1).symm.trans h
    refine fe_ic (pc' := 15) dX9_in_14 rfl ic_0 ?_
    cases h
    exact fe_rz _ dX9_in_15 rfl rfl
  · replace h := (if_neg hc1).symm.trans h
    refine fe_lin (pc' := 6) dX9_in_5 rfl rfl ?_
    refine fe_lin (pc' := 7) dX9_in_6 rfl rfl ?_
    refine fe_ic_gt (pc' := 10) (tgt := 14) dX9_in_7 rfl rfl (fun hc2 => ?_) (fun hc2 => ?_)
    · replace h := (if_pos hc2).symm.trans h
      refine fe_ic (pc' := 15) dX9_in_14 rfl ic_0 ?_
      cases h
      exact fe_rz _ dX9_in_15 rfl rfl
    · replace h := (if_neg hc2).symm.trans h
      refine fe_ic (pc' := 11) dX9_in_10 rfl ic_1 ?_
      refine fe_go (tgt := 15) dX9_in_11 rfl ?_
      cases h
      exact fe_rz _ dX9_in_15 rfl rfl
-- Mo_isLetter: X9_isLetter
set_option maxRecDepth 4000 in
theorem ev_Mo_isLetter {g : am_G} {x0 : Int32} {w : Bool} (h : Mo_isLetter g x0 = some w) : am_Ev 2 125 [.int x0] (sh0, g) (sh0, g) (some (.int (am_b w))) := by
  unfold Mo_isLetter at h
  refine am_ev mX9_isLetter (by rfl) (Nat.le_of_ble_eq_true rfl) [(0, .int x0)] rfl ?_
  refine fe_lin (pc' := 1) dX9_isLetter_0 rfl rfl ?_
  refine fe_bp (pc' := 3) dX9_isLetter_1 rfl ib_97 ?_
  refine fe_bp (pc' := 5) dX9_isLetter_3 rfl ib_122 ?_
  obtain ⟨q1, hq2, h⟩ := am_bd h
  refine fe_is (pc' := 8) (as := [.int x0, .int 97, .int 122]) (h1 := (sh0, g)) (r1 := some (.int (am_b q1))) (st' := [.int (am_b q1)]) dX9_isLetter_5 rfl cl_9_48 (Or.inl rfl) rfl rfl ⟨Nat.le_of_ble_eq_true rfl, Nat.le_of_ble_eq_true rfl⟩ (am_le0 _ _ _) (am_up (by decide) (ev_Mo_in hq2)) rfl ?_
  cases h
  exact fe_rz _ dX9_isLetter_8 rfl rfl
-- Mo_isDigit: X9_isDigit
set_option maxRecDepth 4000 in
theorem ev_Mo_isDigit {g : am_G} {x0 : Int32} {w : Bool} (h : Mo_isDigit g x0 = some w) : am_Ev 2 126 [.int x0] (sh0, g) (sh0, g) (some (.int (am_b w))) := by
  unfold Mo_isDigit at h
  refine am_ev mX9_isDigit (by rfl) (Nat.le_of_ble_eq_true rfl) [(0, .int x0)] rfl ?_
  refine fe_lin (pc' := 1) dX9_isDigit_0 rfl rfl ?_
  refine fe_bp (pc' := 3) dX9_isDigit_1 rfl ib_48 ?_
  refine fe_bp (pc' := 5) dX9_isDigit_3 rfl ib_57 ?_
  obtain ⟨q1, hq2, h⟩ := am_bd h
  refine fe_is (pc' := 8) (as := [.int x0, .int 48, .int 57]) (h1 := (sh0, g)) (r1 := some (.int (am_b q1))) (st' := [.int (am_b q1)]) dX9_isDigit_5 rfl cl_9_48 (Or.inl rfl) rfl rfl ⟨Nat.le_of_ble_eq_true rfl, Nat.le_of_ble_eq_true rfl⟩ (am_le0 _ _ _) (am_up (by decide) (ev_Mo_in hq2)) rfl ?_
  cases h
  exact fe_rz _ dX9_isDigit_8 rfl rfl
-- Mo_token: X9_token
set_option maxRecDepth 4000 in
theorem lp_Mo_token_L0 {hE : am_H} {r : Option Value} : ∀ (n : Nat) (g : am_G) (w : am_G), Mo_token_L0 n g  = some w → am_E 2 mX9_token (26, [(0, .ref 221)], [], (sh0, w)) hE r → am_E 2 mX9_token (0, [(0, .ref 221)], [], (sh0, g)) hE r := by
  intro n
  induction n with
  | zero => intro g q h; cases h
  | succ n ih =>
    intro g q h k1
    replace h : _ = _ := h
    unfold Mo_token_L0 at h
    refine fe_lan (pc' := 1) dX9_token_0 rfl rfl ?_
    refine fe_lan (pc' := 2) dX9_token_1 rfl rfl ?_
    refine fe_gf (pc' := 5) dX9_token_2 rfl fl_9_56 n_221 gf_221_10 ?_
    obtain ⟨q1, hq2, h⟩ := am_bd h
    refine fe_iv (pc' := 8) (as := [.ref 221, .int (g.1 221 10)]) (h1 := (sh0, g)) (r1 := some (.int q1)) (st' := [.int q1]) dX9_token_5 rfl cl_9_59 rfl rfl s_221 ms_124 ⟨n_221, rfl, by decide, Nat.le_of_ble_eq_true rfl, Nat.le_of_ble_eq_true rfl⟩ (am_le0 _ _ _) (am_up (by decide) (ev_Mo_byteAt hq2)) rfl ?_
    refine fe_bp (pc' := 10) dX9_token_8 rfl ib_32 ?_
    refine fe_ic_ne (pc' := 13) (tgt := 26) dX9_token_10 rfl rfl (fun hc3 => ?_) (fun hc3 => ?_)
    · replace h := (if_pos hc3).symm.trans h
      refine fe_lan (pc' := 14) dX9_token_13 rfl rfl ?_
      refine fe_dup (pc' := 15) dX9_token_14 rfl rfl ?_
      refine fe_gf (pc' := 18) dX9_token_15 rfl fl_9_56 n_221 gf_221_10 ?_
      refine fe_ic (pc' := 19) dX9_token_18 rfl ic_1 ?_
      refine fe_iadd (pc' := 20) dX9_token_19 rfl ?_
      refine fe_pi (pc' := 23) dX9_token_20 rfl fl_9_56 n_221 s_221 rfl ⟨rfl, Or.inl rfl⟩ ?_
      refine fe_go (tgt := 0) dX9_token_23 rfl ?_
      exact ih (am_wr g 221 10 ((g.1 221 10) + 1)) q h k1
    · replace h := (if_neg hc3).symm.trans h
      cases h
      exact k1
set_option maxRecDepth 4000 in
theorem lp_Mo_token_L110 {hE : am_H} {r : Option Value} : ∀ (n : Nat) (g : am_G) (x1 : Int32) (w : am_G), Mo_token_L110 n g x1 = some w → am_E 2 mX9_token (150, [(0, .ref 221), (1, .int x1)], [], (sh0, w)) hE r → am_E 2 mX9_token (110, [(0, .ref 221), (1, .int x1)], [], (sh0, g)) hE r := by
  intro n
  induction n with
  | zero => intro g x1 q h; cases h
  | succ n ih =>
    intro g x1 q h k1
    replace h : _ = _ := h
    unfold Mo_token_L110 at h
    refine fe_lan (pc' := 111) dX9_token_110 rfl rfl ?_
    refine fe_gf (pc' := 114) dX9_token_111 rfl fl_9_73 n_221 gf_221_11 ?_
    refine fe_ic (pc' := 115) dX9_token_114 rfl ic_1 ?_
    refine fe_ic_ne (pc' := 118) (tgt := 150) dX9_token_115 rfl rfl (fun hc18 => ?_) (fun hc18 => ?_)
    · replace h := (if_pos hc18).symm.trans h
      refine fe_lan (pc' := 119) dX9_token_118 rfl rfl ?_
      refine fe_lan (pc' := 120) dX9_token_119 rfl rfl ?_
      refine fe_gf (pc' := 123) dX9_token_120 rfl fl_9_56 n_221 gf_221_10 ?_
      obtain ⟨q19, hq20, h⟩ := am_bd h
      refine fe_iv (pc' := 126) (as := [.ref 221, .int (g.1 221 10)]) (h1 := (sh0, g)) (r1 := some (.int q19)) (st' := [.int q19]) dX9_token_123 rfl cl_9_59 rfl rfl s_221 ms_124 ⟨n_221, rfl, by decide, Nat.le_of_ble_eq_true rfl, Nat.le_of_ble_eq_true rfl⟩ (am_le0 _ _ _) (am_up (by decide) (ev_Mo_byteAt hq20)) rfl ?_
      obtain ⟨q21, hq22, h⟩ := am_bd h
      refine fe_is (pc' := 129) (as := [.int q19]) (h1 := (sh0, g)) (r1 := some (.int (am_b q21))) (st' := [.int (am_b q21)]) dX9_token_126 rfl cl_9_66 (Or.inl rfl) rfl rfl ⟨Nat.le_of_ble_eq_true rfl, Nat.le_of_ble_eq_true rfl⟩ (am_le0 _ _ _) (am_up (by decide) (ev_Mo_isLetter hq22)) rfl ?_
      refine fe_bT (pc' := 132) (tgt := 150) dX9_token_129 rfl rfl rfl (fun hc23 => ?_) (fun hc23 => ?_)
      · replace h := (if_pos hc23).symm.trans h
        refine fe_lan (pc' := 133) dX9_token_132 rfl rfl ?_
        refine fe_ic (pc' := 134) dX9_token_133 rfl ic_0 ?_
        refine fe_pi (pc' := 137) dX9_token_134 rfl fl_9_76 n_221 s_221 rfl ⟨rfl, Or.inl rfl⟩ ?_
        refine fe_lan (pc' := 138) dX9_token_137 rfl rfl ?_
        refine fe_dup (pc' := 139) dX9_token_138 rfl rfl ?_
        refine fe_gf (pc' := 142) dX9_token_139 rfl fl_9_56 n_221 gf_221_10 ?_
        refine fe_ic (pc' := 143) dX9_token_142 rfl ic_1 ?_
        refine fe_iadd (pc' := 144) dX9_token_143 rfl ?_
        refine fe_pi (pc' := 147) dX9_token_144 rfl fl_9_56 n_221 s_221 rfl ⟨rfl, Or.inl rfl⟩ ?_
        refine fe_go (tgt := 110) dX9_token_147 rfl ?_
        exact ih (am_wr (am_wr g 221 13 0) 221 10 (((am_wr g 221 13 0).1 221 10) + 1)) x1 q h k1
      · replace h := (if_neg hc23).symm.trans h
        cases h
        exact k1
    · replace h := (if_neg hc18).symm.trans h
      cases h
      exact k1
set_option maxRecDepth 4000 in
theorem lp_Mo_token_L166 {hE : am_H} {r : Option Value} : ∀ (n : Nat) (g : am_G) (x1 : Int32) (w : am_G), Mo_token_L166 n g x1 = some w → am_E 2 mX9_token (238, [], [], (sh0, w)) hE r → am_E 2 mX9_token (166, [(0, .ref 221), (1, .int x1)], [], (sh0, g)) hE r := by
  intro n
  induction n with
  | zero => intro g x1 q h; cases h
  | succ n ih =>
    intro g x1 q h k1
    replace h : _ = _ := h
    unfold Mo_token_L166 at h
    refine fe_lan (pc' := 167) dX9_token_166 rfl rfl ?_
    refine fe_lan (pc' := 168) dX9_token_167 rfl rfl ?_
    refine fe_gf (pc' := 171) dX9_token_168 rfl fl_9_56 n_221 gf_221_10 ?_
    obtain ⟨q26, hq27, h⟩ := am_bd h
    refine fe_iv (pc' := 174) (as := [.ref 221, .int (g.1 221 10)]) (h1 := (sh0, g)) (r1 := some (.int q26)) (st' := [.int q26]) dX9_token_171 rfl cl_9_59 rfl rfl s_221 ms_124 ⟨n_221, rfl, by decide, Nat.le_of_ble_eq_true rfl, Nat.le_of_ble_eq_true rfl⟩ (am_le0 _ _ _) (am_up (by decide) (ev_Mo_byteAt hq27)) rfl ?_
    obtain ⟨q28, hq29, h⟩ := am_bd h
    refine fe_is (pc' := 177) (as := [.int q26]) (h1 := (sh0, g)) (r1 := some (.int (am_b q28))) (st' := [.int (am_b q28)]) dX9_token_174 rfl cl_9_70 (Or.inl rfl) rfl rfl ⟨Nat.le_of_ble_eq_true rfl, Nat.le_of_ble_eq_true rfl⟩ (am_le0 _ _ _) (am_up (by decide) (ev_Mo_isDigit hq29)) rfl ?_
    refine fe_bT (pc' := 180) (tgt := 238) dX9_token_177 rfl rfl rfl (fun hc30 => ?_) (fun hc30 => ?_)
    · replace h := (if_pos hc30).symm.trans h
      refine fe_lan (pc' := 181) dX9_token_180 rfl rfl ?_
      refine fe_lin (pc' := 182) dX9_token_181 rfl rfl ?_
      refine fe_bp (pc' := 184) dX9_token_182 rfl ib_48 ?_
      obtain ⟨q34, hq36, h⟩ := am_bd h
      have K : am_E 2 mX9_token (222, [(0, .ref 221), (1, .int x1)], [.int q34, .ref 221], (sh0, g)) hE r := by
        refine fe_pi (pc' := 225) dX9_token_222 rfl fl_9_76 n_221 s_221 rfl ⟨rfl, Or.inl rfl⟩ ?_
        refine fe_lan (pc' := 226) dX9_token_225 rfl rfl ?_
        refine fe_dup (pc' := 227) dX9_token_226 rfl rfl ?_
        refine fe_gf (pc' := 230) dX9_token_227 rfl fl_9_56 n_221 gf_221_10 ?_
        refine fe_ic (pc' := 231) dX9_token_230 rfl ic_1 ?_
        refine fe_iadd (pc' := 232) dX9_token_231 rfl ?_
        refine fe_pi (pc' := 235) dX9_token_232 rfl fl_9_56 n_221 s_221 rfl ⟨rfl, Or.inl rfl⟩ ?_
        refine fe_go (tgt := 166) dX9_token_235 rfl ?_
        exact ih (am_wr (am_wr g 221 13 q34) 221 10 (((am_wr g 221 13 q34).1 221 10) + 1)) x1 q h k1
      replace h := hq36
      refine fe_ic_eq (pc' := 187) (tgt := 196) dX9_token_184 rfl rfl (fun hc31 => ?_) (fun hc31 => ?_)
      · replace h := (if_pos hc31).symm.trans h
        refine fe_sp (pc' := 199) dX9_token_196 rfl is_1000 ?_
        refine fe_go (tgt := 222) dX9_token_199 rfl ?_
        cases h
        exact K
      · replace h := (if_neg hc31).symm.trans h
        refine fe_lan (pc' := 188) dX9_token_187 rfl rfl ?_
        refine fe_gf (pc' := 191) dX9_token_188 rfl fl_9_76 n_221 gf_221_13 ?_
        refine fe_bp (pc' := 193) dX9_token_191 rfl ib_99 ?_
        refine fe_ic_le (pc' := 196) (tgt := 202) dX9_token_193 rfl rfl (fun hc32 => ?_) (fun hc32 => ?_)
        · replace h := (if_pos hc32).symm.trans h
          refine fe_bp (pc' := 204) dX9_token_202 rfl ib_10 ?_
          refine fe_lan (pc' := 205) dX9_token_204 rfl rfl ?_
          refine fe_gf (pc' := 208) dX9_token_205 rfl fl_9_76 n_221 gf_221_13 ?_
          refine fe_imul (pc' := 209) dX9_token_208 rfl ?_
          refine fe_lan (pc' := 210) dX9_token_209 rfl rfl ?_
          refine fe_gf (pc' := 213) dX9_token_210 rfl fl_9_7 n_221 gf_221_1 ?_
          refine fe_lan (pc' := 214) dX9_token_213 rfl rfl ?_
          refine fe_gf (pc' := 217) dX9_token_214 rfl fl_9_56 n_221 gf_221_10 ?_
          obtain ⟨hi33, h⟩ := am_gd rfl h
          refine fe_al (pc' := 218) (j := (g.1 221 10).toNatClampNeg) dX9_token_217 rfl n_222 s_222 hi33 rfl ?_
          refine fe_iadd (pc' := 219) dX9_token_218 rfl ?_
          refine fe_bp (pc' := 221) dX9_token_219 rfl ib_48 ?_
          refine fe_isub (pc' := 222) dX9_token_221 rfl ?_
          cases h
          exact K
        · replace h := (if_neg hc32).symm.trans h
          refine fe_sp (pc' := 199) dX9_token_196 rfl is_1000 ?_
          refine fe_go (tgt := 222) dX9_token_199 rfl ?_
          cases h
          exact K
    · replace h := (if_neg hc30).symm.trans h
      refine fe_pick [] rfl ?_
      cases h
      exact k1
set_option maxRecDepth 4000 in
theorem ev_Mo_token {g : am_G} {w : am_G} (h : Mo_token g  = some w) : am_Ev 3 127 [.ref 221] (sh0, g) (sh0, w) (none) := by
  unfold Mo_token at h
  refine am_ev mX9_token (by rfl) (Nat.le_of_ble_eq_true rfl) [(0, .ref 221)] rfl ?_
  obtain ⟨q4, hq37, h⟩ := am_bd h
  refine lp_Mo_token_L0 _ g q4 hq37 ?_
  refine fe_lan (pc' := 27) dX9_token_26 rfl rfl ?_
  refine fe_lan (pc' := 28) dX9_token_27 rfl rfl ?_
  refine fe_gf (pc' := 31) dX9_token_28 rfl fl_9_56 n_221 gf_221_10 ?_
  refine fe_pi (pc' := 34) dX9_token_31 rfl fl_9_63 n_221 s_221 rfl ⟨rfl, Or.inl rfl⟩ ?_
  refine fe_lan (pc' := 35) dX9_token_34 rfl rfl ?_
  refine fe_lan (pc' := 36) dX9_token_35 rfl rfl ?_
  refine fe_gf (pc' := 39) dX9_token_36 rfl fl_9_56 n_221 gf_221_10 ?_
  obtain ⟨q5, hq6, h⟩ := am_bd h
  refine fe_iv (pc' := 42) (as := [.ref 221, .int ((am_wr q4 221 12 (q4.1 221 10)).1 221 10)]) (h1 := (sh0, am_wr q4 221 12 (q4.1 221 10))) (r1 := some (.int q5)) (st' := [.int q5]) dX9_token_39 rfl cl_9_59 rfl rfl s_221 ms_124 ⟨n_221, rfl, by decide, Nat.le_of_ble_eq_true rfl, Nat.le_of_ble_eq_true rfl⟩ (am_le0 _ _ _) (am_up (by decide) (ev_Mo_byteAt hq6)) rfl ?_
  refine fe_sin (pc' := 43) (lo' := [(0, .ref 221), (1, .int q5)]) dX9_token_42 rfl (Nat.le_of_ble_eq_true rfl) rfl ?_
  refine fe_lan (pc' := 44) dX9_token_43 rfl rfl ?_
  refine fe_lin (pc' := 45) dX9_token_44 rfl rfl ?_
  obtain ⟨q15, hq38, h⟩ := am_bd h
  have K : am_E 2 mX9_token (85, [(0, .ref 221), (1, .int q5)], [.int q15, .ref 221], (sh0, am_wr q4 221 12 (q4.1 221 10))) (sh0, w) (none) := by
    refine fe_pi (pc' := 88) dX9_token_85 rfl fl_9_73 n_221 s_221 rfl ⟨rfl, Or.inl rfl⟩ ?_
    refine fe_lan (pc' := 89) dX9_token_88 rfl rfl ?_
    refine fe_lin (pc' := 90) dX9_token_89 rfl rfl ?_
    refine fe_pi (pc' := 93) dX9_token_90 rfl fl_9_76 n_221 s_221 rfl ⟨rfl, Or.inl rfl⟩ ?_
    refine fe_lan (pc' := 94) dX9_token_93 rfl rfl ?_
    refine fe_gf (pc' := 97) dX9_token_94 rfl fl_9_73 n_221 gf_221_11 ?_
    have K : am_E 2 mX9_token (110, [(0, .ref 221), (1, .int q5)], [], (sh0, (if ((am_wr (am_wr (am_wr q4 221 12 (q4.1 221 10)) 221 11 q15) 221 13 q5).1 221 11) = 0 then am_wr (am_wr (am_wr q4 221 12 (q4.1 221 10)) 221 11 q15) 221 13 q5 else am_wr (am_wr (am_wr (am_wr q4 221 12 (q4.1 221 10)) 221 11 q15) 221 13 q5) 221 10 (((am_wr (am_wr (am_wr q4 221 12 (q4.1 221 10)) 221 11 q15) 221 13 q5).1 221 10) + 1)))) (sh0, w) (none) := by
      obtain ⟨q24, hq39, h⟩ := am_bd h
      refine lp_Mo_token_L110 _ (if ((am_wr (am_wr (am_wr q4 221 12 (q4.1 221 10)) 221 11 q15) 221 13 q5).1 221 11) = 0 then am_wr (am_wr (am_wr q4 221 12 (q4.1 221 10)) 221 11 q15) 221 13 q5 else am_wr (am_wr (am_wr (am_wr q4 221 12 (q4.1 221 10)) 221 11 q15) 221 13 q5) 221 10 (((am_wr (am_wr (am_wr q4 221 12 (q4.1 221 10)) 221 11 q15) 221 13 q5).1 221 10) + 1)) q5 q24 hq39 ?_
      refine fe_lan (pc' := 151) dX9_token_150 rfl rfl ?_
      refine fe_gf (pc' := 154) dX9_token_151 rfl fl_9_73 n_221 gf_221_11 ?_
      refine fe_ic (pc' := 155) dX9_token_154 rfl ic_2 ?_
      refine fe_ic_ne (pc' := 158) (tgt := 238) dX9_token_155 rfl rfl (fun hc25 => ?_) (fun hc25 => ?_)
      · replace h := (if_pos hc25).symm.trans h
        refine fe_lan (pc' := 159) dX9_token_158 rfl rfl ?_
        refine fe_lin (pc' := 160) dX9_token_159 rfl rfl ?_
        refine fe_bp (pc' := 162) dX9_token_160 rfl ib_48 ?_
        refine fe_isub (pc' := 163) dX9_token_162 rfl ?_
        refine fe_pi (pc' := 166) dX9_token_163 rfl fl_9_76 n_221 s_221 rfl ⟨rfl, Or.inl rfl⟩ ?_
        obtain ⟨q35, hq40, h⟩ := am_bd h
        refine lp_Mo_token_L166 _ (am_wr q24 221 13 (q5 - 48)) q5 q35 hq40 ?_
        cases h
        exact fe_rv dX9_token_238 rfl
      · replace h := (if_neg hc25).symm.trans h
        cases h
        exact fe_rv dX9_token_238 rfl
    refine fe_if_eq (pc' := 100) (tgt := 110) dX9_token_97 rfl rfl (fun hc16 => ?_) (fun hc16 => ?_)
    · simp only [if_pos hc16] at K ⊢
      exact K
    · refine fe_lan (pc' := 101) dX9_token_100 rfl rfl ?_
      refine fe_dup (pc' := 102) dX9_token_101 rfl rfl ?_
      refine fe_gf (pc' := 105) dX9_token_102 rfl fl_9_56 n_221 gf_221_10 ?_
      refine fe_ic (pc' := 106) dX9_token_105 rfl ic_1 ?_
      refine fe_iadd (pc' := 107) dX9_token_106 rfl ?_
      refine fe_pi (pc' := 110) dX9_token_107 rfl fl_9_56 n_221 s_221 rfl ⟨rfl, Or.inl rfl⟩ ?_
      simp only [if_neg hc16] at K ⊢
      exact K
  replace h := hq38
  refine fe_if_ge (pc' := 48) (tgt := 52) dX9_token_45 rfl rfl (fun hc7 => ?_) (fun hc7 => ?_)
  · replace h := (if_pos hc7).symm.trans h
    refine fe_lin (pc' := 53) dX9_token_52 rfl rfl ?_
    obtain ⟨q8, hq9, h⟩ := am_bd h
    refine fe_is (pc' := 56) (as := [.int q5]) (h1 := (sh0, am_wr q4 221 12 (q4.1 221 10))) (r1 := some (.int (am_b q8))) (st' := [.int (am_b q8), .ref 221]) dX9_token_53 rfl cl_9_66 (Or.inl rfl) rfl rfl ⟨Nat.le_of_ble_eq_true rfl, Nat.le_of_ble_eq_true rfl⟩ (am_le0 _ _ _) (am_up (by decide) (ev_Mo_isLetter hq9)) rfl ?_
    refine fe_bT (pc' := 59) (tgt := 63) dX9_token_56 rfl rfl rfl (fun hc10 => ?_) (fun hc10 => ?_)
    · replace h := (if_pos hc10).symm.trans h
      refine fe_ic (pc' := 60) dX9_token_59 rfl ic_1 ?_
      refine fe_go (tgt := 85) dX9_token_60 rfl ?_
      cases h
      exact K
    · replace h := (if_neg hc10).symm.trans h
      refine fe_lin (pc' := 64) dX9_token_63 rfl rfl ?_
      obtain ⟨q11, hq12, h⟩ := am_bd h
      refine fe_is (pc' := 67) (as := [.int q5]) (h1 := (sh0, am_wr q4 221 12 (q4.1 221 10))) (r1 := some (.int (am_b q11))) (st' := [.int (am_b q11), .ref 221]) dX9_token_64 rfl cl_9_70 (Or.inl rfl) rfl rfl ⟨Nat.le_of_ble_eq_true rfl, Nat.le_of_ble_eq_true rfl⟩ (am_le0 _ _ _) (am_up (by decide) (ev_Mo_isDigit hq12)) rfl ?_
      refine fe_bT (pc' := 70) (tgt := 74) dX9_token_67 rfl rfl rfl (fun hc13 => ?_) (fun hc13 => ?_)
      · replace h := (if_pos hc13).symm.trans h
        refine fe_ic (pc' := 71) dX9_token_70 rfl ic_2 ?_
        refine fe_go (tgt := 85) dX9_token_71 rfl ?_
        cases h
        exact K
      · replace h := (if_neg hc13).symm.trans h
        refine fe_lin (pc' := 75) dX9_token_74 rfl rfl ?_
        refine fe_bp (pc' := 77) dX9_token_75 rfl ib_59 ?_
        refine fe_ic_ne (pc' := 80) (tgt := 84) dX9_token_77 rfl rfl (fun hc14 => ?_) (fun hc14 => ?_)
        · replace h := (if_pos hc14).symm.trans h
          refine fe_ic (pc' := 81) dX9_token_80 rfl ic_3 ?_
          refine fe_go (tgt := 85) dX9_token_81 rfl ?_
          cases h
          exact K
        · replace h := (if_neg hc14).symm.trans h
          refine fe_ic (pc' := 85) dX9_token_84 rfl ic_4 ?_
          cases h
          exact K
  · replace h := (if_neg hc7).symm.trans h
    refine fe_ic (pc' := 49) dX9_token_48 rfl ic_0 ?_
    refine fe_go (tgt := 85) dX9_token_49 rfl ?_
    cases h
    exact K
-- Mo_number: X9_number
set_option maxRecDepth 4000 in
theorem ev_Mo_number {g : am_G} {x1 x2 x3 : Int32} {w : (am_G × Bool)} (h : Mo_number g x1 x2 x3 = some w) : am_Ev 4 128 [.ref 221, .int x1, .int x2, .int x3] (sh0, g) (sh0, w.1) (some (.int (am_b w.2))) := by
  unfold Mo_number at h
  refine am_ev mX9_number (by rfl) (Nat.le_of_ble_eq_true rfl) [(0, .ref 221), (1, .int x1), (2, .int x2), (3, .int x3)] rfl ?_
  refine fe_lan (pc' := 1) dX9_number_0 rfl rfl ?_
  obtain ⟨q1, hq2, h⟩ := am_bd h
  refine fe_iv (pc' := 4) (as := [.ref 221]) (h1 := (sh0, q1)) (r1 := none) (st' := []) dX9_number_1 rfl cl_9_79 rfl rfl s_221 ms_127 ⟨n_221, rfl, by decide, Nat.le_of_ble_eq_true rfl, Nat.le_of_ble_eq_true rfl⟩ (am_le0 _ _ _) (am_up (by decide) (ev_Mo_token hq2)) rfl ?_
  refine fe_lan (pc' := 5) dX9_number_4 rfl rfl ?_
  refine fe_gf (pc' := 8) dX9_number_5 rfl fl_9_16 n_221 gf_221_4 ?_
  refine fe_lin (pc' := 9) dX9_number_8 rfl rfl ?_
  refine fe_lan (pc' := 10) dX9_number_9 rfl rfl ?_
  refine fe_gf (pc' := 13) dX9_number_10 rfl fl_9_76 n_221 gf_221_13 ?_
  obtain ⟨hi3, h⟩ := am_gd rfl h
  refine fe_as (pc' := 14) (j := x1.toNatClampNeg) dX9_number_13 rfl n_224 s_224 hi3 rfl ?_
  refine fe_lan (pc' := 15) dX9_number_14 rfl rfl ?_
  refine fe_gf (pc' := 18) dX9_number_15 rfl fl_9_73 n_221 gf_221_11 ?_
  refine fe_ic (pc' := 19) dX9_number_18 rfl ic_2 ?_
  refine fe_ic_ne (pc' := 22) (tgt := 38) dX9_number_19 rfl rfl (fun hc4 => ?_) (fun hc4 => ?_)
  · replace h := (if_pos hc4).symm.trans h
    refine fe_lan (pc' := 23) dX9_number_22 rfl rfl ?_
    refine fe_gf (pc' := 26) dX9_number_23 rfl fl_9_76 n_221 gf_221_13 ?_
    refine fe_lin (pc' := 27) dX9_number_26 rfl rfl ?_
    refine fe_lin (pc' := 28) dX9_number_27 rfl rfl ?_
    obtain ⟨q5, hq6, h⟩ := am_bd h
    refine fe_is (pc' := 31) (as := [.int ((am_wr q1 224 x1.toNatClampNeg (q1.1 221 13)).1 221 13), .int x2, .int x3]) (h1 := (sh0, am_wr q1 224 x1.toNatClampNeg (q1.1 221 13))) (r1 := some (.int (am_b q5))) (st' := [.int (am_b q5)]) dX9_number_28 rfl cl_9_48 (Or.inl rfl) rfl rfl ⟨Nat.le_of_ble_eq_true rfl, Nat.le_of_ble_eq_true rfl⟩ (am_le0 _ _ _) (am_up (by decide) (ev_Mo_in hq6)) rfl ?_
    refine fe_bT (pc' := 34) (tgt := 38) dX9_number_31 rfl rfl rfl (fun hc7 => ?_) (fun hc7 => ?_)
    · replace h := (if_pos hc7).symm.trans h
      refine fe_ic (pc' := 35) dX9_number_34 rfl ic_1 ?_
      refine fe_go (tgt := 39) dX9_number_35 rfl ?_
      cases h
      exact fe_rz _ dX9_number_39 rfl rfl
    · replace h := (if_neg hc7).symm.trans h
      refine fe_ic (pc' := 39) dX9_number_38 rfl ic_0 ?_
      cases h
      exact fe_rz _ dX9_number_39 rfl rfl
  · replace h := (if_neg hc4).symm.trans h
    refine fe_ic (pc' := 39) dX9_number_38 rfl ic_0 ?_
    cases h
    exact fe_rz _ dX9_number_39 rfl rfl
-- Mo_readsWalker: X9_readsWalker
set_option maxRecDepth 4000 in
theorem ev_Mo_readsWalker {g : am_G} {w : (am_G × Bool)} (h : Mo_readsWalker g  = some w) : am_Ev 5 129 [.ref 221] (sh0, g) (sh0, w.1) (some (.int (am_b w.2))) := by
  unfold Mo_readsWalker at h
  refine am_ev mX9_readsWalker (by rfl) (Nat.le_of_ble_eq_true rfl) [(0, .ref 221)] rfl ?_
  refine fe_lan (pc' := 1) dX9_readsWalker_0 rfl rfl ?_
  refine fe_gf (pc' := 4) dX9_readsWalker_1 rfl fl_9_16 n_221 gf_221_4 ?_
  refine fe_ic (pc' := 5) dX9_readsWalker_4 rfl ic_0 ?_
  refine fe_al (pc' := 6) (j := 0) dX9_readsWalker_5 rfl n_224 s_224 (by decide) (by decide) ?_
  refine fe_sin (pc' := 7) (lo' := [(0, .ref 221), (1, .int (g.1 224 0))]) dX9_readsWalker_6 rfl (Nat.le_of_ble_eq_true rfl) rfl ?_
  refine fe_lin (pc' := 8) dX9_readsWalker_7 rfl rfl ?_
  refine fe_ic (pc' := 9) dX9_readsWalker_8 rfl ic_4 ?_
  refine fe_ic_eq (pc' := 12) (tgt := 38) dX9_readsWalker_9 rfl rfl (fun hc1 => ?_) (fun hc1 => ?_)
  · replace h := (if_pos hc1).symm.trans h
    refine fe_ic (pc' := 39) dX9_readsWalker_38 rfl ic_0 ?_
    cases h
    exact fe_rz _ dX9_readsWalker_39 rfl rfl
  · replace h := (if_neg hc1).symm.trans h
    refine fe_lan (pc' := 13) dX9_readsWalker_12 rfl rfl ?_
    refine fe_ic (pc' := 14) dX9_readsWalker_13 rfl ic_4 ?_
    refine fe_lin (pc' := 15) dX9_readsWalker_14 rfl rfl ?_
    refine fe_iadd (pc' := 16) dX9_readsWalker_15 rfl ?_
    refine fe_ic (pc' := 17) dX9_readsWalker_16 rfl ic_1 ?_
    refine fe_bp (pc' := 19) dX9_readsWalker_17 rfl ib_40 ?_
    obtain ⟨q2, hq3, h⟩ := am_bd h
    refine fe_iv (pc' := 22) (as := [.ref 221, .int (4 + (g.1 224 0)), .int 1, .int 40]) (h1 := (sh0, q2.1)) (r1 := some (.int (am_b q2.2))) (st' := [.int (am_b q2.2)]) dX9_readsWalker_19 rfl cl_9_82 rfl rfl s_221 ms_128 ⟨n_221, rfl, by decide, Nat.le_of_ble_eq_true rfl, Nat.le_of_ble_eq_true rfl⟩ (am_le0 _ _ _) (am_up (by decide) (ev_Mo_number hq3)) rfl ?_
    refine fe_bT (pc' := 25) (tgt := 38) dX9_readsWalker_22 rfl rfl rfl (fun hc4 => ?_) (fun hc4 => ?_)
    · replace h := (if_pos hc4).symm.trans h
      refine fe_lan (pc' := 26) dX9_readsWalker_25 rfl rfl ?_
      refine fe_bp (pc' := 28) dX9_readsWalker_26 rfl ib_8 ?_
      refine fe_lin (pc' := 29) dX9_readsWalker_28 rfl rfl ?_
      refine fe_iadd (pc' := 30) dX9_readsWalker_29 rfl ?_
      refine fe_ic (pc' := 31) dX9_readsWalker_30 rfl ic_0 ?_
      refine fe_ic (pc' := 32) dX9_readsWalker_31 rfl ic_5 ?_
      obtain ⟨q5, hq6, h⟩ := am_bd h
      refine fe_iv (pc' := 35) (as := [.ref 221, .int (8 + (g.1 224 0)), .int 0, .int 5]) (h1 := (sh0, q5.1)) (r1 := some (.int (am_b q5.2))) (st' := [.int (am_b q5.2)]) dX9_readsWalker_32 rfl cl_9_82 rfl rfl s_221 ms_128 ⟨n_221, rfl, by decide, Nat.le_of_ble_eq_true rfl, Nat.le_of_ble_eq_true rfl⟩ (am_le0 _ _ _) (am_up (by decide) (ev_Mo_number hq6)) rfl ?_
      refine fe_bF (pc' := 38) (tgt := 40) dX9_readsWalker_35 rfl rfl rfl (fun hc7 => ?_) (fun hc7 => ?_)
      · replace h := (if_pos hc7).symm.trans h
        refine fe_lan (pc' := 41) dX9_readsWalker_40 rfl rfl ?_
        refine fe_gf (pc' := 44) dX9_readsWalker_41 rfl fl_9_16 n_221 gf_221_4 ?_
        refine fe_ic (pc' := 45) dX9_readsWalker_44 rfl ic_0 ?_
        refine fe_dup2 (pc' := 46) dX9_readsWalker_45 rfl ⟨rfl, rfl⟩ ?_
        refine fe_al (pc' := 47) (j := 0) dX9_readsWalker_46 rfl n_224 s_224 (by decide) (by decide) ?_
        refine fe_ic (pc' := 48) dX9_readsWalker_47 rfl ic_1 ?_
        refine fe_iadd (pc' := 49) dX9_readsWalker_48 rfl ?_
        refine fe_as (pc' := 50) (j := 0) dX9_readsWalker_49 rfl n_224 s_224 (by decide) (by decide) ?_
        refine fe_ic (pc' := 51) dX9_readsWalker_50 rfl ic_1 ?_
        cases h
        exact fe_rz _ dX9_readsWalker_51 rfl rfl
      · replace h := (if_neg hc7).symm.trans h
        refine fe_ic (pc' := 39) dX9_readsWalker_38 rfl ic_0 ?_
        cases h
        exact fe_rz _ dX9_readsWalker_39 rfl rfl
    · replace h := (if_neg hc4).symm.trans h
      refine fe_ic (pc' := 39) dX9_readsWalker_38 rfl ic_0 ?_
      cases h
      exact fe_rz _ dX9_readsWalker_39 rfl rfl
-- Mo_readsThing: X9_readsThing
set_option maxRecDepth 4000 in
theorem ev_Mo_readsThing {g : am_G} {w : (am_G × Bool)} (h : Mo_readsThing g  = some w) : am_Ev 5 130 [.ref 221] (sh0, g) (sh0, w.1) (some (.int (am_b w.2))) := by
  unfold Mo_readsThing at h
  refine am_ev mX9_readsThing (by rfl) (Nat.le_of_ble_eq_true rfl) [(0, .ref 221)] rfl ?_
  refine fe_lan (pc' := 1) dX9_readsThing_0 rfl rfl ?_
  refine fe_gf (pc' := 4) dX9_readsThing_1 rfl fl_9_16 n_221 gf_221_4 ?_
  refine fe_ic (pc' := 5) dX9_readsThing_4 rfl ic_1 ?_
  refine fe_al (pc' := 6) (j := 1) dX9_readsThing_5 rfl n_224 s_224 (by decide) (by decide) ?_
  refine fe_sin (pc' := 7) (lo' := [(0, .ref 221), (1, .int (g.1 224 1))]) dX9_readsThing_6 rfl (Nat.le_of_ble_eq_true rfl) rfl ?_
  refine fe_lin (pc' := 8) dX9_readsThing_7 rfl rfl ?_
  refine fe_bp (pc' := 10) dX9_readsThing_8 rfl ib_7 ?_
  refine fe_ic_eq (pc' := 13) (tgt := 87) dX9_readsThing_10 rfl rfl (fun hc1 => ?_) (fun hc1 => ?_)
  · replace h := (if_pos hc1).symm.trans h
    refine fe_ic (pc' := 88) dX9_readsThing_87 rfl ic_0 ?_
    cases h
    exact fe_rz _ dX9_readsThing_88 rfl rfl
  · replace h := (if_neg hc1).symm.trans h
    refine fe_lan (pc' := 14) dX9_readsThing_13 rfl rfl ?_
    refine fe_bp (pc' := 16) dX9_readsThing_14 rfl ib_12 ?_
    refine fe_lin (pc' := 17) dX9_readsThing_16 rfl rfl ?_
    refine fe_iadd (pc' := 18) dX9_readsThing_17 rfl ?_
    refine fe_ic (pc' := 19) dX9_readsThing_18 rfl ic_1 ?_
    refine fe_bp (pc' := 21) dX9_readsThing_19 rfl ib_20 ?_
    obtain ⟨q2, hq3, h⟩ := am_bd h
    refine fe_iv (pc' := 24) (as := [.ref 221, .int (12 + (g.1 224 1)), .int 1, .int 20]) (h1 := (sh0, q2.1)) (r1 := some (.int (am_b q2.2))) (st' := [.int (am_b q2.2)]) dX9_readsThing_21 rfl cl_9_82 rfl rfl s_221 ms_128 ⟨n_221, rfl, by decide, Nat.le_of_ble_eq_true rfl, Nat.le_of_ble_eq_true rfl⟩ (am_le0 _ _ _) (am_up (by decide) (ev_Mo_number hq3)) rfl ?_
    refine fe_bT (pc' := 27) (tgt := 87) dX9_readsThing_24 rfl rfl rfl (fun hc4 => ?_) (fun hc4 => ?_)
    · replace h := (if_pos hc4).symm.trans h
      refine fe_lan (pc' := 28) dX9_readsThing_27 rfl rfl ?_
      refine fe_bp (pc' := 30) dX9_readsThing_28 rfl ib_19 ?_
      refine fe_lin (pc' := 31) dX9_readsThing_30 rfl rfl ?_
      refine fe_iadd (pc' := 32) dX9_readsThing_31 rfl ?_
      refine fe_ic (pc' := 33) dX9_readsThing_32 rfl ic_0 ?_
      refine fe_bp (pc' := 35) dX9_readsThing_33 rfl ib_9 ?_
      obtain ⟨q5, hq6, h⟩ := am_bd h
      refine fe_iv (pc' := 38) (as := [.ref 221, .int (19 + (g.1 224 1)), .int 0, .int 9]) (h1 := (sh0, q5.1)) (r1 := some (.int (am_b q5.2))) (st' := [.int (am_b q5.2)]) dX9_readsThing_35 rfl cl_9_82 rfl rfl s_221 ms_128 ⟨n_221, rfl, by decide, Nat.le_of_ble_eq_true rfl, Nat.le_of_ble_eq_true rfl⟩ (am_le0 _ _ _) (am_up (by decide) (ev_Mo_number hq6)) rfl ?_
      refine fe_bT (pc' := 41) (tgt := 87) dX9_readsThing_38 rfl rfl rfl (fun hc7 => ?_) (fun hc7 => ?_)
      · replace h := (if_pos hc7).symm.trans h
        refine fe_lan (pc' := 42) dX9_readsThing_41 rfl rfl ?_
        refine fe_bp (pc' := 44) dX9_readsThing_42 rfl ib_26 ?_
        refine fe_lin (pc' := 45) dX9_readsThing_44 rfl rfl ?_
        refine fe_iadd (pc' := 46) dX9_readsThing_45 rfl ?_
        refine fe_ic (pc' := 47) dX9_readsThing_46 rfl ic_0 ?_
        refine fe_ic (pc' := 48) dX9_readsThing_47 rfl ic_1 ?_
        obtain ⟨q8, hq9, h⟩ := am_bd h
        refine fe_iv (pc' := 51) (as := [.ref 221, .int (26 + (g.1 224 1)), .int 0, .int 1]) (h1 := (sh0, q8.1)) (r1 := some (.int (am_b q8.2))) (st' := [.int (am_b q8.2)]) dX9_readsThing_48 rfl cl_9_82 rfl rfl s_221 ms_128 ⟨n_221, rfl, by decide, Nat.le_of_ble_eq_true rfl, Nat.le_of_ble_eq_true rfl⟩ (am_le0 _ _ _) (am_up (by decide) (ev_Mo_number hq9)) rfl ?_
        refine fe_bT (pc' := 54) (tgt := 87) dX9_readsThing_51 rfl rfl rfl (fun hc10 => ?_) (fun hc10 => ?_)
        · replace h := (if_pos hc10).symm.trans h
          refine fe_lan (pc' := 55) dX9_readsThing_54 rfl rfl ?_
          refine fe_bp (pc' := 57) dX9_readsThing_55 rfl ib_33 ?_
          refine fe_lin (pc' := 58) dX9_readsThing_57 rfl rfl ?_
          refine fe_iadd (pc' := 59) dX9_readsThing_58 rfl ?_
          refine fe_ic (pc' := 60) dX9_readsThing_59 rfl ic_0 ?_
          refine fe_ic (pc' := 61) dX9_readsThing_60 rfl ic_3 ?_
          obtain ⟨q11, hq12, h⟩ := am_bd h
          refine fe_iv (pc' := 64) (as := [.ref 221, .int (33 + (g.1 224 1)), .int 0, .int 3]) (h1 := (sh0, q11.1)) (r1 := some (.int (am_b q11.2))) (st' := [.int (am_b q11.2)]) dX9_readsThing_61 rfl cl_9_82 rfl rfl s_221 ms_128 ⟨n_221, rfl, by decide, Nat.le_of_ble_eq_true rfl, Nat.le_of_ble_eq_true rfl⟩ (am_le0 _ _ _) (am_up (by decide) (ev_Mo_number hq12)) rfl ?_
          refine fe_bT (pc' := 67) (tgt := 87) dX9_readsThing_64 rfl rfl rfl (fun hc13 => ?_) (fun hc13 => ?_)
          · replace h := (if_pos hc13).symm.trans h
            refine fe_lan (pc' := 68) dX9_readsThing_67 rfl rfl ?_
            refine fe_bp (pc' := 70) dX9_readsThing_68 rfl ib_40 ?_
            refine fe_lin (pc' := 71) dX9_readsThing_70 rfl rfl ?_
            refine fe_iadd (pc' := 72) dX9_readsThing_71 rfl ?_
            refine fe_ic (pc' := 73) dX9_readsThing_72 rfl ic_0 ?_
            refine fe_lan (pc' := 74) dX9_readsThing_73 rfl rfl ?_
            refine fe_gf (pc' := 77) dX9_readsThing_74 rfl fl_9_16 n_221 gf_221_4 ?_
            refine fe_ic (pc' := 78) dX9_readsThing_77 rfl ic_0 ?_
            refine fe_al (pc' := 79) (j := 0) dX9_readsThing_78 rfl n_224 s_224 (by decide) (by decide) ?_
            refine fe_ic (pc' := 80) dX9_readsThing_79 rfl ic_1 ?_
            refine fe_isub (pc' := 81) dX9_readsThing_80 rfl ?_
            obtain ⟨q14, hq15, h⟩ := am_bd h
            refine fe_iv (pc' := 84) (as := [.ref 221, .int (40 + (g.1 224 1)), .int 0, .int ((q11.1.1 224 0) - 1)]) (h1 := (sh0, q14.1)) (r1 := some (.int (am_b q14.2))) (st' := [.int (am_b q14.2)]) dX9_readsThing_81 rfl cl_9_82 rfl rfl s_221 ms_128 ⟨n_221, rfl, by decide, Nat.le_of_ble_eq_true rfl, Nat.le_of_ble_eq_true rfl⟩ (am_le0 _ _ _) (am_up (by decide) (ev_Mo_number hq15)) rfl ?_
            refine fe_bF (pc' := 87) (tgt := 89) dX9_readsThing_84 rfl rfl rfl (fun hc16 => ?_) (fun hc16 => ?_)
            · replace h := (if_pos hc16).symm.trans h
              refine fe_lan (pc' := 90) dX9_readsThing_89 rfl rfl ?_
              refine fe_gf (pc' := 93) dX9_readsThing_90 rfl fl_9_16 n_221 gf_221_4 ?_
              refine fe_ic (pc' := 94) dX9_readsThing_93 rfl ic_1 ?_
              refine fe_dup2 (pc' := 95) dX9_readsThing_94 rfl ⟨rfl, rfl⟩ ?_
              refine fe_al (pc' := 96) (j := 1) dX9_readsThing_95 rfl n_224 s_224 (by decide) (by decide) ?_
              refine fe_ic (pc' := 97) dX9_readsThing_96 rfl ic_1 ?_
              refine fe_iadd (pc' := 98) dX9_readsThing_97 rfl ?_
              refine fe_as (pc' := 99) (j := 1) dX9_readsThing_98 rfl n_224 s_224 (by decide) (by decide) ?_
              refine fe_ic (pc' := 100) dX9_readsThing_99 rfl ic_1 ?_
              cases h
              exact fe_rz _ dX9_readsThing_100 rfl rfl
            · replace h := (if_neg hc16).symm.trans h
              refine fe_ic (pc' := 88) dX9_readsThing_87 rfl ic_0 ?_
              cases h
              exact fe_rz _ dX9_readsThing_88 rfl rfl
          · replace h := (if_neg hc13).symm.trans h
            refine fe_ic (pc' := 88) dX9_readsThing_87 rfl ic_0 ?_
            cases h
            exact fe_rz _ dX9_readsThing_88 rfl rfl
        · replace h := (if_neg hc10).symm.trans h
          refine fe_ic (pc' := 88) dX9_readsThing_87 rfl ic_0 ?_
          cases h
          exact fe_rz _ dX9_readsThing_88 rfl rfl
      · replace h := (if_neg hc7).symm.trans h
        refine fe_ic (pc' := 88) dX9_readsThing_87 rfl ic_0 ?_
        cases h
        exact fe_rz _ dX9_readsThing_88 rfl rfl
    · replace h := (if_neg hc4).symm.trans h
      refine fe_ic (pc' := 88) dX9_readsThing_87 rfl ic_0 ?_
      cases h
      exact fe_rz _ dX9_readsThing_88 rfl rfl
-- Mo_readsStage: X9_readsStage
set_option maxRecDepth 4000 in
theorem ev_Mo_readsStage {g : am_G} {w : (am_G × Bool)} (h : Mo_readsStage g  = some w) : am_Ev 5 131 [.ref 221] (sh0, g) (sh0, w.1) (some (.int (am_b w.2))) := by
  unfold Mo_readsStage at h
  refine am_ev mX9_readsStage (by rfl) (Nat.le_of_ble_eq_true rfl) [(0, .ref 221)] rfl ?_
  refine fe_lan (pc' := 1) dX9_readsStage_0 rfl rfl ?_
  refine fe_gf (pc' := 4) dX9_readsStage_1 rfl fl_9_16 n_221 gf_221_4 ?_
  refine fe_ic (pc' := 5) dX9_readsStage_4 rfl ic_2 ?_
  refine fe_al (pc' := 6) (j := 2) dX9_readsStage_5 rfl n_224 s_224 (by decide) (by decide) ?_
  refine fe_sin (pc' := 7) (lo' := [(0, .ref 221), (1, .int (g.1 224 2))]) dX9_readsStage_6 rfl (Nat.le_of_ble_eq_true rfl) rfl ?_
  refine fe_lin (pc' := 8) dX9_readsStage_7 rfl rfl ?_
  refine fe_bp (pc' := 10) dX9_readsStage_8 rfl ib_8 ?_
  refine fe_ic_eq (pc' := 13) (tgt := 53) dX9_readsStage_10 rfl rfl (fun hc1 => ?_) (fun hc1 => ?_)
  · replace h := (if_pos hc1).symm.trans h
    refine fe_ic (pc' := 54) dX9_readsStage_53 rfl ic_0 ?_
    cases h
    exact fe_rz _ dX9_readsStage_54 rfl rfl
  · replace h := (if_neg hc1).symm.trans h
    refine fe_lan (pc' := 14) dX9_readsStage_13 rfl rfl ?_
    refine fe_bp (pc' := 16) dX9_readsStage_14 rfl ib_47 ?_
    refine fe_lin (pc' := 17) dX9_readsStage_16 rfl rfl ?_
    refine fe_iadd (pc' := 18) dX9_readsStage_17 rfl ?_
    refine fe_ic (pc' := 19) dX9_readsStage_18 rfl ic_1 ?_
    refine fe_bp (pc' := 21) dX9_readsStage_19 rfl ib_20 ?_
    obtain ⟨q2, hq3, h⟩ := am_bd h
    refine fe_iv (pc' := 24) (as := [.ref 221, .int (47 + (g.1 224 2)), .int 1, .int 20]) (h1 := (sh0, q2.1)) (r1 := some (.int (am_b q2.2))) (st' := [.int (am_b q2.2)]) dX9_readsStage_21 rfl cl_9_82 rfl rfl s_221 ms_128 ⟨n_221, rfl, by decide, Nat.le_of_ble_eq_true rfl, Nat.le_of_ble_eq_true rfl⟩ (am_le0 _ _ _) (am_up (by decide) (ev_Mo_number hq3)) rfl ?_
    refine fe_bT (pc' := 27) (tgt := 53) dX9_readsStage_24 rfl rfl rfl (fun hc4 => ?_) (fun hc4 => ?_)
    · replace h := (if_pos hc4).symm.trans h
      refine fe_lan (pc' := 28) dX9_readsStage_27 rfl rfl ?_
      refine fe_bp (pc' := 30) dX9_readsStage_28 rfl ib_55 ?_
      refine fe_lin (pc' := 31) dX9_readsStage_30 rfl rfl ?_
      refine fe_iadd (pc' := 32) dX9_readsStage_31 rfl ?_
      refine fe_ic (pc' := 33) dX9_readsStage_32 rfl ic_0 ?_
      refine fe_ic (pc' := 34) dX9_readsStage_33 rfl ic_1 ?_
      obtain ⟨q5, hq6, h⟩ := am_bd h
      refine fe_iv (pc' := 37) (as := [.ref 221, .int (55 + (g.1 224 2)), .int 0, .int 1]) (h1 := (sh0, q5.1)) (r1 := some (.int (am_b q5.2))) (st' := [.int (am_b q5.2)]) dX9_readsStage_34 rfl cl_9_82 rfl rfl s_221 ms_128 ⟨n_221, rfl, by decide, Nat.le_of_ble_eq_true rfl, Nat.le_of_ble_eq_true rfl⟩ (am_le0 _ _ _) (am_up (by decide) (ev_Mo_number hq6)) rfl ?_
      refine fe_bT (pc' := 40) (tgt := 53) dX9_readsStage_37 rfl rfl rfl (fun hc7 => ?_) (fun hc7 => ?_)
      · replace h := (if_pos hc7).symm.trans h
        refine fe_lan (pc' := 41) dX9_readsStage_40 rfl rfl ?_
        refine fe_bp (pc' := 43) dX9_readsStage_41 rfl ib_63 ?_
        refine fe_lin (pc' := 44) dX9_readsStage_43 rfl rfl ?_
        refine fe_iadd (pc' := 45) dX9_readsStage_44 rfl ?_
        refine fe_ic (pc' := 46) dX9_readsStage_45 rfl ic_0 ?_
        refine fe_ic (pc' := 47) dX9_readsStage_46 rfl ic_1 ?_
        obtain ⟨q8, hq9, h⟩ := am_bd h
        refine fe_iv (pc' := 50) (as := [.ref 221, .int (63 + (g.1 224 2)), .int 0, .int 1]) (h1 := (sh0, q8.1)) (r1 := some (.int (am_b q8.2))) (st' := [.int (am_b q8.2)]) dX9_readsStage_47 rfl cl_9_82 rfl rfl s_221 ms_128 ⟨n_221, rfl, by decide, Nat.le_of_ble_eq_true rfl, Nat.le_of_ble_eq_true rfl⟩ (am_le0 _ _ _) (am_up (by decide) (ev_Mo_number hq9)) rfl ?_
        refine fe_bF (pc' := 53) (tgt := 55) dX9_readsStage_50 rfl rfl rfl (fun hc10 => ?_) (fun hc10 => ?_)
        · replace h := (if_pos hc10).symm.trans h
          refine fe_lan (pc' := 56) dX9_readsStage_55 rfl rfl ?_
          refine fe_gf (pc' := 59) dX9_readsStage_56 rfl fl_9_16 n_221 gf_221_4 ?_
          refine fe_ic (pc' := 60) dX9_readsStage_59 rfl ic_2 ?_
          refine fe_dup2 (pc' := 61) dX9_readsStage_60 rfl ⟨rfl, rfl⟩ ?_
          refine fe_al (pc' := 62) (j := 2) dX9_readsStage_61 rfl n_224 s_224 (by decide) (by decide) ?_
          refine fe_ic (pc' := 63) dX9_readsStage_62 rfl ic_1 ?_
          refine fe_iadd (pc' := 64) dX9_readsStage_63 rfl ?_
          refine fe_as (pc' := 65) (j := 2) dX9_readsStage_64 rfl n_224 s_224 (by decide) (by decide) ?_
          refine fe_ic (pc' := 66) dX9_readsStage_65 rfl ic_1 ?_
          cases h
          exact fe_rz _ dX9_readsStage_66 rfl rfl
        · replace h := (if_neg hc10).symm.trans h
          refine fe_ic (pc' := 54) dX9_readsStage_53 rfl ic_0 ?_
          cases h
          exact fe_rz _ dX9_readsStage_54 rfl rfl
      · replace h := (if_neg hc7).symm.trans h
        refine fe_ic (pc' := 54) dX9_readsStage_53 rfl ic_0 ?_
        cases h
        exact fe_rz _ dX9_readsStage_54 rfl rfl
    · replace h := (if_neg hc4).symm.trans h
      refine fe_ic (pc' := 54) dX9_readsStage_53 rfl ic_0 ?_
      cases h
      exact fe_rz _ dX9_readsStage_54 rfl rfl
-- Mo_readsItem: X9_readsItem
set_option maxRecDepth 4000 in
theorem ev_Mo_readsItem {g : am_G} {w : (am_G × Bool)} (h : Mo_readsItem g  = some w) : am_Ev 6 132 [.ref 221] (sh0, g) (sh0, w.1) (some (.int (am_b w.2))) := by
  unfold Mo_readsItem at h
  refine am_ev mX9_readsItem (by rfl) (Nat.le_of_ble_eq_true rfl) [(0, .ref 221)] rfl ?_
  refine fe_lan (pc' := 1) dX9_readsItem_0 rfl rfl ?_
  refine fe_gf (pc' := 4) dX9_readsItem_1 rfl fl_9_73 n_221 gf_221_11 ?_
  refine fe_ic (pc' := 5) dX9_readsItem_4 rfl ic_1 ?_
  have K : am_E 5 mX9_readsItem (16, [(0, .ref 221)], [.int (if (g.1 221 11) = 1 then g.1 221 13 else 0 : Int32)], (sh0, g)) (sh0, w.1) (some (.int (am_b w.2))) := by
    refine fe_sin (pc' := 17) (lo' := [(0, .ref 221), (1, .int (if (g.1 221 11) = 1 then g.1 221 13 else 0 : Int32))]) dX9_readsItem_16 rfl (Nat.le_of_ble_eq_true rfl) rfl ?_
    refine fe_lin (pc' := 18) dX9_readsItem_17 rfl rfl ?_
    refine fe_bp (pc' := 20) dX9_readsItem_18 rfl ib_119 ?_
    refine fe_ic_ne (pc' := 23) (tgt := 30) dX9_readsItem_20 rfl rfl (fun hc3 => ?_) (fun hc3 => ?_)
    · replace h := (if_pos hc3).symm.trans h
      refine fe_lan (pc' := 24) dX9_readsItem_23 rfl rfl ?_
      obtain ⟨q4, hq5, h⟩ := am_bd h
      refine fe_iv (pc' := 27) (as := [.ref 221]) (h1 := (sh0, q4.1)) (r1 := some (.int (am_b q4.2))) (st' := [.int (am_b q4.2)]) dX9_readsItem_24 rfl cl_9_85 rfl rfl s_221 ms_129 ⟨n_221, rfl, by decide, Nat.le_of_ble_eq_true rfl, Nat.le_of_ble_eq_true rfl⟩ (am_le0 _ _ _) (am_up (by decide) (ev_Mo_readsWalker hq5)) rfl ?_
      refine fe_go (tgt := 61) dX9_readsItem_27 rfl ?_
      cases h
      exact fe_rz _ dX9_readsItem_61 rfl rfl
    · replace h := (if_neg hc3).symm.trans h
      refine fe_lin (pc' := 31) dX9_readsItem_30 rfl rfl ?_
      refine fe_bp (pc' := 33) dX9_readsItem_31 rfl ib_116 ?_
      refine fe_ic_ne (pc' := 36) (tgt := 43) dX9_readsItem_33 rfl rfl (fun hc6 => ?_) (fun hc6 => ?_)
      · replace h := (if_pos hc6).symm.trans h
        refine fe_lan (pc' := 37) dX9_readsItem_36 rfl rfl ?_
        obtain ⟨q7, hq8, h⟩ := am_bd h
        refine fe_iv (pc' := 40) (as := [.ref 221]) (h1 := (sh0, q7.1)) (r1 := some (.int (am_b q7.2))) (st' := [.int (am_b q7.2)]) dX9_readsItem_37 rfl cl_9_88 rfl rfl s_221 ms_130 ⟨n_221, rfl, by decide, Nat.le_of_ble_eq_true rfl, Nat.le_of_ble_eq_true rfl⟩ (am_le0 _ _ _) (am_up (by decide) (ev_Mo_readsThing hq8)) rfl ?_
        refine fe_go (tgt := 61) dX9_readsItem_40 rfl ?_
        cases h
        exact fe_rz _ dX9_readsItem_61 rfl rfl
      · replace h := (if_neg hc6).symm.trans h
        refine fe_lin (pc' := 44) dX9_readsItem_43 rfl rfl ?_
        refine fe_bp (pc' := 46) dX9_readsItem_44 rfl ib_115 ?_
        refine fe_ic_ne (pc' := 49) (tgt := 60) dX9_readsItem_46 rfl rfl (fun hc9 => ?_) (fun hc9 => ?_)
        · replace h := (if_pos hc9).symm.trans h
          refine fe_lan (pc' := 50) dX9_readsItem_49 rfl rfl ?_
          obtain ⟨q10, hq11, h⟩ := am_bd h
          refine fe_iv (pc' := 53) (as := [.ref 221]) (h1 := (sh0, q10.1)) (r1 := some (.int (am_b q10.2))) (st' := [.int (am_b q10.2)]) dX9_readsItem_50 rfl cl_9_91 rfl rfl s_221 ms_131 ⟨n_221, rfl, by decide, Nat.le_of_ble_eq_true rfl, Nat.le_of_ble_eq_true rfl⟩ (am_le0 _ _ _) (am_up (by decide) (ev_Mo_readsStage hq11)) rfl ?_
          refine fe_bT (pc' := 56) (tgt := 60) dX9_readsItem_53 rfl rfl rfl (fun hc12 => ?_) (fun hc12 => ?_)
          · replace h := (if_pos hc12).symm.trans h
            refine fe_ic (pc' := 57) dX9_readsItem_56 rfl ic_1 ?_
            refine fe_go (tgt := 61) dX9_readsItem_57 rfl ?_
            cases h
            exact fe_rz _ dX9_readsItem_61 rfl rfl
          · replace h := (if_neg hc12).symm.trans h
            refine fe_ic (pc' := 61) dX9_readsItem_60 rfl ic_0 ?_
            cases h
            exact fe_rz _ dX9_readsItem_61 rfl rfl
        · replace h := (if_neg hc9).symm.trans h
          refine fe_ic (pc' := 61) dX9_readsItem_60 rfl ic_0 ?_
          cases h
          exact fe_rz _ dX9_readsItem_61 rfl rfl
  refine fe_ic_ne (pc' := 8) (tgt := 15) dX9_readsItem_5 rfl rfl (fun hc1 => ?_) (fun hc1 => ?_)
  · refine fe_lan (pc' := 9) dX9_readsItem_8 rfl rfl ?_
    refine fe_gf (pc' := 12) dX9_readsItem_9 rfl fl_9_76 n_221 gf_221_13 ?_
    refine fe_go (tgt := 16) dX9_readsItem_12 rfl ?_
    simp only [if_pos hc1] at K ⊢
    exact K
  · refine fe_ic (pc' := 16) dX9_readsItem_15 rfl ic_0 ?_
    simp only [if_neg hc1] at K ⊢
    exact K
-- Mo_reads: X9_reads
set_option maxRecDepth 4000 in
theorem lp_Mo_reads_L2 {hE : am_H} {r : Option Value} : ∀ (n : Nat) (g : am_G) (x1 : Int32) (w : am_G), Mo_reads_L2 n g x1 = some w → am_E 6 mX9_reads (21, [(0, .ref 221)], [], (sh0, w)) hE r → am_E 6 mX9_reads (2, [(0, .ref 221), (1, .int x1)], [], (sh0, g)) hE r := by
  intro n
  induction n with
  | zero => intro g x1 q h; cases h
  | succ n ih =>
    intro g x1 q h k1
    replace h : _ = _ := h
    unfold Mo_reads_L2 at h
    refine fe_lin (pc' := 3) dX9_reads_2 rfl rfl ?_
    refine fe_bp (pc' := 5) dX9_reads_3 rfl ib_71 ?_
    refine fe_ic_ge (pc' := 8) (tgt := 21) dX9_reads_5 rfl rfl (fun hc1 => ?_) (fun hc1 => ?_)
    · replace h := (if_pos hc1).symm.trans h
      refine fe_pick [0] rfl ?_
      cases h
      exact k1
    · replace h := (if_neg hc1).symm.trans h
      refine fe_lan (pc' := 9) dX9_reads_8 rfl rfl ?_
      refine fe_gf (pc' := 12) dX9_reads_9 rfl fl_9_16 n_221 gf_221_4 ?_
      refine fe_lin (pc' := 13) dX9_reads_12 rfl rfl ?_
      refine fe_ic (pc' := 14) dX9_reads_13 rfl ic_0 ?_
      obtain ⟨hi2, h⟩ := am_gd rfl h
      refine fe_as (pc' := 15) (j := x1.toNatClampNeg) dX9_reads_14 rfl n_224 s_224 hi2 rfl ?_
      refine fe_inc (pc' := 18) (lo' := [(0, .ref 221), (1, .int (x1 + 1))]) dX9_reads_15 rfl ic_1 (Nat.le_of_ble_eq_true rfl) rfl rfl ?_
      refine fe_go (tgt := 2) dX9_reads_18 rfl ?_
      exact ih (am_wr g 224 x1.toNatClampNeg 0) (x1 + 1) q h k1
set_option maxRecDepth 4000 in
theorem lp_Mo_reads_L30 {hE : am_H} {r : Option Value} : ∀ (n : Nat) (g : am_G) (q : ((am_G) ⊕ (am_G × Bool))), Mo_reads_L30 n g  = some q → (∀ w, q = .inl w → am_E 6 mX9_reads (77, [], [], (sh0, w)) hE r) → (∀ w, q = .inr w → hE = (sh0, w.1) ∧ r = some (.int (am_b w.2))) → am_E 6 mX9_reads (30, [(0, .ref 221)], [], (sh0, g)) hE r := by
  intro n
  induction n with
  | zero => intro g q h; cases h
  | succ n ih =>
    intro g q h k1 kr
    replace h : _ = _ := h
    unfold Mo_reads_L30 at h
    refine fe_lan (pc' := 31) dX9_reads_30 rfl rfl ?_
    refine fe_gf (pc' := 34) dX9_reads_31 rfl fl_9_73 n_221 gf_221_11 ?_
    refine fe_if_eq (pc' := 37) (tgt := 77) dX9_reads_34 rfl rfl (fun hc6 => ?_) (fun hc6 => ?_)
    · replace h := (if_pos hc6).symm.trans h
      refine fe_pick [] rfl ?_
      cases h
      exact k1 _ rfl
    · replace h := (if_neg hc6).symm.trans h
      refine fe_lan (pc' := 38) dX9_reads_37 rfl rfl ?_
      obtain ⟨q7, hq8, h⟩ := am_bd h
      refine fe_iv (pc' := 41) (as := [.ref 221]) (h1 := (sh0, q7.1)) (r1 := some (.int (am_b q7.2))) (st' := [.int (am_b q7.2)]) dX9_reads_38 rfl cl_9_94 rfl rfl s_221 ms_132 ⟨n_221, rfl, by decide, Nat.le_of_ble_eq_true rfl, Nat.le_of_ble_eq_true rfl⟩ (am_le0 _ _ _) (am_up (by decide) (ev_Mo_readsItem hq8)) rfl ?_
      refine fe_bF (pc' := 44) (tgt := 46) dX9_reads_41 rfl rfl rfl (fun hc9 => ?_) (fun hc9 => ?_)
      · replace h := (if_pos hc9).symm.trans h
        refine fe_lan (pc' := 47) dX9_reads_46 rfl rfl ?_
        obtain ⟨q10, hq11, h⟩ := am_bd h
        refine fe_iv (pc' := 50) (as := [.ref 221]) (h1 := (sh0, q10)) (r1 := none) (st' := []) dX9_reads_47 rfl cl_9_79 rfl rfl s_221 ms_127 ⟨n_221, rfl, by decide, Nat.le_of_ble_eq_true rfl, Nat.le_of_ble_eq_true rfl⟩ (am_le0 _ _ _) (am_up (by decide) (ev_Mo_token hq11)) rfl ?_
        refine fe_lan (pc' := 51) dX9_reads_50 rfl rfl ?_
        refine fe_gf (pc' := 54) dX9_reads_51 rfl fl_9_73 n_221 gf_221_11 ?_
        refine fe_ic (pc' := 55) dX9_reads_54 rfl ic_3 ?_
        refine fe_ic_eq (pc' := 58) (tgt := 60) dX9_reads_55 rfl rfl (fun hc12 => ?_) (fun hc12 => ?_)
        · replace h := (if_pos hc12).symm.trans h
          refine fe_lan (pc' := 61) dX9_reads_60 rfl rfl ?_
          refine fe_gf (pc' := 64) dX9_reads_61 rfl fl_9_16 n_221 gf_221_4 ?_
          refine fe_ic (pc' := 65) dX9_reads_64 rfl ic_3 ?_
          refine fe_dup2 (pc' := 66) dX9_reads_65 rfl ⟨rfl, rfl⟩ ?_
          refine fe_al (pc' := 67) (j := 3) dX9_reads_66 rfl n_224 s_224 (by decide) (by decide) ?_
          refine fe_ic (pc' := 68) dX9_reads_67 rfl ic_1 ?_
          refine fe_iadd (pc' := 69) dX9_reads_68 rfl ?_
          refine fe_as (pc' := 70) (j := 3) dX9_reads_69 rfl n_224 s_224 (by decide) (by decide) ?_
          refine fe_lan (pc' := 71) dX9_reads_70 rfl rfl ?_
          obtain ⟨q13, hq14, h⟩ := am_bd h
          refine fe_iv (pc' := 74) (as := [.ref 221]) (h1 := (sh0, q13)) (r1 := none) (st' := []) dX9_reads_71 rfl cl_9_79 rfl rfl s_221 ms_127 ⟨n_221, rfl, by decide, Nat.le_of_ble_eq_true rfl, Nat.le_of_ble_eq_true rfl⟩ (am_le0 _ _ _) (am_up (by decide) (ev_Mo_token hq14)) rfl ?_
          refine fe_go (tgt := 30) dX9_reads_74 rfl ?_
          exact ih q13 q h k1 kr
        · replace h := (if_neg hc12).symm.trans h
          refine fe_ic (pc' := 59) dX9_reads_58 rfl ic_0 ?_
          cases h
          obtain ⟨e1, e2⟩ := kr _ rfl
          subst e1; subst e2
          exact fe_rz _ dX9_reads_59 rfl rfl
      · replace h := (if_neg hc9).symm.trans h
        refine fe_ic (pc' := 45) dX9_reads_44 rfl ic_0 ?_
        cases h
        obtain ⟨e1, e2⟩ := kr _ rfl
        subst e1; subst e2
        exact fe_rz _ dX9_reads_45 rfl rfl
set_option maxRecDepth 4000 in
theorem ev_Mo_reads {g : am_G} {w : (am_G × Bool)} (h : Mo_reads g  = some w) : am_Ev 7 133 [.ref 221] (sh0, g) (sh0, w.1) (some (.int (am_b w.2))) := by
  unfold Mo_reads at h
  refine am_ev mX9_reads (by rfl) (Nat.le_of_ble_eq_true rfl) [(0, .ref 221)] rfl ?_
  refine fe_ic (pc' := 1) dX9_reads_0 rfl ic_0 ?_
  refine fe_sin (pc' := 2) (lo' := [(0, .ref 221), (1, .int 0)]) dX9_reads_1 rfl (Nat.le_of_ble_eq_true rfl) rfl ?_
  obtain ⟨q3, hq17, h⟩ := am_bd h
  refine lp_Mo_reads_L2 _ g 0 q3 hq17 ?_
  refine fe_lan (pc' := 22) dX9_reads_21 rfl rfl ?_
  refine fe_ic (pc' := 23) dX9_reads_22 rfl ic_0 ?_
  refine fe_pi (pc' := 26) dX9_reads_23 rfl fl_9_56 n_221 s_221 rfl ⟨rfl, Or.inl rfl⟩ ?_
  refine fe_lan (pc' := 27) dX9_reads_26 rfl rfl ?_
  obtain ⟨q4, hq5, h⟩ := am_bd h
  refine fe_iv (pc' := 30) (as := [.ref 221]) (h1 := (sh0, q4)) (r1 := none) (st' := []) dX9_reads_27 rfl cl_9_79 rfl rfl s_221 ms_127 ⟨n_221, rfl, by decide, Nat.le_of_ble_eq_true rfl, Nat.le_of_ble_eq_true rfl⟩ (am_le0 _ _ _) (am_up (by decide) (ev_Mo_token hq5)) rfl ?_
  obtain ⟨q15, hq18, h⟩ := am_bd h
  refine lp_Mo_reads_L30 _ q4 q15 hq18 (fun w16 e => ?_) (fun w e => ?_)
  · subst e
    replace h : _ = _ := h
    refine fe_ic (pc' := 78) dX9_reads_77 rfl ic_1 ?_
    cases h
    exact fe_rz _ dX9_reads_78 rfl rfl
  · subst e
    cases h
    exact ⟨rfl, rfl⟩
-- Mo_tells: X9_tells
set_option maxRecDepth 4000 in
theorem lp_Mo_tells_L2 {hE : am_H} {r : Option Value} : ∀ (n : Nat) (g : am_G) (x1 : Int32) (w : am_G), Mo_tells_L2 n g x1 = some w → am_E 0 mX9_tells (26, [(0, .ref 221)], [], (sh0, w)) hE r → am_E 0 mX9_tells (2, [(0, .ref 221), (1, .int x1)], [], (sh0, g)) hE r := by
  intro n
  induction n with
  | zero => intro g x1 q h; cases h
  | succ n ih =>
    intro g x1 q h k1
    replace h : _ = _ := h
    unfold Mo_tells_L2 at h
    refine fe_lin (pc' := 3) dX9_tells_2 rfl rfl ?_
    refine fe_bp (pc' := 5) dX9_tells_3 rfl ib_71 ?_
    refine fe_ic_ge (pc' := 8) (tgt := 26) dX9_tells_5 rfl rfl (fun hc1 => ?_) (fun hc1 => ?_)
    · replace h := (if_pos hc1).symm.trans h
      refine fe_pick [0] rfl ?_
      cases h
      exact k1
    · replace h := (if_neg hc1).symm.trans h
      refine fe_lan (pc' := 9) dX9_tells_8 rfl rfl ?_
      refine fe_gf (pc' := 12) dX9_tells_9 rfl fl_9_13 n_221 gf_221_3 ?_
      refine fe_lin (pc' := 13) dX9_tells_12 rfl rfl ?_
      refine fe_lan (pc' := 14) dX9_tells_13 rfl rfl ?_
      refine fe_gf (pc' := 17) dX9_tells_14 rfl fl_9_16 n_221 gf_221_4 ?_
      refine fe_lin (pc' := 18) dX9_tells_17 rfl rfl ?_
      obtain ⟨hi2, h⟩ := am_gd rfl h
      refine fe_al (pc' := 19) (j := x1.toNatClampNeg) dX9_tells_18 rfl n_224 s_224 hi2 rfl ?_
      refine fe_as (pc' := 20) (j := x1.toNatClampNeg) dX9_tells_19 rfl n_223 s_223 hi2 rfl ?_
      refine fe_inc (pc' := 23) (lo' := [(0, .ref 221), (1, .int (x1 + 1))]) dX9_tells_20 rfl ic_1 (Nat.le_of_ble_eq_true rfl) rfl rfl ?_
      refine fe_go (tgt := 2) dX9_tells_23 rfl ?_
      exact ih (am_wr g 223 x1.toNatClampNeg (g.1 224 x1.toNatClampNeg)) (x1 + 1) q h k1
set_option maxRecDepth 4000 in
theorem lp_Mo_tells_L28 {hE : am_H} {r : Option Value} : ∀ (n : Nat) (g : am_G) (x1 : Int32) (w : am_G), Mo_tells_L28 n g x1 = some w → am_E 0 mX9_tells (48, [(0, .ref 221)], [], (sh0, w)) hE r → am_E 0 mX9_tells (28, [(0, .ref 221), (1, .int x1)], [], (sh0, g)) hE r := by
  intro n
  induction n with
  | zero => intro g x1 q h; cases h
  | succ n ih =>
    intro g x1 q h k1
    replace h : _ = _ := h
    unfold Mo_tells_L28 at h
    refine fe_lin (pc' := 29) dX9_tells_28 rfl rfl ?_
    refine fe_sp (pc' := 32) dX9_tells_29 rfl is_320 ?_
    refine fe_ic_ge (pc' := 35) (tgt := 48) dX9_tells_32 rfl rfl (fun hc4 => ?_) (fun hc4 => ?_)
    · replace h := (if_pos hc4).symm.trans h
      refine fe_pick [0] rfl ?_
      cases h
      exact k1
    · replace h := (if_neg hc4).symm.trans h
      refine fe_lan (pc' := 36) dX9_tells_35 rfl rfl ?_
      refine fe_gf (pc' := 39) dX9_tells_36 rfl fl_9_19 n_221 gf_221_5 ?_
      refine fe_lin (pc' := 40) dX9_tells_39 rfl rfl ?_
      refine fe_ic (pc' := 41) dX9_tells_40 rfl ic_0 ?_
      obtain ⟨hi5, h⟩ := am_gd rfl h
      refine fe_as (pc' := 42) (j := x1.toNatClampNeg) dX9_tells_41 rfl n_225 s_225 hi5 rfl ?_
      refine fe_inc (pc' := 45) (lo' := [(0, .ref 221), (1, .int (x1 + 1))]) dX9_tells_42 rfl ic_1 (Nat.le_of_ble_eq_true rfl) rfl rfl ?_
      refine fe_go (tgt := 28) dX9_tells_45 rfl ?_
      exact ih (am_wr g 225 x1.toNatClampNeg 0) (x1 + 1) q h k1
set_option maxRecDepth 4000 in
theorem lp_Mo_tells_L50 {hE : am_H} {r : Option Value} : ∀ (n : Nat) (g : am_G) (x1 : Int32) (w : am_G), Mo_tells_L50 n g x1 = some w → am_E 0 mX9_tells (113, [(0, .ref 221)], [], (sh0, w)) hE r → am_E 0 mX9_tells (50, [(0, .ref 221), (1, .int x1)], [], (sh0, g)) hE r := by
  intro n
  induction n with
  | zero => intro g x1 q h; cases h
  | succ n ih =>
    intro g x1 q h k1
    replace h : _ = _ := h
    unfold Mo_tells_L50 at h
    refine fe_lin (pc' := 51) dX9_tells_50 rfl rfl ?_
    refine fe_bp (pc' := 53) dX9_tells_51 rfl ib_7 ?_
    refine fe_ic_ge (pc' := 56) (tgt := 113) dX9_tells_53 rfl rfl (fun hc7 => ?_) (fun hc7 => ?_)
    · replace h := (if_pos hc7).symm.trans h
      refine fe_pick [0] rfl ?_
      cases h
      exact k1
    · replace h := (if_neg hc7).symm.trans h
      refine fe_lan (pc' := 57) dX9_tells_56 rfl rfl ?_
      refine fe_gf (pc' := 60) dX9_tells_57 rfl fl_9_19 n_221 gf_221_5 ?_
      refine fe_bp (pc' := 62) dX9_tells_60 rfl ib_8 ?_
      refine fe_lin (pc' := 63) dX9_tells_62 rfl rfl ?_
      refine fe_iadd (pc' := 64) dX9_tells_63 rfl ?_
      refine fe_lin (pc' := 65) dX9_tells_64 rfl rfl ?_
      refine fe_lan (pc' := 66) dX9_tells_65 rfl rfl ?_
      refine fe_gf (pc' := 69) dX9_tells_66 rfl fl_9_13 n_221 gf_221_3 ?_
      refine fe_ic (pc' := 70) dX9_tells_69 rfl ic_1 ?_
      refine fe_al (pc' := 71) (j := 1) dX9_tells_70 rfl n_223 s_223 (by decide) (by decide) ?_
      obtain ⟨q10, hq15, h⟩ := am_bd h
      have K : am_E 0 mX9_tells (88, [(0, .ref 221), (1, .int x1)], [.int q10, .int (8 + x1), .ref 225], (sh0, g)) hE r := by
        obtain ⟨hi11, h⟩ := am_gd rfl h
        refine fe_as (pc' := 89) (j := (8 + x1).toNatClampNeg) dX9_tells_88 rfl n_225 s_225 hi11 rfl ?_
        refine fe_lan (pc' := 90) dX9_tells_89 rfl rfl ?_
        refine fe_gf (pc' := 93) dX9_tells_90 rfl fl_9_19 n_221 gf_221_5 ?_
        refine fe_bp (pc' := 95) dX9_tells_93 rfl ib_15 ?_
        refine fe_lin (pc' := 96) dX9_tells_95 rfl rfl ?_
        refine fe_iadd (pc' := 97) dX9_tells_96 rfl ?_
        refine fe_lan (pc' := 98) dX9_tells_97 rfl rfl ?_
        refine fe_gf (pc' := 101) dX9_tells_98 rfl fl_9_13 n_221 gf_221_3 ?_
        refine fe_bp (pc' := 103) dX9_tells_101 rfl ib_12 ?_
        refine fe_lin (pc' := 104) dX9_tells_103 rfl rfl ?_
        refine fe_iadd (pc' := 105) dX9_tells_104 rfl ?_
        obtain ⟨hi12, h⟩ := am_gd rfl h
        refine fe_al (pc' := 106) (j := (12 + x1).toNatClampNeg) dX9_tells_105 rfl n_223 s_223 hi12 rfl ?_
        obtain ⟨hi13, h⟩ := am_gd rfl h
        refine fe_as (pc' := 107) (j := (15 + x1).toNatClampNeg) dX9_tells_106 rfl n_225 s_225 hi13 rfl ?_
        refine fe_inc (pc' := 110) (lo' := [(0, .ref 221), (1, .int (x1 + 1))]) dX9_tells_107 rfl ic_1 (Nat.le_of_ble_eq_true rfl) rfl rfl ?_
        refine fe_go (tgt := 50) dX9_tells_110 rfl ?_
        exact ih (am_wr (am_wr g 225 (8 + x1).toNatClampNeg q10) 225 (15 + x1).toNatClampNeg ((am_wr g 225 (8 + x1).toNatClampNeg q10).1 223 (12 + x1).toNatClampNeg)) (x1 + 1) q h k1
      replace h := hq15
      refine fe_ic_ge (pc' := 74) (tgt := 86) dX9_tells_71 rfl rfl (fun hc8 => ?_) (fun hc8 => ?_)
      · replace h := (if_pos hc8).symm.trans h
        refine fe_bp (pc' := 88) dX9_tells_86 rfl ib_9 ?_
        cases h
        exact K
      · replace h := (if_neg hc8).symm.trans h
        refine fe_lan (pc' := 75) dX9_tells_74 rfl rfl ?_
        refine fe_gf (pc' := 78) dX9_tells_75 rfl fl_9_13 n_221 gf_221_3 ?_
        refine fe_bp (pc' := 80) dX9_tells_78 rfl ib_40 ?_
        refine fe_lin (pc' := 81) dX9_tells_80 rfl rfl ?_
        refine fe_iadd (pc' := 82) dX9_tells_81 rfl ?_
        obtain ⟨hi9, h⟩ := am_gd rfl h
        refine fe_al (pc' := 83) (j := (40 + x1).toNatClampNeg) dX9_tells_82 rfl n_223 s_223 hi9 rfl ?_
        refine fe_go (tgt := 88) dX9_tells_83 rfl ?_
        cases h
        exact K
set_option maxRecDepth 4000 in
theorem ev_Mo_tells {g : am_G} {w : am_G} (h : Mo_tells g  = some w) : am_Ev 1 134 [.ref 221] (sh0, g) (sh0, w) (none) := by
  unfold Mo_tells at h
  refine am_ev mX9_tells (by rfl) (Nat.le_of_ble_eq_true rfl) [(0, .ref 221)] rfl ?_
  refine fe_ic (pc' := 1) dX9_tells_0 rfl ic_0 ?_
  refine fe_sin (pc' := 2) (lo' := [(0, .ref 221), (1, .int 0)]) dX9_tells_1 rfl (Nat.le_of_ble_eq_true rfl) rfl ?_
  obtain ⟨q3, hq16, h⟩ := am_bd h
  refine lp_Mo_tells_L2 _ g 0 q3 hq16 ?_
  refine fe_ic (pc' := 27) dX9_tells_26 rfl ic_0 ?_
  refine fe_sin (pc' := 28) (lo' := [(0, .ref 221), (1, .int 0)]) dX9_tells_27 rfl (Nat.le_of_ble_eq_true rfl) rfl ?_
  obtain ⟨q6, hq17, h⟩ := am_bd h
  refine lp_Mo_tells_L28 _ q3 0 q6 hq17 ?_
  refine fe_ic (pc' := 49) dX9_tells_48 rfl ic_0 ?_
  refine fe_sin (pc' := 50) (lo' := [(0, .ref 221), (1, .int 0)]) dX9_tells_49 rfl (Nat.le_of_ble_eq_true rfl) rfl ?_
  obtain ⟨q14, hq18, h⟩ := am_bd h
  refine lp_Mo_tells_L50 _ q6 0 q14 hq18 ?_
  refine fe_lan (pc' := 114) dX9_tells_113 rfl rfl ?_
  refine fe_ic (pc' := 115) dX9_tells_114 rfl ic_0 ?_
  refine fe_pi (pc' := 118) dX9_tells_115 rfl fl_9_97 n_221 s_221 rfl ⟨rfl, Or.inl rfl⟩ ?_
  refine fe_lan (pc' := 119) dX9_tells_118 rfl rfl ?_
  refine fe_gf (pc' := 122) dX9_tells_119 rfl fl_9_25 n_221 gf_221_7 ?_
  refine fe_ic (pc' := 123) dX9_tells_122 rfl ic_0 ?_
  refine fe_ic (pc' := 124) dX9_tells_123 rfl ic_0 ?_
  refine fe_bs (pc' := 125) (j := 0) dX9_tells_124 rfl n_227 s_227 (by decide) (by decide) (by decide) ?_
  refine fe_lan (pc' := 126) dX9_tells_125 rfl rfl ?_
  refine fe_gf (pc' := 129) dX9_tells_126 rfl fl_9_25 n_221 gf_221_7 ?_
  refine fe_ic (pc' := 130) dX9_tells_129 rfl ic_1 ?_
  refine fe_ic (pc' := 131) dX9_tells_130 rfl ic_0 ?_
  refine fe_bs (pc' := 132) (j := 1) dX9_tells_131 rfl n_227 s_227 (by decide) (by decide) (by decide) ?_
  cases h
  exact fe_rv dX9_tells_132 rfl
-- Tb_isWithin: X8_isWithin
set_option maxRecDepth 4000 in
theorem ev_Tb_isWithin {g : am_G} {x0 x1 x2 : Int32} {w : Bool} (h : Tb_isWithin g x0 x1 x2 = some w) : am_Ev 1 117 [.int x0, .int x1, .int x2] (sh0, g) (sh0, g) (some (.int (am_b w))) := by
  unfold Tb_isWithin at h
  refine am_ev mX8_isWithin (by rfl) (Nat.le_of_ble_eq_true rfl) [(0, .int x0), (1, .int x1), (2, .int x2)] rfl ?_
  refine fe_lin (pc' := 1) dX8_isWithin_0 rfl rfl ?_
  refine fe_lin (pc' := 2) dX8_isWithin_1 rfl rfl ?_
  refine fe_ic_lt (pc' := 5) (tgt := 14) dX8_isWithin_2 rfl rfl (fun hc1 => ?_) (fun hc1 => ?_)
  · replace h := (if_pos hc1).symm.trans h
    refine fe_ic (pc' := 15) dX8_isWithin_14 rfl ic_0 ?_
    cases h
    exact fe_rz _ dX8_isWithin_15 rfl rfl
  · replace h := (if_neg hc1).symm.trans h
    refine fe_lin (pc' := 6) dX8_isWithin_5 rfl rfl ?_
    refine fe_lin (pc' := 7) dX8_isWithin_6 rfl rfl ?_
    refine fe_ic_gt (pc' := 10) (tgt := 14) dX8_isWithin_7 rfl rfl (fun hc2 => ?_) (fun hc2 => ?_)
    · replace h := (if_pos hc2).symm.trans h
      refine fe_ic (pc' := 15) dX8_isWithin_14 rfl ic_0 ?_
      cases h
      exact fe_rz _ dX8_isWithin_15 rfl rfl
    · replace h := (if_neg hc2).symm.trans h
      refine fe_ic (pc' := 11) dX8_isWithin_10 rfl ic_1 ?_
      refine fe_go (tgt := 15) dX8_isWithin_11 rfl ?_
      cases h
      exact fe_rz _ dX8_isWithin_15 rfl rfl
-- Tx_takes: X6_takes
set_option maxRecDepth 4000 in
theorem ev_Tx_takes {g : am_G} {x1 : Int32} {w : (am_G × Bool)} (h : Tx_takes g x1 = some w) : am_Ev 1 63 [.ref 1, .int x1] (sh0, g) (sh0, w.1) (some (.int (am_b w.2))) := by
  unfold Tx_takes at h
  refine am_ev mX6_takes (by rfl) (Nat.le_of_ble_eq_true rfl) [(0, .ref 1), (1, .int x1)] rfl ?_
  refine fe_lan (pc' := 1) dX6_takes_0 rfl rfl ?_
  refine fe_gf (pc' := 4) dX6_takes_1 rfl fl_6_15 n_1 gf_1_1 ?_
  refine fe_sp (pc' := 7) dX6_takes_4 rfl is_200 ?_
  refine fe_ic_lt (pc' := 10) (tgt := 12) dX6_takes_7 rfl rfl (fun hc1 => ?_) (fun hc1 => ?_)
  · replace h := (if_pos hc1).symm.trans h
    refine fe_lan (pc' := 13) dX6_takes_12 rfl rfl ?_
    refine fe_gf (pc' := 16) dX6_takes_13 rfl fl_6_9 n_1 gf_1_0 ?_
    refine fe_lan (pc' := 17) dX6_takes_16 rfl rfl ?_
    refine fe_gf (pc' := 20) dX6_takes_17 rfl fl_6_15 n_1 gf_1_1 ?_
    refine fe_lin (pc' := 21) dX6_takes_20 rfl rfl ?_
    obtain ⟨hi2, h⟩ := am_gd rfl h
    refine fe_as (pc' := 22) (j := (g.1 1 1).toNatClampNeg) dX6_takes_21 rfl n_2 s_2 hi2 rfl ?_
    refine fe_lan (pc' := 23) dX6_takes_22 rfl rfl ?_
    refine fe_dup (pc' := 24) dX6_takes_23 rfl rfl ?_
    refine fe_gf (pc' := 27) dX6_takes_24 rfl fl_6_15 n_1 gf_1_1 ?_
    refine fe_ic (pc' := 28) dX6_takes_27 rfl ic_1 ?_
    refine fe_iadd (pc' := 29) dX6_takes_28 rfl ?_
    refine fe_pi (pc' := 32) dX6_takes_29 rfl fl_6_15 n_1 s_1 rfl ⟨rfl, Or.inl rfl⟩ ?_
    refine fe_ic (pc' := 33) dX6_takes_32 rfl ic_1 ?_
    cases h
    exact fe_rz _ dX6_takes_33 rfl rfl
  · replace h := (if_neg hc1).symm.trans h
    refine fe_ic (pc' := 11) dX6_takes_10 rfl ic_0 ?_
    cases h
    exact fe_rz _ dX6_takes_11 rfl rfl
-- Tb_type: X8_type
set_option maxRecDepth 4000 in
theorem ev_Tb_type {g : am_G} {x1 : Int32} {w : (am_G × Int32)} (h : Tb_type g x1 = some w) : am_Ev 2 80 [.ref 0, .int x1] (sh0, g) (sh0, w.1) (some (.int w.2)) := by
  unfold Tb_type at h
  refine am_ev mX8_type (by rfl) (Nat.le_of_ble_eq_true rfl) [(0, .ref 0), (1, .int x1)] rfl ?_
  refine fe_lin (pc' := 1) dX8_type_0 rfl rfl ?_
  refine fe_ic (pc' := 2) dX8_type_1 rfl ic_0 ?_
  refine fe_sp (pc' := 5) dX8_type_2 rfl is_255 ?_
  obtain ⟨q1, hq2, h⟩ := am_bd h
  refine fe_is (pc' := 8) (as := [.int x1, .int 0, .int 255]) (h1 := (sh0, g)) (r1 := some (.int (am_b q1))) (st' := [.int (am_b q1)]) dX8_type_5 rfl cl_8_79 (Or.inl rfl) rfl rfl ⟨Nat.le_of_ble_eq_true rfl, Nat.le_of_ble_eq_true rfl⟩ (am_le0 _ _ _) (am_up (by decide) (ev_Tb_isWithin hq2)) rfl ?_
  refine fe_bF (pc' := 11) (tgt := 13) dX8_type_8 rfl rfl rfl (fun hc3 => ?_) (fun hc3 => ?_)
  · replace h := (if_pos hc3).symm.trans h
    refine fe_lan (pc' := 14) dX8_type_13 rfl rfl ?_
    refine fe_gf (pc' := 17) dX8_type_14 rfl fl_8_10 n_0 gf_0_0 ?_
    refine fe_lin (pc' := 18) dX8_type_17 rfl rfl ?_
    obtain ⟨q4, hq5, h⟩ := am_bd h
    refine fe_iv (pc' := 21) (as := [.ref 1, .int x1]) (h1 := (sh0, q4.1)) (r1 := some (.int (am_b q4.2))) (st' := [.int (am_b q4.2)]) dX8_type_18 rfl cl_8_83 rfl rfl s_1 ms_63 ⟨n_1, rfl, by decide, Nat.le_of_ble_eq_true rfl, Nat.le_of_ble_eq_true rfl⟩ (am_le0 _ _ _) (am_up (by decide) (ev_Tx_takes hq5)) rfl ?_
    refine fe_bT (pc' := 24) (tgt := 34) dX8_type_21 rfl rfl rfl (fun hc6 => ?_) (fun hc6 => ?_)
    · replace h := (if_pos hc6).symm.trans h
      refine fe_lan (pc' := 25) dX8_type_24 rfl rfl ?_
      refine fe_gf (pc' := 28) dX8_type_25 rfl fl_8_10 n_0 gf_0_0 ?_
      refine fe_gf (pc' := 31) dX8_type_28 rfl fl_8_87 n_1 gf_1_1 ?_
      refine fe_go (tgt := 36) dX8_type_31 rfl ?_
      cases h
      exact fe_ri dX8_type_36 rfl
    · replace h := (if_neg hc6).symm.trans h
      refine fe_bp (pc' := 36) dX8_type_34 rfl ib_m3 ?_
      cases h
      exact fe_ri dX8_type_36 rfl
  · replace h := (if_neg hc3).symm.trans h
    refine fe_ic (pc' := 12) dX8_type_11 rfl ic_m1 ?_
    cases h
    exact fe_ri dX8_type_12 rfl
-- Tb_clear: X8_clear
set_option maxRecDepth 4000 in
theorem ev_Tb_clear {g : am_G} {w : (am_G × Int32)} (h : Tb_clear g  = some w) : am_Ev 1 81 [.ref 0] (sh0, g) (sh0, w.1) (some (.int w.2)) := by
  unfold Tb_clear at h
  refine am_ev mX8_clear (by rfl) (Nat.le_of_ble_eq_true rfl) [(0, .ref 0)] rfl ?_
  refine fe_lan (pc' := 1) dX8_clear_0 rfl rfl ?_
  refine fe_gf (pc' := 4) dX8_clear_1 rfl fl_8_10 n_0 gf_0_0 ?_
  refine fe_gf (pc' := 7) dX8_clear_4 rfl fl_8_87 n_1 gf_1_1 ?_
  refine fe_sin (pc' := 8) (lo' := [(0, .ref 0), (1, .int (g.1 1 1))]) dX8_clear_7 rfl (Nat.le_of_ble_eq_true rfl) rfl ?_
  refine fe_lan (pc' := 9) dX8_clear_8 rfl rfl ?_
  refine fe_gf (pc' := 12) dX8_clear_9 rfl fl_8_10 n_0 gf_0_0 ?_
  refine fe_ic (pc' := 13) dX8_clear_12 rfl ic_0 ?_
  refine fe_pi (pc' := 16) dX8_clear_13 rfl fl_8_87 n_1 s_1 rfl ⟨rfl, Or.inl rfl⟩ ?_
  refine fe_lin (pc' := 17) dX8_clear_16 rfl rfl ?_
  cases h
  exact fe_ri dX8_clear_17 rfl
-- Tx_isLetter: X6_isLetter
set_option maxRecDepth 4000 in
theorem ev_Tx_isLetter {g : am_G} {x0 : Int32} {w : Bool} (h : Tx_isLetter g x0 = some w) : am_Ev 1 68 [.int x0] (sh0, g) (sh0, g) (some (.int (am_b w))) := by
  unfold Tx_isLetter at h
  refine am_ev mX6_isLetter (by rfl) (Nat.le_of_ble_eq_true rfl) [(0, .int x0)] rfl ?_
  refine fe_lin (pc' := 1) dX6_isLetter_0 rfl rfl ?_
  refine fe_bp (pc' := 3) dX6_isLetter_1 rfl ib_97 ?_
  refine fe_ic_lt (pc' := 6) (tgt := 16) dX6_isLetter_3 rfl rfl (fun hc1 => ?_) (fun hc1 => ?_)
  · replace h := (if_pos hc1).symm.trans h
    refine fe_ic (pc' := 17) dX6_isLetter_16 rfl ic_0 ?_
    cases h
    exact fe_rz _ dX6_isLetter_17 rfl rfl
  · replace h := (if_neg hc1).symm.trans h
    refine fe_lin (pc' := 7) dX6_isLetter_6 rfl rfl ?_
    refine fe_bp (pc' := 9) dX6_isLetter_7 rfl ib_122 ?_
    refine fe_ic_gt (pc' := 12) (tgt := 16) dX6_isLetter_9 rfl rfl (fun hc2 => ?_) (fun hc2 => ?_)
    · replace h := (if_pos hc2).symm.trans h
      refine fe_ic (pc' := 17) dX6_isLetter_16 rfl ic_0 ?_
      cases h
      exact fe_rz _ dX6_isLetter_17 rfl rfl
    · replace h := (if_neg hc2).symm.trans h
      refine fe_ic (pc' := 13) dX6_isLetter_12 rfl ic_1 ?_
      refine fe_go (tgt := 17) dX6_isLetter_13 rfl ?_
      cases h
      exact fe_rz _ dX6_isLetter_17 rfl rfl
-- Tx_readLetters: X6_readLetters
set_option maxRecDepth 4000 in
theorem lp_Tx_readLetters_L0 {hE : am_H} {r : Option Value} : ∀ (n : Nat) (g : am_G) (w : am_G), Tx_readLetters_L0 n g  = some w → am_E 1 mX6_readLetters (39, [(0, .ref 1)], [], (sh0, w)) hE r → am_E 1 mX6_readLetters (0, [(0, .ref 1)], [], (sh0, g)) hE r := by
  intro n
  induction n with
  | zero => intro g q h; cases h
  | succ n ih =>
    intro g q h k1
    replace h : _ = _ := h
    unfold Tx_readLetters_L0 at h
    refine fe_lan (pc' := 1) dX6_readLetters_0 rfl rfl ?_
    refine fe_gf (pc' := 4) dX6_readLetters_1 rfl fl_6_25 n_1 gf_1_4 ?_
    refine fe_lan (pc' := 5) dX6_readLetters_4 rfl rfl ?_
    refine fe_gf (pc' := 8) dX6_readLetters_5 rfl fl_6_15 n_1 gf_1_1 ?_
    refine fe_ic_ge (pc' := 11) (tgt := 39) dX6_readLetters_8 rfl rfl (fun hc1 => ?_) (fun hc1 => ?_)
    · replace h := (if_pos hc1).symm.trans h
      cases h
      exact k1
    · replace h := (if_neg hc1).symm.trans h
      refine fe_lan (pc' := 12) dX6_readLetters_11 rfl rfl ?_
      refine fe_gf (pc' := 15) dX6_readLetters_12 rfl fl_6_9 n_1 gf_1_0 ?_
      refine fe_lan (pc' := 16) dX6_readLetters_15 rfl rfl ?_
      refine fe_gf (pc' := 19) dX6_readLetters_16 rfl fl_6_25 n_1 gf_1_4 ?_
      obtain ⟨hi2, h⟩ := am_gd rfl h
      refine fe_al (pc' := 20) (j := (g.1 1 4).toNatClampNeg) dX6_readLetters_19 rfl n_2 s_2 hi2 rfl ?_
      obtain ⟨q3, hq4, h⟩ := am_bd h
      refine fe_is (pc' := 23) (as := [.int (g.1 2 (g.1 1 4).toNatClampNeg)]) (h1 := (sh0, g)) (r1 := some (.int (am_b q3))) (st' := [.int (am_b q3)]) dX6_readLetters_20 rfl cl_6_34 (Or.inl rfl) rfl rfl ⟨Nat.le_of_ble_eq_true rfl, Nat.le_of_ble_eq_true rfl⟩ (am_le0 _ _ _) (am_up (by decide) (ev_Tx_isLetter hq4)) rfl ?_
      refine fe_bT (pc' := 26) (tgt := 39) dX6_readLetters_23 rfl rfl rfl (fun hc5 => ?_) (fun hc5 => ?_)
      · replace h := (if_pos hc5).symm.trans h
        refine fe_lan (pc' := 27) dX6_readLetters_26 rfl rfl ?_
        refine fe_dup (pc' := 28) dX6_readLetters_27 rfl rfl ?_
        refine fe_gf (pc' := 31) dX6_readLetters_28 rfl fl_6_25 n_1 gf_1_4 ?_
        refine fe_ic (pc' := 32) dX6_readLetters_31 rfl ic_1 ?_
        refine fe_iadd (pc' := 33) dX6_readLetters_32 rfl ?_
        refine fe_pi (pc' := 36) dX6_readLetters_33 rfl fl_6_25 n_1 s_1 rfl ⟨rfl, Or.inl rfl⟩ ?_
        refine fe_go (tgt := 0) dX6_readLetters_36 rfl ?_
        exact ih (am_wr g 1 4 ((g.1 1 4) + 1)) q h k1
      · replace h := (if_neg hc5).symm.trans h
        cases h
        exact k1
set_option maxRecDepth 4000 in
theorem ev_Tx_readLetters {g : am_G} {w : am_G} (h : Tx_readLetters g  = some w) : am_Ev 2 66 [.ref 1] (sh0, g) (sh0, w) (none) := by
  unfold Tx_readLetters at h
  refine am_ev mX6_readLetters (by rfl) (Nat.le_of_ble_eq_true rfl) [(0, .ref 1)] rfl ?_
  obtain ⟨q6, hq9, h⟩ := am_bd h
  refine lp_Tx_readLetters_L0 _ g q6 hq9 ?_
  refine fe_lan (pc' := 40) dX6_readLetters_39 rfl rfl ?_
  refine fe_ic (pc' := 41) dX6_readLetters_40 rfl ic_1 ?_
  refine fe_pi (pc' := 44) dX6_readLetters_41 rfl fl_6_19 n_1 s_1 rfl ⟨rfl, Or.inl rfl⟩ ?_
  refine fe_lan (pc' := 45) dX6_readLetters_44 rfl rfl ?_
  refine fe_lan (pc' := 46) dX6_readLetters_45 rfl rfl ?_
  refine fe_gf (pc' := 49) dX6_readLetters_46 rfl fl_6_25 n_1 gf_1_4 ?_
  refine fe_lan (pc' := 50) dX6_readLetters_49 rfl rfl ?_
  refine fe_gf (pc' := 53) dX6_readLetters_50 rfl fl_6_22 n_1 gf_1_3 ?_
  refine fe_isub (pc' := 54) dX6_readLetters_53 rfl ?_
  refine fe_ic (pc' := 55) dX6_readLetters_54 rfl ic_1 ?_
  refine fe_ic_ne (pc' := 58) (tgt := 70) dX6_readLetters_55 rfl rfl (fun hc7 => ?_) (fun hc7 => ?_)
  · replace h := (if_pos hc7).symm.trans h
    refine fe_lan (pc' := 59) dX6_readLetters_58 rfl rfl ?_
    refine fe_gf (pc' := 62) dX6_readLetters_59 rfl fl_6_9 n_1 gf_1_0 ?_
    refine fe_lan (pc' := 63) dX6_readLetters_62 rfl rfl ?_
    refine fe_gf (pc' := 66) dX6_readLetters_63 rfl fl_6_22 n_1 gf_1_3 ?_
    obtain ⟨hi8, h⟩ := am_gd rfl h
    refine fe_al (pc' := 67) (j := ((am_wr q6 1 2 1).1 1 3).toNatClampNeg) dX6_readLetters_66 rfl n_2 s_2 hi8 rfl ?_
    refine fe_go (tgt := 71) dX6_readLetters_67 rfl ?_
    refine fe_pi (pc' := 74) dX6_readLetters_71 rfl fl_6_28 n_1 s_1 rfl ⟨rfl, Or.inl rfl⟩ ?_
    cases h
    exact fe_rv dX6_readLetters_74 rfl
  · replace h := (if_neg hc7).symm.trans h
    refine fe_ic (pc' := 71) dX6_readLetters_70 rfl ic_0 ?_
    refine fe_pi (pc' := 74) dX6_readLetters_71 rfl fl_6_28 n_1 s_1 rfl ⟨rfl, Or.inl rfl⟩ ?_
    cases h
    exact fe_rv dX6_readLetters_74 rfl
-- Tx_isDigit: X6_isDigit
set_option maxRecDepth 4000 in
theorem ev_Tx_isDigit {g : am_G} {x0 : Int32} {w : Bool} (h : Tx_isDigit g x0 = some w) : am_Ev 1 69 [.int x0] (sh0, g) (sh0, g) (some (.int (am_b w))) := by
  unfold Tx_isDigit at h
  refine am_ev mX6_isDigit (by rfl) (Nat.le_of_ble_eq_true rfl) [(0, .int x0)] rfl ?_
  refine fe_lin (pc' := 1) dX6_isDigit_0 rfl rfl ?_
  refine fe_bp (pc' := 3) dX6_isDigit_1 rfl ib_48 ?_
  refine fe_ic_lt (pc' := 6) (tgt := 16) dX6_isDigit_3 rfl rfl (fun hc1 => ?_) (fun hc1 => ?_)
  · replace h := (if_pos hc1).symm.trans h
    refine fe_ic (pc' := 17) dX6_isDigit_16 rfl ic_0 ?_
    cases h
    exact fe_rz _ dX6_isDigit_17 rfl rfl
  · replace h := (if_neg hc1).symm.trans h
    refine fe_lin (pc' := 7) dX6_isDigit_6 rfl rfl ?_
    refine fe_bp (pc' := 9) dX6_isDigit_7 rfl ib_57 ?_
    refine fe_ic_gt (pc' := 12) (tgt := 16) dX6_isDigit_9 rfl rfl (fun hc2 => ?_) (fun hc2 => ?_)
    · replace h := (if_pos hc2).symm.trans h
      refine fe_ic (pc' := 17) dX6_isDigit_16 rfl ic_0 ?_
      cases h
      exact fe_rz _ dX6_isDigit_17 rfl rfl
    · replace h := (if_neg hc2).symm.trans h
      refine fe_ic (pc' := 13) dX6_isDigit_12 rfl ic_1 ?_
      refine fe_go (tgt := 17) dX6_isDigit_13 rfl ?_
      cases h
      exact fe_rz _ dX6_isDigit_17 rfl rfl
-- Tx_readNumber: X6_readNumber
set_option maxRecDepth 4000 in
theorem lp_Tx_readNumber_L0 {hE : am_H} {r : Option Value} : ∀ (n : Nat) (g : am_G) (w : am_G), Tx_readNumber_L0 n g  = some w → am_E 1 mX6_readNumber (79, [(0, .ref 1)], [], (sh0, w)) hE r → am_E 1 mX6_readNumber (0, [(0, .ref 1)], [], (sh0, g)) hE r := by
  intro n
  induction n with
  | zero => intro g q h; cases h
  | succ n ih =>
    intro g q h k1
    replace h : _ = _ := h
    unfold Tx_readNumber_L0 at h
    refine fe_lan (pc' := 1) dX6_readNumber_0 rfl rfl ?_
    refine fe_gf (pc' := 4) dX6_readNumber_1 rfl fl_6_25 n_1 gf_1_4 ?_
    refine fe_lan (pc' := 5) dX6_readNumber_4 rfl rfl ?_
    refine fe_gf (pc' := 8) dX6_readNumber_5 rfl fl_6_15 n_1 gf_1_1 ?_
    refine fe_ic_ge (pc' := 11) (tgt := 79) dX6_readNumber_8 rfl rfl (fun hc1 => ?_) (fun hc1 => ?_)
    · replace h := (if_pos hc1).symm.trans h
      cases h
      exact k1
    · replace h := (if_neg hc1).symm.trans h
      refine fe_lan (pc' := 12) dX6_readNumber_11 rfl rfl ?_
      refine fe_gf (pc' := 15) dX6_readNumber_12 rfl fl_6_9 n_1 gf_1_0 ?_
      refine fe_lan (pc' := 16) dX6_readNumber_15 rfl rfl ?_
      refine fe_gf (pc' := 19) dX6_readNumber_16 rfl fl_6_25 n_1 gf_1_4 ?_
      obtain ⟨hi2, h⟩ := am_gd rfl h
      refine fe_al (pc' := 20) (j := (g.1 1 4).toNatClampNeg) dX6_readNumber_19 rfl n_2 s_2 hi2 rfl ?_
      obtain ⟨q3, hq4, h⟩ := am_bd h
      refine fe_is (pc' := 23) (as := [.int (g.1 2 (g.1 1 4).toNatClampNeg)]) (h1 := (sh0, g)) (r1 := some (.int (am_b q3))) (st' := [.int (am_b q3)]) dX6_readNumber_20 rfl cl_6_41 (Or.inl rfl) rfl rfl ⟨Nat.le_of_ble_eq_true rfl, Nat.le_of_ble_eq_true rfl⟩ (am_le0 _ _ _) (am_up (by decide) (ev_Tx_isDigit hq4)) rfl ?_
      refine fe_bT (pc' := 26) (tgt := 79) dX6_readNumber_23 rfl rfl rfl (fun hc5 => ?_) (fun hc5 => ?_)
      · replace h := (if_pos hc5).symm.trans h
        refine fe_lan (pc' := 27) dX6_readNumber_26 rfl rfl ?_
        refine fe_lan (pc' := 28) dX6_readNumber_27 rfl rfl ?_
        refine fe_gf (pc' := 31) dX6_readNumber_28 rfl fl_6_28 n_1 gf_1_5 ?_
        refine fe_bp (pc' := 33) dX6_readNumber_31 rfl ib_99 ?_
        have K : am_E 1 mX6_readNumber (63, [(0, .ref 1)], [.int (if (g.1 1 5) ≤ 99 then ((10 * (g.1 1 5)) + (g.1 2 (g.1 1 4).toNatClampNeg)) - 48 else g.1 1 5 : Int32), .ref 1], (sh0, g)) hE r := by
          refine fe_pi (pc' := 66) dX6_readNumber_63 rfl fl_6_28 n_1 s_1 rfl ⟨rfl, Or.inl rfl⟩ ?_
          refine fe_lan (pc' := 67) dX6_readNumber_66 rfl rfl ?_
          refine fe_dup (pc' := 68) dX6_readNumber_67 rfl rfl ?_
          refine fe_gf (pc' := 71) dX6_readNumber_68 rfl fl_6_25 n_1 gf_1_4 ?_
          refine fe_ic (pc' := 72) dX6_readNumber_71 rfl ic_1 ?_
          refine fe_iadd (pc' := 73) dX6_readNumber_72 rfl ?_
          refine fe_pi (pc' := 76) dX6_readNumber_73 rfl fl_6_25 n_1 s_1 rfl ⟨rfl, Or.inl rfl⟩ ?_
          refine fe_go (tgt := 0) dX6_readNumber_76 rfl ?_
          exact ih (am_wr (am_wr g 1 5 (if (g.1 1 5) ≤ 99 then ((10 * (g.1 1 5)) + (g.1 2 (g.1 1 4).toNatClampNeg)) - 48 else g.1 1 5 : Int32)) 1 4 (((am_wr g 1 5 (if (g.1 1 5) ≤ 99 then ((10 * (g.1 1 5)) + (g.1 2 (g.1 1 4).toNatClampNeg)) - 48 else g.1 1 5 : Int32)).1 1 4) + 1)) q h k1
        refine fe_ic_le (pc' := 36) (tgt := 43) dX6_readNumber_33 rfl rfl (fun hc6 => ?_) (fun hc6 => ?_)
        · refine fe_bp (pc' := 45) dX6_readNumber_43 rfl ib_10 ?_
          refine fe_lan (pc' := 46) dX6_readNumber_45 rfl rfl ?_
          refine fe_gf (pc' := 49) dX6_readNumber_46 rfl fl_6_28 n_1 gf_1_5 ?_
          refine fe_imul (pc' := 50) dX6_readNumber_49 rfl ?_
          refine fe_lan (pc' := 51) dX6_readNumber_50 rfl rfl ?_
          refine fe_gf (pc' := 54) dX6_readNumber_51 rfl fl_6_9 n_1 gf_1_0 ?_
          refine fe_lan (pc' := 55) dX6_readNumber_54 rfl rfl ?_
          refine fe_gf (pc' := 58) dX6_readNumber_55 rfl fl_6_25 n_1 gf_1_4 ?_
          refine fe_al (pc' := 59) (j := (g.1 1 4).toNatClampNeg) dX6_readNumber_58 rfl n_2 s_2 hi2 rfl ?_
          refine fe_iadd (pc' := 60) dX6_readNumber_59 rfl ?_
          refine fe_bp (pc' := 62) dX6_readNumber_60 rfl ib_48 ?_
          refine fe_isub (pc' := 63) dX6_readNumber_62 rfl ?_
          simp only [if_pos hc6] at K ⊢
          exact K
        · refine fe_lan (pc' := 37) dX6_readNumber_36 rfl rfl ?_
          refine fe_gf (pc' := 40) dX6_readNumber_37 rfl fl_6_28 n_1 gf_1_5 ?_
          refine fe_go (tgt := 63) dX6_readNumber_40 rfl ?_
          simp only [if_neg hc6] at K ⊢
          exact K
      · replace h := (if_neg hc5).symm.trans h
        cases h
        exact k1
set_option maxRecDepth 4000 in
theorem ev_Tx_readNumber {g : am_G} {w : am_G} (h : Tx_readNumber g  = some w) : am_Ev 2 67 [.ref 1] (sh0, g) (sh0, w) (none) := by
  unfold Tx_readNumber at h
  refine am_ev mX6_readNumber (by rfl) (Nat.le_of_ble_eq_true rfl) [(0, .ref 1)] rfl ?_
  obtain ⟨q8, hq15, h⟩ := am_bd h
  refine lp_Tx_readNumber_L0 _ g q8 hq15 ?_
  refine fe_lan (pc' := 80) dX6_readNumber_79 rfl rfl ?_
  refine fe_gf (pc' := 83) dX6_readNumber_80 rfl fl_6_9 n_1 gf_1_0 ?_
  refine fe_lan (pc' := 84) dX6_readNumber_83 rfl rfl ?_
  refine fe_gf (pc' := 87) dX6_readNumber_84 rfl fl_6_22 n_1 gf_1_3 ?_
  obtain ⟨hi9, h⟩ := am_gd rfl h
  refine fe_al (pc' := 88) (j := (q8.1 1 3).toNatClampNeg) dX6_readNumber_87 rfl n_2 s_2 hi9 rfl ?_
  refine fe_bp (pc' := 90) dX6_readNumber_88 rfl ib_48 ?_
  have K : am_E 1 mX6_readNumber (111, [(0, .ref 1)], [.int (if (q8.1 2 (q8.1 1 3).toNatClampNeg) = 48 then if ((q8.1 1 4) - (q8.1 1 3)) ≤ 1 then 0 else 1 else 0 : Int32)], (sh0, q8)) (sh0, w) (none) := by
    refine fe_sin (pc' := 112) (lo' := [(0, .ref 1), (1, .int (if (q8.1 2 (q8.1 1 3).toNatClampNeg) = 48 then if ((q8.1 1 4) - (q8.1 1 3)) ≤ 1 then 0 else 1 else 0 : Int32))]) dX6_readNumber_111 rfl (Nat.le_of_ble_eq_true rfl) rfl ?_
    refine fe_lan (pc' := 113) dX6_readNumber_112 rfl rfl ?_
    refine fe_lan (pc' := 114) dX6_readNumber_113 rfl rfl ?_
    refine fe_gf (pc' := 117) dX6_readNumber_114 rfl fl_6_28 n_1 gf_1_5 ?_
    refine fe_bp (pc' := 119) dX6_readNumber_117 rfl ib_99 ?_
    refine fe_ic_gt (pc' := 122) (tgt := 126) dX6_readNumber_119 rfl rfl (fun hc13 => ?_) (fun hc13 => ?_)
    · replace h := (if_pos hc13).symm.trans h
      refine fe_ic (pc' := 127) dX6_readNumber_126 rfl ic_4 ?_
      refine fe_go (tgt := 131) dX6_readNumber_127 rfl ?_
      refine fe_pi (pc' := 134) dX6_readNumber_131 rfl fl_6_19 n_1 s_1 rfl ⟨rfl, Or.inl rfl⟩ ?_
      cases h
      exact fe_rv dX6_readNumber_134 rfl
    · replace h := (if_neg hc13).symm.trans h
      refine fe_lin (pc' := 123) dX6_readNumber_122 rfl rfl ?_
      refine fe_if_eq (pc' := 126) (tgt := 130) dX6_readNumber_123 rfl rfl (fun hc14 => ?_) (fun hc14 => ?_)
      · replace h := (if_pos hc14).symm.trans h
        refine fe_ic (pc' := 131) dX6_readNumber_130 rfl ic_2 ?_
        refine fe_pi (pc' := 134) dX6_readNumber_131 rfl fl_6_19 n_1 s_1 rfl ⟨rfl, Or.inl rfl⟩ ?_
        cases h
        exact fe_rv dX6_readNumber_134 rfl
      · replace h := (if_neg hc14).symm.trans h
        refine fe_ic (pc' := 127) dX6_readNumber_126 rfl ic_4 ?_
        refine fe_go (tgt := 131) dX6_readNumber_127 rfl ?_
        refine fe_pi (pc' := 134) dX6_readNumber_131 rfl fl_6_19 n_1 s_1 rfl ⟨rfl, Or.inl rfl⟩ ?_
        cases h
        exact fe_rv dX6_readNumber_134 rfl
  refine fe_ic_ne (pc' := 93) (tgt := 110) dX6_readNumber_90 rfl rfl (fun hc10 => ?_) (fun hc10 => ?_)
  · refine fe_lan (pc' := 94) dX6_readNumber_93 rfl rfl ?_
    refine fe_gf (pc' := 97) dX6_readNumber_94 rfl fl_6_25 n_1 gf_1_4 ?_
    refine fe_lan (pc' := 98) dX6_readNumber_97 rfl rfl ?_
    refine fe_gf (pc' := 101) dX6_readNumber_98 rfl fl_6_22 n_1 gf_1_3 ?_
    refine fe_isub (pc' := 102) dX6_readNumber_101 rfl ?_
    refine fe_ic (pc' := 103) dX6_readNumber_102 rfl ic_1 ?_
    refine fe_ic_le (pc' := 106) (tgt := 110) dX6_readNumber_103 rfl rfl (fun hc11 => ?_) (fun hc11 => ?_)
    · refine fe_ic (pc' := 111) dX6_readNumber_110 rfl ic_0 ?_
      simp only [if_pos hc10, if_pos hc11] at K ⊢
      exact K
    · refine fe_ic (pc' := 107) dX6_readNumber_106 rfl ic_1 ?_
      refine fe_go (tgt := 111) dX6_readNumber_107 rfl ?_
      simp only [if_pos hc10, if_neg hc11] at K ⊢
      exact K
  · refine fe_ic (pc' := 111) dX6_readNumber_110 rfl ic_0 ?_
    simp only [if_neg hc10] at K ⊢
    exact K
-- Tx_toNextToken: X6_toNextToken
set_option maxRecDepth 4000 in
theorem lp_Tx_toNextToken_L8 {hE : am_H} {r : Option Value} : ∀ (n : Nat) (g : am_G) (w : am_G), Tx_toNextToken_L8 n g  = some w → am_E 2 mX6_toNextToken (46, [(0, .ref 1)], [], (sh0, w)) hE r → am_E 2 mX6_toNextToken (8, [(0, .ref 1)], [], (sh0, g)) hE r := by
  intro n
  induction n with
  | zero => intro g q h; cases h
  | succ n ih =>
    intro g q h k1
    replace h : _ = _ := h
    unfold Tx_toNextToken_L8 at h
    refine fe_lan (pc' := 9) dX6_toNextToken_8 rfl rfl ?_
    refine fe_gf (pc' := 12) dX6_toNextToken_9 rfl fl_6_22 n_1 gf_1_3 ?_
    refine fe_lan (pc' := 13) dX6_toNextToken_12 rfl rfl ?_
    refine fe_gf (pc' := 16) dX6_toNextToken_13 rfl fl_6_15 n_1 gf_1_1 ?_
    refine fe_ic_ge (pc' := 19) (tgt := 46) dX6_toNextToken_16 rfl rfl (fun hc1 => ?_) (fun hc1 => ?_)
    · replace h := (if_pos hc1).symm.trans h
      cases h
      exact k1
    · replace h := (if_neg hc1).symm.trans h
      refine fe_lan (pc' := 20) dX6_toNextToken_19 rfl rfl ?_
      refine fe_gf (pc' := 23) dX6_toNextToken_20 rfl fl_6_9 n_1 gf_1_0 ?_
      refine fe_lan (pc' := 24) dX6_toNextToken_23 rfl rfl ?_
      refine fe_gf (pc' := 27) dX6_toNextToken_24 rfl fl_6_22 n_1 gf_1_3 ?_
      obtain ⟨hi2, h⟩ := am_gd rfl h
      refine fe_al (pc' := 28) (j := (g.1 1 3).toNatClampNeg) dX6_toNextToken_27 rfl n_2 s_2 hi2 rfl ?_
      refine fe_bp (pc' := 30) dX6_toNextToken_28 rfl ib_32 ?_
      refine fe_ic_ne (pc' := 33) (tgt := 46) dX6_toNextToken_30 rfl rfl (fun hc3 => ?_) (fun hc3 => ?_)
      · replace h := (if_pos hc3).symm.trans h
        refine fe_lan (pc' := 34) dX6_toNextToken_33 rfl rfl ?_
        refine fe_dup (pc' := 35) dX6_toNextToken_34 rfl rfl ?_
        refine fe_gf (pc' := 38) dX6_toNextToken_35 rfl fl_6_22 n_1 gf_1_3 ?_
        refine fe_ic (pc' := 39) dX6_toNextToken_38 rfl ic_1 ?_
        refine fe_iadd (pc' := 40) dX6_toNextToken_39 rfl ?_
        refine fe_pi (pc' := 43) dX6_toNextToken_40 rfl fl_6_22 n_1 s_1 rfl ⟨rfl, Or.inl rfl⟩ ?_
        refine fe_go (tgt := 8) dX6_toNextToken_43 rfl ?_
        exact ih (am_wr g 1 3 ((g.1 1 3) + 1)) q h k1
      · replace h := (if_neg hc3).symm.trans h
        cases h
        exact k1
set_option maxRecDepth 4000 in
theorem ev_Tx_toNextToken {g : am_G} {w : am_G} (h : Tx_toNextToken g  = some w) : am_Ev 3 65 [.ref 1] (sh0, g) (sh0, w) (none) := by
  unfold Tx_toNextToken at h
  refine am_ev mX6_toNextToken (by rfl) (Nat.le_of_ble_eq_true rfl) [(0, .ref 1)] rfl ?_
  refine fe_lan (pc' := 1) dX6_toNextToken_0 rfl rfl ?_
  refine fe_lan (pc' := 2) dX6_toNextToken_1 rfl rfl ?_
  refine fe_gf (pc' := 5) dX6_toNextToken_2 rfl fl_6_25 n_1 gf_1_4 ?_
  refine fe_pi (pc' := 8) dX6_toNextToken_5 rfl fl_6_22 n_1 s_1 rfl ⟨rfl, Or.inl rfl⟩ ?_
  obtain ⟨q4, hq19, h⟩ := am_bd h
  refine lp_Tx_toNextToken_L8 _ (am_wr g 1 3 (g.1 1 4)) q4 hq19 ?_
  refine fe_lan (pc' := 47) dX6_toNextToken_46 rfl rfl ?_
  refine fe_lan (pc' := 48) dX6_toNextToken_47 rfl rfl ?_
  refine fe_gf (pc' := 51) dX6_toNextToken_48 rfl fl_6_22 n_1 gf_1_3 ?_
  refine fe_pi (pc' := 54) dX6_toNextToken_51 rfl fl_6_25 n_1 s_1 rfl ⟨rfl, Or.inl rfl⟩ ?_
  refine fe_lan (pc' := 55) dX6_toNextToken_54 rfl rfl ?_
  refine fe_ic (pc' := 56) dX6_toNextToken_55 rfl ic_0 ?_
  refine fe_pi (pc' := 59) dX6_toNextToken_56 rfl fl_6_28 n_1 s_1 rfl ⟨rfl, Or.inl rfl⟩ ?_
  refine fe_lan (pc' := 60) dX6_toNextToken_59 rfl rfl ?_
  refine fe_gf (pc' := 63) dX6_toNextToken_60 rfl fl_6_22 n_1 gf_1_3 ?_
  refine fe_lan (pc' := 64) dX6_toNextToken_63 rfl rfl ?_
  refine fe_gf (pc' := 67) dX6_toNextToken_64 rfl fl_6_15 n_1 gf_1_1 ?_
  refine fe_ic_lt (pc' := 70) (tgt := 78) dX6_toNextToken_67 rfl rfl (fun hc5 => ?_) (fun hc5 => ?_)
  · replace h := (if_pos hc5).symm.trans h
    refine fe_lan (pc' := 79) dX6_toNextToken_78 rfl rfl ?_
    refine fe_gf (pc' := 82) dX6_toNextToken_79 rfl fl_6_9 n_1 gf_1_0 ?_
    refine fe_lan (pc' := 83) dX6_toNextToken_82 rfl rfl ?_
    refine fe_gf (pc' := 86) dX6_toNextToken_83 rfl fl_6_22 n_1 gf_1_3 ?_
    obtain ⟨hi6, h⟩ := am_gd rfl h
    refine fe_al (pc' := 87) (j := ((am_wr (am_wr q4 1 4 (q4.1 1 3)) 1 5 0).1 1 3).toNatClampNeg) dX6_toNextToken_86 rfl n_2 s_2 hi6 rfl ?_
    obtain ⟨q7, hq8, h⟩ := am_bd h
    refine fe_is (pc' := 90) (as := [.int ((am_wr (am_wr q4 1 4 (q4.1 1 3)) 1 5 0).1 2 ((am_wr (am_wr q4 1 4 (q4.1 1 3)) 1 5 0).1 1 3).toNatClampNeg)]) (h1 := (sh0, am_wr (am_wr q4 1 4 (q4.1 1 3)) 1 5 0)) (r1 := some (.int (am_b q7))) (st' := [.int (am_b q7)]) dX6_toNextToken_87 rfl cl_6_34 (Or.inl rfl) rfl rfl ⟨Nat.le_of_ble_eq_true rfl, Nat.le_of_ble_eq_true rfl⟩ (am_le0 _ _ _) (am_up (by decide) (ev_Tx_isLetter hq8)) rfl ?_
    refine fe_bT (pc' := 93) (tgt := 100) dX6_toNextToken_90 rfl rfl rfl (fun hc9 => ?_) (fun hc9 => ?_)
    · replace h := (if_pos hc9).symm.trans h
      refine fe_lan (pc' := 94) dX6_toNextToken_93 rfl rfl ?_
      obtain ⟨q10, hq11, h⟩ := am_bd h
      refine fe_iv (pc' := 97) (as := [.ref 1]) (h1 := (sh0, q10)) (r1 := none) (st' := []) dX6_toNextToken_94 rfl cl_6_38 rfl rfl s_1 ms_66 ⟨n_1, rfl, by decide, Nat.le_of_ble_eq_true rfl, Nat.le_of_ble_eq_true rfl⟩ (am_le0 _ _ _) (am_up (by decide) (ev_Tx_readLetters hq11)) rfl ?_
      refine fe_go (tgt := 155) dX6_toNextToken_97 rfl ?_
      cases h
      exact fe_rv dX6_toNextToken_155 rfl
    · replace h := (if_neg hc9).symm.trans h
      refine fe_lan (pc' := 101) dX6_toNextToken_100 rfl rfl ?_
      refine fe_gf (pc' := 104) dX6_toNextToken_101 rfl fl_6_9 n_1 gf_1_0 ?_
      refine fe_lan (pc' := 105) dX6_toNextToken_104 rfl rfl ?_
      refine fe_gf (pc' := 108) dX6_toNextToken_105 rfl fl_6_22 n_1 gf_1_3 ?_
      refine fe_al (pc' := 109) (j := ((am_wr (am_wr q4 1 4 (q4.1 1 3)) 1 5 0).1 1 3).toNatClampNeg) dX6_toNextToken_108 rfl n_2 s_2 hi6 rfl ?_
      obtain ⟨q12, hq13, h⟩ := am_bd h
      refine fe_is (pc' := 112) (as := [.int ((am_wr (am_wr q4 1 4 (q4.1 1 3)) 1 5 0).1 2 ((am_wr (am_wr q4 1 4 (q4.1 1 3)) 1 5 0).1 1 3).toNatClampNeg)]) (h1 := (sh0, am_wr (am_wr q4 1 4 (q4.1 1 3)) 1 5 0)) (r1 := some (.int (am_b q12))) (st' := [.int (am_b q12)]) dX6_toNextToken_109 rfl cl_6_41 (Or.inl rfl) rfl rfl ⟨Nat.le_of_ble_eq_true rfl, Nat.le_of_ble_eq_true rfl⟩ (am_le0 _ _ _) (am_up (by decide) (ev_Tx_isDigit hq13)) rfl ?_
      refine fe_bT (pc' := 115) (tgt := 122) dX6_toNextToken_112 rfl rfl rfl (fun hc14 => ?_) (fun hc14 => ?_)
      · replace h := (if_pos hc14).symm.trans h
        refine fe_lan (pc' := 116) dX6_toNextToken_115 rfl rfl ?_
        obtain ⟨q15, hq16, h⟩ := am_bd h
        refine fe_iv (pc' := 119) (as := [.ref 1]) (h1 := (sh0, q15)) (r1 := none) (st' := []) dX6_toNextToken_116 rfl cl_6_44 rfl rfl s_1 ms_67 ⟨n_1, rfl, by decide, Nat.le_of_ble_eq_true rfl, Nat.le_of_ble_eq_true rfl⟩ (am_le0 _ _ _) (am_up (by decide) (ev_Tx_readNumber hq16)) rfl ?_
        refine fe_go (tgt := 155) dX6_toNextToken_119 rfl ?_
        cases h
        exact fe_rv dX6_toNextToken_155 rfl
      · replace h := (if_neg hc14).symm.trans h
        refine fe_lan (pc' := 123) dX6_toNextToken_122 rfl rfl ?_
        refine fe_lan (pc' := 124) dX6_toNextToken_123 rfl rfl ?_
        refine fe_gf (pc' := 127) dX6_toNextToken_124 rfl fl_6_9 n_1 gf_1_0 ?_
        refine fe_lan (pc' := 128) dX6_toNextToken_127 rfl rfl ?_
        refine fe_gf (pc' := 131) dX6_toNextToken_128 rfl fl_6_22 n_1 gf_1_3 ?_
        refine fe_al (pc' := 132) (j := ((am_wr (am_wr q4 1 4 (q4.1 1 3)) 1 5 0).1 1 3).toNatClampNeg) dX6_toNextToken_131 rfl n_2 s_2 hi6 rfl ?_
        refine fe_bp (pc' := 134) dX6_toNextToken_132 rfl ib_59 ?_
        have K : am_E 2 mX6_toNextToken (142, [(0, .ref 1)], [.int (if ((am_wr (am_wr q4 1 4 (q4.1 1 3)) 1 5 0).1 2 ((am_wr (am_wr q4 1 4 (q4.1 1 3)) 1 5 0).1 1 3).toNatClampNeg) = 59 then 3 else 4 : Int32), .ref 1], (sh0, am_wr (am_wr q4 1 4 (q4.1 1 3)) 1 5 0)) (sh0, w) (none) := by
          refine fe_pi (pc' := 145) dX6_toNextToken_142 rfl fl_6_19 n_1 s_1 rfl ⟨rfl, Or.inl rfl⟩ ?_
          refine fe_lan (pc' := 146) dX6_toNextToken_145 rfl rfl ?_
          refine fe_lan (pc' := 147) dX6_toNextToken_146 rfl rfl ?_
          refine fe_gf (pc' := 150) dX6_toNextToken_147 rfl fl_6_22 n_1 gf_1_3 ?_
          refine fe_ic (pc' := 151) dX6_toNextToken_150 rfl ic_1 ?_
          refine fe_iadd (pc' := 152) dX6_toNextToken_151 rfl ?_
          refine fe_pi (pc' := 155) dX6_toNextToken_152 rfl fl_6_25 n_1 s_1 rfl ⟨rfl, Or.inl rfl⟩ ?_
          cases h
          exact fe_rv dX6_toNextToken_155 rfl
        refine fe_ic_ne (pc' := 137) (tgt := 141) dX6_toNextToken_134 rfl rfl (fun hc17 => ?_) (fun hc17 => ?_)
        · refine fe_ic (pc' := 138) dX6_toNextToken_137 rfl ic_3 ?_
          refine fe_go (tgt := 142) dX6_toNextToken_138 rfl ?_
          simp only [if_pos hc17] at K ⊢
          exact K
        · refine fe_ic (pc' := 142) dX6_toNextToken_141 rfl ic_4 ?_
          simp only [if_neg hc17] at K ⊢
          exact K
  · replace h := (if_neg hc5).symm.trans h
    refine fe_lan (pc' := 71) dX6_toNextToken_70 rfl rfl ?_
    refine fe_ic (pc' := 72) dX6_toNextToken_71 rfl ic_0 ?_
    refine fe_pi (pc' := 75) dX6_toNextToken_72 rfl fl_6_19 n_1 s_1 rfl ⟨rfl, Or.inl rfl⟩ ?_
    refine fe_go (tgt := 155) dX6_toNextToken_75 rfl ?_
    cases h
    exact fe_rv dX6_toNextToken_155 rfl
-- Tx_toFirstToken: X6_toFirstToken
set_option maxRecDepth 4000 in
theorem ev_Tx_toFirstToken {g : am_G} {w : am_G} (h : Tx_toFirstToken g  = some w) : am_Ev 4 64 [.ref 1] (sh0, g) (sh0, w) (none) := by
  unfold Tx_toFirstToken at h
  refine am_ev mX6_toFirstToken (by rfl) (Nat.le_of_ble_eq_true rfl) [(0, .ref 1)] rfl ?_
  refine fe_lan (pc' := 1) dX6_toFirstToken_0 rfl rfl ?_
  refine fe_ic (pc' := 2) dX6_toFirstToken_1 rfl ic_0 ?_
  refine fe_pi (pc' := 5) dX6_toFirstToken_2 rfl fl_6_25 n_1 s_1 rfl ⟨rfl, Or.inl rfl⟩ ?_
  refine fe_lan (pc' := 6) dX6_toFirstToken_5 rfl rfl ?_
  obtain ⟨q1, hq2, h⟩ := am_bd h
  refine fe_iv (pc' := 9) (as := [.ref 1]) (h1 := (sh0, q1)) (r1 := none) (st' := []) dX6_toFirstToken_6 rfl cl_6_31 rfl rfl s_1 ms_65 ⟨n_1, rfl, by decide, Nat.le_of_ble_eq_true rfl, Nat.le_of_ble_eq_true rfl⟩ (am_le0 _ _ _) (am_up (by decide) (ev_Tx_toNextToken hq2)) rfl ?_
  cases h
  exact fe_rv dX6_toFirstToken_9 rfl
-- Re_number: X4_number
set_option maxRecDepth 4000 in
theorem ev_Re_number {g : am_G} {x1 x2 : Int32} {w : (am_G × Int32)} (h : Re_number g x1 x2 = some w) : am_Ev 4 57 [.ref 14, .int x1, .int x2] (sh0, g) (sh0, w.1) (some (.int w.2)) := by
  unfold Re_number at h
  refine am_ev mX4_number (by rfl) (Nat.le_of_ble_eq_true rfl) [(0, .ref 14), (1, .int x1), (2, .int x2)] rfl ?_
  refine fe_lan (pc' := 1) dX4_number_0 rfl rfl ?_
  refine fe_gf (pc' := 4) dX4_number_1 rfl fl_4_18 n_14 gf_14_2 ?_
  refine fe_if_ne (pc' := 7) (tgt := 33) dX4_number_4 rfl rfl (fun hc1 => ?_) (fun hc1 => ?_)
  · replace h := (if_pos hc1).symm.trans h
    refine fe_lan (pc' := 8) dX4_number_7 rfl rfl ?_
    refine fe_gf (pc' := 11) dX4_number_8 rfl fl_4_22 n_14 gf_14_0 ?_
    refine fe_gf (pc' := 14) dX4_number_11 rfl fl_4_41 n_1 gf_1_2 ?_
    refine fe_ic (pc' := 15) dX4_number_14 rfl ic_2 ?_
    refine fe_ic_ne (pc' := 18) (tgt := 33) dX4_number_15 rfl rfl (fun hc2 => ?_) (fun hc2 => ?_)
    · replace h := (if_pos hc2).symm.trans h
      refine fe_lan (pc' := 19) dX4_number_18 rfl rfl ?_
      refine fe_gf (pc' := 22) dX4_number_19 rfl fl_4_22 n_14 gf_14_0 ?_
      refine fe_gf (pc' := 25) dX4_number_22 rfl fl_4_47 n_1 gf_1_5 ?_
      refine fe_lin (pc' := 26) dX4_number_25 rfl rfl ?_
      refine fe_lin (pc' := 27) dX4_number_26 rfl rfl ?_
      obtain ⟨q3, hq4, h⟩ := am_bd h
      refine fe_is (pc' := 30) (as := [.int (g.1 1 5), .int x1, .int x2]) (h1 := (sh0, g)) (r1 := some (.int (am_b q3))) (st' := [.int (am_b q3)]) dX4_number_27 rfl cl_4_101 (Or.inr rfl) rfl rfl ⟨Nat.le_of_ble_eq_true rfl, Nat.le_of_ble_eq_true rfl⟩ (am_le0 _ _ _) (am_up (by decide) (ev_Tb_isWithin hq4)) rfl ?_
      refine fe_bF (pc' := 33) (tgt := 40) dX4_number_30 rfl rfl rfl (fun hc5 => ?_) (fun hc5 => ?_)
      · replace h := (if_pos hc5).symm.trans h
        refine fe_lan (pc' := 41) dX4_number_40 rfl rfl ?_
        refine fe_gf (pc' := 44) dX4_number_41 rfl fl_4_22 n_14 gf_14_0 ?_
        refine fe_gf (pc' := 47) dX4_number_44 rfl fl_4_47 n_1 gf_1_5 ?_
        refine fe_sin (pc' := 48) (lo' := [(0, .ref 14), (1, .int x1), (2, .int x2), (3, .int (g.1 1 5))]) dX4_number_47 rfl (Nat.le_of_ble_eq_true rfl) rfl ?_
        refine fe_lan (pc' := 49) dX4_number_48 rfl rfl ?_
        refine fe_gf (pc' := 52) dX4_number_49 rfl fl_4_22 n_14 gf_14_0 ?_
        obtain ⟨q6, hq7, h⟩ := am_bd h
        refine fe_iv (pc' := 55) (as := [.ref 1]) (h1 := (sh0, q6)) (r1 := none) (st' := []) dX4_number_52 rfl cl_4_60 rfl rfl s_1 ms_65 ⟨n_1, rfl, by decide, Nat.le_of_ble_eq_true rfl, Nat.le_of_ble_eq_true rfl⟩ (am_le0 _ _ _) (am_up (by decide) (ev_Tx_toNextToken hq7)) rfl ?_
        refine fe_lin (pc' := 56) dX4_number_55 rfl rfl ?_
        cases h
        exact fe_ri dX4_number_56 rfl
      · replace h := (if_neg hc5).symm.trans h
        refine fe_lan (pc' := 34) dX4_number_33 rfl rfl ?_
        refine fe_ic (pc' := 35) dX4_number_34 rfl ic_1 ?_
        refine fe_pi (pc' := 38) dX4_number_35 rfl fl_4_18 n_14 s_14 rfl ⟨rfl, Or.inr ⟨rfl, Or.inr rfl⟩⟩ ?_
        refine fe_ic (pc' := 39) dX4_number_38 rfl ic_0 ?_
        cases h
        exact fe_ri dX4_number_39 rfl
    · replace h := (if_neg hc2).symm.trans h
      refine fe_lan (pc' := 34) dX4_number_33 rfl rfl ?_
      refine fe_ic (pc' := 35) dX4_number_34 rfl ic_1 ?_
      refine fe_pi (pc' := 38) dX4_number_35 rfl fl_4_18 n_14 s_14 rfl ⟨rfl, Or.inr ⟨rfl, Or.inr rfl⟩⟩ ?_
      refine fe_ic (pc' := 39) dX4_number_38 rfl ic_0 ?_
      cases h
      exact fe_ri dX4_number_39 rfl
  · replace h := (if_neg hc1).symm.trans h
    refine fe_lan (pc' := 34) dX4_number_33 rfl rfl ?_
    refine fe_ic (pc' := 35) dX4_number_34 rfl ic_1 ?_
    refine fe_pi (pc' := 38) dX4_number_35 rfl fl_4_18 n_14 s_14 rfl ⟨rfl, Or.inr ⟨rfl, Or.inr rfl⟩⟩ ?_
    refine fe_ic (pc' := 39) dX4_number_38 rfl ic_0 ?_
    cases h
    exact fe_ri dX4_number_39 rfl
-- Re_endItem: X4_endItem
set_option maxRecDepth 4000 in
theorem ev_Re_endItem {g : am_G} {w : am_G} (h : Re_endItem g  = some w) : am_Ev 4 58 [.ref 14] (sh0, g) (sh0, w) (none) := by
  unfold Re_endItem at h
  refine am_ev mX4_endItem (by rfl) (Nat.le_of_ble_eq_true rfl) [(0, .ref 14)] rfl ?_
  refine fe_lan (pc' := 1) dX4_endItem_0 rfl rfl ?_
  refine fe_gf (pc' := 4) dX4_endItem_1 rfl fl_4_18 n_14 gf_14_2 ?_
  refine fe_if_ne (pc' := 7) (tgt := 18) dX4_endItem_4 rfl rfl (fun hc1 => ?_) (fun hc1 => ?_)
  · replace h := (if_pos hc1).symm.trans h
    refine fe_lan (pc' := 8) dX4_endItem_7 rfl rfl ?_
    refine fe_gf (pc' := 11) dX4_endItem_8 rfl fl_4_22 n_14 gf_14_0 ?_
    refine fe_gf (pc' := 14) dX4_endItem_11 rfl fl_4_41 n_1 gf_1_2 ?_
    refine fe_ic (pc' := 15) dX4_endItem_14 rfl ic_3 ?_
    refine fe_ic_eq (pc' := 18) (tgt := 26) dX4_endItem_15 rfl rfl (fun hc2 => ?_) (fun hc2 => ?_)
    · replace h := (if_pos hc2).symm.trans h
      refine fe_lan (pc' := 27) dX4_endItem_26 rfl rfl ?_
      refine fe_gf (pc' := 30) dX4_endItem_27 rfl fl_4_22 n_14 gf_14_0 ?_
      obtain ⟨q3, hq4, h⟩ := am_bd h
      refine fe_iv (pc' := 33) (as := [.ref 1]) (h1 := (sh0, q3)) (r1 := none) (st' := []) dX4_endItem_30 rfl cl_4_60 rfl rfl s_1 ms_65 ⟨n_1, rfl, by decide, Nat.le_of_ble_eq_true rfl, Nat.le_of_ble_eq_true rfl⟩ (am_le0 _ _ _) (am_up (by decide) (ev_Tx_toNextToken hq4)) rfl ?_
      cases h
      exact fe_rv dX4_endItem_33 rfl
    · replace h := (if_neg hc2).symm.trans h
      refine fe_lan (pc' := 19) dX4_endItem_18 rfl rfl ?_
      refine fe_ic (pc' := 20) dX4_endItem_19 rfl ic_1 ?_
      refine fe_pi (pc' := 23) dX4_endItem_20 rfl fl_4_18 n_14 s_14 rfl ⟨rfl, Or.inr ⟨rfl, Or.inr rfl⟩⟩ ?_
      refine fe_go (tgt := 33) dX4_endItem_23 rfl ?_
      cases h
      exact fe_rv dX4_endItem_33 rfl
  · replace h := (if_neg hc1).symm.trans h
    refine fe_lan (pc' := 19) dX4_endItem_18 rfl rfl ?_
    refine fe_ic (pc' := 20) dX4_endItem_19 rfl ic_1 ?_
    refine fe_pi (pc' := 23) dX4_endItem_20 rfl fl_4_18 n_14 s_14 rfl ⟨rfl, Or.inr ⟨rfl, Or.inr rfl⟩⟩ ?_
    refine fe_go (tgt := 33) dX4_endItem_23 rfl ?_
    cases h
    exact fe_rv dX4_endItem_33 rfl
-- Re_readStage: X4_readStage
set_option maxRecDepth 4000 in
theorem ev_Re_readStage {g : am_G} {x1 : Int32} {w : am_G} (h : Re_readStage g x1 = some w) : am_Ev 5 56 [.ref 14, .int x1] (sh0, g) (sh0, w) (none) := by
  unfold Re_readStage at h
  refine am_ev mX4_readStage (by rfl) (Nat.le_of_ble_eq_true rfl) [(0, .ref 14), (1, .int x1)] rfl ?_
  refine fe_lan (pc' := 1) dX4_readStage_0 rfl rfl ?_
  refine fe_gf (pc' := 4) dX4_readStage_1 rfl fl_4_22 n_14 gf_14_0 ?_
  obtain ⟨q1, hq2, h⟩ := am_bd h
  refine fe_iv (pc' := 7) (as := [.ref 1]) (h1 := (sh0, q1)) (r1 := none) (st' := []) dX4_readStage_4 rfl cl_4_60 rfl rfl s_1 ms_65 ⟨n_1, rfl, by decide, Nat.le_of_ble_eq_true rfl, Nat.le_of_ble_eq_true rfl⟩ (am_le0 _ _ _) (am_up (by decide) (ev_Tx_toNextToken hq2)) rfl ?_
  refine fe_lan (pc' := 8) dX4_readStage_7 rfl rfl ?_
  refine fe_gf (pc' := 11) dX4_readStage_8 rfl fl_4_12 n_14 gf_14_1 ?_
  refine fe_gf (pc' := 14) dX4_readStage_11 rfl fl_4_92 n_15 gf_15_10 ?_
  refine fe_lin (pc' := 15) dX4_readStage_14 rfl rfl ?_
  refine fe_lan (pc' := 16) dX4_readStage_15 rfl rfl ?_
  refine fe_ic (pc' := 17) dX4_readStage_16 rfl ic_1 ?_
  refine fe_bp (pc' := 19) dX4_readStage_17 rfl ib_20 ?_
  obtain ⟨q3, hq4, h⟩ := am_bd h
  refine fe_iv (pc' := 22) (as := [.ref 14, .int 1, .int 20]) (h1 := (sh0, q3.1)) (r1 := some (.int q3.2)) (st' := [.int q3.2, .int x1, .ref 23]) dX4_readStage_19 rfl cl_4_67 rfl rfl s_14 ms_57 ⟨n_14, rfl, by decide, Nat.le_of_ble_eq_true rfl, Nat.le_of_ble_eq_true rfl⟩ (am_le0 _ _ _) (am_up (by decide) (ev_Re_number hq4)) rfl ?_
  obtain ⟨hi5, h⟩ := am_gd rfl h
  refine fe_as (pc' := 23) (j := x1.toNatClampNeg) dX4_readStage_22 rfl n_23 s_23 hi5 rfl ?_
  refine fe_lan (pc' := 24) dX4_readStage_23 rfl rfl ?_
  refine fe_gf (pc' := 27) dX4_readStage_24 rfl fl_4_12 n_14 gf_14_1 ?_
  refine fe_gf (pc' := 30) dX4_readStage_27 rfl fl_4_95 n_15 gf_15_11 ?_
  refine fe_lin (pc' := 31) dX4_readStage_30 rfl rfl ?_
  refine fe_lan (pc' := 32) dX4_readStage_31 rfl rfl ?_
  refine fe_ic (pc' := 33) dX4_readStage_32 rfl ic_0 ?_
  refine fe_ic (pc' := 34) dX4_readStage_33 rfl ic_1 ?_
  obtain ⟨q6, hq7, h⟩ := am_bd h
  refine fe_iv (pc' := 37) (as := [.ref 14, .int 0, .int 1]) (h1 := (sh0, q6.1)) (r1 := some (.int q6.2)) (st' := [.int q6.2, .int x1, .ref 24]) dX4_readStage_34 rfl cl_4_67 rfl rfl s_14 ms_57 ⟨n_14, rfl, by decide, Nat.le_of_ble_eq_true rfl, Nat.le_of_ble_eq_true rfl⟩ (am_le0 _ _ _) (am_up (by decide) (ev_Re_number hq7)) rfl ?_
  refine fe_as (pc' := 38) (j := x1.toNatClampNeg) dX4_readStage_37 rfl n_24 s_24 hi5 rfl ?_
  refine fe_lan (pc' := 39) dX4_readStage_38 rfl rfl ?_
  refine fe_gf (pc' := 42) dX4_readStage_39 rfl fl_4_12 n_14 gf_14_1 ?_
  refine fe_gf (pc' := 45) dX4_readStage_42 rfl fl_4_98 n_15 gf_15_12 ?_
  refine fe_lin (pc' := 46) dX4_readStage_45 rfl rfl ?_
  refine fe_lan (pc' := 47) dX4_readStage_46 rfl rfl ?_
  refine fe_ic (pc' := 48) dX4_readStage_47 rfl ic_0 ?_
  refine fe_ic (pc' := 49) dX4_readStage_48 rfl ic_1 ?_
  obtain ⟨q8, hq9, h⟩ := am_bd h
  refine fe_iv (pc' := 52) (as := [.ref 14, .int 0, .int 1]) (h1 := (sh0, q8.1)) (r1 := some (.int q8.2)) (st' := [.int q8.2, .int x1, .ref 25]) dX4_readStage_49 rfl cl_4_67 rfl rfl s_14 ms_57 ⟨n_14, rfl, by decide, Nat.le_of_ble_eq_true rfl, Nat.le_of_ble_eq_true rfl⟩ (am_le0 _ _ _) (am_up (by decide) (ev_Re_number hq9)) rfl ?_
  refine fe_as (pc' := 53) (j := x1.toNatClampNeg) dX4_readStage_52 rfl n_25 s_25 hi5 rfl ?_
  refine fe_lan (pc' := 54) dX4_readStage_53 rfl rfl ?_
  refine fe_gf (pc' := 57) dX4_readStage_54 rfl fl_4_12 n_14 gf_14_1 ?_
  refine fe_dup (pc' := 58) dX4_readStage_57 rfl rfl ?_
  refine fe_gf (pc' := 61) dX4_readStage_58 rfl fl_4_33 n_15 gf_15_9 ?_
  refine fe_ic (pc' := 62) dX4_readStage_61 rfl ic_1 ?_
  refine fe_iadd (pc' := 63) dX4_readStage_62 rfl ?_
  refine fe_pi (pc' := 66) dX4_readStage_63 rfl fl_4_33 n_15 s_15 rfl ⟨rfl, Or.inl rfl⟩ ?_
  refine fe_lan (pc' := 67) dX4_readStage_66 rfl rfl ?_
  obtain ⟨q10, hq11, h⟩ := am_bd h
  refine fe_iv (pc' := 70) (as := [.ref 14]) (h1 := (sh0, q10)) (r1 := none) (st' := []) dX4_readStage_67 rfl cl_4_74 rfl rfl s_14 ms_58 ⟨n_14, rfl, by decide, Nat.le_of_ble_eq_true rfl, Nat.le_of_ble_eq_true rfl⟩ (am_le0 _ _ _) (am_up (by decide) (ev_Re_endItem hq11)) rfl ?_
  cases h
  exact fe_rv dX4_readStage_70 rfl
-- Re_readThing: X4_readThing
set_option maxRecDepth 4000 in
theorem ev_Re_readThing {g : am_G} {x1 : Int32} {w : am_G} (h : Re_readThing g x1 = some w) : am_Ev 5 55 [.ref 14, .int x1] (sh0, g) (sh0, w) (none) := by
  unfold Re_readThing at h
  refine am_ev mX4_readThing (by rfl) (Nat.le_of_ble_eq_true rfl) [(0, .ref 14), (1, .int x1)] rfl ?_
  refine fe_lan (pc' := 1) dX4_readThing_0 rfl rfl ?_
  refine fe_gf (pc' := 4) dX4_readThing_1 rfl fl_4_22 n_14 gf_14_0 ?_
  obtain ⟨q1, hq2, h⟩ := am_bd h
  refine fe_iv (pc' := 7) (as := [.ref 1]) (h1 := (sh0, q1)) (r1 := none) (st' := []) dX4_readThing_4 rfl cl_4_60 rfl rfl s_1 ms_65 ⟨n_1, rfl, by decide, Nat.le_of_ble_eq_true rfl, Nat.le_of_ble_eq_true rfl⟩ (am_le0 _ _ _) (am_up (by decide) (ev_Tx_toNextToken hq2)) rfl ?_
  refine fe_lan (pc' := 8) dX4_readThing_7 rfl rfl ?_
  refine fe_gf (pc' := 11) dX4_readThing_8 rfl fl_4_12 n_14 gf_14_1 ?_
  refine fe_gf (pc' := 14) dX4_readThing_11 rfl fl_4_77 n_15 gf_15_4 ?_
  refine fe_lin (pc' := 15) dX4_readThing_14 rfl rfl ?_
  refine fe_lan (pc' := 16) dX4_readThing_15 rfl rfl ?_
  refine fe_ic (pc' := 17) dX4_readThing_16 rfl ic_1 ?_
  refine fe_bp (pc' := 19) dX4_readThing_17 rfl ib_20 ?_
  obtain ⟨q3, hq4, h⟩ := am_bd h
  refine fe_iv (pc' := 22) (as := [.ref 14, .int 1, .int 20]) (h1 := (sh0, q3.1)) (r1 := some (.int q3.2)) (st' := [.int q3.2, .int x1, .ref 18]) dX4_readThing_19 rfl cl_4_67 rfl rfl s_14 ms_57 ⟨n_14, rfl, by decide, Nat.le_of_ble_eq_true rfl, Nat.le_of_ble_eq_true rfl⟩ (am_le0 _ _ _) (am_up (by decide) (ev_Re_number hq4)) rfl ?_
  obtain ⟨hi5, h⟩ := am_gd rfl h
  refine fe_as (pc' := 23) (j := x1.toNatClampNeg) dX4_readThing_22 rfl n_18 s_18 hi5 rfl ?_
  refine fe_lan (pc' := 24) dX4_readThing_23 rfl rfl ?_
  refine fe_gf (pc' := 27) dX4_readThing_24 rfl fl_4_12 n_14 gf_14_1 ?_
  refine fe_gf (pc' := 30) dX4_readThing_27 rfl fl_4_80 n_15 gf_15_5 ?_
  refine fe_lin (pc' := 31) dX4_readThing_30 rfl rfl ?_
  refine fe_lan (pc' := 32) dX4_readThing_31 rfl rfl ?_
  refine fe_ic (pc' := 33) dX4_readThing_32 rfl ic_0 ?_
  refine fe_bp (pc' := 35) dX4_readThing_33 rfl ib_9 ?_
  obtain ⟨q6, hq7, h⟩ := am_bd h
  refine fe_iv (pc' := 38) (as := [.ref 14, .int 0, .int 9]) (h1 := (sh0, q6.1)) (r1 := some (.int q6.2)) (st' := [.int q6.2, .int x1, .ref 19]) dX4_readThing_35 rfl cl_4_67 rfl rfl s_14 ms_57 ⟨n_14, rfl, by decide, Nat.le_of_ble_eq_true rfl, Nat.le_of_ble_eq_true rfl⟩ (am_le0 _ _ _) (am_up (by decide) (ev_Re_number hq7)) rfl ?_
  refine fe_as (pc' := 39) (j := x1.toNatClampNeg) dX4_readThing_38 rfl n_19 s_19 hi5 rfl ?_
  refine fe_lan (pc' := 40) dX4_readThing_39 rfl rfl ?_
  refine fe_gf (pc' := 43) dX4_readThing_40 rfl fl_4_12 n_14 gf_14_1 ?_
  refine fe_gf (pc' := 46) dX4_readThing_43 rfl fl_4_83 n_15 gf_15_6 ?_
  refine fe_lin (pc' := 47) dX4_readThing_46 rfl rfl ?_
  refine fe_lan (pc' := 48) dX4_readThing_47 rfl rfl ?_
  refine fe_ic (pc' := 49) dX4_readThing_48 rfl ic_0 ?_
  refine fe_ic (pc' := 50) dX4_readThing_49 rfl ic_1 ?_
  obtain ⟨q8, hq9, h⟩ := am_bd h
  refine fe_iv (pc' := 53) (as := [.ref 14, .int 0, .int 1]) (h1 := (sh0, q8.1)) (r1 := some (.int q8.2)) (st' := [.int q8.2, .int x1, .ref 20]) dX4_readThing_50 rfl cl_4_67 rfl rfl s_14 ms_57 ⟨n_14, rfl, by decide, Nat.le_of_ble_eq_true rfl, Nat.le_of_ble_eq_true rfl⟩ (am_le0 _ _ _) (am_up (by decide) (ev_Re_number hq9)) rfl ?_
  refine fe_as (pc' := 54) (j := x1.toNatClampNeg) dX4_readThing_53 rfl n_20 s_20 hi5 rfl ?_
  refine fe_lan (pc' := 55) dX4_readThing_54 rfl rfl ?_
  refine fe_gf (pc' := 58) dX4_readThing_55 rfl fl_4_12 n_14 gf_14_1 ?_
  refine fe_gf (pc' := 61) dX4_readThing_58 rfl fl_4_86 n_15 gf_15_7 ?_
  refine fe_lin (pc' := 62) dX4_readThing_61 rfl rfl ?_
  refine fe_lan (pc' := 63) dX4_readThing_62 rfl rfl ?_
  refine fe_ic (pc' := 64) dX4_readThing_63 rfl ic_0 ?_
  refine fe_ic (pc' := 65) dX4_readThing_64 rfl ic_3 ?_
  obtain ⟨q10, hq11, h⟩ := am_bd h
  refine fe_iv (pc' := 68) (as := [.ref 14, .int 0, .int 3]) (h1 := (sh0, q10.1)) (r1 := some (.int q10.2)) (st' := [.int q10.2, .int x1, .ref 21]) dX4_readThing_65 rfl cl_4_67 rfl rfl s_14 ms_57 ⟨n_14, rfl, by decide, Nat.le_of_ble_eq_true rfl, Nat.le_of_ble_eq_true rfl⟩ (am_le0 _ _ _) (am_up (by decide) (ev_Re_number hq11)) rfl ?_
  refine fe_as (pc' := 69) (j := x1.toNatClampNeg) dX4_readThing_68 rfl n_21 s_21 hi5 rfl ?_
  refine fe_lan (pc' := 70) dX4_readThing_69 rfl rfl ?_
  refine fe_gf (pc' := 73) dX4_readThing_70 rfl fl_4_12 n_14 gf_14_1 ?_
  refine fe_gf (pc' := 76) dX4_readThing_73 rfl fl_4_89 n_15 gf_15_8 ?_
  refine fe_lin (pc' := 77) dX4_readThing_76 rfl rfl ?_
  refine fe_lan (pc' := 78) dX4_readThing_77 rfl rfl ?_
  refine fe_ic (pc' := 79) dX4_readThing_78 rfl ic_0 ?_
  refine fe_lan (pc' := 80) dX4_readThing_79 rfl rfl ?_
  refine fe_gf (pc' := 83) dX4_readThing_80 rfl fl_4_12 n_14 gf_14_1 ?_
  refine fe_gf (pc' := 86) dX4_readThing_83 rfl fl_4_26 n_15 gf_15_0 ?_
  refine fe_ic (pc' := 87) dX4_readThing_86 rfl ic_1 ?_
  refine fe_isub (pc' := 88) dX4_readThing_87 rfl ?_
  obtain ⟨q12, hq13, h⟩ := am_bd h
  refine fe_iv (pc' := 91) (as := [.ref 14, .int 0, .int (((am_wr q10.1 21 x1.toNatClampNeg q10.2).1 15 0) - 1)]) (h1 := (sh0, q12.1)) (r1 := some (.int q12.2)) (st' := [.int q12.2, .int x1, .ref 22]) dX4_readThing_88 rfl cl_4_67 rfl rfl s_14 ms_57 ⟨n_14, rfl, by decide, Nat.le_of_ble_eq_true rfl, Nat.le_of_ble_eq_true rfl⟩ (am_le0 _ _ _) (am_up (by decide) (ev_Re_number hq13)) rfl ?_
  refine fe_as (pc' := 92) (j := x1.toNatClampNeg) dX4_readThing_91 rfl n_22 s_22 hi5 rfl ?_
  refine fe_lan (pc' := 93) dX4_readThing_92 rfl rfl ?_
  refine fe_gf (pc' := 96) dX4_readThing_93 rfl fl_4_12 n_14 gf_14_1 ?_
  refine fe_dup (pc' := 97) dX4_readThing_96 rfl rfl ?_
  refine fe_gf (pc' := 100) dX4_readThing_97 rfl fl_4_30 n_15 gf_15_3 ?_
  refine fe_ic (pc' := 101) dX4_readThing_100 rfl ic_1 ?_
  refine fe_iadd (pc' := 102) dX4_readThing_101 rfl ?_
  refine fe_pi (pc' := 105) dX4_readThing_102 rfl fl_4_30 n_15 s_15 rfl ⟨rfl, Or.inl rfl⟩ ?_
  refine fe_lan (pc' := 106) dX4_readThing_105 rfl rfl ?_
  obtain ⟨q14, hq15, h⟩ := am_bd h
  refine fe_iv (pc' := 109) (as := [.ref 14]) (h1 := (sh0, q14)) (r1 := none) (st' := []) dX4_readThing_106 rfl cl_4_74 rfl rfl s_14 ms_58 ⟨n_14, rfl, by decide, Nat.le_of_ble_eq_true rfl, Nat.le_of_ble_eq_true rfl⟩ (am_le0 _ _ _) (am_up (by decide) (ev_Re_endItem hq15)) rfl ?_
  cases h
  exact fe_rv dX4_readThing_109 rfl
-- Re_readWalker: X4_readWalker
set_option maxRecDepth 4000 in
theorem ev_Re_readWalker {g : am_G} {x1 : Int32} {w : am_G} (h : Re_readWalker g x1 = some w) : am_Ev 5 54 [.ref 14, .int x1] (sh0, g) (sh0, w) (none) := by
  unfold Re_readWalker at h
  refine am_ev mX4_readWalker (by rfl) (Nat.le_of_ble_eq_true rfl) [(0, .ref 14), (1, .int x1)] rfl ?_
  refine fe_lan (pc' := 1) dX4_readWalker_0 rfl rfl ?_
  refine fe_gf (pc' := 4) dX4_readWalker_1 rfl fl_4_22 n_14 gf_14_0 ?_
  obtain ⟨q1, hq2, h⟩ := am_bd h
  refine fe_iv (pc' := 7) (as := [.ref 1]) (h1 := (sh0, q1)) (r1 := none) (st' := []) dX4_readWalker_4 rfl cl_4_60 rfl rfl s_1 ms_65 ⟨n_1, rfl, by decide, Nat.le_of_ble_eq_true rfl, Nat.le_of_ble_eq_true rfl⟩ (am_le0 _ _ _) (am_up (by decide) (ev_Tx_toNextToken hq2)) rfl ?_
  refine fe_lan (pc' := 8) dX4_readWalker_7 rfl rfl ?_
  refine fe_gf (pc' := 11) dX4_readWalker_8 rfl fl_4_12 n_14 gf_14_1 ?_
  refine fe_gf (pc' := 14) dX4_readWalker_11 rfl fl_4_63 n_15 gf_15_1 ?_
  refine fe_lin (pc' := 15) dX4_readWalker_14 rfl rfl ?_
  refine fe_lan (pc' := 16) dX4_readWalker_15 rfl rfl ?_
  refine fe_ic (pc' := 17) dX4_readWalker_16 rfl ic_1 ?_
  refine fe_bp (pc' := 19) dX4_readWalker_17 rfl ib_40 ?_
  obtain ⟨q3, hq4, h⟩ := am_bd h
  refine fe_iv (pc' := 22) (as := [.ref 14, .int 1, .int 40]) (h1 := (sh0, q3.1)) (r1 := some (.int q3.2)) (st' := [.int q3.2, .int x1, .ref 16]) dX4_readWalker_19 rfl cl_4_67 rfl rfl s_14 ms_57 ⟨n_14, rfl, by decide, Nat.le_of_ble_eq_true rfl, Nat.le_of_ble_eq_true rfl⟩ (am_le0 _ _ _) (am_up (by decide) (ev_Re_number hq4)) rfl ?_
  obtain ⟨hi5, h⟩ := am_gd rfl h
  refine fe_as (pc' := 23) (j := x1.toNatClampNeg) dX4_readWalker_22 rfl n_16 s_16 hi5 rfl ?_
  refine fe_lan (pc' := 24) dX4_readWalker_23 rfl rfl ?_
  refine fe_gf (pc' := 27) dX4_readWalker_24 rfl fl_4_12 n_14 gf_14_1 ?_
  refine fe_gf (pc' := 30) dX4_readWalker_27 rfl fl_4_71 n_15 gf_15_2 ?_
  refine fe_lin (pc' := 31) dX4_readWalker_30 rfl rfl ?_
  refine fe_lan (pc' := 32) dX4_readWalker_31 rfl rfl ?_
  refine fe_ic (pc' := 33) dX4_readWalker_32 rfl ic_0 ?_
  refine fe_ic (pc' := 34) dX4_readWalker_33 rfl ic_5 ?_
  obtain ⟨q6, hq7, h⟩ := am_bd h
  refine fe_iv (pc' := 37) (as := [.ref 14, .int 0, .int 5]) (h1 := (sh0, q6.1)) (r1 := some (.int q6.2)) (st' := [.int q6.2, .int x1, .ref 17]) dX4_readWalker_34 rfl cl_4_67 rfl rfl s_14 ms_57 ⟨n_14, rfl, by decide, Nat.le_of_ble_eq_true rfl, Nat.le_of_ble_eq_true rfl⟩ (am_le0 _ _ _) (am_up (by decide) (ev_Re_number hq7)) rfl ?_
  refine fe_as (pc' := 38) (j := x1.toNatClampNeg) dX4_readWalker_37 rfl n_17 s_17 hi5 rfl ?_
  refine fe_lan (pc' := 39) dX4_readWalker_38 rfl rfl ?_
  refine fe_gf (pc' := 42) dX4_readWalker_39 rfl fl_4_12 n_14 gf_14_1 ?_
  refine fe_dup (pc' := 43) dX4_readWalker_42 rfl rfl ?_
  refine fe_gf (pc' := 46) dX4_readWalker_43 rfl fl_4_26 n_15 gf_15_0 ?_
  refine fe_ic (pc' := 47) dX4_readWalker_46 rfl ic_1 ?_
  refine fe_iadd (pc' := 48) dX4_readWalker_47 rfl ?_
  refine fe_pi (pc' := 51) dX4_readWalker_48 rfl fl_4_26 n_15 s_15 rfl ⟨rfl, Or.inl rfl⟩ ?_
  refine fe_lan (pc' := 52) dX4_readWalker_51 rfl rfl ?_
  obtain ⟨q8, hq9, h⟩ := am_bd h
  refine fe_iv (pc' := 55) (as := [.ref 14]) (h1 := (sh0, q8)) (r1 := none) (st' := []) dX4_readWalker_52 rfl cl_4_74 rfl rfl s_14 ms_58 ⟨n_14, rfl, by decide, Nat.le_of_ble_eq_true rfl, Nat.le_of_ble_eq_true rfl⟩ (am_le0 _ _ _) (am_up (by decide) (ev_Re_endItem hq9)) rfl ?_
  cases h
  exact fe_rv dX4_readWalker_55 rfl
-- Re_readItem: X4_readItem
set_option maxRecDepth 4000 in
theorem ev_Re_readItem {g : am_G} {w : am_G} (h : Re_readItem g  = some w) : am_Ev 6 53 [.ref 14] (sh0, g) (sh0, w) (none) := by
  unfold Re_readItem at h
  refine am_ev mX4_readItem (by rfl) (Nat.le_of_ble_eq_true rfl) [(0, .ref 14)] rfl ?_
  refine fe_lan (pc' := 1) dX4_readItem_0 rfl rfl ?_
  refine fe_gf (pc' := 4) dX4_readItem_1 rfl fl_4_22 n_14 gf_14_0 ?_
  refine fe_gf (pc' := 7) dX4_readItem_4 rfl fl_4_41 n_1 gf_1_2 ?_
  refine fe_ic (pc' := 8) dX4_readItem_7 rfl ic_1 ?_
  have K : am_E 5 mX4_readItem (22, [(0, .ref 14)], [.int (if (g.1 1 2) = 1 then g.1 1 5 else 0 : Int32)], (sh0, g)) (sh0, w) (none) := by
    refine fe_sin (pc' := 23) (lo' := [(0, .ref 14), (1, .int (if (g.1 1 2) = 1 then g.1 1 5 else 0 : Int32))]) dX4_readItem_22 rfl (Nat.le_of_ble_eq_true rfl) rfl ?_
    refine fe_lin (pc' := 24) dX4_readItem_23 rfl rfl ?_
    refine fe_bp (pc' := 26) dX4_readItem_24 rfl ib_119 ?_
    refine fe_ic_ne (pc' := 29) (tgt := 54) dX4_readItem_26 rfl rfl (fun hc3 => ?_) (fun hc3 => ?_)
    · replace h := (if_pos hc3).symm.trans h
      refine fe_lan (pc' := 30) dX4_readItem_29 rfl rfl ?_
      refine fe_gf (pc' := 33) dX4_readItem_30 rfl fl_4_12 n_14 gf_14_1 ?_
      refine fe_gf (pc' := 36) dX4_readItem_33 rfl fl_4_26 n_15 gf_15_0 ?_
      refine fe_ic (pc' := 37) dX4_readItem_36 rfl ic_4 ?_
      refine fe_ic_ge (pc' := 40) (tgt := 54) dX4_readItem_37 rfl rfl (fun hc4 => ?_) (fun hc4 => ?_)
      · replace h := (if_pos hc4).symm.trans h
        refine fe_lin (pc' := 55) dX4_readItem_54 rfl rfl ?_
        refine fe_bp (pc' := 57) dX4_readItem_55 rfl ib_116 ?_
        refine fe_ic_ne (pc' := 60) (tgt := 86) dX4_readItem_57 rfl rfl (fun hc5 => ?_) (fun hc5 => ?_)
        · replace h := (if_pos hc5).symm.trans h
          refine fe_lan (pc' := 61) dX4_readItem_60 rfl rfl ?_
          refine fe_gf (pc' := 64) dX4_readItem_61 rfl fl_4_12 n_14 gf_14_1 ?_
          refine fe_gf (pc' := 67) dX4_readItem_64 rfl fl_4_30 n_15 gf_15_3 ?_
          refine fe_bp (pc' := 69) dX4_readItem_67 rfl ib_7 ?_
          refine fe_ic_ge (pc' := 72) (tgt := 86) dX4_readItem_69 rfl rfl (fun hc6 => ?_) (fun hc6 => ?_)
          · replace h := (if_pos hc6).symm.trans h
            refine fe_lin (pc' := 87) dX4_readItem_86 rfl rfl ?_
            refine fe_bp (pc' := 89) dX4_readItem_87 rfl ib_115 ?_
            refine fe_ic_ne (pc' := 92) (tgt := 118) dX4_readItem_89 rfl rfl (fun hc7 => ?_) (fun hc7 => ?_)
            · replace h := (if_pos hc7).symm.trans h
              refine fe_lan (pc' := 93) dX4_readItem_92 rfl rfl ?_
              refine fe_gf (pc' := 96) dX4_readItem_93 rfl fl_4_12 n_14 gf_14_1 ?_
              refine fe_gf (pc' := 99) dX4_readItem_96 rfl fl_4_33 n_15 gf_15_9 ?_
              refine fe_bp (pc' := 101) dX4_readItem_99 rfl ib_8 ?_
              refine fe_ic_ge (pc' := 104) (tgt := 118) dX4_readItem_101 rfl rfl (fun hc8 => ?_) (fun hc8 => ?_)
              · replace h := (if_pos hc8).symm.trans h
                refine fe_lan (pc' := 119) dX4_readItem_118 rfl rfl ?_
                refine fe_ic (pc' := 120) dX4_readItem_119 rfl ic_1 ?_
                refine fe_pi (pc' := 123) dX4_readItem_120 rfl fl_4_18 n_14 s_14 rfl ⟨rfl, Or.inr ⟨rfl, Or.inr rfl⟩⟩ ?_
                cases h
                exact fe_rv dX4_readItem_123 rfl
              · replace h := (if_neg hc8).symm.trans h
                refine fe_lan (pc' := 105) dX4_readItem_104 rfl rfl ?_
                refine fe_lan (pc' := 106) dX4_readItem_105 rfl rfl ?_
                refine fe_gf (pc' := 109) dX4_readItem_106 rfl fl_4_12 n_14 gf_14_1 ?_
                refine fe_gf (pc' := 112) dX4_readItem_109 rfl fl_4_33 n_15 gf_15_9 ?_
                obtain ⟨q9, hq10, h⟩ := am_bd h
                refine fe_iv (pc' := 115) (as := [.ref 14, .int (g.1 15 9)]) (h1 := (sh0, q9)) (r1 := none) (st' := []) dX4_readItem_112 rfl cl_4_57 rfl rfl s_14 ms_56 ⟨n_14, rfl, by decide, Nat.le_of_ble_eq_true rfl, Nat.le_of_ble_eq_true rfl⟩ (am_le0 _ _ _) (am_up (by decide) (ev_Re_readStage hq10)) rfl ?_
                refine fe_go (tgt := 123) dX4_readItem_115 rfl ?_
                cases h
                exact fe_rv dX4_readItem_123 rfl
            · replace h := (if_neg hc7).symm.trans h
              refine fe_lan (pc' := 119) dX4_readItem_118 rfl rfl ?_
              refine fe_ic (pc' := 120) dX4_readItem_119 rfl ic_1 ?_
              refine fe_pi (pc' := 123) dX4_readItem_120 rfl fl_4_18 n_14 s_14 rfl ⟨rfl, Or.inr ⟨rfl, Or.inr rfl⟩⟩ ?_
              cases h
              exact fe_rv dX4_readItem_123 rfl
          · replace h := (if_neg hc6).symm.trans h
            refine fe_lan (pc' := 73) dX4_readItem_72 rfl rfl ?_
            refine fe_lan (pc' := 74) dX4_readItem_73 rfl rfl ?_
            refine fe_gf (pc' := 77) dX4_readItem_74 rfl fl_4_12 n_14 gf_14_1 ?_
            refine fe_gf (pc' := 80) dX4_readItem_77 rfl fl_4_30 n_15 gf_15_3 ?_
            obtain ⟨q11, hq12, h⟩ := am_bd h
            refine fe_iv (pc' := 83) (as := [.ref 14, .int (g.1 15 3)]) (h1 := (sh0, q11)) (r1 := none) (st' := []) dX4_readItem_80 rfl cl_4_54 rfl rfl s_14 ms_55 ⟨n_14, rfl, by decide, Nat.le_of_ble_eq_true rfl, Nat.le_of_ble_eq_true rfl⟩ (am_le0 _ _ _) (am_up (by decide) (ev_Re_readThing hq12)) rfl ?_
            refine fe_go (tgt := 123) dX4_readItem_83 rfl ?_
            cases h
            exact fe_rv dX4_readItem_123 rfl
        · replace h := (if_neg hc5).symm.trans h
          refine fe_lin (pc' := 87) dX4_readItem_86 rfl rfl ?_
          refine fe_bp (pc' := 89) dX4_readItem_87 rfl ib_115 ?_
          refine fe_ic_ne (pc' := 92) (tgt := 118) dX4_readItem_89 rfl rfl (fun hc13 => ?_) (fun hc13 => ?_)
          · replace h := (if_pos hc13).symm.trans h
            refine fe_lan (pc' := 93) dX4_readItem_92 rfl rfl ?_
            refine fe_gf (pc' := 96) dX4_readItem_93 rfl fl_4_12 n_14 gf_14_1 ?_
            refine fe_gf (pc' := 99) dX4_readItem_96 rfl fl_4_33 n_15 gf_15_9 ?_
            refine fe_bp (pc' := 101) dX4_readItem_99 rfl ib_8 ?_
            refine fe_ic_ge (pc' := 104) (tgt := 118) dX4_readItem_101 rfl rfl (fun hc14 => ?_) (fun hc14 => ?_)
            · replace h := (if_pos hc14).symm.trans h
              refine fe_lan (pc' := 119) dX4_readItem_118 rfl rfl ?_
              refine fe_ic (pc' := 120) dX4_readItem_119 rfl ic_1 ?_
              refine fe_pi (pc' := 123) dX4_readItem_120 rfl fl_4_18 n_14 s_14 rfl ⟨rfl, Or.inr ⟨rfl, Or.inr rfl⟩⟩ ?_
              cases h
              exact fe_rv dX4_readItem_123 rfl
            · replace h := (if_neg hc14).symm.trans h
              refine fe_lan (pc' := 105) dX4_readItem_104 rfl rfl ?_
              refine fe_lan (pc' := 106) dX4_readItem_105 rfl rfl ?_
              refine fe_gf (pc' := 109) dX4_readItem_106 rfl fl_4_12 n_14 gf_14_1 ?_
              refine fe_gf (pc' := 112) dX4_readItem_109 rfl fl_4_33 n_15 gf_15_9 ?_
              obtain ⟨q15, hq16, h⟩ := am_bd h
              refine fe_iv (pc' := 115) (as := [.ref 14, .int (g.1 15 9)]) (h1 := (sh0, q15)) (r1 := none) (st' := []) dX4_readItem_112 rfl cl_4_57 rfl rfl s_14 ms_56 ⟨n_14, rfl, by decide, Nat.le_of_ble_eq_true rfl, Nat.le_of_ble_eq_true rfl⟩ (am_le0 _ _ _) (am_up (by decide) (ev_Re_readStage hq16)) rfl ?_
              refine fe_go (tgt := 123) dX4_readItem_115 rfl ?_
              cases h
              exact fe_rv dX4_readItem_123 rfl
          · replace h := (if_neg hc13).symm.trans h
            refine fe_lan (pc' := 119) dX4_readItem_118 rfl rfl ?_
            refine fe_ic (pc' := 120) dX4_readItem_119 rfl ic_1 ?_
            refine fe_pi (pc' := 123) dX4_readItem_120 rfl fl_4_18 n_14 s_14 rfl ⟨rfl, Or.inr ⟨rfl, Or.inr rfl⟩⟩ ?_
            cases h
            exact fe_rv dX4_readItem_123 rfl
      · replace h := (if_neg hc4).symm.trans h
        refine fe_lan (pc' := 41) dX4_readItem_40 rfl rfl ?_
        refine fe_lan (pc' := 42) dX4_readItem_41 rfl rfl ?_
        refine fe_gf (pc' := 45) dX4_readItem_42 rfl fl_4_12 n_14 gf_14_1 ?_
        refine fe_gf (pc' := 48) dX4_readItem_45 rfl fl_4_26 n_15 gf_15_0 ?_
        obtain ⟨q17, hq18, h⟩ := am_bd h
        refine fe_iv (pc' := 51) (as := [.ref 14, .int (g.1 15 0)]) (h1 := (sh0, q17)) (r1 := none) (st' := []) dX4_readItem_48 rfl cl_4_50 rfl rfl s_14 ms_54 ⟨n_14, rfl, by decide, Nat.le_of_ble_eq_true rfl, Nat.le_of_ble_eq_true rfl⟩ (am_le0 _ _ _) (am_up (by decide) (ev_Re_readWalker hq18)) rfl ?_
        refine fe_go (tgt := 123) dX4_readItem_51 rfl ?_
        cases h
        exact fe_rv dX4_readItem_123 rfl
    · replace h := (if_neg hc3).symm.trans h
      refine fe_lin (pc' := 55) dX4_readItem_54 rfl rfl ?_
      refine fe_bp (pc' := 57) dX4_readItem_55 rfl ib_116 ?_
      refine fe_ic_ne (pc' := 60) (tgt := 86) dX4_readItem_57 rfl rfl (fun hc19 => ?_) (fun hc19 => ?_)
      · replace h := (if_pos hc19).symm.trans h
        refine fe_lan (pc' := 61) dX4_readItem_60 rfl rfl ?_
        refine fe_gf (pc' := 64) dX4_readItem_61 rfl fl_4_12 n_14 gf_14_1 ?_
        refine fe_gf (pc' := 67) dX4_readItem_64 rfl fl_4_30 n_15 gf_15_3 ?_
        refine fe_bp (pc' := 69) dX4_readItem_67 rfl ib_7 ?_
        refine fe_ic_ge (pc' := 72) (tgt := 86) dX4_readItem_69 rfl rfl (fun hc20 => ?_) (fun hc20 => ?_)
        · replace h := (if_pos hc20).symm.trans h
          refine fe_lin (pc' := 87) dX4_readItem_86 rfl rfl ?_
          refine fe_bp (pc' := 89) dX4_readItem_87 rfl ib_115 ?_
          refine fe_ic_ne (pc' := 92) (tgt := 118) dX4_readItem_89 rfl rfl (fun hc21 => ?_) (fun hc21 => ?_)
          · replace h := (if_pos hc21).symm.trans h
            refine fe_lan (pc' := 93) dX4_readItem_92 rfl rfl ?_
            refine fe_gf (pc' := 96) dX4_readItem_93 rfl fl_4_12 n_14 gf_14_1 ?_
            refine fe_gf (pc' := 99) dX4_readItem_96 rfl fl_4_33 n_15 gf_15_9 ?_
            refine fe_bp (pc' := 101) dX4_readItem_99 rfl ib_8 ?_
            refine fe_ic_ge (pc' := 104) (tgt := 118) dX4_readItem_101 rfl rfl (fun hc22 => ?_) (fun hc22 => ?_)
            · replace h := (if_pos hc22).symm.trans h
              refine fe_lan (pc' := 119) dX4_readItem_118 rfl rfl ?_
              refine fe_ic (pc' := 120) dX4_readItem_119 rfl ic_1 ?_
              refine fe_pi (pc' := 123) dX4_readItem_120 rfl fl_4_18 n_14 s_14 rfl ⟨rfl, Or.inr ⟨rfl, Or.inr rfl⟩⟩ ?_
              cases h
              exact fe_rv dX4_readItem_123 rfl
            · replace h := (if_neg hc22).symm.trans h
              refine fe_lan (pc' := 105) dX4_readItem_104 rfl rfl ?_
              refine fe_lan (pc' := 106) dX4_readItem_105 rfl rfl ?_
              refine fe_gf (pc' := 109) dX4_readItem_106 rfl fl_4_12 n_14 gf_14_1 ?_
              refine fe_gf (pc' := 112) dX4_readItem_109 rfl fl_4_33 n_15 gf_15_9 ?_
              obtain ⟨q23, hq24, h⟩ := am_bd h
              refine fe_iv (pc' := 115) (as := [.ref 14, .int (g.1 15 9)]) (h1 := (sh0, q23)) (r1 := none) (st' := []) dX4_readItem_112 rfl cl_4_57 rfl rfl s_14 ms_56 ⟨n_14, rfl, by decide, Nat.le_of_ble_eq_true rfl, Nat.le_of_ble_eq_true rfl⟩ (am_le0 _ _ _) (am_up (by decide) (ev_Re_readStage hq24)) rfl ?_
              refine fe_go (tgt := 123) dX4_readItem_115 rfl ?_
              cases h
              exact fe_rv dX4_readItem_123 rfl
          · replace h := (if_neg hc21).symm.trans h
            refine fe_lan (pc' := 119) dX4_readItem_118 rfl rfl ?_
            refine fe_ic (pc' := 120) dX4_readItem_119 rfl ic_1 ?_
            refine fe_pi (pc' := 123) dX4_readItem_120 rfl fl_4_18 n_14 s_14 rfl ⟨rfl, Or.inr ⟨rfl, Or.inr rfl⟩⟩ ?_
            cases h
            exact fe_rv dX4_readItem_123 rfl
        · replace h := (if_neg hc20).symm.trans h
          refine fe_lan (pc' := 73) dX4_readItem_72 rfl rfl ?_
          refine fe_lan (pc' := 74) dX4_readItem_73 rfl rfl ?_
          refine fe_gf (pc' := 77) dX4_readItem_74 rfl fl_4_12 n_14 gf_14_1 ?_
          refine fe_gf (pc' := 80) dX4_readItem_77 rfl fl_4_30 n_15 gf_15_3 ?_
          obtain ⟨q25, hq26, h⟩ := am_bd h
          refine fe_iv (pc' := 83) (as := [.ref 14, .int (g.1 15 3)]) (h1 := (sh0, q25)) (r1 := none) (st' := []) dX4_readItem_80 rfl cl_4_54 rfl rfl s_14 ms_55 ⟨n_14, rfl, by decide, Nat.le_of_ble_eq_true rfl, Nat.le_of_ble_eq_true rfl⟩ (am_le0 _ _ _) (am_up (by decide) (ev_Re_readThing hq26)) rfl ?_
          refine fe_go (tgt := 123) dX4_readItem_83 rfl ?_
          cases h
          exact fe_rv dX4_readItem_123 rfl
      · replace h := (if_neg hc19).symm.trans h
        refine fe_lin (pc' := 87) dX4_readItem_86 rfl rfl ?_
        refine fe_bp (pc' := 89) dX4_readItem_87 rfl ib_115 ?_
        refine fe_ic_ne (pc' := 92) (tgt := 118) dX4_readItem_89 rfl rfl (fun hc27 => ?_) (fun hc27 => ?_)
        · replace h := (if_pos hc27).symm.trans h
          refine fe_lan (pc' := 93) dX4_readItem_92 rfl rfl ?_
          refine fe_gf (pc' := 96) dX4_readItem_93 rfl fl_4_12 n_14 gf_14_1 ?_
          refine fe_gf (pc' := 99) dX4_readItem_96 rfl fl_4_33 n_15 gf_15_9 ?_
          refine fe_bp (pc' := 101) dX4_readItem_99 rfl ib_8 ?_
          refine fe_ic_ge (pc' := 104) (tgt := 118) dX4_readItem_101 rfl rfl (fun hc28 => ?_) (fun hc28 => ?_)
          · replace h := (if_pos hc28).symm.trans h
            refine fe_lan (pc' := 119) dX4_readItem_118 rfl rfl ?_
            refine fe_ic (pc' := 120) dX4_readItem_119 rfl ic_1 ?_
            refine fe_pi (pc' := 123) dX4_readItem_120 rfl fl_4_18 n_14 s_14 rfl ⟨rfl, Or.inr ⟨rfl, Or.inr rfl⟩⟩ ?_
            cases h
            exact fe_rv dX4_readItem_123 rfl
          · replace h := (if_neg hc28).symm.trans h
            refine fe_lan (pc' := 105) dX4_readItem_104 rfl rfl ?_
            refine fe_lan (pc' := 106) dX4_readItem_105 rfl rfl ?_
            refine fe_gf (pc' := 109) dX4_readItem_106 rfl fl_4_12 n_14 gf_14_1 ?_
            refine fe_gf (pc' := 112) dX4_readItem_109 rfl fl_4_33 n_15 gf_15_9 ?_
            obtain ⟨q29, hq30, h⟩ := am_bd h
            refine fe_iv (pc' := 115) (as := [.ref 14, .int (g.1 15 9)]) (h1 := (sh0, q29)) (r1 := none) (st' := []) dX4_readItem_112 rfl cl_4_57 rfl rfl s_14 ms_56 ⟨n_14, rfl, by decide, Nat.le_of_ble_eq_true rfl, Nat.le_of_ble_eq_true rfl⟩ (am_le0 _ _ _) (am_up (by decide) (ev_Re_readStage hq30)) rfl ?_
            refine fe_go (tgt := 123) dX4_readItem_115 rfl ?_
            cases h
            exact fe_rv dX4_readItem_123 rfl
        · replace h := (if_neg hc27).symm.trans h
          refine fe_lan (pc' := 119) dX4_readItem_118 rfl rfl ?_
          refine fe_ic (pc' := 120) dX4_readItem_119 rfl ic_1 ?_
          refine fe_pi (pc' := 123) dX4_readItem_120 rfl fl_4_18 n_14 s_14 rfl ⟨rfl, Or.inr ⟨rfl, Or.inr rfl⟩⟩ ?_
          cases h
          exact fe_rv dX4_readItem_123 rfl
  refine fe_ic_ne (pc' := 11) (tgt := 21) dX4_readItem_8 rfl rfl (fun hc1 => ?_) (fun hc1 => ?_)
  · refine fe_lan (pc' := 12) dX4_readItem_11 rfl rfl ?_
    refine fe_gf (pc' := 15) dX4_readItem_12 rfl fl_4_22 n_14 gf_14_0 ?_
    refine fe_gf (pc' := 18) dX4_readItem_15 rfl fl_4_47 n_1 gf_1_5 ?_
    refine fe_go (tgt := 22) dX4_readItem_18 rfl ?_
    simp only [if_pos hc1] at K ⊢
    exact K
  · refine fe_ic (pc' := 22) dX4_readItem_21 rfl ic_0 ?_
    simp only [if_neg hc1] at K ⊢
    exact K
-- Re_readAll: X4_readAll
set_option maxRecDepth 4000 in
theorem lp_Re_readAll_L40 {hE : am_H} {r : Option Value} : ∀ (n : Nat) (g : am_G) (x1 : Int32) (x2 : Int32) (w : am_G × Int32), Re_readAll_L40 n g x1 x2 = some w → am_E 6 mX4_readAll (77, [(0, .ref 14), (1, .int w.2)], [], (sh0, w.1)) hE r → am_E 6 mX4_readAll (40, [(0, .ref 14), (1, .int x1), (2, .int x2)], [], (sh0, g)) hE r := by
  intro n
  induction n with
  | zero => intro g x1 x2 q h; cases h
  | succ n ih =>
    intro g x1 x2 q h k1
    replace h : _ = _ := h
    unfold Re_readAll_L40 at h
    refine fe_lin (pc' := 41) dX4_readAll_40 rfl rfl ?_
    refine fe_sp (pc' := 44) dX4_readAll_41 rfl is_200 ?_
    refine fe_ic_ge (pc' := 47) (tgt := 77) dX4_readAll_44 rfl rfl (fun hc3 => ?_) (fun hc3 => ?_)
    · replace h := (if_pos hc3).symm.trans h
      refine fe_pick [0, 1] rfl ?_
      cases h
      exact k1
    · replace h := (if_neg hc3).symm.trans h
      refine fe_lan (pc' := 48) dX4_readAll_47 rfl rfl ?_
      refine fe_gf (pc' := 51) dX4_readAll_48 rfl fl_4_22 n_14 gf_14_0 ?_
      refine fe_gf (pc' := 54) dX4_readAll_51 rfl fl_4_41 n_1 gf_1_2 ?_
      refine fe_if_eq (pc' := 57) (tgt := 77) dX4_readAll_54 rfl rfl (fun hc4 => ?_) (fun hc4 => ?_)
      · replace h := (if_pos hc4).symm.trans h
        refine fe_pick [0, 1] rfl ?_
        cases h
        exact k1
      · replace h := (if_neg hc4).symm.trans h
        refine fe_lan (pc' := 58) dX4_readAll_57 rfl rfl ?_
        refine fe_gf (pc' := 61) dX4_readAll_58 rfl fl_4_18 n_14 gf_14_2 ?_
        refine fe_if_ne (pc' := 64) (tgt := 77) dX4_readAll_61 rfl rfl (fun hc5 => ?_) (fun hc5 => ?_)
        · replace h := (if_pos hc5).symm.trans h
          refine fe_lan (pc' := 65) dX4_readAll_64 rfl rfl ?_
          obtain ⟨q6, hq7, h⟩ := am_bd h
          refine fe_iv (pc' := 68) (as := [.ref 14]) (h1 := (sh0, q6)) (r1 := none) (st' := []) dX4_readAll_65 rfl cl_4_44 rfl rfl s_14 ms_53 ⟨n_14, rfl, by decide, Nat.le_of_ble_eq_true rfl, Nat.le_of_ble_eq_true rfl⟩ (am_le0 _ _ _) (am_up (by decide) (ev_Re_readItem hq7)) rfl ?_
          refine fe_inc (pc' := 71) (lo' := [(0, .ref 14), (1, .int (x1 + 1)), (2, .int x2)]) dX4_readAll_68 rfl ic_1 (Nat.le_of_ble_eq_true rfl) rfl rfl ?_
          refine fe_inc (pc' := 74) (lo' := [(0, .ref 14), (1, .int (x1 + 1)), (2, .int (x2 + 1))]) dX4_readAll_71 rfl ic_1 (Nat.le_of_ble_eq_true rfl) rfl rfl ?_
          refine fe_go (tgt := 40) dX4_readAll_74 rfl ?_
          exact ih q6 (x1 + 1) (x2 + 1) q h k1
        · replace h := (if_neg hc5).symm.trans h
          refine fe_pick [0, 1] rfl ?_
          cases h
          exact k1
set_option maxRecDepth 4000 in
theorem ev_Re_readAll {g : am_G} {w : (am_G × Int32)} (h : Re_readAll g  = some w) : am_Ev 7 52 [.ref 14] (sh0, g) (sh0, w.1) (some (.int w.2)) := by
  unfold Re_readAll at h
  refine am_ev mX4_readAll (by rfl) (Nat.le_of_ble_eq_true rfl) [(0, .ref 14)] rfl ?_
  refine fe_lan (pc' := 1) dX4_readAll_0 rfl rfl ?_
  refine fe_gf (pc' := 4) dX4_readAll_1 rfl fl_4_12 n_14 gf_14_1 ?_
  refine fe_ic (pc' := 5) dX4_readAll_4 rfl ic_0 ?_
  refine fe_pi (pc' := 8) dX4_readAll_5 rfl fl_4_26 n_15 s_15 rfl ⟨rfl, Or.inl rfl⟩ ?_
  refine fe_lan (pc' := 9) dX4_readAll_8 rfl rfl ?_
  refine fe_gf (pc' := 12) dX4_readAll_9 rfl fl_4_12 n_14 gf_14_1 ?_
  refine fe_ic (pc' := 13) dX4_readAll_12 rfl ic_0 ?_
  refine fe_pi (pc' := 16) dX4_readAll_13 rfl fl_4_30 n_15 s_15 rfl ⟨rfl, Or.inl rfl⟩ ?_
  refine fe_lan (pc' := 17) dX4_readAll_16 rfl rfl ?_
  refine fe_gf (pc' := 20) dX4_readAll_17 rfl fl_4_12 n_14 gf_14_1 ?_
  refine fe_ic (pc' := 21) dX4_readAll_20 rfl ic_0 ?_
  refine fe_pi (pc' := 24) dX4_readAll_21 rfl fl_4_33 n_15 s_15 rfl ⟨rfl, Or.inl rfl⟩ ?_
  refine fe_lan (pc' := 25) dX4_readAll_24 rfl rfl ?_
  refine fe_ic (pc' := 26) dX4_readAll_25 rfl ic_0 ?_
  refine fe_pi (pc' := 29) dX4_readAll_26 rfl fl_4_18 n_14 s_14 rfl ⟨rfl, Or.inr ⟨rfl, Or.inl rfl⟩⟩ ?_
  refine fe_lan (pc' := 30) dX4_readAll_29 rfl rfl ?_
  refine fe_gf (pc' := 33) dX4_readAll_30 rfl fl_4_22 n_14 gf_14_0 ?_
  obtain ⟨q1, hq2, h⟩ := am_bd h
  refine fe_iv (pc' := 36) (as := [.ref 1]) (h1 := (sh0, q1)) (r1 := none) (st' := []) dX4_readAll_33 rfl cl_4_36 rfl rfl s_1 ms_64 ⟨n_1, rfl, by decide, Nat.le_of_ble_eq_true rfl, Nat.le_of_ble_eq_true rfl⟩ (am_le0 _ _ _) (am_up (by decide) (ev_Tx_toFirstToken hq2)) rfl ?_
  refine fe_ic (pc' := 37) dX4_readAll_36 rfl ic_0 ?_
  refine fe_sin (pc' := 38) (lo' := [(0, .ref 14), (1, .int 0)]) dX4_readAll_37 rfl (Nat.le_of_ble_eq_true rfl) rfl ?_
  refine fe_ic (pc' := 39) dX4_readAll_38 rfl ic_0 ?_
  refine fe_sin (pc' := 40) (lo' := [(0, .ref 14), (1, .int 0), (2, .int 0)]) dX4_readAll_39 rfl (Nat.le_of_ble_eq_true rfl) rfl ?_
  obtain ⟨q8, hq10, h⟩ := am_bd h
  refine lp_Re_readAll_L40 _ q1 0 0 q8 hq10 ?_
  refine fe_lan (pc' := 78) dX4_readAll_77 rfl rfl ?_
  refine fe_gf (pc' := 81) dX4_readAll_78 rfl fl_4_18 n_14 gf_14_2 ?_
  refine fe_if_eq (pc' := 84) (tgt := 88) dX4_readAll_81 rfl rfl (fun hc9 => ?_) (fun hc9 => ?_)
  · replace h := (if_pos hc9).symm.trans h
    refine fe_lin (pc' := 89) dX4_readAll_88 rfl rfl ?_
    cases h
    exact fe_ri dX4_readAll_89 rfl
  · replace h := (if_neg hc9).symm.trans h
    refine fe_ic (pc' := 85) dX4_readAll_84 rfl ic_m1 ?_
    refine fe_go (tgt := 89) dX4_readAll_85 rfl ?_
    cases h
    exact fe_ri dX4_readAll_89 rfl
-- Ta_copyFrom: X5_copyFrom
set_option maxRecDepth 4000 in
theorem ev_Ta_copyFrom {g : am_G} {w : am_G} (h : Ta_copyFrom g  = some w) : am_Ev 1 60 [.ref 3, .ref 15] (sh0, g) (sh0, w) (none) := by
  unfold Ta_copyFrom at h
  refine am_ev mX5_copyFrom (by rfl) (Nat.le_of_ble_eq_true rfl) [(0, .ref 3), (1, .ref 15)] rfl ?_
  refine fe_lan (pc' := 1) dX5_copyFrom_0 rfl rfl ?_
  refine fe_lan (pc' := 2) dX5_copyFrom_1 rfl rfl ?_
  refine fe_gf (pc' := 5) dX5_copyFrom_2 rfl fl_5_9 n_15 gf_15_0 ?_
  refine fe_pi (pc' := 8) dX5_copyFrom_5 rfl fl_5_9 n_3 s_3 rfl ⟨rfl, Or.inl rfl⟩ ?_
  refine fe_lan (pc' := 9) dX5_copyFrom_8 rfl rfl ?_
  refine fe_gf (pc' := 12) dX5_copyFrom_9 rfl fl_5_15 n_15 gf_15_1 ?_
  refine fe_ic (pc' := 13) dX5_copyFrom_12 rfl ic_0 ?_
  refine fe_lan (pc' := 14) dX5_copyFrom_13 rfl rfl ?_
  refine fe_gf (pc' := 17) dX5_copyFrom_14 rfl fl_5_15 n_3 gf_3_1 ?_
  refine fe_ic (pc' := 18) dX5_copyFrom_17 rfl ic_0 ?_
  refine fe_ic (pc' := 19) dX5_copyFrom_18 rfl ic_4 ?_
  refine fe_ac (pc' := 22) dX5_copyFrom_19 rfl cl_5_52 n_16 n_4 s_16 s_4 ⟨by decide, by decide, by decide, by decide, by decide, Nat.le_of_ble_eq_true rfl⟩ ?_
  simp only [tc_0, tc_4]
  refine fe_lan (pc' := 23) dX5_copyFrom_22 rfl rfl ?_
  refine fe_gf (pc' := 26) dX5_copyFrom_23 rfl fl_5_19 n_15 gf_15_2 ?_
  refine fe_ic (pc' := 27) dX5_copyFrom_26 rfl ic_0 ?_
  refine fe_lan (pc' := 28) dX5_copyFrom_27 rfl rfl ?_
  refine fe_gf (pc' := 31) dX5_copyFrom_28 rfl fl_5_19 n_3 gf_3_2 ?_
  refine fe_ic (pc' := 32) dX5_copyFrom_31 rfl ic_0 ?_
  refine fe_ic (pc' := 33) dX5_copyFrom_32 rfl ic_4 ?_
  refine fe_ac (pc' := 36) dX5_copyFrom_33 rfl cl_5_52 n_17 n_5 s_17 s_5 ⟨by decide, by decide, by decide, by decide, by decide, Nat.le_of_ble_eq_true rfl⟩ ?_
  simp only [tc_0, tc_4]
  refine fe_lan (pc' := 37) dX5_copyFrom_36 rfl rfl ?_
  refine fe_lan (pc' := 38) dX5_copyFrom_37 rfl rfl ?_
  refine fe_gf (pc' := 41) dX5_copyFrom_38 rfl fl_5_22 n_15 gf_15_3 ?_
  refine fe_pi (pc' := 44) dX5_copyFrom_41 rfl fl_5_22 n_3 s_3 rfl ⟨rfl, Or.inl rfl⟩ ?_
  refine fe_lan (pc' := 45) dX5_copyFrom_44 rfl rfl ?_
  refine fe_gf (pc' := 48) dX5_copyFrom_45 rfl fl_5_25 n_15 gf_15_4 ?_
  refine fe_ic (pc' := 49) dX5_copyFrom_48 rfl ic_0 ?_
  refine fe_lan (pc' := 50) dX5_copyFrom_49 rfl rfl ?_
  refine fe_gf (pc' := 53) dX5_copyFrom_50 rfl fl_5_25 n_3 gf_3_4 ?_
  refine fe_ic (pc' := 54) dX5_copyFrom_53 rfl ic_0 ?_
  refine fe_bp (pc' := 56) dX5_copyFrom_54 rfl ib_7 ?_
  refine fe_ac (pc' := 59) dX5_copyFrom_56 rfl cl_5_52 n_18 n_6 s_18 s_6 ⟨by decide, by decide, by decide, by decide, by decide, Nat.le_of_ble_eq_true rfl⟩ ?_
  simp only [tc_0, tc_7]
  refine fe_lan (pc' := 60) dX5_copyFrom_59 rfl rfl ?_
  refine fe_gf (pc' := 63) dX5_copyFrom_60 rfl fl_5_28 n_15 gf_15_5 ?_
  refine fe_ic (pc' := 64) dX5_copyFrom_63 rfl ic_0 ?_
  refine fe_lan (pc' := 65) dX5_copyFrom_64 rfl rfl ?_
  refine fe_gf (pc' := 68) dX5_copyFrom_65 rfl fl_5_28 n_3 gf_3_5 ?_
  refine fe_ic (pc' := 69) dX5_copyFrom_68 rfl ic_0 ?_
  refine fe_bp (pc' := 71) dX5_copyFrom_69 rfl ib_7 ?_
  refine fe_ac (pc' := 74) dX5_copyFrom_71 rfl cl_5_52 n_19 n_7 s_19 s_7 ⟨by decide, by decide, by decide, by decide, by decide, Nat.le_of_ble_eq_true rfl⟩ ?_
  simp only [tc_0, tc_7]
  refine fe_lan (pc' := 75) dX5_copyFrom_74 rfl rfl ?_
  refine fe_gf (pc' := 78) dX5_copyFrom_75 rfl fl_5_31 n_15 gf_15_6 ?_
  refine fe_ic (pc' := 79) dX5_copyFrom_78 rfl ic_0 ?_
  refine fe_lan (pc' := 80) dX5_copyFrom_79 rfl rfl ?_
  refine fe_gf (pc' := 83) dX5_copyFrom_80 rfl fl_5_31 n_3 gf_3_6 ?_
  refine fe_ic (pc' := 84) dX5_copyFrom_83 rfl ic_0 ?_
  refine fe_bp (pc' := 86) dX5_copyFrom_84 rfl ib_7 ?_
  refine fe_ac (pc' := 89) dX5_copyFrom_86 rfl cl_5_52 n_20 n_8 s_20 s_8 ⟨by decide, by decide, by decide, by decide, by decide, Nat.le_of_ble_eq_true rfl⟩ ?_
  simp only [tc_0, tc_7]
  refine fe_lan (pc' := 90) dX5_copyFrom_89 rfl rfl ?_
  refine fe_gf (pc' := 93) dX5_copyFrom_90 rfl fl_5_34 n_15 gf_15_7 ?_
  refine fe_ic (pc' := 94) dX5_copyFrom_93 rfl ic_0 ?_
  refine fe_lan (pc' := 95) dX5_copyFrom_94 rfl rfl ?_
  refine fe_gf (pc' := 98) dX5_copyFrom_95 rfl fl_5_34 n_3 gf_3_7 ?_
  refine fe_ic (pc' := 99) dX5_copyFrom_98 rfl ic_0 ?_
  refine fe_bp (pc' := 101) dX5_copyFrom_99 rfl ib_7 ?_
  refine fe_ac (pc' := 104) dX5_copyFrom_101 rfl cl_5_52 n_21 n_9 s_21 s_9 ⟨by decide, by decide, by decide, by decide, by decide, Nat.le_of_ble_eq_true rfl⟩ ?_
  simp only [tc_0, tc_7]
  refine fe_lan (pc' := 105) dX5_copyFrom_104 rfl rfl ?_
  refine fe_gf (pc' := 108) dX5_copyFrom_105 rfl fl_5_37 n_15 gf_15_8 ?_
  refine fe_ic (pc' := 109) dX5_copyFrom_108 rfl ic_0 ?_
  refine fe_lan (pc' := 110) dX5_copyFrom_109 rfl rfl ?_
  refine fe_gf (pc' := 113) dX5_copyFrom_110 rfl fl_5_37 n_3 gf_3_8 ?_
  refine fe_ic (pc' := 114) dX5_copyFrom_113 rfl ic_0 ?_
  refine fe_bp (pc' := 116) dX5_copyFrom_114 rfl ib_7 ?_
  refine fe_ac (pc' := 119) dX5_copyFrom_116 rfl cl_5_52 n_22 n_10 s_22 s_10 ⟨by decide, by decide, by decide, by decide, by decide, Nat.le_of_ble_eq_true rfl⟩ ?_
  simp only [tc_0, tc_7]
  refine fe_lan (pc' := 120) dX5_copyFrom_119 rfl rfl ?_
  refine fe_lan (pc' := 121) dX5_copyFrom_120 rfl rfl ?_
  refine fe_gf (pc' := 124) dX5_copyFrom_121 rfl fl_5_40 n_15 gf_15_9 ?_
  refine fe_pi (pc' := 127) dX5_copyFrom_124 rfl fl_5_40 n_3 s_3 rfl ⟨rfl, Or.inl rfl⟩ ?_
  refine fe_lan (pc' := 128) dX5_copyFrom_127 rfl rfl ?_
  refine fe_gf (pc' := 131) dX5_copyFrom_128 rfl fl_5_43 n_15 gf_15_10 ?_
  refine fe_ic (pc' := 132) dX5_copyFrom_131 rfl ic_0 ?_
  refine fe_lan (pc' := 133) dX5_copyFrom_132 rfl rfl ?_
  refine fe_gf (pc' := 136) dX5_copyFrom_133 rfl fl_5_43 n_3 gf_3_10 ?_
  refine fe_ic (pc' := 137) dX5_copyFrom_136 rfl ic_0 ?_
  refine fe_bp (pc' := 139) dX5_copyFrom_137 rfl ib_8 ?_
  refine fe_ac (pc' := 142) dX5_copyFrom_139 rfl cl_5_52 n_23 n_11 s_23 s_11 ⟨by decide, by decide, by decide, by decide, by decide, Nat.le_of_ble_eq_true rfl⟩ ?_
  simp only [tc_0, tc_8]
  refine fe_lan (pc' := 143) dX5_copyFrom_142 rfl rfl ?_
  refine fe_gf (pc' := 146) dX5_copyFrom_143 rfl fl_5_46 n_15 gf_15_11 ?_
  refine fe_ic (pc' := 147) dX5_copyFrom_146 rfl ic_0 ?_
  refine fe_lan (pc' := 148) dX5_copyFrom_147 rfl rfl ?_
  refine fe_gf (pc' := 151) dX5_copyFrom_148 rfl fl_5_46 n_3 gf_3_11 ?_
  refine fe_ic (pc' := 152) dX5_copyFrom_151 rfl ic_0 ?_
  refine fe_bp (pc' := 154) dX5_copyFrom_152 rfl ib_8 ?_
  refine fe_ac (pc' := 157) dX5_copyFrom_154 rfl cl_5_52 n_24 n_12 s_24 s_12 ⟨by decide, by decide, by decide, by decide, by decide, Nat.le_of_ble_eq_true rfl⟩ ?_
  simp only [tc_0, tc_8]
  refine fe_lan (pc' := 158) dX5_copyFrom_157 rfl rfl ?_
  refine fe_gf (pc' := 161) dX5_copyFrom_158 rfl fl_5_49 n_15 gf_15_12 ?_
  refine fe_ic (pc' := 162) dX5_copyFrom_161 rfl ic_0 ?_
  refine fe_lan (pc' := 163) dX5_copyFrom_162 rfl rfl ?_
  refine fe_gf (pc' := 166) dX5_copyFrom_163 rfl fl_5_49 n_3 gf_3_12 ?_
  refine fe_ic (pc' := 167) dX5_copyFrom_166 rfl ic_0 ?_
  refine fe_bp (pc' := 169) dX5_copyFrom_167 rfl ib_8 ?_
  refine fe_ac (pc' := 172) dX5_copyFrom_169 rfl cl_5_52 n_25 n_13 s_25 s_13 ⟨by decide, by decide, by decide, by decide, by decide, Nat.le_of_ble_eq_true rfl⟩ ?_
  simp only [tc_0, tc_8]
  cases h
  exact fe_rv dX5_copyFrom_172 rfl
-- Ca_begin: X2_begin
set_option maxRecDepth 4000 in
theorem lp_Ca_begin_L63 {c : Nat} (hc : c ∈ am_camps) {hE : am_H} {r : Option Value} : ∀ (n : Nat) (g : am_G) (x1 : Int32) (w : am_G), Ca_begin_L63 n g c x1 = some w → am_E 0 mX2_begin (81, [], [], (sh0, w)) hE r → am_E 0 mX2_begin (63, [(0, .ref c), (1, .int x1)], [], (sh0, g)) hE r := by
  intro n
  induction n with
  | zero => intro g x1 q h; cases h
  | succ n ih =>
    intro g x1 q h k1
    replace h : _ = _ := h
    unfold Ca_begin_L63 at h
    refine fe_lin (pc' := 64) dX2_begin_63 rfl rfl ?_
    refine fe_ic (pc' := 65) dX2_begin_64 rfl ic_4 ?_
    refine fe_ic_ge (pc' := 68) (tgt := 81) dX2_begin_65 rfl rfl (fun hc1 => ?_) (fun hc1 => ?_)
    · replace h := (if_pos hc1).symm.trans h
      refine fe_pick [] rfl ?_
      cases h
      exact k1
    · replace h := (if_neg hc1).symm.trans h
      refine fe_lan (pc' := 69) dX2_begin_68 rfl rfl ?_
      refine fe_gf (pc' := 72) dX2_begin_69 rfl fl_2_34 (sc_ne hc) (cg_8 hc) ?_
      refine fe_lin (pc' := 73) dX2_begin_72 rfl rfl ?_
      refine fe_ic (pc' := 74) dX2_begin_73 rfl ic_0 ?_
      obtain ⟨hi2, h⟩ := am_gd rfl h
      refine fe_as (pc' := 75) (j := x1.toNatClampNeg) dX2_begin_74 rfl (sc_n3 hc) (sc_3 hc) hi2 rfl ?_
      refine fe_inc (pc' := 78) (lo' := [(0, .ref c), (1, .int (x1 + 1))]) dX2_begin_75 rfl ic_1 (Nat.le_of_ble_eq_true rfl) rfl rfl ?_
      refine fe_go (tgt := 63) dX2_begin_78 rfl ?_
      exact ih (am_wr g (c + 3) x1.toNatClampNeg 0) (x1 + 1) q h k1
set_option maxRecDepth 4000 in
theorem ev_Ca_begin {g : am_G} {c : Nat} {w : am_G} (hc : c ∈ am_camps) (h : Ca_begin g c  = some w) : am_Ev 1 23 [.ref c] (sh0, g) (sh0, w) (none) := by
  unfold Ca_begin at h
  refine am_ev mX2_begin (by rfl) (Nat.le_of_ble_eq_true rfl) [(0, .ref c)] rfl ?_
  refine fe_lan (pc' := 1) dX2_begin_0 rfl rfl ?_
  refine fe_ic (pc' := 2) dX2_begin_1 rfl ic_0 ?_
  refine fe_pi (pc' := 5) dX2_begin_2 rfl fl_2_9 (sc_ne hc) (sc_o hc) rfl ⟨rfl, Or.inl rfl⟩ ?_
  refine fe_lan (pc' := 6) dX2_begin_5 rfl rfl ?_
  refine fe_ic (pc' := 7) dX2_begin_6 rfl ic_0 ?_
  refine fe_pi (pc' := 10) dX2_begin_7 rfl fl_2_15 (sc_ne hc) (sc_o hc) rfl ⟨rfl, Or.inl rfl⟩ ?_
  refine fe_lan (pc' := 11) dX2_begin_10 rfl rfl ?_
  refine fe_ic (pc' := 12) dX2_begin_11 rfl ic_0 ?_
  refine fe_pi (pc' := 15) dX2_begin_12 rfl fl_2_18 (sc_ne hc) (sc_o hc) rfl ⟨rfl, Or.inl rfl⟩ ?_
  refine fe_lan (pc' := 16) dX2_begin_15 rfl rfl ?_
  refine fe_ic (pc' := 17) dX2_begin_16 rfl ic_0 ?_
  refine fe_pi (pc' := 20) dX2_begin_17 rfl fl_2_21 (sc_ne hc) (sc_o hc) rfl ⟨rfl, Or.inl rfl⟩ ?_
  refine fe_lan (pc' := 21) dX2_begin_20 rfl rfl ?_
  refine fe_ic (pc' := 22) dX2_begin_21 rfl ic_0 ?_
  refine fe_pi (pc' := 25) dX2_begin_22 rfl fl_2_24 (sc_ne hc) (sc_o hc) rfl ⟨rfl, Or.inl rfl⟩ ?_
  refine fe_lan (pc' := 26) dX2_begin_25 rfl rfl ?_
  refine fe_gf (pc' := 29) dX2_begin_26 rfl fl_2_37 (sc_ne hc) (cg_0 hc) ?_
  refine fe_gf (pc' := 32) dX2_begin_29 rfl fl_2_41 n_3 gf_3_8 ?_
  refine fe_ic (pc' := 33) dX2_begin_32 rfl ic_0 ?_
  refine fe_lan (pc' := 34) dX2_begin_33 rfl rfl ?_
  refine fe_gf (pc' := 37) dX2_begin_34 rfl fl_2_27 (sc_ne hc) (cg_6 hc) ?_
  refine fe_ic (pc' := 38) dX2_begin_37 rfl ic_0 ?_
  refine fe_bp (pc' := 40) dX2_begin_38 rfl ib_7 ?_
  refine fe_ac (pc' := 43) dX2_begin_40 rfl cl_2_44 n_10 (sc_n1 hc) s_10 (sc_1 hc) ⟨by decide, by decide, by decide, by decide, by decide, Nat.le_of_ble_eq_true rfl⟩ ?_
  simp only [tc_0, tc_7]
  refine fe_lan (pc' := 44) dX2_begin_43 rfl rfl ?_
  refine fe_gf (pc' := 47) dX2_begin_44 rfl fl_2_37 (sc_ne hc) (cg_0 hc) ?_
  refine fe_gf (pc' := 50) dX2_begin_47 rfl fl_2_50 n_3 gf_3_4 ?_
  refine fe_ic (pc' := 51) dX2_begin_50 rfl ic_0 ?_
  refine fe_lan (pc' := 52) dX2_begin_51 rfl rfl ?_
  refine fe_gf (pc' := 55) dX2_begin_52 rfl fl_2_31 (sc_ne hc) (cg_7 hc) ?_
  refine fe_ic (pc' := 56) dX2_begin_55 rfl ic_0 ?_
  refine fe_bp (pc' := 58) dX2_begin_56 rfl ib_7 ?_
  refine fe_ac (pc' := 61) dX2_begin_58 rfl cl_2_44 n_6 (sc_n2 hc) s_6 (sc_2 hc) ⟨by decide, by decide, by decide, by decide, by decide, Nat.le_of_ble_eq_true rfl⟩ ?_
  simp only [tc_0, tc_7]
  refine fe_ic (pc' := 62) dX2_begin_61 rfl ic_0 ?_
  refine fe_sin (pc' := 63) (lo' := [(0, .ref c), (1, .int 0)]) dX2_begin_62 rfl (Nat.le_of_ble_eq_true rfl) rfl ?_
  obtain ⟨q3, hq4, h⟩ := am_bd h
  refine lp_Ca_begin_L63 hc _ (am_cp (am_cp (am_wr (am_wr (am_wr (am_wr (am_wr g c 1 0) c 2 0) c 3 0) c 4 0) c 5 0) 10 (c + 1) 0 0 7) 6 (c + 2) 0 0 7) 0 q3 hq4 ?_
  cases h
  exact fe_rv dX2_begin_81 rfl
-- Jo_begin: X3_begin
set_option maxRecDepth 4000 in
theorem ev_Jo_begin {g : am_G} {c : Nat} {w : am_G} (hc : c ∈ am_jours) (h : Jo_begin g c  = some w) : am_Ev 2 47 [.ref c] (sh0, g) (sh0, w) (none) := by
  unfold Jo_begin at h
  refine am_ev mX3_begin (by rfl) (Nat.le_of_ble_eq_true rfl) [(0, .ref c)] rfl ?_
  refine fe_lan (pc' := 1) dX3_begin_0 rfl rfl ?_
  refine fe_gf (pc' := 4) dX3_begin_1 rfl fl_3_27 (sj_ne hc) (jg_0 hc) ?_
  obtain ⟨q1, hq2, h⟩ := am_bd h
  refine fe_iv (pc' := 7) (as := [.ref (c + 2)]) (h1 := (sh0, q1)) (r1 := none) (st' := []) dX3_begin_4 rfl cl_3_31 rfl rfl (sc_o (sj_c hc)) ms_23 ⟨(sc_ne (sj_c hc)), rfl, by decide, Nat.le_of_ble_eq_true rfl, Nat.le_of_ble_eq_true rfl⟩ (am_le0 _ _ _) (am_up (by decide) (ev_Ca_begin (sj_c hc) hq2)) rfl ?_
  refine fe_lan (pc' := 8) dX3_begin_7 rfl rfl ?_
  refine fe_ic (pc' := 9) dX3_begin_8 rfl ic_0 ?_
  refine fe_pi (pc' := 12) dX3_begin_9 rfl fl_3_17 (sj_ne hc) (sj_o hc) rfl ⟨rfl, Or.inl rfl⟩ ?_
  refine fe_lan (pc' := 13) dX3_begin_12 rfl rfl ?_
  refine fe_ic (pc' := 14) dX3_begin_13 rfl ic_0 ?_
  refine fe_pi (pc' := 17) dX3_begin_14 rfl fl_3_21 (sj_ne hc) (sj_o hc) rfl ⟨rfl, Or.inl rfl⟩ ?_
  cases h
  exact fe_rv dX3_begin_17 rfl
-- Tb_way: X8_way
set_option maxRecDepth 4000 in
theorem lp_Tb_way_L62 {hE : am_H} {r : Option Value} : ∀ (n : Nat) (g : am_G) (x1 : Int32) (x2 : Int32) (w : am_G), Tb_way_L62 n g x1 x2 = some w → am_E 7 mX8_way (80, [(1, .int x1)], [], (sh0, w)) hE r → am_E 7 mX8_way (62, [(0, .ref 0), (1, .int x1), (2, .int x2)], [], (sh0, g)) hE r := by
  intro n
  induction n with
  | zero => intro g x1 x2 q h; cases h
  | succ n ih =>
    intro g x1 x2 q h k1
    replace h : _ = _ := h
    unfold Tb_way_L62 at h
    refine fe_lin (pc' := 63) dX8_way_62 rfl rfl ?_
    refine fe_ic (pc' := 64) dX8_way_63 rfl ic_2 ?_
    refine fe_ic_ge (pc' := 67) (tgt := 80) dX8_way_64 rfl rfl (fun hc8 => ?_) (fun hc8 => ?_)
    · replace h := (if_pos hc8).symm.trans h
      refine fe_pick [1] rfl ?_
      cases h
      exact k1
    · replace h := (if_neg hc8).symm.trans h
      refine fe_lan (pc' := 68) dX8_way_67 rfl rfl ?_
      refine fe_gf (pc' := 71) dX8_way_68 rfl fl_8_50 n_0 gf_0_6 ?_
      refine fe_lin (pc' := 72) dX8_way_71 rfl rfl ?_
      refine fe_ic (pc' := 73) dX8_way_72 rfl ic_0 ?_
      obtain ⟨hi9, h⟩ := am_gd rfl h
      refine fe_bs (pc' := 74) (j := x2.toNatClampNeg) dX8_way_73 rfl n_73 s_73 hi9 rfl (by decide) ?_
      refine fe_inc (pc' := 77) (lo' := [(0, .ref 0), (1, .int x1), (2, .int (x2 + 1))]) dX8_way_74 rfl ic_1 (Nat.le_of_ble_eq_true rfl) rfl rfl ?_
      refine fe_go (tgt := 62) dX8_way_77 rfl ?_
      exact ih (am_wr g 73 x2.toNatClampNeg 0) x1 (x2 + 1) q h k1
set_option maxRecDepth 4000 in
theorem ev_Tb_way {g : am_G} {w : (am_G × Int32)} (h : Tb_way g  = some w) : am_Ev 8 82 [.ref 0] (sh0, g) (sh0, w.1) (some (.int w.2)) := by
  unfold Tb_way at h
  refine am_ev mX8_way (by rfl) (Nat.le_of_ble_eq_true rfl) [(0, .ref 0)] rfl ?_
  refine fe_lan (pc' := 1) dX8_way_0 rfl rfl ?_
  refine fe_gf (pc' := 4) dX8_way_1 rfl fl_8_28 n_0 gf_0_2 ?_
  obtain ⟨q1, hq2, h⟩ := am_bd h
  refine fe_iv (pc' := 7) (as := [.ref 14]) (h1 := (sh0, q1.1)) (r1 := some (.int q1.2)) (st' := [.int q1.2]) dX8_way_4 rfl cl_8_91 rfl rfl s_14 ms_52 ⟨n_14, rfl, by decide, Nat.le_of_ble_eq_true rfl, Nat.le_of_ble_eq_true rfl⟩ (am_le0 _ _ _) (am_up (by decide) (ev_Re_readAll hq2)) rfl ?_
  refine fe_sin (pc' := 8) (lo' := [(0, .ref 0), (1, .int q1.2)]) dX8_way_7 rfl (Nat.le_of_ble_eq_true rfl) rfl ?_
  refine fe_lin (pc' := 9) dX8_way_8 rfl rfl ?_
  refine fe_if_ge (pc' := 12) (tgt := 23) dX8_way_9 rfl rfl (fun hc3 => ?_) (fun hc3 => ?_)
  · replace h := (if_pos hc3).symm.trans h
    refine fe_lan (pc' := 24) dX8_way_23 rfl rfl ?_
    refine fe_gf (pc' := 27) dX8_way_24 rfl fl_8_19 n_0 gf_0_1 ?_
    refine fe_lan (pc' := 28) dX8_way_27 rfl rfl ?_
    refine fe_gf (pc' := 31) dX8_way_28 rfl fl_8_28 n_0 gf_0_2 ?_
    refine fe_gf (pc' := 34) dX8_way_31 rfl fl_8_98 n_14 gf_14_1 ?_
    obtain ⟨q4, hq5, h⟩ := am_bd h
    refine fe_iv (pc' := 37) (as := [.ref 3, .ref 15]) (h1 := (sh0, q4)) (r1 := none) (st' := []) dX8_way_34 rfl cl_8_101 rfl rfl s_3 ms_60 ⟨n_3, rfl, by decide, Nat.le_of_ble_eq_true rfl, Nat.le_of_ble_eq_true rfl⟩ (am_le0 _ _ _) (am_up (by decide) (ev_Ta_copyFrom hq5)) rfl ?_
    refine fe_lan (pc' := 38) dX8_way_37 rfl rfl ?_
    refine fe_gf (pc' := 41) dX8_way_38 rfl fl_8_10 n_0 gf_0_0 ?_
    refine fe_ic (pc' := 42) dX8_way_41 rfl ic_0 ?_
    refine fe_pi (pc' := 45) dX8_way_42 rfl fl_8_87 n_1 s_1 rfl ⟨rfl, Or.inl rfl⟩ ?_
    refine fe_lan (pc' := 46) dX8_way_45 rfl rfl ?_
    refine fe_gf (pc' := 49) dX8_way_46 rfl fl_8_37 n_0 gf_0_3 ?_
    obtain ⟨q6, hq7, h⟩ := am_bd h
    refine fe_iv (pc' := 52) (as := [.ref 26]) (h1 := (sh0, q6)) (r1 := none) (st' := []) dX8_way_49 rfl cl_8_104 rfl rfl (sj_o sj_26) ms_47 ⟨(sj_ne sj_26), rfl, by decide, Nat.le_of_ble_eq_true rfl, Nat.le_of_ble_eq_true rfl⟩ (am_le0 _ _ _) (am_up (by decide) (ev_Jo_begin sj_26 hq7)) rfl ?_
    refine fe_lan (pc' := 53) dX8_way_52 rfl rfl ?_
    refine fe_gf (pc' := 56) dX8_way_53 rfl fl_8_71 n_0 gf_0_9 ?_
    refine fe_ic (pc' := 57) dX8_way_56 rfl ic_0 ?_
    refine fe_pi (pc' := 60) dX8_way_57 rfl fl_8_107 n_121 s_121 rfl ⟨rfl, Or.inl rfl⟩ ?_
    refine fe_ic (pc' := 61) dX8_way_60 rfl ic_0 ?_
    refine fe_sin (pc' := 62) (lo' := [(0, .ref 0), (1, .int q1.2), (2, .int 0)]) dX8_way_61 rfl (Nat.le_of_ble_eq_true rfl) rfl ?_
    obtain ⟨q10, hq11, h⟩ := am_bd h
    refine lp_Tb_way_L62 _ (am_wr q6 121 2 0) q1.2 0 q10 hq11 ?_
    refine fe_lin (pc' := 81) dX8_way_80 rfl rfl ?_
    cases h
    exact fe_ri dX8_way_81 rfl
  · replace h := (if_neg hc3).symm.trans h
    refine fe_bp (pc' := 14) dX8_way_12 rfl ib_m10 ?_
    refine fe_lan (pc' := 15) dX8_way_14 rfl rfl ?_
    refine fe_gf (pc' := 18) dX8_way_15 rfl fl_8_10 n_0 gf_0_0 ?_
    refine fe_gf (pc' := 21) dX8_way_18 rfl fl_8_95 n_1 gf_1_3 ?_
    refine fe_isub (pc' := 22) dX8_way_21 rfl ?_
    cases h
    exact fe_ri dX8_way_22 rfl
-- Tb_isWalker: X8_isWalker
set_option maxRecDepth 4000 in
theorem ev_Tb_isWalker {g : am_G} {x1 : Int32} {w : Bool} (h : Tb_isWalker g x1 = some w) : am_Ev 2 113 [.ref 0, .int x1] (sh0, g) (sh0, g) (some (.int (am_b w))) := by
  unfold Tb_isWalker at h
  refine am_ev mX8_isWalker (by rfl) (Nat.le_of_ble_eq_true rfl) [(0, .ref 0), (1, .int x1)] rfl ?_
  refine fe_lin (pc' := 1) dX8_isWalker_0 rfl rfl ?_
  refine fe_ic (pc' := 2) dX8_isWalker_1 rfl ic_0 ?_
  refine fe_lan (pc' := 3) dX8_isWalker_2 rfl rfl ?_
  refine fe_gf (pc' := 6) dX8_isWalker_3 rfl fl_8_19 n_0 gf_0_1 ?_
  refine fe_gf (pc' := 9) dX8_isWalker_6 rfl fl_8_243 n_3 gf_3_0 ?_
  refine fe_ic (pc' := 10) dX8_isWalker_9 rfl ic_1 ?_
  refine fe_isub (pc' := 11) dX8_isWalker_10 rfl ?_
  obtain ⟨q1, hq2, h⟩ := am_bd h
  refine fe_is (pc' := 14) (as := [.int x1, .int 0, .int ((g.1 3 0) - 1)]) (h1 := (sh0, g)) (r1 := some (.int (am_b q1))) (st' := [.int (am_b q1)]) dX8_isWalker_11 rfl cl_8_79 (Or.inl rfl) rfl rfl ⟨Nat.le_of_ble_eq_true rfl, Nat.le_of_ble_eq_true rfl⟩ (am_le0 _ _ _) (am_up (by decide) (ev_Tb_isWithin hq2)) rfl ?_
  cases h
  exact fe_rz _ dX8_isWalker_14 rfl rfl
-- Ca_isWet: X2_isWet
set_option maxRecDepth 4000 in
theorem ev_Ca_isWet {g : am_G} {c : Nat} {x1 : Int32} {w : Bool} (hc : c ∈ am_camps) (h : Ca_isWet g c x1 = some w) : am_Ev 1 25 [.ref c, .int x1] (sh0, g) (sh0, g) (some (.int (am_b w))) := by
  unfold Ca_isWet at h
  refine am_ev mX2_isWet (by rfl) (Nat.le_of_ble_eq_true rfl) [(0, .ref c), (1, .int x1)] rfl ?_
  refine fe_lan (pc' := 1) dX2_isWet_0 rfl rfl ?_
  refine fe_gf (pc' := 4) dX2_isWet_1 rfl fl_2_24 (sc_ne hc) (cg_5 hc) ?_
  refine fe_lin (pc' := 5) dX2_isWet_4 rfl rfl ?_
  refine fe_ishr (pc' := 6) dX2_isWet_5 rfl ?_
  refine fe_ic (pc' := 7) dX2_isWet_6 rfl ic_1 ?_
  refine fe_iand (pc' := 8) dX2_isWet_7 rfl ?_
  refine fe_ic (pc' := 9) dX2_isWet_8 rfl ic_1 ?_
  refine fe_ic_ne (pc' := 12) (tgt := 16) dX2_isWet_9 rfl rfl (fun hc1 => ?_) (fun hc1 => ?_)
  · replace h := (if_pos hc1).symm.trans h
    refine fe_ic (pc' := 13) dX2_isWet_12 rfl ic_1 ?_
    refine fe_go (tgt := 17) dX2_isWet_13 rfl ?_
    cases h
    exact fe_rz _ dX2_isWet_17 rfl rfl
  · replace h := (if_neg hc1).symm.trans h
    refine fe_ic (pc' := 17) dX2_isWet_16 rfl ic_0 ?_
    cases h
    exact fe_rz _ dX2_isWet_17 rfl rfl
-- Ca_weight: X2_weight
set_option maxRecDepth 4000 in
theorem ev_Ca_weight {g : am_G} {c : Nat} {x1 : Int32} {w : Int32} (hc : c ∈ am_camps) (h : Ca_weight g c x1 = some w) : am_Ev 2 30 [.ref c, .int x1] (sh0, g) (sh0, g) (some (.int w)) := by
  unfold Ca_weight at h
  refine am_ev mX2_weight (by rfl) (Nat.le_of_ble_eq_true rfl) [(0, .ref c), (1, .int x1)] rfl ?_
  refine fe_lan (pc' := 1) dX2_weight_0 rfl rfl ?_
  refine fe_gf (pc' := 4) dX2_weight_1 rfl fl_2_31 (sc_ne hc) (cg_7 hc) ?_
  refine fe_lin (pc' := 5) dX2_weight_4 rfl rfl ?_
  obtain ⟨hi1, h⟩ := am_gd rfl h
  refine fe_al (pc' := 6) (j := x1.toNatClampNeg) dX2_weight_5 rfl (sc_n2 hc) (sc_2 hc) hi1 rfl ?_
  refine fe_if_le (pc' := 9) (tgt := 36) dX2_weight_6 rfl rfl (fun hc2 => ?_) (fun hc2 => ?_)
  · replace h := (if_pos hc2).symm.trans h
    refine fe_lan (pc' := 37) dX2_weight_36 rfl rfl ?_
    refine fe_gf (pc' := 40) dX2_weight_37 rfl fl_2_31 (sc_ne hc) (cg_7 hc) ?_
    refine fe_lin (pc' := 41) dX2_weight_40 rfl rfl ?_
    refine fe_al (pc' := 42) (j := x1.toNatClampNeg) dX2_weight_41 rfl (sc_n2 hc) (sc_2 hc) hi1 rfl ?_
    cases h
    exact fe_ri dX2_weight_42 rfl
  · replace h := (if_neg hc2).symm.trans h
    refine fe_lan (pc' := 10) dX2_weight_9 rfl rfl ?_
    refine fe_lin (pc' := 11) dX2_weight_10 rfl rfl ?_
    obtain ⟨q3, hq4, h⟩ := am_bd h
    refine fe_iv (pc' := 14) (as := [.ref c, .int x1]) (h1 := (sh0, g)) (r1 := some (.int (am_b q3))) (st' := [.int (am_b q3)]) dX2_weight_11 rfl cl_2_63 rfl rfl (sc_o hc) ms_25 ⟨(sc_ne hc), rfl, by decide, Nat.le_of_ble_eq_true rfl, Nat.le_of_ble_eq_true rfl⟩ (am_le0 _ _ _) (am_up (by decide) (ev_Ca_isWet hc hq4)) rfl ?_
    refine fe_bT (pc' := 17) (tgt := 36) dX2_weight_14 rfl rfl rfl (fun hc5 => ?_) (fun hc5 => ?_)
    · replace h := (if_pos hc5).symm.trans h
      refine fe_lan (pc' := 18) dX2_weight_17 rfl rfl ?_
      refine fe_gf (pc' := 21) dX2_weight_18 rfl fl_2_31 (sc_ne hc) (cg_7 hc) ?_
      refine fe_lin (pc' := 22) dX2_weight_21 rfl rfl ?_
      refine fe_al (pc' := 23) (j := x1.toNatClampNeg) dX2_weight_22 rfl (sc_n2 hc) (sc_2 hc) hi1 rfl ?_
      refine fe_lan (pc' := 24) dX2_weight_23 rfl rfl ?_
      refine fe_gf (pc' := 27) dX2_weight_24 rfl fl_2_37 (sc_ne hc) (cg_0 hc) ?_
      refine fe_gf (pc' := 30) dX2_weight_27 rfl fl_2_66 n_3 gf_3_5 ?_
      refine fe_lin (pc' := 31) dX2_weight_30 rfl rfl ?_
      refine fe_al (pc' := 32) (j := x1.toNatClampNeg) dX2_weight_31 rfl n_7 s_7 hi1 rfl ?_
      refine fe_iadd (pc' := 33) dX2_weight_32 rfl ?_
      refine fe_go (tgt := 42) dX2_weight_33 rfl ?_
      cases h
      exact fe_ri dX2_weight_42 rfl
    · replace h := (if_neg hc5).symm.trans h
      refine fe_lan (pc' := 37) dX2_weight_36 rfl rfl ?_
      refine fe_gf (pc' := 40) dX2_weight_37 rfl fl_2_31 (sc_ne hc) (cg_7 hc) ?_
      refine fe_lin (pc' := 41) dX2_weight_40 rfl rfl ?_
      refine fe_al (pc' := 42) (j := x1.toNatClampNeg) dX2_weight_41 rfl (sc_n2 hc) (sc_2 hc) hi1 rfl ?_
      cases h
      exact fe_ri dX2_weight_42 rfl
-- Ca_load: X2_load
set_option maxRecDepth 4000 in
theorem lp_Ca_load_L4 {c : Nat} (hc : c ∈ am_camps) {hE : am_H} {r : Option Value} : ∀ (n : Nat) (g : am_G) (x1 : Int32) (x2 : Int32) (x3 : Int32) (w : Int32), Ca_load_L4 n g c x1 x2 x3 = some w → am_E 2 mX2_load (39, [(2, .int w)], [], (sh0, g)) hE r → am_E 2 mX2_load (4, [(0, .ref c), (1, .int x1), (2, .int x2), (3, .int x3)], [], (sh0, g)) hE r := by
  intro n
  induction n with
  | zero => intro g x1 x2 x3 q h; cases h
  | succ n ih =>
    intro g x1 x2 x3 q h k1
    replace h : _ = _ := h
    unfold Ca_load_L4 at h
    refine fe_lin (pc' := 5) dX2_load_4 rfl rfl ?_
    refine fe_lan (pc' := 6) dX2_load_5 rfl rfl ?_
    refine fe_gf (pc' := 9) dX2_load_6 rfl fl_2_37 (sc_ne hc) (cg_0 hc) ?_
    refine fe_gf (pc' := 12) dX2_load_9 rfl fl_2_69 n_3 gf_3_3 ?_
    refine fe_ic_ge (pc' := 15) (tgt := 39) dX2_load_12 rfl rfl (fun hc1 => ?_) (fun hc1 => ?_)
    · replace h := (if_pos hc1).symm.trans h
      refine fe_pick [2] rfl ?_
      cases h
      exact k1
    · replace h := (if_neg hc1).symm.trans h
      refine fe_lan (pc' := 16) dX2_load_15 rfl rfl ?_
      refine fe_gf (pc' := 19) dX2_load_16 rfl fl_2_27 (sc_ne hc) (cg_6 hc) ?_
      refine fe_lin (pc' := 20) dX2_load_19 rfl rfl ?_
      obtain ⟨hi2, h⟩ := am_gd rfl h
      refine fe_al (pc' := 21) (j := x3.toNatClampNeg) dX2_load_20 rfl (sc_n1 hc) (sc_1 hc) hi2 rfl ?_
      refine fe_lin (pc' := 22) dX2_load_21 rfl rfl ?_
      obtain ⟨q6, hq8, h⟩ := am_bd h
      have K : am_E 2 mX2_load (33, [(0, .ref c), (1, .int x1), (2, .int q6), (3, .int x3)], [], (sh0, g)) hE r := by
        refine fe_inc (pc' := 36) (lo' := [(0, .ref c), (1, .int x1), (2, .int q6), (3, .int (x3 + 1))]) dX2_load_33 rfl ic_1 (Nat.le_of_ble_eq_true rfl) rfl rfl ?_
        refine fe_go (tgt := 4) dX2_load_36 rfl ?_
        exact ih g x1 q6 (x3 + 1) q h k1
      replace h := hq8
      refine fe_ic_ne (pc' := 25) (tgt := 33) dX2_load_22 rfl rfl (fun hc3 => ?_) (fun hc3 => ?_)
      · replace h := (if_pos hc3).symm.trans h
        refine fe_lin (pc' := 26) dX2_load_25 rfl rfl ?_
        refine fe_lan (pc' := 27) dX2_load_26 rfl rfl ?_
        refine fe_lin (pc' := 28) dX2_load_27 rfl rfl ?_
        obtain ⟨q4, hq5, h⟩ := am_bd h
        refine fe_iv (pc' := 31) (as := [.ref c, .int x3]) (h1 := (sh0, g)) (r1 := some (.int q4)) (st' := [.int q4, .int x2]) dX2_load_28 rfl cl_2_72 rfl rfl (sc_o hc) ms_30 ⟨(sc_ne hc), rfl, by decide, Nat.le_of_ble_eq_true rfl, Nat.le_of_ble_eq_true rfl⟩ (am_le0 _ _ _) (am_up (by decide) (ev_Ca_weight hc hq5)) rfl ?_
        refine fe_iadd (pc' := 32) dX2_load_31 rfl ?_
        refine fe_sin (pc' := 33) (lo' := [(0, .ref c), (1, .int x1), (2, .int (x2 + q4)), (3, .int x3)]) dX2_load_32 rfl (Nat.le_of_ble_eq_true rfl) rfl ?_
        cases h
        exact K
      · replace h := (if_neg hc3).symm.trans h
        cases h
        exact K
set_option maxRecDepth 4000 in
theorem ev_Ca_load {g : am_G} {c : Nat} {x1 : Int32} {w : Int32} (hc : c ∈ am_camps) (h : Ca_load g c x1 = some w) : am_Ev 3 31 [.ref c, .int x1] (sh0, g) (sh0, g) (some (.int w)) := by
  unfold Ca_load at h
  refine am_ev mX2_load (by rfl) (Nat.le_of_ble_eq_true rfl) [(0, .ref c), (1, .int x1)] rfl ?_
  refine fe_ic (pc' := 1) dX2_load_0 rfl ic_0 ?_
  refine fe_sin (pc' := 2) (lo' := [(0, .ref c), (1, .int x1), (2, .int 0)]) dX2_load_1 rfl (Nat.le_of_ble_eq_true rfl) rfl ?_
  refine fe_ic (pc' := 3) dX2_load_2 rfl ic_0 ?_
  refine fe_sin (pc' := 4) (lo' := [(0, .ref c), (1, .int x1), (2, .int 0), (3, .int 0)]) dX2_load_3 rfl (Nat.le_of_ble_eq_true rfl) rfl ?_
  obtain ⟨q7, hq9, h⟩ := am_bd h
  refine lp_Ca_load_L4 hc _ g x1 0 0 q7 hq9 ?_
  refine fe_lin (pc' := 40) dX2_load_39 rfl rfl ?_
  cases h
  exact fe_ri dX2_load_40 rfl
