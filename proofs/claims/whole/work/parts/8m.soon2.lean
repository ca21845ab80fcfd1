-- SOONEST, the calls
section
variable {T S R f y z : Nat → Nat} {g g' : am_G} {L N t j k p M c : Nat}
theorem vld_0 (hR : SW T R) : vld T R (fun t => R (8 + t)) := fun t ht => ⟨fun e => e, fun q => ((hR.2.2 t ht).1).resolve_right q⟩
theorem to_findSoonest (h : CI T g 28 S) (hd : S 0 < T 2) (h0 : 0 < T 0) : ∃ g', To_findSoonest g = some (g', true) ∧ BS T (wk T S) (T (47 + S 0)) (Wn T (wk T S) 0 (T 1)) g' ∧ Fm pT g g' := by
  have hb := h.bb
  have hL := (h.dd hd).2.2.2.1
  obtain ⟨g1, e1, h77, h28, h74, f1⟩ := to_wake h hd
  have hR := h77.2.2.1
  generalize hRR : wk T S = R at h77 hR ⊢
  generalize hLL : T (47 + S 0) = L at hL h74 ⊢
  have fA : Fm (fun a k => a = 74 ∧ 3 ≤ k) g1 (am_wr (am_wr (am_wr g1 74 3 1000000000) 74 4 1000000000) 74 7 0) := (((Fm.rf _ _).wr ⟨rfl, by omega⟩).wr ⟨rfl, by omega⟩).wr ⟨rfl, by omega⟩
  have h77a : CI T (am_wr (am_wr (am_wr g1 74 3 1000000000) 74 4 1000000000) 74 7 0) 77 R := h77.fm fA (fun a k q1 q2 q => by omega) (fun a k q1 q2 q => by omega)
  obtain ⟨g2, e2, k2, k2b, k2c⟩ := lp_up (fun n (a : am_G) k => To_findSoonest_L29 n a (nI k)) (T 1) (fun k a => CI T a 77 R ∧ a.1 74 7 = nI (AP T R k) ∧ Fm (fun a k => a = 74 ∧ k = 7) (am_wr (am_wr (am_wr g1 74 3 1000000000) 74 4 1000000000) 74 7 0) a) (fun a => CI T a 77 R ∧ a.1 74 7 = nI (AP T R (T 1)) ∧ Fm (fun a k => a = 74 ∧ k = 7) (am_wr (am_wr (am_wr g1 74 3 1000000000) 74 4 1000000000) 74 7 0) a)
    (fun n a ha => ⟨a, by rw [To_findSoonest_L29]; simp (disch := omega) only [ha.1.n, z_lt, z_le, z_eq, z_in, z_cl, z_add, z_mul, z_mx, z_mn, zl12, zl18, zl19, zl30, zl115, zl116, zl119, zl291, zl640, zl999, zl9999, zl0, zl1, zl2, zl3, zl4, zl5, zl6, zl7, zl8, zl9, zl10, zl15, zl20, zl22, zl26, zl29, zl32, zl33, zl40, zl47, zl48, zl55, zl57, zl59, zl60, zl63, zl71, zl97, zl99, zl100, zl122, zl200, zl255, zl320, zl1000, zl1024, zl5040, zl1000000000, Nat.le_refl, ↓reduceIte], ha⟩)
    (fun n k a hk ha => by
      obtain ⟨a1, a2, a3⟩ := ha
      have h6 : ¬ T 1 ≤ k := by omega
      refine ⟨am_wr a 74 7 (nI (AP T R (k + 1))), ?_, a1.fm (P := fun a _ => a = 74) ((Fm.rf _ _).wr rfl) (fun a k q1 q2 q => by omega) (fun a k q1 q2 q => by omega), by rw [m_eq], a3.wr ⟨rfl, rfl⟩⟩
      show To_findSoonest_L29 (n + 1) a (nI k) = _
      rw [To_findSoonest_L29, ca_isCarried a1 hk, Option.bind_some, ca_weight a1 hk, a2]
      unfold AP
      rw [sm_s]
      by_cases q : R (8 + k) = 9
      · simp (disch := omega) only [a1.n, z_lt, z_le, z_eq, z_in, z_cl, z_add, z_mul, z_mx, z_mn, zl12, zl18, zl19, zl30, zl115, zl116, zl119, zl291, zl640, zl999, zl9999, zl0, zl1, zl2, zl3, zl4, zl5, zl6, zl7, zl8, zl9, zl10, zl15, zl20, zl22, zl26, zl29, zl32, zl33, zl40, zl47, zl48, zl55, zl57, zl59, zl60, zl63, zl71, zl97, zl99, zl100, zl122, zl200, zl255, zl320, zl1000, zl1024, zl5040, zl1000000000, h6, q, ne_eq, not_true_eq_false, decide_false, Option.bind_some, Option.bind_none, ↓reduceIte, Bool.false_eq_true, reduceCtorEq]
      · simp (disch := omega) only [a1.n, z_lt, z_le, z_eq, z_in, z_cl, z_add, z_mul, z_mx, z_mn, zl12, zl18, zl19, zl30, zl115, zl116, zl119, zl291, zl640, zl999, zl9999, zl0, zl1, zl2, zl3, zl4, zl5, zl6, zl7, zl8, zl9, zl10, zl15, zl20, zl22, zl26, zl29, zl32, zl33, zl40, zl47, zl48, zl55, zl57, zl59, zl60, zl63, zl71, zl97, zl99, zl100, zl122, zl200, zl255, zl320, zl1000, zl1024, zl5040, zl1000000000, h6, q, ne_eq, not_false_eq_true, decide_true, Option.bind_some, Option.bind_none, ↓reduceIte, Bool.false_eq_true, reduceCtorEq])
    am_fuel 0 (am_wr (am_wr (am_wr g1 74 3 1000000000) 74 4 1000000000) 74 7 0) (by omega) (z_fuel (by omega)) ⟨h77a, by rw [m_eq]; rfl, Fm.rf _ _⟩
  have p0 : ∀ f w, pl T R f 0 w = 0 := fun _ _ => rfl
  have L2 : g2.1 74 2 = nI L := by rw [k2c.2 _ _ (by omega), fA.2 _ _ (by omega)]; exact h74
  obtain ⟨r, e3, k3, k3b, k3c, k3d⟩ := lp_up (fun n (a : am_G × Int32) k => To_findSoonest_L82 n a.1 a.2 (nI k)) (T 0) (fun k a => CI T a.1 77 R ∧ (∀ w, w < k → a.1.1 76 w = 0) ∧ Fm (fun a _ => a = 76) g2 a.1 ∧ a.2 = nI (gr (fun w => tks L (pac T R w 0)) k)) (fun a => CI T a.1 77 R ∧ (∀ w, w < T 0 → a.1.1 76 w = 0) ∧ Fm (fun a _ => a = 76) g2 a.1 ∧ a.2 = nI (gr (fun w => tks L (pac T R w 0)) (T 0)))
    (fun n a ha => ⟨a, by rw [To_findSoonest_L82]; simp (disch := omega) only [ha.1.n, z_lt, z_le, z_eq, z_in, z_cl, z_add, z_mul, z_mx, z_mn, zl12, zl18, zl19, zl30, zl115, zl116, zl119, zl291, zl640, zl999, zl9999, zl0, zl1, zl2, zl3, zl4, zl5, zl6, zl7, zl8, zl9, zl10, zl15, zl20, zl22, zl26, zl29, zl32, zl33, zl40, zl47, zl48, zl55, zl57, zl59, zl60, zl63, zl71, zl97, zl99, zl100, zl122, zl200, zl255, zl320, zl1000, zl1024, zl5040, zl1000000000, Nat.le_refl, ↓reduceIte], ha⟩)
    (fun n k a hk ha => by
      obtain ⟨a1, a2, a3, a4⟩ := ha
      have h6 : ¬ T 0 ≤ k := by omega
      have c1 : CI T (am_wr a.1 76 k 0) 77 R := a1.fm (P := fun a _ => a = 76) ((Fm.rf _ _).wr rfl) (fun a k q1 q2 q => by omega) (fun a k q1 q2 q => by omega)
      have c2 := ca_minutesFor c1 hk (l := 0) (L := L) (by omega) hL
      have c3 : (am_wr a.1 76 k 0).1 74 2 = nI L := by rw [m_na (by omega), a3.2 _ _ (by omega)]; exact L2
      have b1 := gr_le (n := k) (f := fun w => tks L (pac T R w 0)) (c := 1200) (fun i _ => tks_le hL (pac_le _ _ _ _).1)
      have b2 := tks_le hL (pac_le T R k 0).1
      refine ⟨(am_wr a.1 76 k 0, nI (gr (fun w => tks L (pac T R w 0)) (k + 1))), ?_, c1, fun w hw => ?_, a3.wr rfl, rfl⟩
      · show To_findSoonest_L82 (n + 1) a.1 a.2 (nI k) = _
        rw [To_findSoonest_L82, z_cl (by omega), c3, show Ca_minutesFor (am_wr a.1 76 k 0) 77 (nI k) 0 (nI L) = some (nI (tks L (pac T R k 0))) from c2, Option.bind_some, a4, gr_zs, z_mx (by omega) (by omega), nI_1, a1.n.1, if_neg (nI_ge hk (by omega)), if_pos (z_in (by omega) (by omega))]
      · by_cases e : w = k
        · subst e; rw [m_eq]
        · rw [m_nk e]; exact a2 w (by omega))
    am_fuel 0 (g2, 0) (by omega) (z_fuel (by omega)) ⟨k2, fun w hw => by omega, Fm.rf _ _, rfl⟩
  have hP : PS T R (fun t => R (8 + t)) L 0 r.1 := ⟨by rw [wf_id]; exact k3, vld_0 hR, by rw [k3c.2 _ _ (by omega)]; exact L2, by rw [k3c.2 _ _ (by omega)]; exact k2b, fun w hw => by rw [p0]; exact k3b w hw⟩
  have hB : BS T R L (pn T R (fun t => R (8 + t)) 0 * Wn T R 0 (T 1)) r.1 := by
    refine ⟨none, Or.inl ⟨rfl, fun y _ q => ?_⟩, fun _ => ⟨?_, ?_⟩, (fun z e => by cases e)⟩
    · rw [show pn T R (fun t => R (8 + t)) 0 = 0 from rfl, Nat.zero_mul] at q; omega
    · rw [k3c.2 _ _ (by omega), k2c.2 _ _ (by omega), m_nk (by omega), m_nk (by omega), m_eq]; rfl
    · rw [k3c.2 _ _ (by omega), k2c.2 _ _ (by omega), m_nk (by omega), m_eq]; rfl
  obtain ⟨g4, f4, d1, d2, d3, d4, d5⟩ := to_place hR h0 hL (T 1) 0 14 r.1 (fun t => R (8 + t)) (by omega) (by omega) hP hB
  rw [show pn T R (fun t => R (8 + t)) 0 = 0 from rfl, Nat.zero_add, Nat.one_mul] at d4
  have f24 : Fm pT g r.1 := ((f1.tr (fA.mo (fun a k q => by unfold pT; omega))).tr (k2c.mo (fun a k q => by unfold pT; omega))).tr (k3c.mo (fun a k q => by unfold pT; omega))
  refine ⟨g4, ?_, d4, f24.tr d5⟩
  rw [To_findSoonest, e1, Option.bind_some, if_pos rfl, show To_findSoonest_L29 am_fuel (am_wr (am_wr (am_wr g1 74 3 1000000000) 74 4 1000000000) 74 7 0) 0 = some g2 from e2, Option.bind_some, show To_findSoonest_L82 am_fuel g2 0 0 = some r from e3, Option.bind_some, k3d]
  rw [show To_place 14 r.1 0 (nI (gr (fun w => tks L (pac T R w 0)) (T 0))) = some g4 from d1]; rfl
-- the reference
theorem lod_wf (hT : TW T) (w : Nat) : lod T (wf R f) w = pl T R f (T 1) w := by
  have := hT.2.1
  refine sm_cg (fun t ht => ?_)
  unfold lodf
  rw [wf_at (by omega), wf_wgh (by omega)]
theorem slo_wf (hT : TW T) : slo T (wf R f) L = mnt T R f L (T 1) := by
  have := hT.1
  refine gr_cg (fun w hw => ?_)
  unfold tkw pac
  rw [lod_wf hT, wf_ne (by omega)]
theorem gI_gr (a : Nat → Nat) {n : Nat} (hn : 0 < n) : gI (fun w => (a w : Int)) n = (gr a n : Int) := by
  induction n with
  | zero => omega
  | succ n ih =>
    simp only [gI, gr]
    by_cases e : n = 0
    · subst e; simp only [gI, gr]; omega
    · rw [ih (by omega)]; omega
theorem lI_mi (a : Nat → Nat) (n : Nat) : lI (fun w => (a w : Int)) n = (mi a n : Int) := by
  induction n with
  | zero => rfl
  | succ n ih => simp only [lI, mi]; rw [ih]; omega
theorem mo_fai (h : RI T g (wf R f)) (hR : SW T R) (h0 : 0 < T 0) : Mo_fair g 0 = some (nI (fai T R f)) := by
  have h1 := mo_fair h false
  rw [show am_b false = 0 from rfl, if_neg (by omega)] at h1
  have e : bur T (wf R f) false = fun w => ((pl T R f (T 1) w : Nat) : Int) := by
    funext w
    unfold bur
    rw [if_neg (by simp), lod_wf h.1]
  have mb := mi_b h0 (f := pl T R f (T 1)) (fun i _ => pl_le h.1 hR f (Nat.le_refl _) i)
  rw [h1, e, gI_gr _ h0, lI_mi, zI_n]
  congr 2
  unfold fai
  omega
theorem sn_cg (h : ∀ u, k ≤ u → u < k + j → f u = y u) (p : Nat) : sn T R f k j p = sn T R y k j p := by
  induction j with
  | zero => rfl
  | succ j ih => rw [sn, sn, ih (fun u h1 h2 => h u h1 (by omega)), stp, stp, h (k + j) (by omega) (by omega)]
theorem sn_1 (k j p : Nat) : sn T R f k (j + 1) p = sn T R f (k + 1) j (stp T R f k p) := by
  have := sn_split (T := T) (R := R) (f := f) k 1 j p
  rw [show 1 + j = j + 1 by omega] at this
  rw [this]; rfl
theorem mo_lays (h : RI T g (wf R f)) (hf : vld T R f) (h0 : 0 < T 0) (hc : c < Wn T R 0 (T 1)) (hc2 : c < 2 ^ 31) : ∃ g' f', Mo_lays g (nI c) = some g' ∧ RI T g' (wf R f') ∧ vld T R f' ∧ pn T R f' (T 1) = c ∧ Fm pR g g' := by
  have hb := h.bb
  have neg : (nI 0 - 1 : Int32) < 0 := by decide
  obtain ⟨r, e1, f', e2, e3, e4, e5⟩ := lp_dn (fun n (a : am_G × Int32) k => Mo_lays_L11 n a.1 a.2 (nI k - 1)) (fun k a => k ≤ T 1 ∧ ∃ f' l, a.2 = nI l ∧ l ≤ c ∧ RI T a.1 (wf R f') ∧ vld T R f' ∧ sn T R f' k (T 1 - k) l = c ∧ Fm pR g a.1)
    (fun a => ∃ f', RI T a (wf R f') ∧ vld T R f' ∧ pn T R f' (T 1) = c ∧ Fm pR g a)
    (fun n a ha => by
      obtain ⟨a0, f', l, a1, a2, a3, a4, a5, a6⟩ := ha
      refine ⟨a.1, by rw [Mo_lays_L11, if_pos neg], f', a3, a4, ?_, a6⟩
      rw [Nat.sub_zero] at a5
      have hs := (sn_b a4 (show 0 + T 1 ≤ T 1 by omega) l).1
      rw [a5] at hs
      have el : l = 0 := by
        refine Classical.byContradiction (fun q => ?_)
        have := Nat.mul_le_mul_right (Wn T R 0 (T 1)) (show 1 ≤ l by omega)
        omega
      rw [el] at a5
      exact a5)
    (fun n k a ha => by
      obtain ⟨a0, f', l, a1, a2, a3, a4, a5, a6⟩ := ha
      have hk : k < T 1 := by omega
      have pk : nI k + (-1) = nI k - 1 := (Int32.sub_eq_add_neg ..).symm
      have v := a4 k hk
      have ej : T 1 - k = (T 1 - (k + 1)) + 1 := by omega
      have w8 : a.1.1 225 (8 + k) = nI (f' k) := by rw [a3.r (by omega), wf_at (by omega)]
      by_cases q : R (8 + k) = 9
      · refine ⟨a, ?_, by omega, f', l, a1, a2, a3, a4, ?_, a6⟩
        · show Mo_lays_L11 (n + 1) a.1 a.2 (nI (k + 1) - 1) = _
          rw [nI_pred, Mo_lays_L11, if_neg (nI_pos (by omega)), zl8, z_add, if_pos (z_in (by omega) (by omega)), z_cl (by omega), w8, v.1 q, if_pos (show nI 9 = 9 from rfl), Option.bind_some, pk]
        · rw [ej, sn_1, stp, if_pos q]; exact a5
      · have c2 := a3.wr (j := 8 + k) (v := l % T 0) (a3.2.2.1.upW a3.1 hk (Or.inl (Nat.mod_lt _ h0)))
        rw [wf_up (by omega)] at c2
        have w0 : ∀ v, (am_wr a.1 225 (8 + k) v).1 223 0 = nI (T 0) := fun v => by rw [m_na (by omega)]; exact a3.u (by omega)
        have hne : ¬ nI (T 0) = 0 := by rw [zl0]; exact z_ne (by omega) (by omega) (by omega)
        refine ⟨(am_wr a.1 225 (8 + k) (nI (l % T 0)), nI (l / T 0)), ?_, by omega, up f' k (l % T 0), l / T 0, rfl, Nat.le_trans (Nat.div_le_self _ _) a2, c2, fun u hu => ?_, ?_, a6.wr (Or.inl ⟨rfl, by omega⟩)⟩
        · show Mo_lays_L11 (n + 1) a.1 a.2 (nI (k + 1) - 1) = _
          rw [nI_pred, Mo_lays_L11, if_neg (nI_pos (by omega)), zl8, z_add, if_pos (z_in (by omega) (by omega)), z_cl (by omega), w8, zl9, if_neg (z_ne (by have := v.2 q; omega) (by omega) (by have := v.2 q; omega)), w0, a3.u (by omega), if_pos hne, if_pos hne, Option.bind_some, pk, a1, z_rem (by omega) h0 (by omega), z_div (by omega) h0 (by omega)]
        · by_cases e : u = k
          · subst e; rw [up_eq]; exact ⟨fun e => absurd e q, fun _ => Nat.mod_lt _ h0⟩
          · rw [up_ne e]; exact a4 u hu
        · rw [ej, sn_1, stp, if_neg q, up_eq, show l / T 0 * T 0 + l % T 0 = l by rw [Nat.mul_comm]; exact Nat.div_add_mod _ _, sn_cg (y := f') (fun u h1 h2 => up_ne (by omega))]
          exact a5)
    am_fuel (T 1) (g, nI c) (z_fuel (by omega)) ⟨Nat.le_refl _, f, c, rfl, Nat.le_refl _, h, hf, by rw [Nat.sub_self]; rfl, Fm.rf _ _⟩
  refine ⟨r, f', ?_, e2, e3, e4, e5⟩
  rw [Mo_lays, h.u (by omega), show Mo_lays_L11 am_fuel g (nI c) (nI (T 1) - 1) = some r from e1]; rfl
theorem Wn_le (hT : TW T) (j : Nat) (hj : j ≤ 7) : Wn T R 0 j ≤ 16384 := by
  have h1 : ∀ j, Wn T R 0 j ≤ 4 ^ j := by
    intro j
    induction j with
    | zero => exact Nat.le_refl _
    | succ j ih =>
      rw [Wn, Nat.pow_succ]
      refine Nat.mul_le_mul ih ?_
      have := hT.1
      unfold fc
      split <;> omega
  exact Nat.le_trans (h1 j) (Nat.pow_le_pow_right (n := 4) (by omega) hj)
theorem mo_ways (h : RI T g R) (y : Int32) : Mo_soonest_L56 am_fuel g y 1 0 = some (nI (Wn T R 0 (T 1))) := by
  have hb := h.bb
  obtain ⟨b, h1, h2⟩ := lp_up (fun n (a : Int32) k => Mo_soonest_L56 n g y a (nI k)) (T 1) (fun k a => a = nI (Wn T R 0 k)) (fun a => a = nI (Wn T R 0 (T 1)))
    (fun n a ha => ⟨a, by rw [Mo_soonest_L56]; simp (disch := omega) only [h.u, z_lt, z_le, z_eq, z_in, z_cl, z_add, z_mul, z_mx, z_mn, zl12, zl18, zl19, zl30, zl115, zl116, zl119, zl291, zl640, zl999, zl9999, zl0, zl1, zl2, zl3, zl4, zl5, zl6, zl7, zl8, zl9, zl10, zl15, zl20, zl22, zl26, zl29, zl32, zl33, zl40, zl47, zl48, zl55, zl57, zl59, zl60, zl63, zl71, zl97, zl99, zl100, zl122, zl200, zl255, zl320, zl1000, zl1024, zl5040, zl1000000000, Nat.le_refl, ↓reduceIte], ha⟩)
    (fun n k a hk ha => by
      have h6 : ¬ T 1 ≤ k := by omega
      have h4 := h.tb hk
      refine ⟨_, ?_, rfl⟩
      rw [Mo_soonest_L56, ha, Wn, Nat.zero_add, fc]
      by_cases q : R (8 + k) = 9
      · simp (disch := omega) only [h.u, h.r, h6, z_lt, z_le, z_eq, z_in, z_cl, z_add, z_mul, z_mx, z_mn, zl12, zl18, zl19, zl30, zl115, zl116, zl119, zl291, zl640, zl999, zl9999, zl0, zl1, zl2, zl3, zl4, zl5, zl6, zl7, zl8, zl9, zl10, zl15, zl20, zl22, zl26, zl29, zl32, zl33, zl40, zl47, zl48, zl55, zl57, zl59, zl60, zl63, zl71, zl97, zl99, zl100, zl122, zl200, zl255, zl320, zl1000, zl1024, zl5040, zl1000000000, q, Option.bind_some, Option.bind_none, ↓reduceIte, Bool.false_eq_true, reduceCtorEq]
      · simp (disch := omega) only [h.u, h.r, h6, z_lt, z_le, z_eq, z_in, z_cl, z_add, z_mul, z_mx, z_mn, zl12, zl18, zl19, zl30, zl115, zl116, zl119, zl291, zl640, zl999, zl9999, zl0, zl1, zl2, zl3, zl4, zl5, zl6, zl7, zl8, zl9, zl10, zl15, zl20, zl22, zl26, zl29, zl32, zl33, zl40, zl47, zl48, zl55, zl57, zl59, zl60, zl63, zl71, zl97, zl99, zl100, zl122, zl200, zl255, zl320, zl1000, zl1024, zl5040, zl1000000000, q, Option.bind_some, Option.bind_none, ↓reduceIte, Bool.false_eq_true, reduceCtorEq])
    am_fuel 0 1 (by omega) (z_fuel (by omega)) rfl
  exact h1.trans (by rw [h2])
theorem mo_soonL (h : RI T g R) (h0 : 0 < T 0) (hd : R 0 < T 2) (y : Int32) : ∃ g' f' z, Mo_soonest_L107 am_fuel g y (nI (Wn T R 0 (T 1))) (-1) 0 0 = some (g', nI (Ky T R z (T (47 + R 0))), nI (pn T R z (T 1))) ∧ FB T R (T (47 + R 0)) (Wn T R 0 (T 1)) (some z) ∧ RI T g' (wf R f') ∧ vld T R f' ∧ Fm pR g g' := by
  have hb := h.bb
  have hT := h.1
  have hR := h.2.2.1
  have hL := (h.db hd).1
  have hW := Wn_le (R := R) hT (T 1) hb.2.1
  have hWp := Wn_pos (R := R) h0 0 (T 1)
  generalize hLL : T (47 + R 0) = L at hL ⊢
  obtain ⟨r, e1, f', z, e2, e3, e4, e5, e6⟩ := lp_up (fun n (a : am_G × Int32 × Int32) k => Mo_soonest_L107 n a.1 y (nI (Wn T R 0 (T 1))) a.2.1 a.2.2 (nI k)) (Wn T R 0 (T 1))
    (fun k a => ∃ f', RI T a.1 (wf R f') ∧ vld T R f' ∧ Fm pR g a.1 ∧ ∃ r, FB T R L k r ∧ (r = none → a.2.1 = -1 ∧ a.2.2 = 0) ∧ (∀ z, r = some z → a.2.1 = nI (Ky T R z L) ∧ a.2.2 = nI (pn T R z (T 1))))
    (fun a => ∃ f' z, RI T a.1 (wf R f') ∧ vld T R f' ∧ Fm pR g a.1 ∧ FB T R L (Wn T R 0 (T 1)) (some z) ∧ a.2 = (nI (Ky T R z L), nI (pn T R z (T 1))))
    (fun n a ha => by
      obtain ⟨f', a1, a2, a3, r, a4, a5, a6⟩ := ha
      refine ⟨a, by rw [Mo_soonest_L107, if_pos (nI_le (Nat.le_refl _) (by omega))], ?_⟩
      cases r with
      | none =>
        rcases a4 with ⟨-, k2⟩ | ⟨z, k1, -⟩
        · have v0 := vld_0 hR
          have := (sn_b v0 (show 0 + T 1 ≤ T 1 by omega) 0).2
          rw [Nat.zero_add, Nat.one_mul] at this
          exact absurd this (k2 _ v0)
        · cases k1
      | some z => exact ⟨f', z, a1, a2, a3, a4, by rw [← (a6 z rfl).1, ← (a6 z rfl).2]⟩)
    (fun n k a hk ha => by
      obtain ⟨f', a1, a2, a3, r, a4, a5, a6⟩ := ha
      obtain ⟨g2, f2, c1, c2, c3, c4, c5⟩ := mo_lays a1 a2 h0 hk (by omega)
      obtain ⟨k1, k2⟩ := FB_add a4 c3 c4
      have d0 : g2.1 225 0 = nI (R 0) := by rw [c2.r (by omega), wf_ne (by omega)]
      have e6 : Mo_slowest g2 (nI L) = some (nI (mnt T R f2 L (T 1))) := by rw [mo_slowest c2 hL, slo_wf hT]
      have e7 := mo_fai c2 hR h0
      have hm := mnt_le (T := T) (R := R) hL f2 (T 1)
      have hf := fai_le hT hR f2
      have eK : nI 1024 * nI (mnt T R f2 L (T 1)) + nI (fai T R f2) = nI (Ky T R f2 L) := by rw [z_mul, z_add]; rfl
      have hK : Ky T R f2 L ≤ 2000000 := by unfold Ky; omega
      have st : Mo_soonest_L107 (n + 1) a.1 y (nI (Wn T R 0 (T 1))) a.2.1 a.2.2 (nI k) = Mo_soonest_L107 n g2 y (nI (Wn T R 0 (T 1))) (if a.2.1 < 0 then nI (Ky T R f2 L) else if a.2.1 ≤ nI (Ky T R f2 L) then a.2.1 else nI (Ky T R f2 L)) (if a.2.1 < 0 then nI k else if a.2.1 ≤ nI (Ky T R f2 L) then a.2.2 else nI k) (nI (k + 1)) := by
        rw [Mo_soonest_L107, if_neg (nI_ge hk (by omega)), c1, Option.bind_some, d0, zl47, z_add, if_pos (z_in (by omega) (by omega)), z_cl (by omega), c2.u (by omega), hLL, e6, Option.bind_some, e7, Option.bind_some, zl1024, eK, nI_1]
      cases r with
      | none =>
        obtain ⟨x1, x2⟩ := a5 rfl
        refine ⟨(g2, nI (Ky T R f2 L), nI k), ?_, f2, c2, c3, a3.tr c5, some f2, k2 (fun z e => by cases e), (fun e => by cases e), (fun z e => by cases e; exact ⟨rfl, by rw [c4]⟩)⟩
        refine st.trans ?_
        rw [x1, if_pos (show (-1 : Int32) < 0 by decide), if_pos (show (-1 : Int32) < 0 by decide)]
      | some z =>
        obtain ⟨x1, x2⟩ := a6 z rfl
        have hz := mnt_le (T := T) (R := R) hL z (T 1)
        have fz := fai_le hT hR z
        have hKz : Ky T R z L ≤ 2000000 := by unfold Ky; omega
        have npos : ¬ a.2.1 < 0 := by rw [x1]; exact nI_pos (by omega)
        by_cases q : Ky T R z L ≤ Ky T R f2 L
        · refine ⟨(g2, a.2.1, a.2.2), ?_, f2, c2, c3, a3.tr c5, some z, k1 z rfl (by omega), a5, a6⟩
          refine st.trans ?_
          have q' : a.2.1 ≤ nI (Ky T R f2 L) := by rw [x1]; exact nI_le q (by omega)
          rw [if_neg npos, if_neg npos, if_pos q', if_pos q']
        · refine ⟨(g2, nI (Ky T R f2 L), nI k), ?_, f2, c2, c3, a3.tr c5, some f2, k2 (fun z' e => by cases e; omega), (fun e => by cases e), (fun z' e => by cases e; exact ⟨rfl, by rw [c4]⟩)⟩
          refine st.trans ?_
          have q' : ¬ a.2.1 ≤ nI (Ky T R f2 L) := by rw [x1]; exact nI_ge (by omega) (by omega)
          rw [if_neg npos, if_neg npos, if_neg q', if_neg q'])
    am_fuel 0 (g, -1, 0) (Nat.zero_le _) (z_fuel (by omega)) ⟨_, by rw [wf_id]; exact h, vld_0 hR, Fm.rf _ _, none, Or.inl ⟨rfl, fun y _ q => by omega⟩, fun _ => ⟨rfl, rfl⟩, (fun z e => by cases e)⟩
  exact ⟨r.1, f', z, by rw [show (nI (Ky T R z L), nI (pn T R z (T 1))) = r.2 from e6.symm]; exact e1, e5, e2, e3, e4⟩
theorem FB_un {z z' : Nat → Nat} (h : FB T R L N (some z)) (h' : FB T R L N (some z')) : ∀ u, u < T 1 → z u = z' u := by
  rcases h with ⟨h, -⟩ | ⟨a, h1, h2, h3, h4, h5⟩
  · cases h
  · rcases h' with ⟨h, -⟩ | ⟨b, k1, k2, k3, k4, k5⟩
    · cases h
    · cases h1
      cases k1
      refine pn_inj h2 k2 (T 1) (Nat.le_refl _) ?_
      rcases Nat.lt_trichotomy (pn T R z (T 1)) (pn T R z' (T 1)) with e | e | e
      · have := k5 z h2 e; have := h4 z' k2 k3; omega
      · exact e
      · have := h5 z' k2 e; have := k4 z h2 h3; omega
end
theorem w_m2 (g : am_G) {n : Nat} (hn : n ≤ 1000) (x : Int32) : ((x = -1 ∨ x = -2 ∨ ∃ j, j < n ∧ x = nI j) ∧ Tb_isWithin g x (-2) (nI n - 1) = some true) ∨ (x ≠ -1 ∧ x ≠ -2 ∧ Tb_isWithin g x (-2) (nI n - 1) = some false) := by
  have hm : (nI n - 1).toInt = (n : Int) - 1 := pk_sub_toInt (a := n) (b := 1) (by omega) (by omega)
  have t2 : (-2 : Int32).toInt = -2 := rfl
  have t1 : (-1 : Int32).toInt = -1 := rfl
  by_cases q1 : x = -1
  · exact Or.inl ⟨Or.inl q1, w_t (by rw [q1]; decide) (by rw [q1, Int32.lt_iff_toInt_lt, hm, t1]; omega)⟩
  · by_cases q2 : x = -2
    · exact Or.inl ⟨Or.inr (Or.inl q2), w_t (by rw [q2]; decide) (by rw [q2, Int32.lt_iff_toInt_lt, hm, t2]; omega)⟩
    · by_cases h0 : x < 0
      · refine Or.inr ⟨q1, q2, w_f (Or.inl ?_)⟩
        rw [Int32.lt_iff_toInt_lt] at h0 ⊢
        have z0 : (0 : Int32).toInt = 0 := rfl
        have n1 : x.toInt ≠ -1 := fun e => q1 (Int32.toInt_inj.1 (by rw [e, t1]))
        have n2 : x.toInt ≠ -2 := fun e => q2 (Int32.toInt_inj.1 (by rw [e, t2]))
        omega
      · obtain ⟨j, hj, rfl⟩ := nI_of h0
        have hx := nI_toInt hj
        by_cases q : j < n
        · refine Or.inl ⟨Or.inr (Or.inr ⟨j, q, rfl⟩), w_t (fun e => ?_) (fun e => ?_)⟩
          · rw [Int32.lt_iff_toInt_lt] at e; omega
          · rw [Int32.lt_iff_toInt_lt] at e; omega
        · refine Or.inr ⟨q1, q2, w_f (Or.inr ?_)⟩
          rw [Int32.lt_iff_toInt_lt]; omega
theorem sp_soonest (g : am_G) (y1 : Int32) (h : Inv g) : ∃ g1 g2 r, Tb_soonest g y1 = some (g1, r) ∧ Mo_soonest g1 y1 = some (g2, r) ∧ Inv g2 := by
  have hI := h
  obtain ⟨T, S, n, P, h⟩ := h
  have hb := h.c.bb
  have mhead : ∀ g1, IN T S n P g1 → (y1 = -1 ∨ y1 = -2 ∨ ∃ j, j < T 1 ∧ y1 = nI j) → (if y1 = (-1) then some none else if y1 = (-2) then some none else (Mo_isThing g1 y1).bind fun q3 => if q3 = true then some none else some (some (g1, (-1)))) = some (none : Option (am_G × Int32)) := by
    intro g1 h1 hy
    rcases hy with e | e | ⟨j, hj, e⟩
    · rw [if_pos e]
    · by_cases q : y1 = -1
      · rw [if_pos q]
      · rw [if_neg q, if_pos e]
    · by_cases q : y1 = -1
      · rw [if_pos q]
      · by_cases q2 : y1 = -2
        · rw [if_neg q, if_pos q2]
        · rcases tb_thing? h1 y1 with ⟨_, _, _, _, e2⟩ | ⟨e2, _, _⟩
          · rw [if_neg q, if_neg q2, e2]; rfl
          · exact absurd e (e2 j hj)
  rcases w_m2 g (n := T 1) (by omega) y1 with ⟨hy, e1⟩ | ⟨q1, q2, e1⟩
  · by_cases q0 : T 0 = 0
    · refine ⟨g, g, -9, ?_, ?_, hI⟩
      · rw [Tb_soonest, h.c.n.2.1, e1, Option.bind_some, if_pos rfl, h.c.n.1, q0]; rfl
      · rw [Mo_soonest, mhead g h hy, Option.bind_some]
        simp only [mo_isStage h.r, Option.bind_some]
        by_cases q : S 0 < T 2
        · rw [if_pos (decide_eq_true q), h.r.u (by omega), q0]; rfl
        · rw [if_neg (by simpa using q)]
    · have hne0 : ¬ nI (T 0) = 0 := by rw [zl0]; exact z_ne (by omega) (by omega) q0
      by_cases q : S 0 < T 2
      · have hL := (h.r.db q).1
        obtain ⟨g1, c1, c2, c3⟩ := to_findSoonest h.c q (by omega)
        have f1 : Fs g g1 := c3.s (fun a k q => by unfold pT at q; unfold scr; omega)
        have h1 := h.fs f1
        obtain ⟨g2, d1, d2, d3⟩ := mo_holds g1
        have r2 : RI T g2 S := h1.r.fm d3 (fun k q => absurd (show (223 : Nat) = 231 from q) (by decide)) (fun k _ q => absurd (show (225 : Nat) = 231 from q) (by decide))
        obtain ⟨g3, a1, a2, a3⟩ := mo_rains r2 (decide (T (55 + S 0) = 1))
        have a2' : RI T g3 (wk T S) := a2
        have e0 : wk T S 0 = S 0 := wk_lo (by omega)
        obtain ⟨g4, f4, z, b1, b2, b3, b4, b5⟩ := mo_soonL a2' (by omega) (by rw [e0]; exact q) y1
        rw [e0] at b1 b2
        have hR := a2'.2.2.1
        have hT := h.1
        have hW := Wn_le (R := wk T S) hT (T 1) hb.2.1
        have hzv : vld T (wk T S) z ∧ pn T (wk T S) z (T 1) < Wn T (wk T S) 0 (T 1) := by
          rcases b2 with ⟨e, -⟩ | ⟨z', e, k1, k2, -⟩
          · cases e
          · cases e; exact ⟨k1, k2⟩
        obtain ⟨g5, f5, l1, l2, l3, l4, l5⟩ := mo_lays b3 b4 (by omega) hzv.2 (by omega)
        have ef5 : ∀ u, u < T 1 → f5 u = z u := pn_inj l3 hzv.1 (T 1) (Nat.le_refl _) l4
        have fw : Fm pW g2 g5 := ((a3.tr b5).tr l5).mo (fun a k q => by rcases q with q | q; exact Or.inl q; exact Or.inr (Or.inr q))
        obtain ⟨g6, m1, m2, m3, m4⟩ := mo_round d2 d3 fw
        obtain ⟨r, s1, s2, s3⟩ := c2
        cases r with
        | none =>
          rcases s1 with ⟨-, k2⟩ | ⟨z', e, -⟩
          · exact absurd hzv.2 (k2 z hzv.1)
          · cases e
        | some z' =>
          obtain ⟨x1, x2, x3⟩ := s3 z' rfl
          have ezz := FB_un s1 b2
          have eK : Ky T (wk T S) z (T (47 + S 0)) = Ky T (wk T S) z' (T (47 + S 0)) := (Ky_cg ezz).symm
          have hm := mnt_le (T := T) (R := wk T S) hL z' (T 1)
          have hf := fai_le hT hR z'
          have ed : Ky T (wk T S) z' (T (47 + S 0)) / 1024 = mnt T (wk T S) z' (T (47 + S 0)) (T 1) := by unfold Ky; omega
          have em : Ky T (wk T S) z' (T (47 + S 0)) % 1024 = fai T (wk T S) z' := by unfold Ky; omega
          have hKz : Ky T (wk T S) z' (T (47 + S 0)) ≤ 2000000 := by unfold Ky; omega
          have mtail : ∀ (who : Int32), (if 0 ≤ y1 then if am_in (8 + y1) 320 = true then some (g5.1 225 (8 + y1).toNatClampNeg) else none else some 0) = some who → Mo_soonest g1 y1 = some (g6, if y1 = (-1) then nI (Ky T (wk T S) z' (T (47 + S 0))) / 1024 else if y1 = (-2) then nI (Ky T (wk T S) z' (T (47 + S 0))) - nI (Ky T (wk T S) z' (T (47 + S 0))) / 1024 * 1024 else who) := by
            intro who hwho
            rw [Mo_soonest, mhead g1 h1 hy, Option.bind_some]
            simp only [mo_isStage h1.r, Option.bind_some]
            rw [if_pos (decide_eq_true q), h1.r.u (by omega), if_neg hne0, d1, Option.bind_some, mo_isRain r2 q, Option.bind_some, a1, Option.bind_some, mo_ways a2', Option.bind_some, b1, Option.bind_some, l1, Option.bind_some, hwho, Option.bind_some, m1, Option.bind_some, eK]
            split
            · rfl
            · split <;> rfl
          have ctop : Tb_soonest g y1 = (if y1 = (-1) then some (g1, g1.1 74 3) else if y1 = (-2) then some (g1, g1.1 74 4) else if am_in y1 7 = true then some (g1, g1.1 75 y1.toNatClampNeg) else none) := by
            rw [Tb_soonest, h.c.n.2.1, e1, Option.bind_some, if_pos rfl, h.c.n.1, if_neg hne0, c1, Option.bind_some, if_pos rfl]
          rcases hy with e | e | ⟨j, hj, e⟩
          · subst e
            refine ⟨g1, g6, nI (mnt T (wk T S) z' (T (47 + S 0)) (T 1)), ?_, ?_, T, S, n, P, h1.fs m2⟩
            · rw [ctop, if_pos rfl, x1]
            · rw [mtail 0 (by rw [if_neg (by decide)]), if_pos rfl, zl1024, z_div (by omega) (by omega) (by omega), ed]
          · subst e
            refine ⟨g1, g6, nI (fai T (wk T S) z'), ?_, ?_, T, S, n, P, h1.fs m2⟩
            · rw [ctop, if_neg (by decide), if_pos rfl, x2]
            · rw [mtail 0 (by rw [if_neg (by decide)]), if_neg (by decide), if_pos rfl, zl1024, z_rem (by omega) (by omega) (by omega), em]
          · subst e
            have nm : ∀ v : Int32, v < 0 → ¬ nI j = v := fun v hv e => by rw [← e] at hv; exact nI_pos (by omega) hv
            refine ⟨g1, g6, nI (z' j), ?_, ?_, T, S, n, P, h1.fs m2⟩
            · rw [ctop, if_neg (nm _ (by decide)), if_neg (nm _ (by decide)), if_pos (z_in (by omega) (by omega)), z_cl (by omega), x3 j hj]
            · rw [mtail (nI (z' j)) ?_, if_neg (nm _ (by decide)), if_neg (nm _ (by decide))]
              rw [if_pos (nI_pos' (by omega)), zl8, z_add, if_pos (z_in (by omega) (by omega)), z_cl (by omega), l2.r (by omega), wf_at (by omega), ef5 j hj, ← ezz j hj]
      · refine ⟨g, g, -9, ?_, ?_, hI⟩
        · rw [Tb_soonest, h.c.n.2.1, e1, Option.bind_some, if_pos rfl, h.c.n.1, if_neg hne0, To_findSoonest, To_wake, ca_hasStage h.c, Option.bind_some, if_neg (by simpa using q)]; rfl
        · rw [Mo_soonest, mhead g h hy, Option.bind_some]
          simp only [mo_isStage h.r, Option.bind_some]
          rw [if_neg (by simpa using q)]
  · refine ⟨g, g, -1, by rw [Tb_soonest, h.c.n.2.1, e1]; rfl, ?_, hI⟩
    rcases tb_thing? h y1 with ⟨j, hj, e, -, -⟩ | ⟨-, -, e2⟩
    · exfalso
      have : Tb_isWithin g y1 (-2) (nI (T 1) - 1) = some true := by
        subst e
        have hm : (nI (T 1) - 1).toInt = (T 1 : Int) - 1 := pk_sub_toInt (a := T 1) (b := 1) (by omega) (by omega)
        have hx := nI_toInt (n := j) (by omega)
        have t2 : (-2 : Int32).toInt = -2 := rfl
        exact w_t (fun e => by rw [Int32.lt_iff_toInt_lt] at e; omega) (fun e => by rw [Int32.lt_iff_toInt_lt] at e; omega)
      rw [e1] at this
      simp at this
    · rw [Mo_soonest, if_neg q1, if_neg q2, e2]; rfl
