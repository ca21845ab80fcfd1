-- WAY: the reference's telling, the class's beginning, and the start
def s0T (T : Nat → Nat) (k : Nat) : Nat := if 8 ≤ k ∧ k < 15 then (if k - 8 < T 1 then T (40 + (k - 8)) else 9) else if 15 ≤ k ∧ k < 22 then T (12 + (k - 15)) else 0
section
variable {B T S : Nat → Nat} {L p q k m : Nat} {P : Nat → Nat → Nat} {g g' : am_G}
theorem s0_w {t : Nat} (ht : t < T 1) (h7 : T 1 ≤ 7) : s0T T (8 + t) = T (40 + t) := by
  unfold s0T
  rw [if_pos (by omega), if_pos (by omega), show 8 + t - 8 = t by omega]
theorem s0_l {t : Nat} (ht : t < 7) : s0T T (15 + t) = T (12 + t) := by
  unfold s0T
  rw [if_neg (by omega), if_pos (by omega), show 15 + t - 15 = t by omega]
theorem s0_z {k : Nat} (h : k < 8 ∨ 22 ≤ k) : s0T T k = 0 := by
  unfold s0T
  rw [if_neg (by omega), if_neg (by omega)]
theorem s0_SW (hW : TW T) : SW T (s0T T) := by
  obtain ⟨b0, b1, b2, bw, bt, bs⟩ := hW
  refine ⟨by rw [s0_z (by omega)]; omega, fun w hw => by rw [s0_z (by omega)]; omega, fun t ht => ?_⟩
  have := bt t ht
  rw [s0_w ht b1, s0_l (by omega), s0_z (by omega)]
  omega
theorem mo_tells (hD : DR T g) (hW : TW T) : ∃ g', Mo_tells g = some g' ∧ TR T g' ∧ (∀ k, k < 320 → g'.1 225 k = nI (s0T T k)) ∧ g'.1 221 9 = nI 0 ∧ g'.1 227 0 = nI 0 ∧ g'.1 227 1 = nI 0 ∧ Fm (fun a k => a = 223 ∨ a = 225 ∨ (a = 221 ∧ k = 9) ∨ a = 227) g g' := by
  have b1 := hW.2.1
  obtain ⟨g1, e1, e2, e3⟩ := lp_up (fun n (a : am_G) k => Mo_tells_L2 n a (nI k)) 71 (fun k a => (∀ j, j < k → a.1 223 j = nI (T j)) ∧ Fm (fun a _ => a = 223) g a) (fun a => (∀ j, j < 71 → a.1 223 j = nI (T j)) ∧ Fm (fun a _ => a = 223) g a)
    (fun n a ha => ⟨a, by rw [Mo_tells_L2]; simp (disch := omega) only [z_lt, z_le, z_eq, z_in, z_cl, z_add, z_mul, z_mx, z_mn, zl12, zl18, zl19, zl30, zl115, zl116, zl119, zl291, zl640, zl999, zl9999, zl0, zl1, zl2, zl3, zl4, zl5, zl6, zl7, zl8, zl9, zl10, zl15, zl20, zl22, zl26, zl29, zl32, zl33, zl40, zl47, zl48, zl55, zl57, zl59, zl60, zl63, zl71, zl97, zl99, zl100, zl122, zl200, zl255, zl320, zl1000, zl1024, zl5040, zl1000000000, Nat.le_refl, ↓reduceIte], ha⟩)
    (fun n k a hk ha => by
      have h6 : ¬ 71 ≤ k := by omega
      have w : a.1 224 k = nI (T k) := by rw [ha.2.2 _ _ (by omega)]; exact hD k hk
      refine ⟨am_wr a 223 k (nI (T k)), ?_, fun j hj => ?_, ha.2.wr rfl⟩
      · show Mo_tells_L2 (n + 1) a (nI k) = _
        rw [Mo_tells_L2]
        simp (disch := omega) only [z_lt, z_le, z_eq, z_in, z_cl, z_add, z_mul, z_mx, z_mn, zl12, zl18, zl19, zl30, zl115, zl116, zl119, zl291, zl640, zl999, zl9999, zl0, zl1, zl2, zl3, zl4, zl5, zl6, zl7, zl8, zl9, zl10, zl15, zl20, zl22, zl26, zl29, zl32, zl33, zl40, zl47, zl48, zl55, zl57, zl59, zl60, zl63, zl71, zl97, zl99, zl100, zl122, zl200, zl255, zl320, zl1000, zl1024, zl5040, zl1000000000, h6, Option.bind_some, Option.bind_none, ↓reduceIte, Bool.false_eq_true, reduceCtorEq, w]
      · by_cases e : j = k
        · subst e; rw [m_eq]
        · rw [m_nk e]; exact ha.1 j (by omega))
    am_fuel 0 g (by omega) (z_fuel (by omega)) ⟨fun j hj => by omega, Fm.rf _ _⟩
  obtain ⟨g2, e4, e5, e6⟩ := lp_up (fun n (a : am_G) k => Mo_tells_L28 n a (nI k)) 320 (fun k a => (∀ j, j < k → a.1 225 j = nI 0) ∧ Fm (fun a _ => a = 225) g1 a) (fun a => (∀ j, j < 320 → a.1 225 j = nI 0) ∧ Fm (fun a _ => a = 225) g1 a)
    (fun n a ha => ⟨a, by rw [Mo_tells_L28]; simp (disch := omega) only [z_lt, z_le, z_eq, z_in, z_cl, z_add, z_mul, z_mx, z_mn, zl12, zl18, zl19, zl30, zl115, zl116, zl119, zl291, zl640, zl999, zl9999, zl0, zl1, zl2, zl3, zl4, zl5, zl6, zl7, zl8, zl9, zl10, zl15, zl20, zl22, zl26, zl29, zl32, zl33, zl40, zl47, zl48, zl55, zl57, zl59, zl60, zl63, zl71, zl97, zl99, zl100, zl122, zl200, zl255, zl320, zl1000, zl1024, zl5040, zl1000000000, Nat.le_refl, ↓reduceIte], ha⟩)
    (fun n k a hk ha => by
      have h6 : ¬ 320 ≤ k := by omega
      refine ⟨am_wr a 225 k (nI 0), ?_, fun j hj => ?_, ha.2.wr rfl⟩
      · show Mo_tells_L28 (n + 1) a (nI k) = _
        rw [Mo_tells_L28]
        simp (disch := omega) only [z_lt, z_le, z_eq, z_in, z_cl, z_add, z_mul, z_mx, z_mn, zl12, zl18, zl19, zl30, zl115, zl116, zl119, zl291, zl640, zl999, zl9999, zl0, zl1, zl2, zl3, zl4, zl5, zl6, zl7, zl8, zl9, zl10, zl15, zl20, zl22, zl26, zl29, zl32, zl33, zl40, zl47, zl48, zl55, zl57, zl59, zl60, zl63, zl71, zl97, zl99, zl100, zl122, zl200, zl255, zl320, zl1000, zl1024, zl5040, zl1000000000, h6, Option.bind_some, Option.bind_none, ↓reduceIte, Bool.false_eq_true, reduceCtorEq]
      · by_cases e : j = k
        · subst e; rw [m_eq]
        · rw [m_nk e]; exact ha.1 j (by omega))
    am_fuel 0 g1 (by omega) (z_fuel (by omega)) ⟨fun j hj => by omega, Fm.rf _ _⟩
  have r2 : ∀ j, j < 71 → g2.1 223 j = nI (T j) := fun j hj => by rw [e6.2 _ _ (by omega)]; exact e2 j hj
  obtain ⟨g3, e7, e8, e9⟩ := lp_up (fun n (a : am_G) k => Mo_tells_L50 n a (nI k)) 7
    (fun k a => (∀ j, j < 320 → a.1 225 j = nI (if 8 ≤ j ∧ j < 8 + k then (if j - 8 < T 1 then T (40 + (j - 8)) else 9) else if 15 ≤ j ∧ j < 15 + k then T (12 + (j - 15)) else 0)) ∧ Fm (fun a _ => a = 225) g2 a)
    (fun a => (∀ j, j < 320 → a.1 225 j = nI (s0T T j)) ∧ Fm (fun a _ => a = 225) g2 a)
    (fun n a ha => ⟨a, by rw [Mo_tells_L50]; simp (disch := omega) only [z_lt, z_le, z_eq, z_in, z_cl, z_add, z_mul, z_mx, z_mn, zl12, zl18, zl19, zl30, zl115, zl116, zl119, zl291, zl640, zl999, zl9999, zl0, zl1, zl2, zl3, zl4, zl5, zl6, zl7, zl8, zl9, zl10, zl15, zl20, zl22, zl26, zl29, zl32, zl33, zl40, zl47, zl48, zl55, zl57, zl59, zl60, zl63, zl71, zl97, zl99, zl100, zl122, zl200, zl255, zl320, zl1000, zl1024, zl5040, zl1000000000, Nat.le_refl, ↓reduceIte], ha.1, ha.2⟩)
    (fun n k a hk ha => by
      have h6 : ¬ 7 ≤ k := by omega
      have w : ∀ j, j < 71 → a.1 223 j = nI (T j) := fun j hj => by rw [ha.2.2 _ _ (by omega)]; exact r2 j hj
      have w1 := w 1 (by omega)
      have w2 := w (40 + k) (by omega)
      have w3 := w (12 + k) (by omega)
      refine ⟨am_wr (am_wr a 225 (8 + k) (nI (if k < T 1 then T (40 + k) else 9))) 225 (15 + k) (nI (T (12 + k))), ?_, fun j hj => ?_, (ha.2.wr rfl).wr rfl⟩
      · show Mo_tells_L50 (n + 1) a (nI k) = _
        rw [Mo_tells_L50]
        by_cases q : T 1 ≤ k
        · have q' : ¬ k < T 1 := by omega
          simp (disch := omega) only [z_lt, z_le, z_eq, z_in, z_cl, z_add, z_mul, z_mx, z_mn, zl12, zl18, zl19, zl30, zl115, zl116, zl119, zl291, zl640, zl999, zl9999, zl0, zl1, zl2, zl3, zl4, zl5, zl6, zl7, zl8, zl9, zl10, zl15, zl20, zl22, zl26, zl29, zl32, zl33, zl40, zl47, zl48, zl55, zl57, zl59, zl60, zl63, zl71, zl97, zl99, zl100, zl122, zl200, zl255, zl320, zl1000, zl1024, zl5040, zl1000000000, h6, Option.bind_some, Option.bind_none, ↓reduceIte, Bool.false_eq_true, reduceCtorEq, w1, w3, q, q', m_na]
        · have q' : k < T 1 := by omega
          simp (disch := omega) only [z_lt, z_le, z_eq, z_in, z_cl, z_add, z_mul, z_mx, z_mn, zl12, zl18, zl19, zl30, zl115, zl116, zl119, zl291, zl640, zl999, zl9999, zl0, zl1, zl2, zl3, zl4, zl5, zl6, zl7, zl8, zl9, zl10, zl15, zl20, zl22, zl26, zl29, zl32, zl33, zl40, zl47, zl48, zl55, zl57, zl59, zl60, zl63, zl71, zl97, zl99, zl100, zl122, zl200, zl255, zl320, zl1000, zl1024, zl5040, zl1000000000, h6, Option.bind_some, Option.bind_none, ↓reduceIte, Bool.false_eq_true, reduceCtorEq, w1, w2, w3, q, q', m_na]
      · by_cases j1 : j = 15 + k
        · subst j1
          rw [m_eq, if_neg (by omega), if_pos (by omega), show 15 + k - 15 = k by omega]
        · rw [m_nk j1]
          by_cases j2 : j = 8 + k
          · subst j2
            rw [m_eq, if_pos (show 8 ≤ 8 + k ∧ 8 + k < 8 + (k + 1) by omega), show 8 + k - 8 = k by omega]
          · rw [m_nk j2, ha.1 j hj]
            refine congrArg nI ?_
            by_cases j3 : 8 ≤ j ∧ j < 8 + k
            · rw [if_pos j3, if_pos (show 8 ≤ j ∧ j < 8 + (k + 1) by omega)]
            · rw [if_neg j3, if_neg (show ¬ (8 ≤ j ∧ j < 8 + (k + 1)) by omega)]
              by_cases j4 : 15 ≤ j ∧ j < 15 + k
              · rw [if_pos j4, if_pos (show 15 ≤ j ∧ j < 15 + (k + 1) by omega)]
              · rw [if_neg j4, if_neg (show ¬ (15 ≤ j ∧ j < 15 + (k + 1)) by omega)])
    am_fuel 0 g2 (by omega) (z_fuel (by omega)) ⟨fun j hj => by rw [e5 j hj, if_neg (by omega), if_neg (by omega)], Fm.rf _ _⟩
  refine ⟨am_wr (am_wr (am_wr g3 221 9 0) 227 0 0) 227 1 0, ?_, fun k hk => ?_, fun k hk => ?_, ?_, ?_, ?_, ?_⟩
  · rw [Mo_tells, show Mo_tells_L2 am_fuel g 0 = some g1 from e1, Option.bind_some, show Mo_tells_L28 am_fuel g1 0 = some g2 from e4, Option.bind_some, show Mo_tells_L50 am_fuel g2 0 = some g3 from e7, Option.bind_some]
  · rw [m_na (by omega), m_na (by omega), m_na (by omega), e9.2 _ _ (by omega)]; exact r2 k hk
  · rw [m_na (by omega), m_na (by omega), m_na (by omega)]; exact e8 k hk
  · rw [m_na (by omega), m_na (by omega), m_eq]; rfl
  · rw [m_nk (by omega), m_eq]; rfl
  · rw [m_eq]; rfl
  · have f1 : Fm (fun a k => a = 223 ∨ a = 225 ∨ (a = 221 ∧ k = 9) ∨ a = 227) g g3 := ((e3.mo (fun a k q => Or.inl q)).tr (e6.mo (fun a k q => Or.inr (Or.inl q)))).tr (e9.mo (fun a k q => Or.inr (Or.inl q)))
    exact ((f1.wr (Or.inr (Or.inr (Or.inl ⟨rfl, rfl⟩)))).wr (Or.inr (Or.inr (Or.inr rfl)))).wr (Or.inr (Or.inr (Or.inr rfl)))
theorem ta_copy (hD : DC T g) (hW : TW T) : ∃ g', Ta_copyFrom g = some g' ∧ TC T g' ∧ Fm (fun a _ => 3 ≤ a ∧ a ≤ 13) g g' := by
  obtain ⟨d0, d1, d2, dw, dt, ds⟩ := hD
  obtain ⟨b0, b1, b2, -, -, -⟩ := hW
  refine ⟨_, rfl, ⟨?_, ?_, ?_, fun w hw => ?_, fun t ht => ?_, fun d hd => ?_⟩, ?_⟩
  · simp (disch := omega) only [m_eq, m_na, m_nk, m_2, m_L1, m_cp2, m_cpi, m_cpo]; exact d0
  · simp (disch := omega) only [m_eq, m_na, m_nk, m_2, m_L1, m_cp2, m_cpi, m_cpo]; exact d1
  · simp (disch := omega) only [m_eq, m_na, m_nk, m_2, m_L1, m_cp2, m_cpi, m_cpo]; exact d2
  · simp (disch := omega) only [m_eq, m_na, m_nk, m_2, m_L1, m_cp2, m_cpi, m_cpo]; exact dw w hw
  · simp (disch := omega) only [m_eq, m_na, m_nk, m_2, m_L1, m_cp2, m_cpi, m_cpo]; exact dt t ht
  · simp (disch := omega) only [m_eq, m_na, m_nk, m_2, m_L1, m_cp2, m_cpi, m_cpo]; exact ds d hd
  · exact (((((((((((((Fm.rf _ _).wr (by omega)).cp (fun k _ => by omega)).cp (fun k _ => by omega)).wr (by omega)).cp (fun k _ => by omega)).cp (fun k _ => by omega)).cp (fun k _ => by omega)).cp (fun k _ => by omega)).cp (fun k _ => by omega)).wr (by omega)).cp (fun k _ => by omega)).cp (fun k _ => by omega)).cp (fun k _ => by omega)
theorem jo_beg (hT : TC T g) (hW : TW T) : ∃ g', Jo_begin g 26 = some g' ∧ JC T g' 26 (s0T T) 0 P ∧ Fm (fun a _ => 26 ≤ a ∧ a ≤ 31) g g' := by
  obtain ⟨b0, b1, b2, -, -, -⟩ := hW
  have F0 : Fm (fun a _ => 26 ≤ a ∧ a ≤ 31) g (am_cp (am_cp (am_wr (am_wr (am_wr (am_wr (am_wr g 28 1 0) 28 2 0) 28 3 0) 28 4 0) 28 5 0) 10 29 0 0 7) 6 30 0 0 7) := (((((((Fm.rf _ _).wr (by omega)).wr (by omega)).wr (by omega)).wr (by omega)).wr (by omega)).cp (fun k _ => by omega)).cp (fun k _ => by omega)
  have v : ∀ i, 1 ≤ i → i ≤ 5 → (am_cp (am_cp (am_wr (am_wr (am_wr (am_wr (am_wr g 28 1 0) 28 2 0) 28 3 0) 28 4 0) 28 5 0) 10 29 0 0 7) 6 30 0 0 7).1 28 i = nI 0 := by
    intro i h1 h2
    obtain rfl | rfl | rfl | rfl | rfl : i = 1 ∨ i = 2 ∨ i = 3 ∨ i = 4 ∨ i = 5 := by omega
    all_goals (simp (disch := omega) only [m_eq, m_na, m_nk, m_2, m_L1, m_cp2, m_cpi, m_cpo]; rfl)
  have u : ∀ t, t < T 1 → (am_cp (am_cp (am_wr (am_wr (am_wr (am_wr (am_wr g 28 1 0) 28 2 0) 28 3 0) 28 4 0) 28 5 0) 10 29 0 0 7) 6 30 0 0 7).1 29 t = nI (T (40 + t)) ∧ (am_cp (am_cp (am_wr (am_wr (am_wr (am_wr (am_wr g 28 1 0) 28 2 0) 28 3 0) 28 4 0) 28 5 0) 10 29 0 0 7) 6 30 0 0 7).1 30 t = nI (T (12 + t)) := by
    intro t ht
    have := hT.2.2.2.2.1 t ht
    simp (disch := omega) only [m_eq, m_na, m_nk, m_2, m_L1, m_cp2, m_cpi, m_cpo]
    exact ⟨this.2.2.2.2, this.1⟩
  generalize hG : am_cp (am_cp (am_wr (am_wr (am_wr (am_wr (am_wr g 28 1 0) 28 2 0) 28 3 0) 28 4 0) 28 5 0) 10 29 0 0 7) 6 30 0 0 7 = G at F0 v u
  obtain ⟨g1, e1, e2, e3⟩ := lp_up (fun n (a : am_G) k => Ca_begin_L63 n a 28 (nI k)) 4 (fun k a => (∀ j, j < k → a.1 31 j = nI 0) ∧ Fm (fun a _ => a = 31) G a) (fun a => (∀ j, j < 4 → a.1 31 j = nI 0) ∧ Fm (fun a _ => a = 31) G a)
    (fun n a ha => ⟨a, by rw [Ca_begin_L63]; simp (disch := omega) only [z_lt, z_le, z_eq, z_in, z_cl, z_add, z_mul, z_mx, z_mn, zl12, zl18, zl19, zl30, zl115, zl116, zl119, zl291, zl640, zl999, zl9999, zl0, zl1, zl2, zl3, zl4, zl5, zl6, zl7, zl8, zl9, zl10, zl15, zl20, zl22, zl26, zl29, zl32, zl33, zl40, zl47, zl48, zl55, zl57, zl59, zl60, zl63, zl71, zl97, zl99, zl100, zl122, zl200, zl255, zl320, zl1000, zl1024, zl5040, zl1000000000, Nat.le_refl, ↓reduceIte], ha⟩)
    (fun n k a hk ha => by
      have h6 : ¬ 4 ≤ k := by omega
      refine ⟨am_wr a 31 k (nI 0), ?_, fun j hj => ?_, ha.2.wr rfl⟩
      · show Ca_begin_L63 (n + 1) a 28 (nI k) = _
        rw [Ca_begin_L63]
        simp (disch := omega) only [z_lt, z_le, z_eq, z_in, z_cl, z_add, z_mul, z_mx, z_mn, zl12, zl18, zl19, zl30, zl115, zl116, zl119, zl291, zl640, zl999, zl9999, zl0, zl1, zl2, zl3, zl4, zl5, zl6, zl7, zl8, zl9, zl10, zl15, zl20, zl22, zl26, zl29, zl32, zl33, zl40, zl47, zl48, zl55, zl57, zl59, zl60, zl63, zl71, zl97, zl99, zl100, zl122, zl200, zl255, zl320, zl1000, zl1024, zl5040, zl1000000000, h6, Option.bind_some, Option.bind_none, ↓reduceIte, Bool.false_eq_true, reduceCtorEq]
      · by_cases e : j = k
        · subst e; rw [m_eq]
        · rw [m_nk e]; exact ha.1 j (by omega))
    am_fuel 0 G (by omega) (z_fuel (by omega)) ⟨fun j hj => by omega, Fm.rf _ _⟩
  have o : ∀ a k, a ≠ 26 → a ≠ 31 → (am_wr (am_wr g1 26 2 0) 26 3 0).1 a k = G.1 a k := fun a k h1 h2 => by rw [m_na h1, m_na h1, e3.2 _ _ h2]
  refine ⟨am_wr (am_wr g1 26 2 0) 26 3 0, ?_, ⟨⟨?_, ?_, ?_, ?_, ⟨0, by omega, ?_, fun t ht => ?_⟩, fun t ht => ?_, fun w hw => ?_⟩, ?_, 0, by omega, ?_, fun i hi => by omega⟩, ?_⟩
  · rw [Jo_begin, show Ca_begin g (26 + 2) = Ca_begin g 28 from rfl, Ca_begin, show am_cp (am_cp (am_wr (am_wr (am_wr (am_wr (am_wr g 28 1 0) 28 2 0) 28 3 0) 28 4 0) 28 5 0) 10 (28 + 1) 0 0 7) 6 (28 + 2) 0 0 7 = G from hG, show Ca_begin_L63 am_fuel G 28 0 = some g1 from e1, Option.bind_some, Option.bind_some]
  · rw [o _ _ (by omega) (by omega), v _ (by omega) (by omega), s0_z (by omega)]
  · rw [o _ _ (by omega) (by omega), v _ (by omega) (by omega), s0_z (by omega)]
  · rw [o _ _ (by omega) (by omega), v _ (by omega) (by omega), s0_z (by omega)]
  · rw [o _ _ (by omega) (by omega), v _ (by omega) (by omega), s0_z (by omega)]
  · rw [o _ _ (by omega) (by omega), v _ (by omega) (by omega)]
  · rw [s0_z (by omega), Nat.zero_div]
  · rw [o _ _ (by omega) (by omega), o _ _ (by omega) (by omega), (u t ht).1, (u t ht).2, s0_w ht b1, s0_l (by omega)]
    exact ⟨rfl, rfl⟩
  · rw [s0_z (by omega), m_na (by omega), m_na (by omega)]; exact e2 w (by omega)
  · rw [m_nk (by omega), m_eq]; rfl
  · rw [m_eq]; rfl
  · exact ((F0.tr (e3.mo (fun a k q => by omega))).wr (by omega)).wr (by omega)
theorem way_62 (g : am_G) (x : Int32) : ∃ g', Tb_way_L62 am_fuel g x 0 = some g' ∧ (∀ j, j < 2 → g'.1 73 j = nI 0) ∧ Fm (fun a _ => a = 73) g g' := by
  obtain ⟨g1, e1, e2, e3⟩ := lp_up (fun n (a : am_G) k => Tb_way_L62 n a x (nI k)) 2 (fun k a => (∀ j, j < k → a.1 73 j = nI 0) ∧ Fm (fun a _ => a = 73) g a) (fun a => (∀ j, j < 2 → a.1 73 j = nI 0) ∧ Fm (fun a _ => a = 73) g a)
    (fun n a ha => ⟨a, by rw [Tb_way_L62]; simp (disch := omega) only [z_lt, z_le, z_eq, z_in, z_cl, z_add, z_mul, z_mx, z_mn, zl12, zl18, zl19, zl30, zl115, zl116, zl119, zl291, zl640, zl999, zl9999, zl0, zl1, zl2, zl3, zl4, zl5, zl6, zl7, zl8, zl9, zl10, zl15, zl20, zl22, zl26, zl29, zl32, zl33, zl40, zl47, zl48, zl55, zl57, zl59, zl60, zl63, zl71, zl97, zl99, zl100, zl122, zl200, zl255, zl320, zl1000, zl1024, zl5040, zl1000000000, Nat.le_refl, ↓reduceIte], ha⟩)
    (fun n k a hk ha => by
      have h6 : ¬ 2 ≤ k := by omega
      refine ⟨am_wr a 73 k (nI 0), ?_, fun j hj => ?_, ha.2.wr rfl⟩
      · show Tb_way_L62 (n + 1) a x (nI k) = _
        rw [Tb_way_L62]
        simp (disch := omega) only [z_lt, z_le, z_eq, z_in, z_cl, z_add, z_mul, z_mx, z_mn, zl12, zl18, zl19, zl30, zl115, zl116, zl119, zl291, zl640, zl999, zl9999, zl0, zl1, zl2, zl3, zl4, zl5, zl6, zl7, zl8, zl9, zl10, zl15, zl20, zl22, zl26, zl29, zl32, zl33, zl40, zl47, zl48, zl55, zl57, zl59, zl60, zl63, zl71, zl97, zl99, zl100, zl122, zl200, zl255, zl320, zl1000, zl1024, zl5040, zl1000000000, h6, Option.bind_some, Option.bind_none, ↓reduceIte, Bool.false_eq_true, reduceCtorEq]
      · by_cases e : j = k
        · subst e; rw [m_eq]
        · rw [m_nk e]; exact ha.1 j (by omega))
    am_fuel 0 g (by omega) (z_fuel (by omega)) ⟨fun j hj => by omega, Fm.rf _ _⟩
  exact ⟨g1, e1, e2, e3⟩
theorem rn_3 (B : Nat → Nat) (L : Nat) : ∀ k, (rnF B L k).2 3 ≤ k := by
  intro k
  induction k with
  | zero => exact Nat.le_refl _
  | succ k ih =>
    cases e : (rnF B L k).1 with
    | inl f => rw [rn_l e]; omega
    | inr p =>
      by_cases k0 : kd B L p = 0
      · rw [rn_0 e k0]; omega
      · rw [rn_s e k0]
        show itD B L p (rnF B L k).2 3 ≤ k + 1
        unfold itD
        split
        · unfold dW; rw [up_eq]; omega
        · split
          · unfold dT; rw [up_eq]; omega
          · unfold dS; rw [up_eq]; omega
theorem in_new (hW : TW T) (hC : TC T g) (hR : TR T g) (hJ : JC T g 26 (s0T T) 0 P) (h5 : ∀ k, k < 320 → g.1 225 k = nI (s0T T k)) (x1 : g.1 1 1 = nI 0) (x2 : g.1 221 2 = nI 0) (y1 : g.1 121 2 = nI 0) (y2 : g.1 221 9 = nI 0) (m1 : ∀ i, i < 2 → g.1 73 i = nI 0) (m2 : ∀ i, i < 2 → g.1 227 i = nI 0) (ht : g.2 0 10 = g.2 221 0) : Inv g := by
  refine ⟨T, s0T T, 0, P, hW, hC, hR, ⟨by omega, s0_SW hW, fun i hi => by omega⟩, hJ, ⟨fun k hk => ?_, ?_, fun i hi => by omega⟩, ⟨0, by omega, x1, x2, fun k hk => by omega⟩, ⟨0, by omega, y1, y2, fun k hk => by omega⟩, fun i hi => Or.inl ⟨m1 i hi, m2 i hi⟩, ht⟩
  · rw [Nat.zero_add]; exact h5 k (by omega)
  · rw [h5 _ (by omega), s0_z (by omega)]
theorem sp_way (g : am_G) (hI : Inv g) : ∃ (g1 : am_G) (g2 : am_G) (r : Int32), Tb_way g = some (g1, r) ∧ Mo_way g1 = some (g2, r) ∧ Inv g2 := by
  obtain ⟨T, S, n, P, hN⟩ := hI
  obtain ⟨L, hL, x1, x2, x3⟩ := hN.2.2.2.2.2.2.1
  have hB : ∃ B : Nat → Nat, ∀ k, k < L → g.1 2 k = nI (B k) ∧ B k ≤ 255 := by
    refine ⟨fun k => if h : k < L then Classical.choose (x3 k h).2 else 0, fun k hk => ?_⟩
    simp only [hk, dif_pos]
    have := Classical.choose_spec (x3 k hk).2
    exact ⟨this.2, this.1⟩
  obtain ⟨B, hB⟩ := hB
  have hX : XB B L g := ⟨hL, x1, hB⟩
  obtain ⟨ga, fa, ca⟩ := re_all hX
  rcases ca with ⟨f, c1, c2, c3, c4⟩ | ⟨p, c1, c2, c3⟩
  · have hA : IN T S n P ga := hN.fs (fa.s (fun a k q => by unfold pQ at q; unfold scr; omega))
    have hY : YB B L ga := ⟨hL, by rw [fa.2 _ _ (by unfold pQ; omega)]; exact x2, fun k hk => by rw [fa.2 _ _ (by unfold pQ; omega), ← (x3 k hk).1]; exact hB k hk⟩
    obtain ⟨gb, fb, cb⟩ := mo_reads hY
    rcases cb with ⟨f', d1, d2, d3⟩ | ⟨p, d1, -, -⟩
    · have ef : f' = f := by rw [c1] at d1; cases d1; rfl
      subst ef
      refine ⟨ga, gb, (-10) - nI (ts B L f'), ?_, ?_, T, S, n, P, hA.fs (fb.s (fun a k q => by unfold pU at q; unfold scr; omega))⟩
      · rw [Tb_way, c2, Option.bind_some, if_neg (by show ¬ (0 : Int32) ≤ -1; decide)]
        show some (ga, (-10) - (ga.1 1 3)) = _
        rw [c3]
      · rw [Mo_way, d2, Option.bind_some, if_neg (by show ¬ false = true; decide)]
        show some (gb, (-10) - (gb.1 221 12)) = _
        rw [d3]
    · rw [c1] at d1; cases d1
  · have hW := (rn_ok B L 200 p c1).2.2
    have h3 := rn_3 B L 200
    obtain ⟨g1, t1, t2, t3⟩ := ta_copy c3 hW
    obtain ⟨g2, j1, j2, j3⟩ := jo_beg (P := P) (g := am_wr g1 1 1 0) (t2.same (fun a k q1 q2 => by rw [m_na (by omega)])) hW
    obtain ⟨g3, l1, l2, l3⟩ := way_62 (am_wr g2 121 2 0) (nI ((rnF B L 200).2 3))
    have o3 : ∀ a k, a ≠ 73 → a ≠ 121 → g3.1 a k = g2.1 a k := fun a k h1 h2 => by rw [l3.2 _ _ h1, m_na h2]
    have o2 : ∀ a k, ¬ (26 ≤ a ∧ a ≤ 31) → a ≠ 1 → g2.1 a k = g1.1 a k := fun a k h1 h2 => by rw [j3.2 _ _ h1, m_na h2]
    have o1 : ∀ a k, ¬ (3 ≤ a ∧ a ≤ 13) → ¬ pQ a k → g1.1 a k = g.1 a k := fun a k h1 h2 => by rw [t3.2 _ _ h1, fa.2 _ _ h2]
    have oo : ∀ a k, 221 ≤ a → g3.1 a k = g.1 a k := fun a k h => by rw [o3 _ _ (by omega) (by omega), o2 _ _ (by omega) (by omega), o1 _ _ (by omega) (by unfold pQ; omega)]
    have ot : g3.2 = g.2 := by rw [l3.1]; show g2.2 = _; rw [j3.1]; show g1.2 = _; rw [t3.1, fa.1]
    have hY : YB B L g3 := ⟨hL, by rw [oo _ _ (by omega)]; exact x2, fun k hk => by rw [oo _ _ (by omega), ← (x3 k hk).1]; exact hB k hk⟩
    obtain ⟨gb, fb, cb⟩ := mo_reads hY
    rcases cb with ⟨f', d1, -, -⟩ | ⟨p', d1, d2, d3⟩
    · rw [c1] at d1; cases d1
    · obtain ⟨gc, m1, m2, m3, m4, m5, m6, m7⟩ := mo_tells d3 hW
      have oc : ∀ a k, a < 221 → (am_wr gc 221 2 0).1 a k = g3.1 a k := fun a k h => by rw [m_na (by omega), m7.2 _ _ (by omega), fb.2 _ _ (by unfold pU; omega)]
      refine ⟨g3, am_wr gc 221 2 0, nI ((rnF B L 200).2 3), ?_, ?_, ?_⟩
      · rw [Tb_way, c2, Option.bind_some, if_pos (by show (0 : Int32) ≤ nI ((rnF B L 200).2 3); exact nI_pos' (by omega))]
        show ((Ta_copyFrom ga).bind fun q4 => (Jo_begin (am_wr q4 1 1 0) 26).bind fun q6 => (Tb_way_L62 am_fuel (am_wr q6 121 2 0) (nI ((rnF B L 200).2 3)) 0).bind fun q10 => some (q10, nI ((rnF B L 200).2 3))) = _
        rw [t1, Option.bind_some, j1, Option.bind_some, l1, Option.bind_some]
      · rw [Mo_way, d2, Option.bind_some, if_pos (by show true = true; rfl)]
        show ((Mo_tells gb).bind fun q4 => some (am_wr q4 221 2 0, (am_wr q4 221 2 0).1 223 3)) = _
        rw [m1, Option.bind_some, m_na (by omega), m2 3 (by omega)]
      · refine in_new (T := (rnF B L 200).2) (P := P) hW (t2.same (fun a k q1 q2 => ?_)) (fun k hk => ?_) (j2.same (by omega) (fun a k q1 q2 => ?_)) (fun k hk => ?_) ?_ ?_ ?_ ?_ (fun i hi => ?_) (fun i hi => ?_) ?_
        · rw [oc _ _ (by omega), o3 _ _ (by omega) (by omega), o2 _ _ (by omega) (by omega)]
        · rw [m_na (by omega)]; exact m2 k hk
        · rw [oc _ _ (by omega), o3 _ _ (by omega) (by omega)]
        · rw [m_na (by omega)]; exact m3 k hk
        · rw [oc _ _ (by omega), o3 _ _ (by omega) (by omega), j3.2 _ _ (by omega), m_eq]; rfl
        · rw [m_eq]; rfl
        · rw [oc _ _ (by omega), l3.2 _ _ (by omega), m_eq]; rfl
        · rw [m_nk (by omega)]; exact m4
        · rw [oc _ _ (by omega)]; exact l2 i hi
        · rw [m_na (by omega)]
          obtain rfl | rfl : i = 0 ∨ i = 1 := by omega
          · exact m5
          · exact m6
        · show gc.2 0 10 = gc.2 221 0
          rw [m7.1, fb.1, ot]; exact hN.2.2.2.2.2.2.2.2.2
theorem gT_0 {a k : Nat} (h : a ≠ 121) : gT.1 a k = nI 0 := by
  rw [gT, m_na h, m_L1]; rfl
theorem inv_start : ∃ (w : am_G × Bool) (g2 : am_G), Mo_reads gT = some w ∧ Mo_tells w.1 = some g2 ∧ Inv g2 := by
  have hY : YB (fun _ => 0) 0 gT := ⟨by omega, gT_0 (by omega), fun k hk => by omega⟩
  have er : rnF (fun _ => 0) 0 200 = (.inr 0, fun _ => 0) := rn_st (B := fun _ => 0) (L := 0) (k := 0) (m := 200) (Or.inr ⟨0, rfl, kd_0 (by omega)⟩) (by omega)
  obtain ⟨gb, fb, cb⟩ := mo_reads hY
  rw [er] at cb
  rcases cb with ⟨f', d1, -, -⟩ | ⟨p', d1, d2, d3⟩
  · cases d1
  · obtain ⟨gc, m1, m2, m3, m4, m5, m6, m7⟩ := mo_tells d3 TW_0
    have oc : ∀ a k, a < 221 → gc.1 a k = gT.1 a k := fun a k h => by rw [m7.2 _ _ (by omega), fb.2 _ _ (by unfold pU; omega)]
    have oz : ∀ a k, a < 121 → gc.1 a k = nI 0 := fun a k h => by rw [oc _ _ (by omega)]; exact gT_0 (by omega)
    refine ⟨(gb, true), gc, d2, m1, in_new (T := fun _ => 0) (P := fun _ _ => 0) TW_0 ⟨oz _ _ (by omega), oz _ _ (by omega), oz _ _ (by omega), fun w hw => absurd hw (Nat.not_lt_zero _), fun t ht => absurd ht (Nat.not_lt_zero _), fun d hd => absurd hd (Nat.not_lt_zero _)⟩ m2 ⟨⟨?_, ?_, ?_, ?_, ⟨0, by omega, oz _ _ (by omega), fun t ht => absurd ht (Nat.not_lt_zero _)⟩, fun t ht => absurd ht (Nat.not_lt_zero _), fun w hw => absurd hw (Nat.not_lt_zero _)⟩, oz _ _ (by omega), 0, by omega, oz _ _ (by omega), fun i hi => by omega⟩ m3 (oz _ _ (by omega)) ?_ ?_ m4 (fun i hi => oz _ _ (by omega)) (fun i hi => ?_) ?_⟩
    · rw [s0_z (by omega)]; exact oz _ _ (by omega)
    · rw [s0_z (by omega)]; exact oz _ _ (by omega)
    · rw [s0_z (by omega)]; exact oz _ _ (by omega)
    · rw [s0_z (by omega)]; exact oz _ _ (by omega)
    · rw [m7.2 _ _ (by omega), fb.2 _ _ (by unfold pU; omega)]; exact gT_0 (by omega)
    · rw [oc _ _ (by omega), gT, m_nk (by omega), m_L1]; rfl
    · obtain rfl | rfl : i = 0 ∨ i = 1 := by omega
      · exact m5
      · exact m6
    · rw [m7.1, fb.1]
      show gT.2 0 10 = gT.2 221 0
      simp [gT, gz, am_wr, am_wL]
end
