-- ODDS, the calls
section
variable {T S Q : Nat → Nat} {g g' : am_G} {x m r s p u l c : Nat}
def FL (g g' : am_G) : Prop := g'.1 = g.1 ∧ ∀ a k, a ≠ 81 → g'.2 a k = g.2 a k
theorem CI.of1 (h : CI T g c S) (e : g'.1 = g.1) : CI T g' c S := by
  unfold CI TC CC at h ⊢
  rw [e]; exact h
theorem FL.wL (h : FL g g') (k : Nat) (v : Int64) : FL g (am_wL g' 81 k v) := ⟨h.1, fun a j q => by rw [m_Lne (by omega)]; exact h.2 a j q⟩
theorem shk_le (hp : 0 < p) (a : Nat × Nat) (k : Nat) : (shk p a k).1 ≤ a.1 ∧ (shk p a k).2 ≤ a.2 := by
  obtain ⟨d, h0, h1, h2, -⟩ := shk_d hp a k
  have e1 : 1 * (shk p a k).1 ≤ d * (shk p a k).1 := Nat.mul_le_mul_right _ h0
  have e2 : 1 * (shk p a k).2 ≤ d * (shk p a k).2 := Nat.mul_le_mul_right _ h0
  omega
theorem ah_shorten (hu : u < 2 ^ 40) (hl : l < 2 ^ 40) (hp : 2 ≤ p) (hp2 : p ≤ 5) (h4 : g.2 81 4 = lN u) (h5 : g.2 81 5 = lN l) : ∃ g', Ah_shorten g (nI p) = some g' ∧ FL g g' ∧ g'.2 81 4 = lN (shk p (u, l) 8).1 ∧ g'.2 81 5 = lN (shk p (u, l) 8).2 := by
  obtain ⟨r, h1, h2⟩ := lp_up (fun n (a : am_G) k => Ah_shorten_L2 n a (nI p) (nI k)) 8 (fun k a => FL g a ∧ a.2 81 4 = lN (shk p (u, l) k).1 ∧ a.2 81 5 = lN (shk p (u, l) k).2) (fun a => FL g a ∧ a.2 81 4 = lN (shk p (u, l) 8).1 ∧ a.2 81 5 = lN (shk p (u, l) 8).2)
    (fun n a ha => ⟨a, by rw [Ah_shorten_L2]; simp (disch := omega) only [z_lt, z_le, z_eq, z_in, z_cl, z_add, z_mul, z_mx, z_mn, zl12, zl18, zl19, zl30, zl115, zl116, zl119, zl291, zl640, zl999, zl9999, zl0, zl1, zl2, zl3, zl4, zl5, zl6, zl7, zl8, zl9, zl10, zl15, zl20, zl22, zl26, zl29, zl32, zl33, zl40, zl47, zl48, zl55, zl57, zl59, zl60, zl63, zl71, zl97, zl99, zl100, zl122, zl200, zl255, zl320, zl1000, zl1024, zl5040, zl1000000000, Nat.le_refl, ↓reduceIte], ha⟩)
    (fun n k a hk ha => by
      obtain ⟨a1, a2, a3⟩ := ha
      have hle := shk_le (p := p) (by omega) (u, l) k
      have hle1 : (shk p (u, l) k).1 ≤ u := hle.1
      have hle2 : (shk p (u, l) k).2 ≤ l := hle.2
      have h6 : ¬ nI 8 ≤ nI k := nI_ge hk (by omega)
      have h7 : ¬ nI p ≤ 1 := by rw [zl1]; exact nI_ge (by omega) (by omega)
      have h8 : ¬ lN p = 0 := fun e => by have := (pk_lEQ (a := p) (b := 0) (by omega) (by omega)).1 e; omega
      have st : Ah_shorten_L2 (n + 1) a (nI p) (nI k) = (if (shk p (u, l) k).1 % p = 0 then if (shk p (u, l) k).2 % p = 0 then some (am_wL (am_wL a 81 4 (lN ((shk p (u, l) k).1 / p))) 81 5 (lN ((shk p (u, l) k).2 / p))) else some a else some a).bind fun (q9 : am_G) => Ah_shorten_L2 n q9 (nI p) (nI (k + 1)) := by
        rw [Ah_shorten_L2, zl8, if_neg h6, if_neg h7, nI_l (by omega), if_pos h8, m_Lne (by omega), a2, a3, pk_lRem (by omega) (by omega) (by omega), pk_lRem (by omega) (by omega) (by omega), pk_lDiv (by omega) (by omega) (by omega), pk_lDiv (by omega) (by omega) (by omega), zl1, z_add]
        have b1 : (shk p (u, l) k).1 % p < 2 ^ 63 := Nat.lt_of_le_of_lt (Nat.mod_le _ _) (by omega)
        have b2 : (shk p (u, l) k).2 % p < 2 ^ 63 := Nat.lt_of_le_of_lt (Nat.mod_le _ _) (by omega)
        simp only [lc0 b1, lc0 b2]
      by_cases q : (shk p (u, l) k).1 % p = 0 ∧ (shk p (u, l) k).2 % p = 0
      · refine ⟨_, (st.trans (by rw [if_pos q.1, if_pos q.2, Option.bind_some])), (a1.wL 4 _).wL 5 _, ?_, ?_⟩
        · rw [m_Lne (by omega), m_Leq, shk, sh1, if_pos q]
        · rw [m_Leq, shk, sh1, if_pos q]
      · refine ⟨a, (st.trans ?_), a1, ?_, ?_⟩
        · by_cases q1 : (shk p (u, l) k).1 % p = 0
          · rw [if_pos q1, if_neg (fun e => q ⟨q1, e⟩), Option.bind_some]
          · rw [if_neg q1, Option.bind_some]
        · rw [shk, sh1, if_neg q]; exact a2
        · rw [shk, sh1, if_neg q]; exact a3)
    am_fuel 0 g (by omega) (z_fuel (by omega)) ⟨⟨rfl, fun _ _ _ => rfl⟩, h4, h5⟩
  exact ⟨r, by rw [Ah_shorten, show Ah_shorten_L2 am_fuel g (nI p) 0 = some r from h1]; rfl, h2⟩
theorem p10 {k : Nat} (h : k ≤ 8) : 10 ^ k ≤ 100000000 := Nat.pow_le_pow_right (n := 10) (by omega) h
theorem ah_findOdds (h : CI T g 28 S) (hx : x ≤ 10) (hm : m ≤ 9999) : ∃ g', Ah_findOdds g (nI x) (nI m) = some g' ∧ (∀ a k, a ≠ 81 → g'.2 a k = g.2 a k) ∧ (∀ a k, ¬ (85 ≤ a ∧ a ≤ 120) → g'.1 a k = g.1 a k) ∧ g'.2 81 4 = lN (lk T x m (T 2 - S 0) (up (up S 1 0) 2 0) / Nat.gcd (lk T x m (T 2 - S 0) (up (up S 1 0) 2 0)) (10 ^ (T 2 - S 0))) ∧ g'.2 81 5 = lN (10 ^ (T 2 - S 0) / Nat.gcd (lk T x m (T 2 - S 0) (up (up S 1 0) 2 0)) (10 ^ (T 2 - S 0))) := by
  have hb := h.bb
  have h10 := p10 (k := T 2 - S 0) (by omega)
  obtain ⟨g1, h1, h2, h3⟩ := lp_up (fun n (a : am_G) k => Ah_findOdds_L11 n a (nI x) (nI m) (nI k)) (T 2) (fun k a => S 0 ≤ k ∧ FL g a ∧ a.2 81 5 = lN (10 ^ (k - S 0))) (fun a => FL g a ∧ a.2 81 5 = lN (10 ^ (T 2 - S 0)))
    (fun n a ha => ⟨a, by rw [Ah_findOdds_L11, ha.2.1.1]; simp (disch := omega) only [h.n, z_lt, z_le, z_eq, z_in, z_cl, z_add, z_mul, z_mx, z_mn, zl12, zl18, zl19, zl30, zl115, zl116, zl119, zl291, zl640, zl999, zl9999, zl0, zl1, zl2, zl3, zl4, zl5, zl6, zl7, zl8, zl9, zl10, zl15, zl20, zl22, zl26, zl29, zl32, zl33, zl40, zl47, zl48, zl55, zl57, zl59, zl60, zl63, zl71, zl97, zl99, zl100, zl122, zl200, zl255, zl320, zl1000, zl1024, zl5040, zl1000000000, Nat.le_refl, ↓reduceIte], ha.2⟩)
    (fun n k a hk ha => by
      obtain ⟨a0, a1, a2⟩ := ha
      have h6 : ¬ T 2 ≤ k := by omega
      refine ⟨am_wL a 81 5 (lN (10 ^ (k + 1 - S 0))), ?_, by omega, a1.wL 5 _, by rw [m_Leq]⟩
      show Ah_findOdds_L11 (n + 1) a (nI x) (nI m) (nI k) = _
      rw [Ah_findOdds_L11, a1.1, a2, show (10 : Int64) = lN 10 from rfl, lN_mul, show k + 1 - S 0 = (k - S 0) + 1 by omega, Nat.pow_succ]
      simp (disch := omega) only [h.n, h6, z_lt, z_le, z_eq, z_in, z_cl, z_add, z_mul, z_mx, z_mn, zl12, zl18, zl19, zl30, zl115, zl116, zl119, zl291, zl640, zl999, zl9999, zl0, zl1, zl2, zl3, zl4, zl5, zl6, zl7, zl8, zl9, zl10, zl15, zl20, zl22, zl26, zl29, zl32, zl33, zl40, zl47, zl48, zl55, zl57, zl59, zl60, zl63, zl71, zl97, zl99, zl100, zl122, zl200, zl255, zl320, zl1000, zl1024, zl5040, zl1000000000, ↓reduceIte])
    am_fuel (S 0) (am_wL g 81 5 1) (by omega) (z_fuel (by omega)) ⟨Nat.le_refl _, FL.wL ⟨rfl, fun _ _ _ => rfl⟩ 5 _, by rw [m_Leq, Nat.sub_self]; rfl⟩
  have c1 : CI T g1 28 S := h.of1 h2.1
  obtain ⟨g2, e2, k2, f2⟩ := ah_setOut c1
  have e0 : (up (up S 1 0) 2 0) 0 = S 0 := by rw [up_ne (by omega), up_ne (by omega)]
  have e1' : (up (up S 1 0) 2 0) 1 = 0 := by rw [up_ne (by omega), up_eq]
  obtain ⟨g3, e3, f3⟩ := ah_lucky (T := T) hx hm (T 2 - S 0) 14 g2 0 _ k2 (by rw [e0]; omega) (by omega) (by omega) (by rw [e1']; omega)
  have hlk := lk_le (T := T) (m := m) hx (T 2 - S 0) (up (up S 1 0) 2 0)
  generalize hU : lk T x m (T 2 - S 0) (up (up S 1 0) 2 0) = U at e3 hlk ⊢
  have w4 : (am_wL g3 81 4 (lN U)).2 81 4 = lN U := by rw [m_Leq]
  have w5 : (am_wL g3 81 4 (lN U)).2 81 5 = lN (10 ^ (T 2 - S 0)) := by rw [m_Lne (by omega), f3.1, f2.1]; exact h3
  obtain ⟨g4, e4, f4, k4, k4'⟩ := ah_shorten (p := 2) (by omega) (by omega) (by omega) (by omega) w4 w5
  have hs2 := shk_le (p := 2) (by omega) (U, 10 ^ (T 2 - S 0)) 8
  have hs2a : (shk 2 (U, 10 ^ (T 2 - S 0)) 8).1 ≤ U := hs2.1
  have hs2b : (shk 2 (U, 10 ^ (T 2 - S 0)) 8).2 ≤ 10 ^ (T 2 - S 0) := hs2.2
  obtain ⟨g5, e5, f5, k5, k5'⟩ := ah_shorten (p := 5) (by omega) (by omega) (by omega) (by omega) k4 k4'
  have hg := sh_gcd U (T 2 - S 0) (by omega)
  rw [show ((shk 2 (U, 10 ^ (T 2 - S 0)) 8).1, (shk 2 (U, 10 ^ (T 2 - S 0)) 8).2) = shk 2 (U, 10 ^ (T 2 - S 0)) 8 from rfl, hg] at k5 k5'
  refine ⟨g5, ?_, fun a k q => ?_, fun a k q => ?_, k5, k5'⟩
  · rw [Ah_findOdds]
    have z1 : Ah_findOdds_L11 am_fuel (am_wL g 81 5 1) (nI x) (nI m) ((am_wL g 81 5 1).1 28 1) = some g1 := by
      rw [show (am_wL g 81 5 1).1 28 1 = nI (S 0) from h.s.1]; exact h1
    rw [z1, Option.bind_some, e2, Option.bind_some, show Ah_luckyWays 14 g2 0 (nI x) (nI m) = some (g3, lN U) from e3, Option.bind_some, show Ah_shorten (am_wL g3 81 4 (lN U)) 2 = some g4 from e4, Option.bind_some, show Ah_shorten g4 5 = some g5 from e5]; rfl
  · rw [f5.2 a k q, f4.2 a k q, m_Lne (by omega), f3.1, f2.1, h2.2 a k q]
  · rw [f5.1, f4.1, m_L1, f3.2 a k (by omega), f2.2 a k (fun q' => by unfold pC at q'; omega), h2.1]
theorem mo_below (g : am_G) (y1 y2 y3 : Int32) (z : Int64) {r : Nat} (hr : r ≤ 8) : Mo_odds_L58 am_fuel g y1 y2 y3 (nI r) z 1 0 = some (lN (10 ^ r)) := by
  obtain ⟨b, h1, h2⟩ := lp_up (fun n (a : Int64) k => Mo_odds_L58 n g y1 y2 y3 (nI r) z a (nI k)) r (fun k a => a = lN (10 ^ k)) (fun a => a = lN (10 ^ r))
    (fun n a ha => ⟨a, by rw [Mo_odds_L58]; simp (disch := omega) only [z_lt, z_le, z_eq, z_in, z_cl, z_add, z_mul, z_mx, z_mn, zl12, zl18, zl19, zl30, zl115, zl116, zl119, zl291, zl640, zl999, zl9999, zl0, zl1, zl2, zl3, zl4, zl5, zl6, zl7, zl8, zl9, zl10, zl15, zl20, zl22, zl26, zl29, zl32, zl33, zl40, zl47, zl48, zl55, zl57, zl59, zl60, zl63, zl71, zl97, zl99, zl100, zl122, zl200, zl255, zl320, zl1000, zl1024, zl5040, zl1000000000, Nat.le_refl, ↓reduceIte], ha⟩)
    (fun n k a hk ha => by
      have h6 : ¬ r ≤ k := by omega
      refine ⟨_, ?_, rfl⟩
      rw [Mo_odds_L58, ha, show (10 : Int64) = lN 10 from rfl, lN_mul, Nat.pow_succ]
      simp (disch := omega) only [h6, z_lt, z_le, z_eq, z_in, z_cl, z_add, z_mul, z_mx, z_mn, zl12, zl18, zl19, zl30, zl115, zl116, zl119, zl291, zl640, zl999, zl9999, zl0, zl1, zl2, zl3, zl4, zl5, zl6, zl7, zl8, zl9, zl10, zl15, zl20, zl22, zl26, zl29, zl32, zl33, zl40, zl47, zl48, zl55, zl57, zl59, zl60, zl63, zl71, zl97, zl99, zl100, zl122, zl200, zl255, zl320, zl1000, zl1024, zl5040, zl1000000000, ↓reduceIte])
    am_fuel 0 1 (by omega) (z_fuel (by omega)) rfl
  exact h1.trans (by rw [h2])
theorem mo_oddsI (h : RI T g S) (ho : ∀ i, i < T 1 → g.1 229 i = nI i) (hx : x ≤ 10) (y2 y3 : Int32) (z1 z2 : Int64) (hs : s < 256) : ∃ g', Mo_odds_L105 am_fuel g (nI x) y2 y3 (nI (T 2 - S 0)) z1 z2 (nI s) 1 0 = some (g', lN (wt x s (T 2 - S 0))) ∧ RI T g' (rs T S s (T 2 - S 0)) ∧ Fm pR g g' := by
  have hb := h.bb
  obtain ⟨b, h1, h2, h3, h4⟩ := lp_up (fun n (a : am_G × Int64) k => Mo_odds_L105 n a.1 (nI x) y2 y3 (nI (T 2 - S 0)) z1 z2 (nI s) a.2 (nI k)) (T 2 - S 0) (fun k a => RI T a.1 (rs T S s k) ∧ Fm pR g a.1 ∧ a.2 = lN (wt x s k)) (fun a => RI T a.1 (rs T S s (T 2 - S 0)) ∧ Fm pR g a.1 ∧ a.2 = lN (wt x s (T 2 - S 0)))
    (fun n a ha => ⟨a, by rw [Mo_odds_L105]; simp (disch := omega) only [z_lt, z_le, z_eq, z_in, z_cl, z_add, z_mul, z_mx, z_mn, zl12, zl18, zl19, zl30, zl115, zl116, zl119, zl291, zl640, zl999, zl9999, zl0, zl1, zl2, zl3, zl4, zl5, zl6, zl7, zl8, zl9, zl10, zl15, zl20, zl22, zl26, zl29, zl32, zl33, zl40, zl47, zl48, zl55, zl57, zl59, zl60, zl63, zl71, zl97, zl99, zl100, zl122, zl200, zl255, zl320, zl1000, zl1024, zl5040, zl1000000000, Nat.le_refl, ↓reduceIte], ha⟩)
    (fun n k a hk ha => by
      obtain ⟨a1, a2, a3⟩ := ha
      have h6 : ¬ T 2 - S 0 ≤ k := by omega
      obtain ⟨g2, c1, c2, c3⟩ := mo_stageGoes a1 (by rw [rs_0]; omega) (decide (s / 2 ^ k % 2 = 1)) (o := fun i => i) (fun i hi => by rw [a2.2 229 i (by unfold pR; omega)]; exact ⟨ho i hi, hi⟩)
      refine ⟨(g2, lN (wt x s (k + 1))), ?_, c2, a2.tr c3, rfl⟩
      show Mo_odds_L105 (n + 1) a.1 (nI x) y2 y3 (nI (T 2 - S 0)) z1 z2 (nI s) a.2 (nI k) = _
      rw [Mo_odds_L105, if_neg (nI_ge hk (by omega)), zl1, b_get hs (by omega), a3, wt]
      by_cases q : s / 2 ^ k % 2 = 1
      · rw [decide_eq_true q] at c1
        rw [q, if_pos rfl, if_pos rfl, show nI 1 = am_b true from rfl, c1, Option.bind_some, if_neg (show ¬ am_b true = 0 by decide), nI_l (by omega), lN_mul, show am_b true = nI 1 from rfl, z_add]
      · rw [decide_eq_false q] at c1
        rw [if_neg (z_ne (by omega) (by omega) q), if_neg q, show (0 : Int32) = am_b false from rfl, c1, Option.bind_some, if_pos rfl, zl10, z_sub hx, nI_l (by omega), lN_mul, z_add])
    am_fuel 0 (g, 1) (by omega) (z_fuel (by omega)) ⟨h, Fm.rf _ _, rfl⟩
  exact ⟨b.1, by rw [← h4]; exact h1, h2, h3⟩
theorem mo_oddsO (h : RI T g S) (ho : ∀ i, i < T 1 → g.1 229 i = nI i) (h231 : ∀ k, k < 29 → g.1 231 k = nI (S k)) (hx : x ≤ 10) (hm : m ≤ 9999) (y3 : Int32) (z2 : Int64) : ∃ g', Mo_odds_L90 am_fuel g (nI x) (nI m) y3 (nI (T 2 - S 0)) 0 z2 0 = some (g', lN (lk T x m (T 2 - S 0) (up (up S 1 0) 2 0))) ∧ Fm pW g g' ∧ RI T g' S := by
  have hb := h.bb
  have hp : 2 ^ (T 2 - S 0) ≤ 256 := Nat.pow_le_pow_right (n := 2) (by omega) (show T 2 - S 0 ≤ 8 by omega)
  obtain ⟨b, h1, h2, h3, h4⟩ := lp_up (fun n (a : am_G × Int64) k => Mo_odds_L90 n a.1 (nI x) (nI m) y3 (nI (T 2 - S 0)) a.2 z2 (nI k)) (2 ^ (T 2 - S 0)) (fun k a => RI T a.1 S ∧ Fm pW g a.1 ∧ (∀ i, i < T 1 → a.1.1 229 i = nI i) ∧ a.2 = lN (sm (lf1 T (up (up S 1 0) 2 0) x m (T 2 - S 0)) k)) (fun a => RI T a.1 S ∧ Fm pW g a.1 ∧ a.2 = lN (sm (lf1 T (up (up S 1 0) 2 0) x m (T 2 - S 0)) (2 ^ (T 2 - S 0))))
    (fun n a ha => ⟨a, by rw [Mo_odds_L90, zl1, b_sh _ (by omega), if_pos (nI_le (Nat.le_refl _) (by omega))], ha.1, ha.2.1, ha.2.2.2⟩)
    (fun n k a hk ha => by
      obtain ⟨a1, a2, a3, a4⟩ := ha
      obtain ⟨g2, c1, c2, c3⟩ := mo_oddsI a1 a3 hx (nI m) y3 a.2 z2 (s := k) (by omega)
      obtain ⟨g3, l1, l2, l3⟩ := mo_lets g2
      have q31 : ∀ j, j < 29 → g2.1 231 j = nI (S j) := fun j hj => by rw [c3.2 231 j (by unfold pR; omega), a2.2 231 j (by unfold pW; omega)]; exact h231 j hj
      have f3 : Fm pW g g3 := (a2.tr (c3.mo (fun a k q => by rcases q with q | q; exact Or.inl q; exact Or.inr (Or.inr q)))).tr (l3.mo (fun a k q => Or.inl q))
      have hs := sh_rs (T := T) (s := k) (sh_out S) (T 2 - S 0)
      have e0 : (up (up S 1 0) 2 0) 0 = S 0 := by rw [up_ne (by omega), up_ne (by omega)]
      have e1' : (up (up S 1 0) 2 0) 1 = 0 := by rw [up_ne (by omega), up_eq]
      have hbd := rs_b (Q := up (up S 1 0) 2 0) (s := k) h.1 (k := T 2 - S 0) (by rw [e0]; omega)
      rw [e1'] at hbd
      refine ⟨(g3, lN (sm (lf1 T (up (up S 1 0) 2 0) x m (T 2 - S 0)) (k + 1))), ?_, ⟨h.1, a1.2.1.fm (c3.mo (Q := fun a _ => a ≠ 223) (fun a k q => by unfold pR at q; omega)) (fun k _ q => q rfl) |>.fm l3 (fun k _ q => by omega), h.2.2.1, fun j hj => by rw [l2 j hj]; exact q31 j hj⟩, f3, fun i hi => by rw [l3.2 229 i (by omega), c3.2 229 i (by unfold pR; omega)]; exact a3 i hi, rfl⟩
      show Mo_odds_L90 (n + 1) a.1 (nI x) (nI m) y3 (nI (T 2 - S 0)) a.2 z2 (nI k) = _
      rw [Mo_odds_L90, zl1, b_sh _ (by omega), if_neg (nI_ge hk (by omega)), show Mo_odds_L105 am_fuel a.1 (nI x) (nI m) y3 (nI (T 2 - S 0)) a.2 z2 (nI k) 1 0 = some (g2, lN (wt x k (T 2 - S 0))) from c1, Option.bind_some, l1, Option.bind_some, c2.r (by omega), q31 1 (by omega), hs.1, z_sub (by omega), Nat.add_sub_cancel, z_add, sm_s, a4, lf1]
      by_cases q : rs T (up (up S 1 0) 2 0) k (T 2 - S 0) 1 ≤ m
      · rw [if_neg (nI_nlt q (by omega)), if_pos q, lN_add]
      · rw [if_pos (nI_lt (by omega) (by omega)), if_neg q, show (0 : Int64) = lN 0 from rfl, lN_add])
    am_fuel 0 (g, 0) (Nat.zero_le _) (z_fuel (by omega)) ⟨h, Fm.rf _ _, ho, rfl⟩
  rw [lk_sum] at h4
  exact ⟨b.1, by rw [← h4]; exact h1, h3, h2⟩
end
theorem sp_odds (g : am_G) (y1 y2 y3 : Int32) (h : Inv g) : ∃ g1 g2 r, Tb_odds g y1 y2 y3 = some (g1, r) ∧ Mo_odds g1 y1 y2 y3 = some (g2, r) ∧ Inv g2 := by
  have hI := h
  obtain ⟨T, S, n, P, h⟩ := h
  have hb := h.c.bb
  rcases w_li g (lo := 0) (hi := 10) (by omega) (by omega) y1 with ⟨x, -, hx, rfl, e1⟩ | ⟨-, e1⟩
  · have e1' : Tb_isWithin g (nI x) 0 10 = some true := e1
    rcases w_li g (lo := 0) (hi := 9999) (by omega) (by omega) y2 with ⟨m, -, hm, rfl, e2⟩ | ⟨-, e2⟩
    · have e2' : Tb_isWithin g (nI m) 0 9999 = some true := e2
      rcases w_01 g y3 with ⟨j, hj, rfl, e3, e4⟩ | ⟨e3, e4⟩
      · have h10 := p10 (k := T 2 - S 0) (by omega)
        obtain ⟨g1, c1, c2, c3, c4, c5⟩ := ah_findOdds h.c hx hm
        have f1 : Fs g g1 := ⟨fun a k q => c3 a k (fun q' => q (by unfold scr; omega)), c2 _ _ (by omega), c2 _ _ (by omega)⟩
        have h1 := h.fs f1
        obtain ⟨g2, d1, d2, d3⟩ := mo_holds g1
        obtain ⟨g3, a1, a2, a3⟩ := mo_plainOrder g2
        have r2 : RI T g2 S := h1.r.fm d3 (fun k q => absurd (show (223 : Nat) = 231 from q) (by decide)) (fun k _ q => absurd (show (225 : Nat) = 231 from q) (by decide))
        have r3 : RI T g3 S := r2.fm a3 (fun k q => absurd (show (223 : Nat) = 229 from q) (by decide)) (fun k _ q => absurd (show (225 : Nat) = 229 from q) (by decide))
        have q31 : ∀ k, k < 29 → g3.1 231 k = nI (S k) := fun k hk => by rw [a3.2 231 k (fun q => absurd (show (231 : Nat) = 229 from q) (by decide)), d2 k hk]; exact h1.r.r hk
        obtain ⟨g4, b1, b2, b3⟩ := mo_oddsO r3 (fun i hi => a2 i (by omega)) q31 hx hm (nI j) (lN (10 ^ (T 2 - S 0)))
        have hlk := lk_le (T := T) (m := m) hx (T 2 - S 0) (up (up S 1 0) 2 0)
        generalize hU : lk T x m (T 2 - S 0) (up (up S 1 0) 2 0) = U at b1 c4 c5 hlk
        have gc := mo_gcd g4 (nI j) (lN U) (lN (10 ^ (T 2 - S 0))) 40 am_fuel U (10 ^ (T 2 - S 0)) (by omega) (by omega) (by omega) (z_fuel (by omega))
        have hp : 0 < 10 ^ (T 2 - S 0) := Nat.pow_pos (by omega)
        have hg0 : 0 < Nat.gcd U (10 ^ (T 2 - S 0)) := Nat.gcd_pos_of_pos_right _ hp
        have hg1 : Nat.gcd U (10 ^ (T 2 - S 0)) ≤ 10 ^ (T 2 - S 0) := Nat.le_of_dvd hp (Nat.gcd_dvd_right _ _)
        have hne : ¬ lN (Nat.gcd U (10 ^ (T 2 - S 0))) = 0 := fun e => by have := (pk_lEQ (a := Nat.gcd U (10 ^ (T 2 - S 0))) (b := 0) (by omega) (by omega)).1 e; omega
        have fs4 : Fs g1 g4 := ⟨fun a k q => by
          by_cases e : a = 225 ∧ k < 29
          · rw [e.1, b3.r e.2, h1.r.r e.2]
          · rw [b2.2 a k (fun q' => by unfold pW at q'; unfold scr at q; omega), a3.2 a k (fun q' => by have : a = 229 := q'; unfold scr at q; omega), d3.2 a k (fun q' => by have : a = 231 := q'; unfold scr at q; omega)], by rw [b2.1, a3.1, d3.1], by rw [b2.1, a3.1, d3.1]⟩
        refine ⟨g1, g4, if nI j = 0 then lN (U / Nat.gcd U (10 ^ (T 2 - S 0))) else lN (10 ^ (T 2 - S 0) / Nat.gcd U (10 ^ (T 2 - S 0))), ?_, ?_, T, S, n, P, h1.fs fs4⟩
        · rw [Tb_odds, e1', Option.bind_some, if_pos rfl, e2', Option.bind_some, if_pos rfl, e3, Option.bind_some, if_pos rfl, c1, Option.bind_some, c4, c5]
          split <;> rfl
        · rw [Mo_odds, wi g, e1', Option.bind_some, if_pos rfl, wi g, e2', Option.bind_some, if_pos rfl, wi g, e4, Option.bind_some, if_pos rfl, h1.r.u (by omega), h1.r.r (by omega), z_sub (by omega), mo_below _ _ _ _ _ (by omega), Option.bind_some, d1, Option.bind_some, a1, Option.bind_some, b1, Option.bind_some, gc, Option.bind_some, if_pos hne, if_pos hne, pk_lDiv (by omega) (by omega) (by omega), pk_lDiv (by omega) (by omega) (by omega)]
          split <;> rfl
      · exact ⟨g, g, -1, by rw [Tb_odds, e1', Option.bind_some, if_pos rfl, e2', Option.bind_some, if_pos rfl, e3]; rfl, by rw [Mo_odds, wi g, e1', Option.bind_some, if_pos rfl, wi g, e2', Option.bind_some, if_pos rfl, wi g, e4]; rfl, hI⟩
    · have e2' : Tb_isWithin g y2 0 9999 = some false := e2
      exact ⟨g, g, -1, by rw [Tb_odds, e1', Option.bind_some, if_pos rfl, e2']; rfl, by rw [Mo_odds, wi g, e1', Option.bind_some, if_pos rfl, wi g, e2']; rfl, hI⟩
  · have e1' : Tb_isWithin g y1 0 10 = some false := e1
    exact ⟨g, g, -1, by rw [Tb_odds, e1']; rfl, by rw [Mo_odds, wi g, e1']; rfl, hI⟩
