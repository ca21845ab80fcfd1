-- JOURNEYS: what may be undone, images
theorem z_ne {a b : Nat} (ha : a < 2 ^ 31) (hb : b < 2 ^ 31) (h : a ≠ b) : ¬ nI a = nI b := fun e => h ((nI_eq ha hb).1 e)
def CE (g' : am_G) (c : Nat) (g : am_G) (o : Nat) : Prop := (∀ k, 1 ≤ k → k < 6 → g'.1 c k = g.1 o k) ∧ (∀ k, k < 7 → g'.1 (c + 1) k = g.1 (o + 1) k ∧ g'.1 (c + 2) k = g.1 (o + 2) k) ∧ (∀ k, k < 4 → g'.1 (c + 3) k = g.1 (o + 3) k)
def Pn (S : Nat → Nat) (n : Nat) (P : Nat → Nat → Nat) : Nat → Nat → Nat := fun i => if n < 10 then (if i = n then S else P i) else (if i = 9 then S else P (i + 1))
section
variable {T S S' : Nat → Nat} {n n' : Nat} {P P' : Nat → Nat → Nat} {g g' : am_G} {c o j : Nat}
theorem CC.ce (h : CC T g o S) (e : CE g' c g o) (hT : TW T) : CC T g' c S := h.tr e.1 (fun k hk => e.2.1 k (by have := hT.2.1; omega)) (fun k hk => e.2.2 k (by have := hT.1; omega))
theorem CI.ce (h : CI T g o S) (e : CE g' c g o) (f : Fm (pC c) g g') (hc : 14 ≤ c) : CI T g' c S := ⟨h.1, h.2.1.fm f (fun a k h1 h2 q => by unfold pC at q; omega), h.2.2.1, h.2.2.2.ce e h.1⟩
theorem ca_copyFrom (g : am_G) (h : c + 3 < o ∨ o + 3 < c) : ∃ g', Ca_copyFrom g c o = some g' ∧ CE g' c g o ∧ Fm (pC c) g g' := by
  have w : ∀ k v v', am_wr (am_wr g c k v) c k v' = am_wr (am_wr g c k v) c k v' := fun _ _ _ => rfl
  refine ⟨_, rfl, ⟨fun k h1 h2 => ?_, fun k hk => ⟨?_, ?_⟩, fun k hk => ?_⟩, ?_⟩
  · have hk : k = 1 ∨ k = 2 ∨ k = 3 ∨ k = 4 ∨ k = 5 := by omega
    rcases hk with rfl | rfl | rfl | rfl | rfl <;> simp (disch := omega) only [m_eq, m_na, m_nk, m_2, m_L1, m_cp2, m_cpi, m_cpo]
  · simp (disch := omega) only [m_eq, m_na, m_nk, m_2, m_L1, m_cp2, m_cpi, m_cpo]
  · simp (disch := omega) only [m_eq, m_na, m_nk, m_2, m_L1, m_cp2, m_cpi, m_cpo]
  · simp (disch := omega) only [m_eq, m_na, m_nk, m_2, m_L1, m_cp2, m_cpi, m_cpo]
  · refine Fm.cp (Fm.cp (Fm.cp (Fm.wr (Fm.wr (Fm.wr (Fm.wr (Fm.wr (Fm.rf _ g) ?_) ?_) ?_) ?_) ?_) ?_) ?_) ?_ <;> first | exact ⟨by omega, by omega⟩ | (intro k hk; exact ⟨by omega, by omega⟩)
theorem JC.now (h : JC T g j S n P) (h1 : CC T g' (j + 2) S') (q : ∀ a k, (a = j ∨ j + 6 ≤ a) → g'.1 a k = g.1 a k) : JC T g' j S' n P := by
  obtain ⟨-, h2, x, hx, h3, h4⟩ := h
  exact ⟨h1, by rw [q _ _ (by omega)]; exact h2, x, hx, by rw [q _ _ (by omega)]; exact h3, fun i hi => (h4 i hi).same (fun a k p1 p2 => q a k (by omega))⟩
theorem JR.now {a : Nat} (h : JR g a o S n P) (h1 : ∀ k, k < 29 → g'.1 a (o + k) = nI (S' k)) (q : ∀ k, 29 ≤ k → g'.1 a (o + k) = g.1 a (o + k)) : JR g' a o S' n P := by
  obtain ⟨-, h2, h3⟩ := h
  exact ⟨h1, by rw [q _ (by omega)]; exact h2, fun i hi k hk => by rw [q _ (by omega)]; exact h3 i hi k hk⟩
theorem IN.jr (h : IN T S n P g) (h4 : JW T S' n' P') (h5 : JC T g' 26 S' n' P') (h6 : JR g' 225 0 S' n' P') (q : ∀ a k, ¬ (26 ≤ a ∧ a ≤ 71) → a ≠ 225 → ¬ scr a k → g'.1 a k = g.1 a k) (q2 : g'.2 = g.2) : IN T S' n' P' g' := by
  obtain ⟨h1, h2, h3, -, -, -, h7, h8, h9, h10⟩ := h
  refine ⟨h1, h2.same (fun a k p1 p2 => q a k (by omega) (by omega) (by unfold scr; omega)), fun k hk => by rw [q 223 k (by omega) (by omega) (by unfold scr; omega)]; exact h3 k hk, h4, h5, h6, h7.same (q _ _ (by omega) (by omega) (by unfold scr; omega)) (q _ _ (by omega) (by omega) (by unfold scr; omega)) (fun k => q _ _ (by omega) (by omega) (by unfold scr; omega)) (fun k => q _ _ (by omega) (by omega) (by unfold scr; omega)), h8.same (q _ _ (by omega) (by omega) (by unfold scr; omega)) (q _ _ (by omega) (by omega) (by unfold scr; omega)) (fun a k p1 p2 => q _ _ (by omega) (by omega) (by unfold scr; omega)) (fun k => q _ _ (by omega) (by omega) (by unfold scr; omega)), h9.same (fun k => q _ _ (by omega) (by omega) (by unfold scr; omega)) (fun k => q _ _ (by omega) (by omega) (by unfold scr; omega)) (fun a k p1 p2 => q _ _ (by omega) (by omega) (by unfold scr; omega)) (fun k => q _ _ (by omega) (by omega) (by unfold scr; omega)), by rw [q2]; exact h10⟩
def pJ (a _k : Nat) : Prop := 26 ≤ a ∧ a ≤ 71
def pS (a _k : Nat) : Prop := a = 225
theorem JW.pn (h : JW T S n P) : JW T S (min 10 (n + 1)) (Pn S n P) := by
  obtain ⟨h1, h2, h3⟩ := h
  refine ⟨by omega, h2, fun i hi => ?_⟩
  simp only [Pn]
  split
  · split
    · exact h2
    · exact h3 i (by omega)
  · split
    · exact h2
    · exact h3 (i + 1) (by omega)
theorem jo_remember (h : JC T g 26 S n P) (hT : TW T) (hn : n ≤ 10) : ∃ g', Jo_remember g 26 = some g' ∧ JC T g' 26 S (min 10 (n + 1)) (Pn S n P) ∧ Fm pJ g g' ∧ ∀ a k, 28 ≤ a → a ≤ 31 → g'.1 a k = g.1 a k := by
  obtain ⟨h1, h2, x, hx, h3, h4⟩ := h
  obtain ⟨g1, e1, ce, f1⟩ := ca_copyFrom g (c := 26 + 6 + 4 * x) (o := 26 + 2) (by omega)
  have q1 : ∀ a k, (a < 32 + 4 * x ∨ 32 + 4 * x + 3 < a) → g1.1 a k = g.1 a k := fun a k h => f1.2 a k (fun q => by unfold pC at q; omega)
  have em : nI x + nI 1 - (nI x + nI 1) / nI 10 * nI 10 = nI ((x + 1) % 10) := by rw [z_add, z_rem (by omega) (by omega) (by omega)]
  have fin : ∀ v a k, a ≠ 26 → (am_wr (am_wr g1 26 3 (nI ((x + 1) % 10))) 26 2 v).1 a k = g1.1 a k := fun v a k h => by rw [m_na h, m_na h]
  refine ⟨am_wr (am_wr g1 26 3 (nI ((x + 1) % 10))) 26 2 (nI (min 10 (n + 1))), ?_, ⟨?_, by rw [m_eq], (x + 1) % 10, by omega, by rw [m_nk (by omega), m_eq], fun i hi => ?_⟩, ?_, fun a k p1 p2 => by rw [fin _ _ _ (by omega), q1 _ _ (by omega)]⟩
  · rw [Jo_remember, h3, if_pos (z_in hx (by omega)), z_cl (by omega), e1, Option.bind_some, q1 26 3 (by omega), h3, zl1, zl10, em, m_nk (by omega), q1 26 2 (by omega), h2, z_add, z_mn (by omega) (by omega)]
  · exact h1.same (fun a k p1 p2 => by rw [fin _ _ _ (by omega), q1 _ _ (by omega)])
  · simp only [Pn]
    by_cases q : n < 10
    · rw [if_pos q]
      have e : min 10 (n + 1) = n + 1 := by omega
      rw [e] at hi ⊢
      by_cases q2 : i = n
      · rw [if_pos q2]
        have e2 : ((x + 1) % 10 + 10 - (n + 1) + i) % 10 = x := by omega
        rw [e2]
        exact (h1.ce ce hT).same (fun a k p1 p2 => fin _ _ _ (by omega))
      · rw [if_neg q2]
        have e2 : ((x + 1) % 10 + 10 - (n + 1) + i) % 10 = (x + 10 - n + i) % 10 := by omega
        rw [e2]
        exact (h4 i (by omega)).same (fun a k p1 p2 => by rw [fin _ _ _ (by omega), q1 _ _ (by omega)])
    · rw [if_neg q]
      have e : min 10 (n + 1) = 10 := by omega
      have e' : n = 10 := by omega
      subst e'
      rw [e] at hi ⊢
      by_cases q2 : i = 9
      · rw [if_pos q2]
        have e2 : ((x + 1) % 10 + 10 - 10 + i) % 10 = x := by omega
        rw [e2]
        exact (h1.ce ce hT).same (fun a k p1 p2 => fin _ _ _ (by omega))
      · rw [if_neg q2]
        have e2 : ((x + 1) % 10 + 10 - 10 + i) % 10 = (x + 10 - 10 + (i + 1)) % 10 := by omega
        rw [e2]
        exact (h4 (i + 1) (by omega)).same (fun a k p1 p2 => by rw [fin _ _ _ (by omega), q1 _ _ (by omega)])
  · exact ((f1.mo (fun a k q => by unfold pC at q; unfold pJ; omega)).wr (by unfold pJ; omega)).wr (by unfold pJ; omega)
theorem mo_shift (g : am_G) : ∃ g', Mo_keeps_L15 am_fuel g 30 = some g' ∧ (∀ k, 30 ≤ k → k < 291 → g'.1 225 k = g.1 225 (k + 29)) ∧ (∀ k, k < 30 ∨ 291 ≤ k → g'.1 225 k = g.1 225 k) ∧ Fm pS g g' := by
  obtain ⟨r, h1, h2⟩ := lp_up (fun n (a : am_G) k => Mo_keeps_L15 n a (nI k)) 291 (fun i a => 30 ≤ i ∧ (∀ k, 30 ≤ k → k < i → a.1 225 k = g.1 225 (k + 29)) ∧ (∀ k, k < 30 ∨ i ≤ k → a.1 225 k = g.1 225 k) ∧ Fm pS g a) (fun a => (∀ k, 30 ≤ k → k < 291 → a.1 225 k = g.1 225 (k + 29)) ∧ (∀ k, k < 30 ∨ 291 ≤ k → a.1 225 k = g.1 225 k) ∧ Fm pS g a)
    (fun n a ha => ⟨a, by rw [Mo_keeps_L15]; simp (disch := omega) only [z_lt, z_le, z_eq, z_in, z_cl, z_add, z_mul, z_mx, z_mn, zl12, zl18, zl19, zl30, zl115, zl116, zl119, zl291, zl640, zl999, zl9999, zl0, zl1, zl2, zl3, zl4, zl5, zl6, zl7, zl8, zl9, zl10, zl15, zl20, zl22, zl26, zl29, zl32, zl33, zl40, zl47, zl48, zl55, zl57, zl59, zl60, zl63, zl71, zl97, zl99, zl100, zl122, zl200, zl255, zl320, zl1000, zl1024, zl5040, zl1000000000, Nat.le_refl, ↓reduceIte], ha.2⟩)
    (fun n i a hi ha => by
      obtain ⟨a0, a1, a2, a3⟩ := ha
      have h6 : ¬ 291 ≤ i := by omega
      refine ⟨am_wr a 225 i (a.1 225 (i + 29)), ?_, by omega, fun k k1 k2 => ?_, fun k k1 => ?_, a3.wr rfl⟩
      · show Mo_keeps_L15 (n + 1) a (nI i) = _
        rw [Mo_keeps_L15]
        simp (disch := omega) only [z_lt, z_le, z_eq, z_in, z_cl, z_add, z_mul, z_mx, z_mn, zl12, zl18, zl19, zl30, zl115, zl116, zl119, zl291, zl640, zl999, zl9999, zl0, zl1, zl2, zl3, zl4, zl5, zl6, zl7, zl8, zl9, zl10, zl15, zl20, zl22, zl26, zl29, zl32, zl33, zl40, zl47, zl48, zl55, zl57, zl59, zl60, zl63, zl71, zl97, zl99, zl100, zl122, zl200, zl255, zl320, zl1000, zl1024, zl5040, zl1000000000, h6, Option.bind_some, Option.bind_none, ↓reduceIte, Bool.false_eq_true, reduceCtorEq]
      · by_cases e : k = i
        · subst e; rw [m_eq, a2 _ (by omega)]
        · rw [m_nk e]; exact a1 k k1 (by omega)
      · rw [m_nk (by omega)]; exact a2 k (by omega))
    am_fuel 30 g (by omega) (z_fuel (by omega)) ⟨by omega, fun k k1 k2 => by omega, fun k _ => rfl, Fm.rf _ _⟩
  exact ⟨r, h1, h2⟩
theorem mo_put (g : am_G) {p : Nat} (hp : 30 ≤ p) (hp2 : p + 29 ≤ 320) : ∃ g', Mo_keeps_L70 am_fuel g (nI p) 0 = some g' ∧ (∀ k, k < 29 → g'.1 225 (p + k) = g.1 225 k) ∧ (∀ k, k < p ∨ p + 29 ≤ k → g'.1 225 k = g.1 225 k) ∧ Fm pS g g' := by
  obtain ⟨r, h1, h2⟩ := lp_up (fun n (a : am_G) k => Mo_keeps_L70 n a (nI p) (nI k)) 29 (fun i a => (∀ k, k < i → a.1 225 (p + k) = g.1 225 k) ∧ (∀ k, k < p ∨ p + i ≤ k → a.1 225 k = g.1 225 k) ∧ Fm pS g a) (fun a => (∀ k, k < 29 → a.1 225 (p + k) = g.1 225 k) ∧ (∀ k, k < p ∨ p + 29 ≤ k → a.1 225 k = g.1 225 k) ∧ Fm pS g a)
    (fun n a ha => ⟨a, by rw [Mo_keeps_L70]; simp (disch := omega) only [z_lt, z_le, z_eq, z_in, z_cl, z_add, z_mul, z_mx, z_mn, zl12, zl18, zl19, zl30, zl115, zl116, zl119, zl291, zl640, zl999, zl9999, zl0, zl1, zl2, zl3, zl4, zl5, zl6, zl7, zl8, zl9, zl10, zl15, zl20, zl22, zl26, zl29, zl32, zl33, zl40, zl47, zl48, zl55, zl57, zl59, zl60, zl63, zl71, zl97, zl99, zl100, zl122, zl200, zl255, zl320, zl1000, zl1024, zl5040, zl1000000000, Nat.le_refl, ↓reduceIte], ha⟩)
    (fun n i a hi ha => by
      obtain ⟨a1, a2, a3⟩ := ha
      have h6 : ¬ 29 ≤ i := by omega
      refine ⟨am_wr a 225 (p + i) (a.1 225 i), ?_, fun k k2 => ?_, fun k k1 => ?_, a3.wr rfl⟩
      · show Mo_keeps_L70 (n + 1) a (nI p) (nI i) = _
        rw [Mo_keeps_L70]
        simp (disch := omega) only [z_lt, z_le, z_eq, z_in, z_cl, z_add, z_mul, z_mx, z_mn, zl12, zl18, zl19, zl30, zl115, zl116, zl119, zl291, zl640, zl999, zl9999, zl0, zl1, zl2, zl3, zl4, zl5, zl6, zl7, zl8, zl9, zl10, zl15, zl20, zl22, zl26, zl29, zl32, zl33, zl40, zl47, zl48, zl55, zl57, zl59, zl60, zl63, zl71, zl97, zl99, zl100, zl122, zl200, zl255, zl320, zl1000, zl1024, zl5040, zl1000000000, h6, Option.bind_some, Option.bind_none, ↓reduceIte, Bool.false_eq_true, reduceCtorEq]
      · by_cases e : k = i
        · subst e; rw [m_eq, a2 _ (by omega)]
        · rw [m_nk (by omega)]; exact a1 k (by omega)
      · rw [m_nk (by omega)]; exact a2 k (by omega))
    am_fuel 0 g (by omega) (z_fuel (by omega)) ⟨fun k k2 => by omega, fun k _ => rfl, Fm.rf _ _⟩
  exact ⟨r, h1, h2⟩
theorem mo_keeps (h : JR g 225 0 S n P) (hn : n ≤ 10) : ∃ g', Mo_keeps g = some g' ∧ JR g' 225 0 S (min 10 (n + 1)) (Pn S n P) ∧ Fm pS g g' := by
  obtain ⟨h1, h2, h3⟩ := h
  simp only [Nat.zero_add] at h1 h2 h3
  obtain ⟨g1, e1, k1, k2, k3, f1⟩ : ∃ g1, (if (g.1 225 29) = 10 then (Mo_keeps_L15 am_fuel g 30).bind fun q5 => some (am_wr q5 225 29 ((q5.1 225 29) - 1)) else some g) = some g1 ∧ (∀ k, k < 29 → g1.1 225 k = nI (S k)) ∧ g1.1 225 29 = nI (min 9 n) ∧ (∀ i, i < min 9 n → ∀ k, k < 29 → g1.1 225 (30 + 29 * i + k) = nI (Pn S n P i k)) ∧ Fm pS g g1 := by
    by_cases q : n = 10
    · subst q
      obtain ⟨g1, e1, c1, c2, f1⟩ := mo_shift g
      refine ⟨am_wr g1 225 29 (nI 9), ?_, fun k hk => by rw [m_nk (by omega), c2 _ (by omega)]; exact h1 k hk, by rw [m_eq]; rfl, fun i hi k hk => ?_, f1.wr rfl⟩
      · rw [h2, if_pos (show nI 10 = 10 from rfl), e1, Option.bind_some, c2 29 (by omega), h2, zl1, z_sub (by omega)]
      · rw [m_nk (by omega), c1 _ (by omega) (by omega)]
        have := h3 (i + 1) (by omega) k hk
        rw [show 30 + 29 * (i + 1) + k = 30 + 29 * i + k + 29 by omega] at this
        rw [this]
        simp only [Pn]
        rw [if_neg (by omega), if_neg (by omega)]
    · refine ⟨g, ?_, h1, by rw [h2]; congr 1; omega, fun i hi k hk => ?_, Fm.rf _ _⟩
      · rw [h2, zl10, if_neg (by rw [z_eq (by omega) (by omega)]; exact q)]
      · rw [h3 i (by omega) k hk]
        simp only [Pn]
        rw [if_pos (by omega), if_neg (by omega)]
  obtain ⟨g2, e2, c1, c2, f2⟩ := mo_put g1 (p := 30 + 29 * min 9 n) (by omega) (by omega)
  refine ⟨am_wr g2 225 29 (nI (min 10 (n + 1))), ?_, ⟨fun k hk => ?_, by rw [Nat.zero_add, m_eq], fun i hi k hk => ?_⟩, (f1.tr f2).wr rfl⟩
  · rw [Mo_keeps, e1, Option.bind_some, k2, zl30, zl29, z_mul, z_add, e2, Option.bind_some, c2 29 (by omega), k2, zl1, z_add, show min 9 n + 1 = min 10 (n + 1) by omega]
  · rw [Nat.zero_add, m_nk (by omega), c2 _ (by omega)]; exact k1 k hk
  · rw [Nat.zero_add, m_nk (by omega)]
    by_cases q : i < min 9 n
    · rw [c2 _ (by omega)]; exact k3 i q k hk
    · have e : i = min 9 n := by omega
      rw [e, c1 k hk, k1 k hk]
      simp only [Pn]
      by_cases q2 : n < 10
      · rw [if_pos q2, if_pos (by omega)]
      · rw [if_neg q2, if_pos (by omega)]
theorem mo_plainOrder (g : am_G) : ∃ g', Mo_plainOrder g = some g' ∧ (∀ i, i < 7 → g'.1 229 i = nI i) ∧ Fm (fun a _ => a = 229) g g' := by
  obtain ⟨r, h1, h2⟩ := lp_up (fun n (a : am_G) k => Mo_plainOrder_L2 n a (nI k)) 7 (fun i a => (∀ k, k < i → a.1 229 k = nI k) ∧ Fm (fun a _ => a = 229) g a) (fun a => (∀ k, k < 7 → a.1 229 k = nI k) ∧ Fm (fun a _ => a = 229) g a)
    (fun n a ha => ⟨a, by rw [Mo_plainOrder_L2]; simp (disch := omega) only [z_lt, z_le, z_eq, z_in, z_cl, z_add, z_mul, z_mx, z_mn, zl12, zl18, zl19, zl30, zl115, zl116, zl119, zl291, zl640, zl999, zl9999, zl0, zl1, zl2, zl3, zl4, zl5, zl6, zl7, zl8, zl9, zl10, zl15, zl20, zl22, zl26, zl29, zl32, zl33, zl40, zl47, zl48, zl55, zl57, zl59, zl60, zl63, zl71, zl97, zl99, zl100, zl122, zl200, zl255, zl320, zl1000, zl1024, zl5040, zl1000000000, Nat.le_refl, ↓reduceIte], ha⟩)
    (fun n i a hi ha => by
      have h6 : ¬ 7 ≤ i := by omega
      refine ⟨am_wr a 229 i (nI i), ?_, fun k k2 => ?_, ha.2.wr rfl⟩
      · show Mo_plainOrder_L2 (n + 1) a (nI i) = _
        rw [Mo_plainOrder_L2]
        simp (disch := omega) only [z_lt, z_le, z_eq, z_in, z_cl, z_add, z_mul, z_mx, z_mn, zl12, zl18, zl19, zl30, zl115, zl116, zl119, zl291, zl640, zl999, zl9999, zl0, zl1, zl2, zl3, zl4, zl5, zl6, zl7, zl8, zl9, zl10, zl15, zl20, zl22, zl26, zl29, zl32, zl33, zl40, zl47, zl48, zl55, zl57, zl59, zl60, zl63, zl71, zl97, zl99, zl100, zl122, zl200, zl255, zl320, zl1000, zl1024, zl5040, zl1000000000, h6, Option.bind_some, Option.bind_none, ↓reduceIte, Bool.false_eq_true, reduceCtorEq]
      · by_cases e : k = i
        · subst e; rw [m_eq]
        · rw [m_nk (by omega)]; exact ha.1 k (by omega))
    am_fuel 0 g (by omega) (z_fuel (by omega)) ⟨fun k k2 => by omega, Fm.rf _ _⟩
  exact ⟨r, by rw [Mo_plainOrder, show Mo_plainOrder_L2 am_fuel g 0 = some r from h1]; rfl, h2⟩
/-- both remember; what follows starts from here -/
theorem both_keep (h : IN T S n P g) : ∃ g1, Jo_remember g 26 = some g1 ∧ JC T g1 26 S (min 10 (n + 1)) (Pn S n P) ∧ CI T g1 28 S ∧ JW T S (min 10 (n + 1)) (Pn S n P) ∧ Fm pJ g g1 ∧ ∀ g1', Fm pJ g g1' → ∃ g2, Mo_keeps g1' = some g2 ∧ JR g2 225 0 S (min 10 (n + 1)) (Pn S n P) ∧ RI T g2 S ∧ Fm pS g1' g2 := by
  obtain ⟨g1, e1, h1, f1, k1⟩ := jo_remember h.2.2.2.2.1 h.1 h.2.2.2.1.1
  have hc := h.c
  refine ⟨g1, e1, h1, ⟨h.1, h.2.1.fm f1 (fun a k q1 q2 q => by unfold pJ at q; omega), h.2.2.2.1.2.1, h1.1⟩, h.2.2.2.1.pn, f1, fun g1' f2 => ?_⟩
  obtain ⟨g2, e2, h2, f3⟩ := mo_keeps (h.2.2.2.2.2.1.same (g' := g1') (fun k => f2.2 225 k (fun q => by unfold pJ at q; omega))) h.2.2.2.1.1
  refine ⟨g2, e2, h2, ⟨h.1, (h.2.2.1.fm f2 (fun k _ q => by unfold pJ at q; omega)).fm f3 (fun k _ q => by unfold pS at q; omega), h.2.2.2.1.2.1, fun k hk => ?_⟩, f3⟩
  have := h2.1 k hk
  rwa [Nat.zero_add] at this
end
theorem sp_gives (g : am_G) (y1 y2 : Int32) (h : Inv g) : ∃ g1 g2 r, Tb_gives g y1 y2 = some (g1, r) ∧ Mo_gives g1 y1 y2 = some (g2, r) ∧ Inv g2 := by
  have hI := h
  obtain ⟨T, S, n, P, h⟩ := h
  have hb := h.c.bb
  rcases tb_thing? h y1 with ⟨t, ht, rfl, e1, e2⟩ | ⟨-, e1, e2⟩
  · rcases tb_walker? h y2 with ⟨w, hw, rfl, e3, e4⟩ | ⟨e3, e4⟩
    · have q2 := h.c.tb ht
      have q3 := h.r.r (k := 8 + t) (by omega)
      by_cases q : S (8 + t) ≠ 9 ∧ S (8 + t) ≠ w
      · obtain ⟨g1, k1, k2, k3, k4, k5, k6⟩ := both_keep h
        have w1 := k3.tt ht
        have d1 := (k3.wrW (by omega) ht (v := w) (Or.inl hw))
        have d2 := d1.wrN (by omega) (k := 3) (v := S 3 + 1) (by omega) (d1.2.2.1.upn (by omega) (by omega) _)
        have f1 : Fm pJ g (am_wr (am_wr g1 (28 + 1) t (nI w)) 28 4 (nI (S 3 + 1))) := (k5.wr (by unfold pJ; omega)).wr (by unfold pJ; omega)
        obtain ⟨g2, c1, c2, c3, c4⟩ := k6 _ f1
        have d3 := c3.wr (j := 8 + t) (v := w) (c3.2.2.1.upW c3.1 ht (Or.inl hw))
        have d4 := d3.wr (j := 3) (v := S 3 + 1) (d3.2.2.1.upn (by omega) (by omega) _)
        have ft : Fm (fun a k => pJ a k ∨ a = 225) g (am_wr (am_wr g2 225 (8 + t) (nI w)) 225 3 (nI (S 3 + 1))) := (((f1.mo (fun a k q => Or.inl q)).tr (c4.mo (fun a k q => Or.inr q))).wr (Or.inr rfl)).wr (Or.inr rfl)
        refine ⟨am_wr (am_wr g1 (28 + 1) t (nI w)) 28 4 (nI (S 3 + 1)), am_wr (am_wr g2 225 (8 + t) (nI w)) 225 3 (nI (S 3 + 1)), nI (S (8 + t)), ?_, ?_, T, up (up S (8 + t) w) 3 (S 3 + 1), min 10 (n + 1), Pn S n P, h.jr ⟨k4.1, d2.2.2.1, k4.2.2⟩ ?_ ?_ (fun a k q1 q2 q3 => ft.2 a k (fun q => by unfold pJ at q; omega)) ft.1⟩
        · rw [Tb_gives, e1, Option.bind_some, if_pos rfl, e3, Option.bind_some, if_pos rfl, ca_canBeGiven h.c ht (by omega), Option.bind_some, if_pos (decide_eq_true q), k1, Option.bind_some, if_pos (z_in (by omega) (by omega)), z_cl (by omega), m_na (by omega), k3.s.2.2.2, w1.2.2.2.2.1, zl1, z_add]
        · have e2' : Mo_isThing (am_wr (am_wr g1 (28 + 1) t (nI w)) 28 4 (nI (S 3 + 1))) (nI t) = some true := by
            rw [Mo_isThing, f1.2 223 1 (fun q => by unfold pJ at q; omega)]; exact e2
          have e4' : Mo_isWalker (am_wr (am_wr g1 (28 + 1) t (nI w)) 28 4 (nI (S 3 + 1))) (nI w) = some true := by
            rw [Mo_isWalker, f1.2 223 0 (fun q => by unfold pJ at q; omega)]; exact e4
          have q3' : (am_wr (am_wr g1 (28 + 1) t (nI w)) 28 4 (nI (S 3 + 1))).1 225 (8 + t) = nI (S (8 + t)) := by rw [f1.2 225 _ (fun q => by unfold pJ at q; omega)]; exact q3
          have q5 : (am_wr g2 225 (8 + t) (nI w)).1 225 3 = nI (S 3) := by rw [m_nk (by omega), c3.r (by omega)]
          rw [Mo_gives, e2', Option.bind_some, if_pos rfl, e4', Option.bind_some, if_pos rfl, zl8, z_add, if_pos (z_in (by omega) (by omega)), z_cl (by omega), q3', zl9, if_neg (z_ne (by omega) (by omega) q.1), if_neg (z_ne (by omega) (by omega) q.2), c1, Option.bind_some, q5, zl1, z_add]
        · refine (k2.now (g' := am_wr (am_wr g1 (28 + 1) t (nI w)) 28 4 (nI (S 3 + 1))) d2.2.2.2 (fun a k q => by rw [m_na (by omega), m_na (by omega)])).same k4.1 (fun a k p1 p2 => ?_)
          rw [m_na (by omega), m_na (by omega), c4.2 a k (fun q => by unfold pS at q; omega)]
        · refine c2.now (fun k hk => by rw [Nat.zero_add]; exact d4.r hk) (fun k hk => ?_)
          rw [m_nk (by omega), m_nk (by omega)]
      · refine ⟨g, g, -2, ?_, ?_, hI⟩
        · rw [Tb_gives, e1, Option.bind_some, if_pos rfl, e3, Option.bind_some, if_pos rfl, ca_canBeGiven h.c ht (by omega), Option.bind_some, if_neg (by simpa using q)]
        · rw [Mo_gives, e2, Option.bind_some, if_pos rfl, e4, Option.bind_some, if_pos rfl, zl8, z_add, if_pos (z_in (by omega) (by omega)), z_cl (by omega), q3, zl9]
          by_cases q5 : S (8 + t) = 9
          · rw [if_pos (by rw [q5])]
          · rw [if_neg (z_ne (by omega) (by omega) q5), if_pos (by rw [show S (8 + t) = w by omega])]
    · exact ⟨g, g, -1, by rw [Tb_gives, e1, Option.bind_some, if_pos rfl, e3]; rfl, by rw [Mo_gives, e2, Option.bind_some, if_pos rfl, e4]; rfl, hI⟩
  · exact ⟨g, g, -1, by rw [Tb_gives, e1]; rfl, by rw [Mo_gives, e2]; rfl, hI⟩
theorem sp_leaves (g : am_G) (y1 : Int32) (h : Inv g) : ∃ g1 g2 r, Tb_leaves g y1 = some (g1, r) ∧ Mo_leaves g1 y1 = some (g2, r) ∧ Inv g2 := by
  have hI := h
  obtain ⟨T, S, n, P, h⟩ := h
  have hb := h.c.bb
  rcases tb_thing? h y1 with ⟨t, ht, rfl, e1, e2⟩ | ⟨-, e1, e2⟩
  · have q2 := h.c.tb ht
    have q3 := h.r.r (k := 8 + t) (by omega)
    by_cases q : S (8 + t) = 9
    · refine ⟨g, g, -2, ?_, ?_, hI⟩
      · rw [Tb_leaves, e1, Option.bind_some, if_pos rfl, ca_isCarried h.c ht, Option.bind_some, if_neg (by simpa using q)]
      · rw [Mo_leaves, e2, Option.bind_some, if_pos rfl, zl8, z_add, if_pos (z_in (by omega) (by omega)), z_cl (by omega), q3, q, zl9, if_pos rfl]
    · by_cases qh : S 0 = 0 ∨ T (62 + S 0) = 1
      · obtain ⟨g1, k1, k2, k3, k4, k5, k6⟩ := both_keep h
        have w1 := k3.tt ht
        have d1 := (k3.wrW (by omega) ht (v := 9) (Or.inr rfl))
        have f1 : Fm pJ g (am_wr g1 (28 + 1) t (nI 9)) := (k5.wr (by unfold pJ; omega))
        obtain ⟨g2, c1, c2, c3, c4⟩ := k6 _ f1
        have d3 := c3.wr (j := 8 + t) (v := 9) (c3.2.2.1.upW c3.1 ht (Or.inr rfl))
        have ft : Fm (fun a k => pJ a k ∨ a = 225) g (am_wr g2 225 (8 + t) (nI 9)) := ((f1.mo (fun a k q => Or.inl q)).tr (c4.mo (fun a k q => Or.inr q))).wr (Or.inr rfl)
        have hr1 : RI T (am_wr g1 (28 + 1) t (nI 9)) S := h.r.fm f1 (fun k q => by unfold pJ at q; omega) (fun k _ q => by unfold pJ at q; omega)
        refine ⟨am_wr g1 (28 + 1) t (nI 9), am_wr g2 225 (8 + t) (nI 9), nI (S (8 + t)), ?_, ?_, T, up S (8 + t) 9, min 10 (n + 1), Pn S n P, h.jr ⟨k4.1, d1.2.2.1, k4.2.2⟩ ?_ ?_ (fun a k q1 q2 q3 => ft.2 a k (fun q => by unfold pJ at q; omega)) ft.1⟩
        · rw [Tb_leaves, e1, Option.bind_some, if_pos rfl, ca_isCarried h.c ht, Option.bind_some, if_pos (decide_eq_true q), ca_isAtHut h.c, Option.bind_some, if_pos (decide_eq_true qh), k1, Option.bind_some, if_pos (z_in (by omega) (by omega)), z_cl (by omega), w1.2.2.2.2.1, zl9]
        · have e2' : Mo_isThing (am_wr g1 (28 + 1) t (nI 9)) (nI t) = some true := by
            rw [Mo_isThing, f1.2 223 1 (fun q => by unfold pJ at q; omega)]; exact e2
          rw [Mo_leaves, e2', Option.bind_some, if_pos rfl, zl8, z_add, if_pos (z_in (by omega) (by omega)), z_cl (by omega), hr1.r (by omega), zl9, if_neg (z_ne (by omega) (by omega) q), mo_isHut hr1, Option.bind_some, if_pos (decide_eq_true qh), c1, Option.bind_some]
        · refine (k2.now (g' := am_wr g1 (28 + 1) t (nI 9)) d1.2.2.2 (fun a k q => by rw [m_na (by omega)])).same k4.1 (fun a k p1 p2 => ?_)
          rw [m_na (by omega), c4.2 a k (fun q => by unfold pS at q; omega)]
        · refine c2.now (fun k hk => by rw [Nat.zero_add]; exact d3.r hk) (fun k hk => ?_)
          rw [m_nk (by omega)]
      · refine ⟨g, g, -2, ?_, ?_, hI⟩
        · rw [Tb_leaves, e1, Option.bind_some, if_pos rfl, ca_isCarried h.c ht, Option.bind_some, if_pos (decide_eq_true q), ca_isAtHut h.c, Option.bind_some, if_neg (by simpa using qh)]
        · rw [Mo_leaves, e2, Option.bind_some, if_pos rfl, zl8, z_add, if_pos (z_in (by omega) (by omega)), z_cl (by omega), q3, zl9, if_neg (z_ne (by omega) (by omega) q), mo_isHut h.r, Option.bind_some, if_neg (by simpa using qh)]
  · exact ⟨g, g, -1, by rw [Tb_leaves, e1]; rfl, by rw [Mo_leaves, e2]; rfl, hI⟩
theorem gon_1 (T o : Nat → Nat) (n : Nat) (b : Bool) (S : Nat → Nat) : gon T o n b S 1 = S 1 + slo T (rnN S b (T 1)) (T (47 + S 0)) := by simp [gon]
theorem gon_0 (T o : Nat → Nat) (n : Nat) (b : Bool) (S : Nat → Nat) : gon T o n b S 0 = S 0 + 1 := by simp [gon]
theorem sp_goes (g : am_G) (h : Inv g) : ∃ g1 g2 r, Tb_goes g = some (g1, r) ∧ Mo_goes g1 = some (g2, r) ∧ Inv g2 := by
  have hI := h
  obtain ⟨T, S, n, P, h⟩ := h
  have hb := h.c.bb
  by_cases q : S 0 < T 2
  · obtain ⟨g1, k1, k2, k3, k4, k5, k6⟩ := both_keep h
    obtain ⟨g2, c1, c2, c3⟩ := ca_pass k3 (by omega) q (decide (T (55 + S 0) = 1))
    have f1 : Fm pJ g g2 := k5.tr (c3.mo (fun a k q => by unfold pC at q; unfold pJ; omega))
    obtain ⟨g3, d1, d2, d3, d4⟩ := k6 g2 f1
    obtain ⟨g4, a1, a2, a3⟩ := mo_plainOrder g3
    have r4 : RI T g4 S := d3.fm a3 (fun k q => absurd q (by decide)) (fun k _ q => absurd q (by decide))
    obtain ⟨g5, b1, b2, b3⟩ := mo_stageGoes r4 q (decide (T (55 + S 0) = 1)) (o := fun i => i) (fun i hi => ⟨a2 i (by omega), hi⟩)
    have hr1 : RI T g2 S := h.r.fm f1 (fun k q => by unfold pJ at q; omega) (fun k _ q => by unfold pJ at q; omega)
    have ft : Fm (fun a k => pJ a k ∨ a = 225 ∨ a = 229 ∨ a = 230) g g5 := (((f1.mo (fun a k q => Or.inl q)).tr (d4.mo (fun a k q => Or.inr (Or.inl q)))).tr (a3.mo (fun a k q => Or.inr (Or.inr (Or.inl q))))).tr (b3.mo (fun a k q => by rcases q with q | q; exact Or.inr (Or.inl q.1); exact Or.inr (Or.inr (Or.inr q))))
    refine ⟨g2, g5, nI (slo T (rnN S (decide (T (55 + S 0) = 1)) (T 1)) (T (47 + S 0))), ?_, ?_, T, gon T (fun i => i) (T 1) (decide (T (55 + S 0) = 1)) S, min 10 (n + 1), Pn S n P, h.jr ⟨k4.1, c2.2.2.1, k4.2.2⟩ ?_ ?_ (fun a k q1 q2 q3 => ft.2 a k (fun q => by unfold pJ at q; unfold scr at q3; omega)) ft.1⟩
    · rw [Tb_goes, ca_hasStage h.c, Option.bind_some, if_pos (decide_eq_true q), k1, Option.bind_some, k3.s.1, ta_rains k3 q, Option.bind_some, c1, Option.bind_some, c2.s.2.1, k3.s.2.1, gon_1, z_sub (by omega)]
      congr 3; omega
    · rw [Mo_goes, mo_isStage hr1, Option.bind_some, if_pos (decide_eq_true q), d1, Option.bind_some, a1, Option.bind_some, mo_isRain r4 q, Option.bind_some, b1]; rfl
    · refine (k2.now (g' := g2) c2.2.2.2 (fun a k q => c3.2 a k (fun q => by unfold pC at q; omega))).same k4.1 (fun a k p1 p2 => ?_)
      rw [b3.2 a k (fun q => by unfold pR at q; omega), a3.2 a k (fun q => by have : a = 229 := q; omega), d4.2 a k (fun q => by unfold pS at q; omega)]
    · refine d2.now (fun k hk => by rw [Nat.zero_add]; exact b2.r hk) (fun k hk => ?_)
      rw [b3.2 _ _ (fun q => by unfold pR at q; omega), a3.2 _ _ (fun q => absurd (show (225 : Nat) = 229 from q) (by decide))]
  · exact ⟨g, g, -2, by rw [Tb_goes, ca_hasStage h.c, Option.bind_some, if_neg (by simpa using q)], by rw [Mo_goes, mo_isStage h.r, Option.bind_some, if_neg (by simpa using q)], hI⟩
