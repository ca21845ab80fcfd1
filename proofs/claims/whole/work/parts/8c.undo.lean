-- UNDO, KEEP, BACK
section
variable {T S S' : Nat → Nat} {n n' : Nat} {P P' : Nat → Nat → Nat} {g g' : am_G} {c o j : Nat}
theorem jo_takeBack (h : JC T g 26 S n P) (hT : TW T) (hn : n ≤ 10) (h0 : 0 < n) : ∃ g', Jo_takeBack g 26 = some (g', true) ∧ JC T g' 26 (P (n - 1)) (n - 1) P ∧ Fm pJ g g' := by
  obtain ⟨h1, h2, x, hx, h3, h4⟩ := h
  have em : nI x + nI 10 - nI 1 - (nI x + nI 10 - nI 1) / nI 10 * nI 10 = nI ((x + 9) % 10) := by
    rw [z_add, z_sub (by omega), z_rem (by omega) (by omega) (by omega), show x + 10 - 1 = x + 9 by omega]
  have hy : (x + 9) % 10 < 10 := by omega
  have e9 : (x + 10 - n + (n - 1)) % 10 = (x + 9) % 10 := by omega
  have hp := h4 (n - 1) (by omega)
  rw [e9] at hp
  have w2 : ∀ a k, a ≠ 26 → (am_wr (am_wr g 26 3 (nI ((x + 9) % 10))) 26 2 (nI (n - 1))).1 a k = g.1 a k := fun a k q => by rw [m_na q, m_na q]
  obtain ⟨g1, e1, ce, f1⟩ := ca_copyFrom (am_wr (am_wr g 26 3 (nI ((x + 9) % 10))) 26 2 (nI (n - 1))) (c := 26 + 2) (o := 26 + 6 + 4 * ((x + 9) % 10)) (by omega)
  have q1 : ∀ a k, (a < 28 ∨ 31 < a) → g1.1 a k = (am_wr (am_wr g 26 3 (nI ((x + 9) % 10))) 26 2 (nI (n - 1))).1 a k := fun a k h => f1.2 a k (fun q => by unfold pC at q; omega)
  refine ⟨g1, ?_, ⟨(hp.same (fun a k p1 p2 => w2 a k (by omega))).ce ce hT, ?_, (x + 9) % 10, hy, ?_, fun i hi => ?_⟩, ?_⟩
  · rw [Jo_takeBack, h2, if_neg (by rw [zl0, z_eq (by omega) (by omega)]; omega), h3, zl10, zl1, em]
    simp (disch := omega) only [m_eq, m_na, m_nk, m_2, m_L1, m_cp2, m_cpi, m_cpo, h2, z_sub, z_in, z_cl, e1, ↓reduceIte, Option.bind_some]
  · rw [q1 _ _ (by omega), m_eq]
  · rw [q1 _ _ (by omega), m_nk (by omega), m_eq]
  · have e2 : ((x + 9) % 10 + 10 - (n - 1) + i) % 10 = (x + 10 - n + i) % 10 := by omega
    rw [e2]
    exact (h4 i (by omega)).same (fun a k p1 p2 => by rw [q1 _ _ (by omega), w2 _ _ (by omega)])
  · exact (((Fm.rf pJ g).wr (a := 26) (k := 3) (v := nI ((x + 9) % 10)) (by unfold pJ; omega)).wr (a := 26) (k := 2) (v := nI (n - 1)) (by unfold pJ; omega)).tr (f1.mo (fun a k q => by unfold pC at q; unfold pJ; omega))
theorem mo_take (g : am_G) {p : Nat} (hp : 30 ≤ p) (hp2 : p + 29 ≤ 320) : ∃ g', Mo_undo_L40 am_fuel g (nI p) 0 = some g' ∧ (∀ k, k < 29 → g'.1 225 k = g.1 225 (p + k)) ∧ (∀ k, 29 ≤ k → g'.1 225 k = g.1 225 k) ∧ Fm pS g g' := by
  obtain ⟨r, h1, h2⟩ := lp_up (fun n (a : am_G) k => Mo_undo_L40 n a (nI p) (nI k)) 29 (fun i a => (∀ k, k < i → a.1 225 k = g.1 225 (p + k)) ∧ (∀ k, i ≤ k → a.1 225 k = g.1 225 k) ∧ Fm pS g a) (fun a => (∀ k, k < 29 → a.1 225 k = g.1 225 (p + k)) ∧ (∀ k, 29 ≤ k → a.1 225 k = g.1 225 k) ∧ Fm pS g a)
    (fun n a ha => ⟨a, by rw [Mo_undo_L40]; simp (disch := omega) only [z_lt, z_le, z_eq, z_in, z_cl, z_add, z_mul, z_mx, z_mn, zl12, zl18, zl19, zl30, zl115, zl116, zl119, zl291, zl640, zl999, zl9999, zl0, zl1, zl2, zl3, zl4, zl5, zl6, zl7, zl8, zl9, zl10, zl15, zl20, zl22, zl26, zl29, zl32, zl33, zl40, zl47, zl48, zl55, zl57, zl59, zl60, zl63, zl71, zl97, zl99, zl100, zl122, zl200, zl255, zl320, zl1000, zl1024, zl5040, zl1000000000, Nat.le_refl, ↓reduceIte], ha⟩)
    (fun n i a hi ha => by
      obtain ⟨a1, a2, a3⟩ := ha
      have h6 : ¬ 29 ≤ i := by omega
      refine ⟨am_wr a 225 i (a.1 225 (p + i)), ?_, fun k k2 => ?_, fun k k1 => ?_, a3.wr rfl⟩
      · show Mo_undo_L40 (n + 1) a (nI p) (nI i) = _
        rw [Mo_undo_L40]
        simp (disch := omega) only [z_lt, z_le, z_eq, z_in, z_cl, z_add, z_mul, z_mx, z_mn, zl12, zl18, zl19, zl30, zl115, zl116, zl119, zl291, zl640, zl999, zl9999, zl0, zl1, zl2, zl3, zl4, zl5, zl6, zl7, zl8, zl9, zl10, zl15, zl20, zl22, zl26, zl29, zl32, zl33, zl40, zl47, zl48, zl55, zl57, zl59, zl60, zl63, zl71, zl97, zl99, zl100, zl122, zl200, zl255, zl320, zl1000, zl1024, zl5040, zl1000000000, h6, Option.bind_some, Option.bind_none, ↓reduceIte, Bool.false_eq_true, reduceCtorEq]
      · by_cases e : k = i
        · subst e; rw [m_eq, a2 _ (by omega)]
        · rw [m_nk (by omega)]; exact a1 k (by omega)
      · rw [m_nk (by omega)]; exact a2 k (by omega))
    am_fuel 0 g (by omega) (z_fuel (by omega)) ⟨fun k k2 => by omega, fun k _ => rfl, Fm.rf _ _⟩
  exact ⟨r, h1, h2⟩
theorem mo_undo (h : JR g 225 0 S n P) (hn : n ≤ 10) (h0 : 0 < n) : ∃ g', Mo_undo g = some (g', nI (n - 1)) ∧ JR g' 225 0 (P (n - 1)) (n - 1) P ∧ Fm pS g g' := by
  obtain ⟨h1, h2, h3⟩ := h
  simp only [Nat.zero_add] at h1 h2 h3
  obtain ⟨g1, e1, c1, c2, f1⟩ := mo_take (am_wr g 225 29 (nI (n - 1))) (p := 30 + 29 * (n - 1)) (by omega) (by omega)
  refine ⟨g1, ?_, ⟨fun k hk => ?_, ?_, fun i hi k hk => ?_⟩, ((Fm.rf pS g).wr (a := 225) (k := 29) (v := nI (n - 1)) rfl).tr f1⟩
  · rw [Mo_undo, h2, if_neg (by rw [zl0, z_eq (by omega) (by omega)]; omega), zl1, z_sub (by omega), m_eq, zl30, zl29, z_mul, z_add, e1, Option.bind_some, c2 29 (by omega), m_eq]
  · rw [Nat.zero_add, c1 k hk, m_nk (by omega)]; exact h3 (n - 1) (by omega) k hk
  · rw [Nat.zero_add, c2 _ (by omega), m_eq]
  · rw [Nat.zero_add, c2 _ (by omega), m_nk (by omega)]; exact h3 i (by omega) k hk
/-- a whole journey copied -/
theorem jo_copyFrom (g : am_G) (hd : j + 45 < o ∨ o + 45 < j) : ∃ g', Jo_copyFrom g j o = some g' ∧ Fm (fun a _ => j ≤ a ∧ a ≤ j + 45) g g' ∧ ∀ T S n P, TW T → n ≤ 10 → JC T g o S n P → JC T g' j S n P := by
  obtain ⟨g1, e1, ce1, f1⟩ := ca_copyFrom g (c := j + 2) (o := o + 2) (by omega)
  have q1 : ∀ a k, (a < j + 2 ∨ j + 5 < a) → g1.1 a k = g.1 a k := fun a k h => f1.2 a k (fun q => by unfold pC at q; omega)
  obtain ⟨r, h1, h2, h3, h4⟩ := lp_up (fun n (a : am_G) k => Jo_copyFrom_L13 n a j o (nI k)) 10 (fun i a => (∀ p, p < i → CE a (j + 6 + 4 * p) g (o + 6 + 4 * p)) ∧ CE a (j + 2) g (o + 2) ∧ (∀ a' k, (a' < j + 2 ∨ j + 45 < a') → a.1 a' k = g.1 a' k) ∧ a.2 = g.2) (fun a => (∀ p, p < 10 → CE a (j + 6 + 4 * p) g (o + 6 + 4 * p)) ∧ CE a (j + 2) g (o + 2) ∧ (∀ a' k, (a' < j + 2 ∨ j + 45 < a') → a.1 a' k = g.1 a' k) ∧ a.2 = g.2)
    (fun n a ha => ⟨a, by rw [Jo_copyFrom_L13]; simp (disch := omega) only [z_lt, z_le, z_eq, z_in, z_cl, z_add, z_mul, z_mx, z_mn, zl12, zl18, zl19, zl30, zl115, zl116, zl119, zl291, zl640, zl999, zl9999, zl0, zl1, zl2, zl3, zl4, zl5, zl6, zl7, zl8, zl9, zl10, zl15, zl20, zl22, zl26, zl29, zl32, zl33, zl40, zl47, zl48, zl55, zl57, zl59, zl60, zl63, zl71, zl97, zl99, zl100, zl122, zl200, zl255, zl320, zl1000, zl1024, zl5040, zl1000000000, Nat.le_refl, ↓reduceIte], ha⟩)
    (fun n i a hi ha => by
      obtain ⟨a1, a2, a3, a4⟩ := ha
      have h6 : ¬ 10 ≤ i := by omega
      obtain ⟨g2, e2, ce2, f2⟩ := ca_copyFrom a (c := j + 6 + 4 * i) (o := o + 6 + 4 * i) (by omega)
      have q2 : ∀ a' k, (a' < j + 6 + 4 * i ∨ j + 6 + 4 * i + 3 < a') → g2.1 a' k = a.1 a' k := fun a k h => f2.2 a k (fun q => by unfold pC at q; omega)
      have keep : ∀ c o', CE a c g o' → (c + 3 < j + 6 + 4 * i ∨ j + 6 + 4 * i + 3 < c) → CE g2 c g o' := fun c o' q1 q3 => ⟨fun k k1 k2 => by rw [q2 _ _ (by omega)]; exact q1.1 k k1 k2, fun k k1 => by rw [q2 _ _ (by omega), q2 _ _ (by omega)]; exact q1.2.1 k k1, fun k k1 => by rw [q2 _ _ (by omega)]; exact q1.2.2 k k1⟩
      refine ⟨g2, ?_, fun p hp => ?_, keep _ _ a2 (by omega), fun a' k q => by rw [q2 _ _ (by omega)]; exact a3 a' k q, f2.1.trans a4⟩
      · show Jo_copyFrom_L13 (n + 1) a j o (nI i) = _
        rw [Jo_copyFrom_L13]
        simp (disch := omega) only [z_lt, z_le, z_eq, z_in, z_cl, z_add, z_mul, z_mx, z_mn, zl12, zl18, zl19, zl30, zl115, zl116, zl119, zl291, zl640, zl999, zl9999, zl0, zl1, zl2, zl3, zl4, zl5, zl6, zl7, zl8, zl9, zl10, zl15, zl20, zl22, zl26, zl29, zl32, zl33, zl40, zl47, zl48, zl55, zl57, zl59, zl60, zl63, zl71, zl97, zl99, zl100, zl122, zl200, zl255, zl320, zl1000, zl1024, zl5040, zl1000000000, h6, e2, Option.bind_some, Option.bind_none, ↓reduceIte, Bool.false_eq_true, reduceCtorEq]
      · by_cases e : p = i
        · subst e
          exact ⟨fun k k1 k2 => by rw [ce2.1 k k1 k2]; exact a3 _ _ (by omega), fun k k1 => by rw [(ce2.2.1 k k1).1, (ce2.2.1 k k1).2]; exact ⟨a3 _ _ (by omega), a3 _ _ (by omega)⟩, fun k k1 => by rw [ce2.2.2 k k1]; exact a3 _ _ (by omega)⟩
        · exact keep _ _ (a1 p (by omega)) (by omega))
    am_fuel 0 g1 (by omega) (z_fuel (by omega)) ⟨fun p hp => by omega, ce1, fun a' k q => q1 _ _ (by omega), f1.1⟩
  have w2 : ∀ v v' a k, a ≠ j → (am_wr (am_wr r j 2 v) j 3 v').1 a k = r.1 a k := fun v v' a k q => by rw [m_na q, m_na q]
  have ce : ∀ v v' c o', c ≠ j → c + 1 ≠ j → c + 2 ≠ j → c + 3 ≠ j → CE r c g o' → CE (am_wr (am_wr r j 2 v) j 3 v') c g o' := fun v v' c o' n1 n2 n3 n4 q1 => ⟨fun k k1 k2 => by rw [w2 _ _ _ _ n1]; exact q1.1 k k1 k2, fun k k1 => by rw [w2 _ _ _ _ n2, w2 _ _ _ _ n3]; exact q1.2.1 k k1, fun k k1 => by rw [w2 _ _ _ _ n4]; exact q1.2.2 k k1⟩
  refine ⟨am_wr (am_wr r j 2 (r.1 o 2)) j 3 ((am_wr r j 2 (r.1 o 2)).1 o 3), ?_, ⟨h4.2, fun a k q => ?_⟩, fun T S n P hT hn hJ => ?_⟩
  · rw [Jo_copyFrom, e1, Option.bind_some, show Jo_copyFrom_L13 am_fuel g1 j o 0 = some r from h1, Option.bind_some]
  · rw [w2 _ _ _ _ (by omega)]; exact h4.1 a k (by omega)
  · obtain ⟨k1, k2, x, hx, k3, k4⟩ := hJ
    refine ⟨k1.ce (ce _ _ _ _ (by omega) (by omega) (by omega) (by omega) h3) hT, ?_, x, hx, ?_, fun i hi => ?_⟩
    · rw [m_nk (by omega), m_eq, h4.1 _ _ (by omega)]; exact k2
    · rw [m_eq, m_na (by omega), h4.1 _ _ (by omega)]; exact k3
    · exact (k4 i hi).ce (ce _ _ _ _ (by omega) (by omega) (by omega) (by omega) (h2 _ (by omega))) hT
theorem mo_keepL (g : am_G) {i : Nat} (hi : i < 2) : ∃ g', Mo_keep_L13 am_fuel g (nI i) 0 = some g' ∧ (∀ k, k < 320 → g'.1 226 (320 * i + k) = g.1 225 k) ∧ (∀ k, (k < 320 * i ∨ 320 * i + 320 ≤ k) → g'.1 226 k = g.1 226 k) ∧ Fm (fun a _ => a = 226) g g' := by
  obtain ⟨r, h1, h2⟩ := lp_up (fun n (a : am_G) k => Mo_keep_L13 n a (nI i) (nI k)) 320 (fun p a => (∀ k, k < p → a.1 226 (320 * i + k) = g.1 225 k) ∧ (∀ k, (k < 320 * i ∨ 320 * i + 320 ≤ k) → a.1 226 k = g.1 226 k) ∧ Fm (fun a _ => a = 226) g a) (fun a => (∀ k, k < 320 → a.1 226 (320 * i + k) = g.1 225 k) ∧ (∀ k, (k < 320 * i ∨ 320 * i + 320 ≤ k) → a.1 226 k = g.1 226 k) ∧ Fm (fun a _ => a = 226) g a)
    (fun n a ha => ⟨a, by rw [Mo_keep_L13]; simp (disch := omega) only [z_lt, z_le, z_eq, z_in, z_cl, z_add, z_mul, z_mx, z_mn, zl12, zl18, zl19, zl30, zl115, zl116, zl119, zl291, zl640, zl999, zl9999, zl0, zl1, zl2, zl3, zl4, zl5, zl6, zl7, zl8, zl9, zl10, zl15, zl20, zl22, zl26, zl29, zl32, zl33, zl40, zl47, zl48, zl55, zl57, zl59, zl60, zl63, zl71, zl97, zl99, zl100, zl122, zl200, zl255, zl320, zl1000, zl1024, zl5040, zl1000000000, Nat.le_refl, ↓reduceIte], ha⟩)
    (fun n p a hp ha => by
      obtain ⟨a1, a2, a3⟩ := ha
      have h6 : ¬ 320 ≤ p := by omega
      refine ⟨am_wr a 226 (320 * i + p) (a.1 225 p), ?_, fun k k2 => ?_, fun k k1 => ?_, a3.wr rfl⟩
      · show Mo_keep_L13 (n + 1) a (nI i) (nI p) = _
        rw [Mo_keep_L13]
        simp (disch := omega) only [z_lt, z_le, z_eq, z_in, z_cl, z_add, z_mul, z_mx, z_mn, zl12, zl18, zl19, zl30, zl115, zl116, zl119, zl291, zl640, zl999, zl9999, zl0, zl1, zl2, zl3, zl4, zl5, zl6, zl7, zl8, zl9, zl10, zl15, zl20, zl22, zl26, zl29, zl32, zl33, zl40, zl47, zl48, zl55, zl57, zl59, zl60, zl63, zl71, zl97, zl99, zl100, zl122, zl200, zl255, zl320, zl1000, zl1024, zl5040, zl1000000000, h6, Option.bind_some, Option.bind_none, ↓reduceIte, Bool.false_eq_true, reduceCtorEq]
      · by_cases e : k = p
        · subst e; rw [m_eq, a3.2 _ _ (by omega)]
        · rw [m_nk (by omega)]; exact a1 k (by omega)
      · rw [m_nk (by omega)]; exact a2 k (by omega))
    am_fuel 0 g (by omega) (z_fuel (by omega)) ⟨fun k k2 => by omega, fun k _ => rfl, Fm.rf _ _⟩
  exact ⟨r, h1, h2⟩
theorem mo_backL (g : am_G) {i : Nat} (hi : i < 2) : ∃ g', Mo_back_L25 am_fuel g (nI i) 0 = some g' ∧ (∀ k, k < 320 → g'.1 225 k = g.1 226 (320 * i + k)) ∧ Fm pS g g' := by
  obtain ⟨r, h1, h2⟩ := lp_up (fun n (a : am_G) k => Mo_back_L25 n a (nI i) (nI k)) 320 (fun p a => (∀ k, k < p → a.1 225 k = g.1 226 (320 * i + k)) ∧ Fm pS g a) (fun a => (∀ k, k < 320 → a.1 225 k = g.1 226 (320 * i + k)) ∧ Fm pS g a)
    (fun n a ha => ⟨a, by rw [Mo_back_L25]; simp (disch := omega) only [z_lt, z_le, z_eq, z_in, z_cl, z_add, z_mul, z_mx, z_mn, zl12, zl18, zl19, zl30, zl115, zl116, zl119, zl291, zl640, zl999, zl9999, zl0, zl1, zl2, zl3, zl4, zl5, zl6, zl7, zl8, zl9, zl10, zl15, zl20, zl22, zl26, zl29, zl32, zl33, zl40, zl47, zl48, zl55, zl57, zl59, zl60, zl63, zl71, zl97, zl99, zl100, zl122, zl200, zl255, zl320, zl1000, zl1024, zl5040, zl1000000000, Nat.le_refl, ↓reduceIte], ha⟩)
    (fun n p a hp ha => by
      obtain ⟨a1, a3⟩ := ha
      have h6 : ¬ 320 ≤ p := by omega
      refine ⟨am_wr a 225 p (a.1 226 (320 * i + p)), ?_, fun k k2 => ?_, a3.wr rfl⟩
      · show Mo_back_L25 (n + 1) a (nI i) (nI p) = _
        rw [Mo_back_L25]
        simp (disch := omega) only [z_lt, z_le, z_eq, z_in, z_cl, z_add, z_mul, z_mx, z_mn, zl12, zl18, zl19, zl30, zl115, zl116, zl119, zl291, zl640, zl999, zl9999, zl0, zl1, zl2, zl3, zl4, zl5, zl6, zl7, zl8, zl9, zl10, zl15, zl20, zl22, zl26, zl29, zl32, zl33, zl40, zl47, zl48, zl55, zl57, zl59, zl60, zl63, zl71, zl97, zl99, zl100, zl122, zl200, zl255, zl320, zl1000, zl1024, zl5040, zl1000000000, h6, Option.bind_some, Option.bind_none, ↓reduceIte, Bool.false_eq_true, reduceCtorEq]
      · by_cases e : k = p
        · subst e; rw [m_eq, a3.2 _ _ (by unfold pS; omega)]
        · rw [m_nk (by omega)]; exact a1 k (by omega))
    am_fuel 0 g (by omega) (z_fuel (by omega)) ⟨fun k k2 => by omega, Fm.rf _ _⟩
  exact ⟨r, h1, h2⟩
end
theorem sp_undo (g : am_G) (h : Inv g) : ∃ g1 g2 r, Tb_undo g = some (g1, r) ∧ Mo_undo g1 = some (g2, r) ∧ Inv g2 := by
  have hI := h
  obtain ⟨T, S, n, P, h⟩ := h
  have hj := h.2.2.2.2.1
  have hr := h.2.2.2.2.2.1
  have hw := h.2.2.2.1
  have hn := hw.1
  have hr2 := hr.2.1
  rw [Nat.zero_add] at hr2
  by_cases q : n = 0
  · refine ⟨g, g, -2, ?_, ?_, hI⟩
    · rw [Tb_undo, Jo_takeBack, hj.2.1, q]; rfl
    · rw [Mo_undo, hr2, q]; rfl
  · obtain ⟨g1, e1, h1, f1⟩ := jo_takeBack hj h.1 hw.1 (by omega)
    obtain ⟨g2, e2, h2, f2⟩ := mo_undo (hr.same (g' := g1) (fun k => f1.2 225 k (fun q => by unfold pJ at q; omega))) hw.1 (by omega)
    have ft : Fm (fun a k => pJ a k ∨ a = 225) g g2 := (f1.mo (fun a k q => Or.inl q)).tr (f2.mo (fun a k q => Or.inr q))
    refine ⟨g1, g2, nI (n - 1), ?_, e2, T, P (n - 1), n - 1, P, h.jr ⟨by omega, hw.2.2 _ (by omega), fun i hi => hw.2.2 i (by omega)⟩ (h1.same (by omega) (fun a k p1 p2 => f2.2 a k (fun q => by unfold pS at q; omega))) h2 (fun a k q1 q2 q3 => ft.2 a k (fun q => by unfold pJ at q; omega)) ft.1⟩
    rw [Tb_undo, e1, Option.bind_some, if_pos rfl, h1.2.1]
theorem sp_keep (g : am_G) (y1 : Int32) (h : Inv g) : ∃ g1 g2 r, Tb_keep g y1 = some (g1, r) ∧ Mo_keep g1 y1 = some (g2, r) ∧ Inv g2 := by
  have hI := h
  obtain ⟨T, S, n, P, h⟩ := h
  rcases w_li g (lo := 0) (hi := 1) (by omega) (by omega) y1 with ⟨i, -, hi, rfl, e1⟩ | ⟨-, e1⟩
  · have e1' : Tb_isWithin g (nI i) 0 1 = some true := e1
    obtain ⟨h1, h2, h3, h4, h5, h6, h7, h8, h9, h10⟩ := id h
    obtain ⟨g1, c1, f1, cj⟩ := jo_copyFrom g (j := 129 + 46 * i) (o := 26) (by omega)
    have q1 : ∀ a k, a ≠ 73 → (a < 129 + 46 * i ∨ 129 + 46 * i + 45 < a) → (am_wr g1 73 i 1).1 a k = g.1 a k := fun a k q q' => by rw [m_na q]; exact f1.2 a k (by omega)
    obtain ⟨g2, c2, d1, d2, f2⟩ := mo_keepL (am_wr g1 73 i 1) (i := i) (by omega)
    have q2 : ∀ a k, a ≠ 226 → a ≠ 227 → (am_wr g2 227 i 1).1 a k = (am_wr g1 73 i 1).1 a k := fun a k q q' => by rw [m_na q']; exact f2.2 a k q
    have q3 : ∀ a k, a ≠ 226 → a ≠ 227 → a ≠ 73 → (a < 129 + 46 * i ∨ 129 + 46 * i + 45 < a) → (am_wr g2 227 i 1).1 a k = g.1 a k := fun a k p1 p2 p3 p4 => by rw [q2 a k p1 p2, q1 a k p3 p4]
    refine ⟨am_wr g1 73 i 1, am_wr g2 227 i 1, nI (S 0), ?_, ?_, T, S, n, P, h1, h2.same (fun a k p1 p2 => q3 a k (by omega) (by omega) (by omega) (by omega)), fun k hk => by rw [q3 223 k (by omega) (by omega) (by omega) (by omega)]; exact h3 k hk, h4, h5.same h4.1 (fun a k p1 p2 => q3 a k (by omega) (by omega) (by omega) (by omega)), h6.same (fun k => q3 225 k (by omega) (by omega) (by omega) (by omega)), h7.same (q3 _ _ (by omega) (by omega) (by omega) (by omega)) (q3 _ _ (by omega) (by omega) (by omega) (by omega)) (fun k => q3 _ _ (by omega) (by omega) (by omega) (by omega)) (fun k => q3 _ _ (by omega) (by omega) (by omega) (by omega)), h8.same (q3 _ _ (by omega) (by omega) (by omega) (by omega)) (q3 _ _ (by omega) (by omega) (by omega) (by omega)) (fun a k p1 p2 => q3 _ _ (by omega) (by omega) (by omega) (by omega)) (fun k => q3 _ _ (by omega) (by omega) (by omega) (by omega)), fun p hp => ?_, ?_⟩
    · rw [Tb_keep, e1', Option.bind_some, if_pos rfl, if_pos (z_in (by omega) (by omega)), z_cl (by omega), c1, Option.bind_some, q1 28 1 (by omega) (by omega), h.c.s.1]
    · rw [Mo_keep, wi g, e1', Option.bind_some, if_pos rfl, c2, Option.bind_some, if_pos (z_in (by omega) (by omega)), z_cl (by omega), q3 225 0 (by omega) (by omega) (by omega) (by omega), h.r.r (by omega)]
    · by_cases e : p = i
      · subst e
        refine Or.inr ⟨by rw [q2 _ _ (by omega) (by omega), m_eq], by rw [m_eq], S, n, P, h4, ((cj T S n P h1 h4.1 h5).same h4.1 (fun a k p1 p2 => by rw [q2 a k (by omega) (by omega), m_na (by omega)])), fun k hk => ?_, ?_, fun i' hi' k hk => ?_⟩
        · rw [m_na (by omega), d1 k (by omega), q1 _ _ (by omega) (by omega)]; exact h.r.r hk
        · rw [m_na (by omega), d1 29 (by omega), q1 _ _ (by omega) (by omega)]; have := h6.2.1; rwa [Nat.zero_add] at this
        · have := h4.1
          rw [m_na (by omega), d1 _ (by omega), q1 _ _ (by omega) (by omega)]; have := h6.2.2 i' hi' k hk; rwa [Nat.zero_add] at this
      · have e73 : (am_wr g2 227 i 1).1 73 p = g.1 73 p := by rw [q2 _ _ (by omega) (by omega), m_nk e]; exact f1.2 _ _ (by omega)
        have e227 : (am_wr g2 227 i 1).1 227 p = g.1 227 p := by rw [m_nk e, f2.2 _ _ (by omega), m_na (by omega)]; exact f1.2 _ _ (by omega)
        rw [e73, e227]
        rcases h9 p hp with k1 | ⟨k1, k2, S', n', P', k3, k4, k5⟩
        · exact Or.inl k1
        · refine Or.inr ⟨k1, k2, S', n', P', k3, k4.same k3.1 (fun a k p1 p2 => q3 a k (by omega) (by omega) (by omega) (by omega)), ?_⟩
          have := k3.1
          have qq : ∀ k, 320 * p ≤ k → k < 320 * p + 320 → (am_wr g2 227 i 1).1 226 k = g.1 226 k := fun k p1 p2 => by rw [m_na (by omega), d2 k (by omega), q1 _ _ (by omega) (by omega)]
          exact ⟨fun k hk => by rw [qq _ (by omega) (by omega)]; exact k5.1 k hk, by rw [qq _ (by omega) (by omega)]; exact k5.2.1, fun i' hi' k hk => by rw [qq _ (by omega) (by omega)]; exact k5.2.2 i' hi' k hk⟩
    · show g2.2 0 10 = g2.2 221 0
      rw [f2.1]
      show g1.2 0 10 = g1.2 221 0
      rw [f1.1]; exact h10
  · have e1' : Tb_isWithin g y1 0 1 = some false := e1
    exact ⟨g, g, -1, by rw [Tb_keep, e1']; rfl, by rw [Mo_keep, wi g, e1']; rfl, hI⟩
theorem sp_back (g : am_G) (y1 : Int32) (h : Inv g) : ∃ g1 g2 r, Tb_back g y1 = some (g1, r) ∧ Mo_back g1 y1 = some (g2, r) ∧ Inv g2 := by
  have hI := h
  obtain ⟨T, S, n, P, h⟩ := h
  rcases w_li g (lo := 0) (hi := 1) (by omega) (by omega) y1 with ⟨i, -, hi, rfl, e1⟩ | ⟨-, e1⟩
  · have e1' : Tb_isWithin g (nI i) 0 1 = some true := e1
    rcases h.2.2.2.2.2.2.2.2.1 i (by omega) with ⟨k1, k2⟩ | ⟨k1, k2, S', n', P', k3, k4, k5⟩
    · refine ⟨g, g, -2, ?_, ?_, hI⟩
      · rw [Tb_back, e1', Option.bind_some, if_pos rfl, if_pos (z_in (by omega) (by omega)), z_cl (by omega), k1, if_pos rfl]
      · rw [Mo_back, wi g, e1', Option.bind_some, if_pos rfl, if_pos (z_in (by omega) (by omega)), z_cl (by omega), k2, if_pos rfl]
    · obtain ⟨g1, c1, f1, cj⟩ := jo_copyFrom g (j := 26) (o := 129 + 46 * i) (by omega)
      have q1 : ∀ a k, (a < 26 ∨ 71 < a) → g1.1 a k = g.1 a k := fun a k q => f1.2 a k (by omega)
      obtain ⟨g2, c2, d1, f2⟩ := mo_backL g1 (i := i) (by omega)
      have cj' := cj T S' n' P' h.1 k3.1 k4
      have hn := k3.1
      have jr : JR g2 225 0 S' n' P' := ⟨fun k hk => by rw [Nat.zero_add, d1 k (by omega), q1 _ _ (by omega)]; exact k5.1 k hk, by rw [Nat.zero_add, d1 29 (by omega), q1 _ _ (by omega)]; exact k5.2.1, fun i' hi' k hk => by rw [Nat.zero_add, d1 _ (by omega), q1 _ _ (by omega)]; exact k5.2.2 i' hi' k hk⟩
      refine ⟨g1, g2, nI (S' 0), ?_, ?_, T, S', n', P', h.jr k3 (cj'.same hn (fun a k p1 p2 => f2.2 a k (by unfold pS; omega))) jr (fun a k p1 p2 p3 => by rw [f2.2 a k (by unfold pS; omega)]; exact q1 a k (by omega)) (f2.1.trans f1.1)⟩
      · rw [Tb_back, e1', Option.bind_some, if_pos rfl, if_pos (z_in (by omega) (by omega)), z_cl (by omega), k1, if_neg (by decide), c1, Option.bind_some, cj'.1.1]
      · rw [Mo_back, wi g, e1', Option.bind_some, if_pos rfl, if_pos (z_in (by omega) (by omega)), z_cl (by omega), q1 _ _ (by omega), k2, if_neg (by decide), c2, Option.bind_some]
        have := jr.1 0 (by omega)
        rw [this]
  · have e1' : Tb_isWithin g y1 0 1 = some false := e1
    exact ⟨g, g, -1, by rw [Tb_back, e1']; rfl, by rw [Mo_back, wi g, e1']; rfl, hI⟩
