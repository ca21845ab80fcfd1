-- THE REFERENCE'S STAGE
section
variable {T S R : Nat → Nat} {g g' : am_G} {c t w v : Nat}
theorem SW.up0 (h : SW T S) (hv : v ≤ T 2) : SW T (up S 0 v) := by
  obtain ⟨s1, s4, s5⟩ := h
  refine ⟨by rw [up_eq]; omega, fun w hw => by rw [up_ne (by omega)]; exact s4 w hw, fun t ht => ?_⟩
  rw [up_ne (by omega), up_ne (by omega), up_ne (by omega)]; exact s5 t ht
theorem RI.cg {S' : Nat → Nat} (h : RI T g S) (e : ∀ k, k < 29 → S k = S' k) : RI T g S' := by
  have hb := h.bb
  refine ⟨h.1, h.2.1, h.2.2.1.cg ⟨fun k hk => e k (by omega), fun k hk => e _ (by omega), fun k hk => ⟨e _ (by omega), e _ (by omega), e _ (by omega)⟩⟩, fun k hk => ?_⟩
  rw [← e k hk]; exact h.2.2.2 k hk
theorem mo_rains (h : RI T g S) (b : Bool) : ∃ g', Mo_rains g (am_b b) = some g' ∧ RI T g' (rnN S b (T 1)) ∧ Fm pR g g' := by
  have hb := h.bb
  obtain ⟨r, h1, h2⟩ := lp_up (fun n (a : am_G) k => Mo_rains_L2 n a (am_b b) (nI k)) (T 1) (fun k a => RI T a (rnN S b k) ∧ Fm pR g a) (fun r => RI T r (rnN S b (T 1)) ∧ Fm pR g r)
    (fun n a ha => ⟨a, by rw [Mo_rains_L2]; simp (disch := omega) only [ha.1.u, z_lt, z_le, z_eq, z_in, z_cl, z_add, z_mul, z_mx, z_mn, zl12, zl18, zl19, zl30, zl115, zl116, zl119, zl291, zl640, zl999, zl9999, zl0, zl1, zl2, zl3, zl4, zl5, zl6, zl7, zl8, zl9, zl10, zl15, zl20, zl22, zl26, zl29, zl32, zl33, zl40, zl47, zl48, zl55, zl57, zl59, zl60, zl63, zl71, zl97, zl99, zl100, zl122, zl200, zl255, zl320, zl1000, zl1024, zl5040, zl1000000000, Nat.le_refl, ↓reduceIte], ha⟩)
    (fun n k a hk ha => by
      have h6 : ¬ T 1 ≤ k := by omega
      have h4 := h.tb hk
      have e0 : rnN S b k (8 + k) = S (8 + k) := rnN_lo _ _ _ (by omega)
      have e1 : rnN S b k (22 + k) = S (22 + k) := rnN_hi _ _ (Nat.le_refl _)
      refine ⟨am_wr a 225 (22 + k) (nI (if b = true ∧ S (8 + k) ≠ 9 then 1 else S (22 + k))), ?_, ?_, ha.2.wr (Or.inl ⟨rfl, by omega⟩)⟩
      · show Mo_rains_L2 (n + 1) a (am_b b) (nI k) = _
        rw [Mo_rains_L2]
        cases b
        · rw [if_pos (show am_b false = 0 from rfl)]
          simp (disch := omega) only [ha.1.u, ha.1.r, h6, z_lt, z_le, z_eq, z_in, z_cl, z_add, z_mul, z_mx, z_mn, zl12, zl18, zl19, zl30, zl115, zl116, zl119, zl291, zl640, zl999, zl9999, zl0, zl1, zl2, zl3, zl4, zl5, zl6, zl7, zl8, zl9, zl10, zl15, zl20, zl22, zl26, zl29, zl32, zl33, zl40, zl47, zl48, zl55, zl57, zl59, zl60, zl63, zl71, zl97, zl99, zl100, zl122, zl200, zl255, zl320, zl1000, zl1024, zl5040, zl1000000000, e1, Option.bind_some, Option.bind_none, ↓reduceIte, Bool.false_eq_true, reduceCtorEq, false_and]
        · rw [if_neg (show ¬ am_b true = 0 by decide)]
          by_cases q : S (8 + k) = 9
          · simp (disch := omega) only [ha.1.u, ha.1.r, h6, z_lt, z_le, z_eq, z_in, z_cl, z_add, z_mul, z_mx, z_mn, zl12, zl18, zl19, zl30, zl115, zl116, zl119, zl291, zl640, zl999, zl9999, zl0, zl1, zl2, zl3, zl4, zl5, zl6, zl7, zl8, zl9, zl10, zl15, zl20, zl22, zl26, zl29, zl32, zl33, zl40, zl47, zl48, zl55, zl57, zl59, zl60, zl63, zl71, zl97, zl99, zl100, zl122, zl200, zl255, zl320, zl1000, zl1024, zl5040, zl1000000000, e0, e1, q, ne_eq, not_true_eq_false, and_false, Option.bind_some, Option.bind_none, ↓reduceIte, Bool.false_eq_true, reduceCtorEq]
          · simp (disch := omega) only [ha.1.u, ha.1.r, h6, z_lt, z_le, z_eq, z_in, z_cl, z_add, z_mul, z_mx, z_mn, zl12, zl18, zl19, zl30, zl115, zl116, zl119, zl291, zl640, zl999, zl9999, zl0, zl1, zl2, zl3, zl4, zl5, zl6, zl7, zl8, zl9, zl10, zl15, zl20, zl22, zl26, zl29, zl32, zl33, zl40, zl47, zl48, zl55, zl57, zl59, zl60, zl63, zl71, zl97, zl99, zl100, zl122, zl200, zl255, zl320, zl1000, zl1024, zl5040, zl1000000000, e0, e1, q, ne_eq, not_false_eq_true, and_self, Option.bind_some, Option.bind_none, ↓reduceIte, Bool.false_eq_true, reduceCtorEq]
      · have := ha.1.wr (j := 22 + k) (v := if b = true ∧ S (8 + k) ≠ 9 then 1 else S (22 + k)) (by rw [rnN_s]; exact h.2.2.1.rn h.1 b (by omega))
        rw [rnN_s] at this
        exact this)
    am_fuel 0 g (by omega) (z_fuel (by omega)) ⟨by rw [rnN_0]; exact h, Fm.rf _ _⟩
  refine ⟨r, ?_, h2⟩
  rw [Mo_rains]
  rw [show Mo_rains_L2 am_fuel g (am_b b) 0 = some r from h1]; rfl
theorem mo_eats (h : RI T g R) {o : Nat → Nat} (ho : ∀ i, i < T 1 → g.1 229 i = nI (o i) ∧ o i < T 1) : ∃ g', Mo_eats g = some g' ∧ RI T g' (up (wl R (eD T R o (T 1)).1) 2 (R 2 + (eD T R o (T 1)).2)) ∧ Fm pR g g' := by
  have hb := h.bb
  obtain ⟨r, h1, h2, h3, h4⟩ := lp_up (fun n (a : am_G × Int32) k => Mo_eats_L11 n a.1 a.2 (nI k)) (T 1) (fun k a => RI T a.1 (wl R (eD T R o k).1) ∧ Fm pR g a.1 ∧ a.2 = nI (eD T R o k).2) (fun r => RI T r.1 (wl R (eD T R o (T 1)).1) ∧ Fm pR g r.1 ∧ r.2 = nI (eD T R o (T 1)).2)
    (fun n a ha => ⟨a, by rw [Mo_eats_L11]; simp (disch := omega) only [ha.1.u, z_lt, z_le, z_eq, z_in, z_cl, z_add, z_mul, z_mx, z_mn, zl12, zl18, zl19, zl30, zl115, zl116, zl119, zl291, zl640, zl999, zl9999, zl0, zl1, zl2, zl3, zl4, zl5, zl6, zl7, zl8, zl9, zl10, zl15, zl20, zl22, zl26, zl29, zl32, zl33, zl40, zl47, zl48, zl55, zl57, zl59, zl60, zl63, zl71, zl97, zl99, zl100, zl122, zl200, zl255, zl320, zl1000, zl1024, zl5040, zl1000000000, Nat.le_refl, ↓reduceIte], ha⟩)
    (fun n k a hk ha => by
      obtain ⟨k1, k2, k3⟩ := ha
      have h6 : ¬ T 1 ≤ k := by omega
      have hok : o k < T 1 := (ho k hk).2
      have k6 := k1.tb hok
      have k7 := eD_due T R o k
      have e0 : wl R (eD T R o k).1 (8 + o k) = R (8 + o k) := wl_ne (by omega)
      have e1 : wl R (eD T R o k).1 (15 + o k) = (eD T R o k).1 (o k) := wl_at (by omega)
      have e2 : a.1.1 229 k = nI (o k) := by rw [k2.2 229 k (fun q => by unfold pR at q; omega)]; exact (ho k hk).1
      rw [e0, e1] at k6
      have k9 : eD T R o (k + 1) = et T R (eD T R o k) (o k) := rfl
      have go : ∀ x, x ≤ (eD T R o k).1 (o k) → x ≤ (eD T R o k).2 → eD T R o (k + 1) = (up (eD T R o k).1 (o k) ((eD T R o k).1 (o k) - x), (eD T R o k).2 - x) → Mo_eats_L11 (n + 1) a.1 a.2 (nI k) = Mo_eats_L11 n (am_wr a.1 225 (15 + o k) (nI ((eD T R o k).1 (o k) - x))) (nI ((eD T R o k).2 - x)) (nI (k + 1)) → ∃ a' : am_G × Int32, Mo_eats_L11 (n + 1) a.1 a.2 (nI k) = Mo_eats_L11 n a'.1 a'.2 (nI (k + 1)) ∧ RI T a'.1 (wl R (eD T R o (k + 1)).1) ∧ Fm pR g a'.1 ∧ a'.2 = nI (eD T R o (k + 1)).2 := by
        intro x hx hx2 y1 y2
        refine ⟨(am_wr a.1 225 (15 + o k) (nI ((eD T R o k).1 (o k) - x)), nI ((eD T R o k).2 - x)), y2, ?_, k2.wr (Or.inl ⟨rfl, by omega⟩), ?_⟩
        rotate_left
        · rw [y1]
        rw [y1, ← wl_up (by omega)]
        exact k1.wr (k1.2.2.1.upL k1.1 hok (by omega))
      by_cases q1 : T (26 + o k) = 1
      · by_cases q2 : R (8 + o k) = 9
        · refine go 0 (by omega) (by omega) (by rw [k9, et, if_neg (fun q => q.2 q2), Nat.sub_zero, Nat.sub_zero, up_id]) ?_
          rw [Mo_eats_L11, k3]
          simp (disch := omega) only [k1.u, k1.r, h6, z_lt, z_le, z_eq, z_in, z_cl, z_add, z_mul, z_mx, z_mn, zl12, zl18, zl19, zl30, zl115, zl116, zl119, zl291, zl640, zl999, zl9999, zl0, zl1, zl2, zl3, zl4, zl5, zl6, zl7, zl8, zl9, zl10, zl15, zl20, zl22, zl26, zl29, zl32, zl33, zl40, zl47, zl48, zl55, zl57, zl59, zl60, zl63, zl71, zl97, zl99, zl100, zl122, zl200, zl255, zl320, zl1000, zl1024, zl5040, zl1000000000, z_sub, e0, e1, e2, q1, q2, Option.bind_some, Option.bind_none, ↓reduceIte, Bool.false_eq_true, reduceCtorEq]
        · by_cases q3 : (eD T R o k).2 ≤ (eD T R o k).1 (o k)
          · refine go (eD T R o k).2 (by omega) (by omega) (by rw [k9, et, if_pos ⟨q1, q2⟩, Nat.min_eq_left q3]) ?_
            rw [Mo_eats_L11, k3]
            simp (disch := omega) only [k1.u, k1.r, h6, z_lt, z_le, z_eq, z_in, z_cl, z_add, z_mul, z_mx, z_mn, zl12, zl18, zl19, zl30, zl115, zl116, zl119, zl291, zl640, zl999, zl9999, zl0, zl1, zl2, zl3, zl4, zl5, zl6, zl7, zl8, zl9, zl10, zl15, zl20, zl22, zl26, zl29, zl32, zl33, zl40, zl47, zl48, zl55, zl57, zl59, zl60, zl63, zl71, zl97, zl99, zl100, zl122, zl200, zl255, zl320, zl1000, zl1024, zl5040, zl1000000000, z_sub, e0, e1, e2, q1, q2, q3, Option.bind_some, Option.bind_none, ↓reduceIte, Bool.false_eq_true, reduceCtorEq, Nat.one_ne_zero]
          · refine go ((eD T R o k).1 (o k)) (by omega) (by omega) (by rw [k9, et, if_pos ⟨q1, q2⟩, Nat.min_eq_right (by omega)]) ?_
            rw [Mo_eats_L11, k3]
            simp (disch := omega) only [k1.u, k1.r, h6, z_lt, z_le, z_eq, z_in, z_cl, z_add, z_mul, z_mx, z_mn, zl12, zl18, zl19, zl30, zl115, zl116, zl119, zl291, zl640, zl999, zl9999, zl0, zl1, zl2, zl3, zl4, zl5, zl6, zl7, zl8, zl9, zl10, zl15, zl20, zl22, zl26, zl29, zl32, zl33, zl40, zl47, zl48, zl55, zl57, zl59, zl60, zl63, zl71, zl97, zl99, zl100, zl122, zl200, zl255, zl320, zl1000, zl1024, zl5040, zl1000000000, z_sub, e0, e1, e2, q1, q2, q3, Option.bind_some, Option.bind_none, ↓reduceIte, Bool.false_eq_true, reduceCtorEq, Nat.one_ne_zero]
      · refine go 0 (by omega) (by omega) (by rw [k9, et, if_neg (fun q => q1 q.1), Nat.sub_zero, Nat.sub_zero, up_id]) ?_
        rw [Mo_eats_L11, k3]
        simp (disch := omega) only [k1.u, k1.r, h6, z_lt, z_le, z_eq, z_in, z_cl, z_add, z_mul, z_mx, z_mn, zl12, zl18, zl19, zl30, zl115, zl116, zl119, zl291, zl640, zl999, zl9999, zl0, zl1, zl2, zl3, zl4, zl5, zl6, zl7, zl8, zl9, zl10, zl15, zl20, zl22, zl26, zl29, zl32, zl33, zl40, zl47, zl48, zl55, zl57, zl59, zl60, zl63, zl71, zl97, zl99, zl100, zl122, zl200, zl255, zl320, zl1000, zl1024, zl5040, zl1000000000, z_sub, e0, e1, e2, q1, Option.bind_some, Option.bind_none, ↓reduceIte, Bool.false_eq_true, reduceCtorEq])
    am_fuel 0 (g, nI (2 * T 0)) (by omega) (z_fuel (by omega)) ⟨by rw [eD_0, wl_lf]; exact h, Fm.rf _ _, rfl⟩
  refine ⟨am_wr r.1 225 2 (nI (R 2 + (eD T R o (T 1)).2)), ?_, h2.wr (h2.2.2.1.upn (by omega) (by omega) _), h3.wr (Or.inl ⟨rfl, by omega⟩)⟩
  rw [Mo_eats, h.u (by omega), zl2, z_mul]
  rw [show Mo_eats_L11 am_fuel g (nI (2 * T 0)) 0 = some r from h1, Option.bind_some]
  have e3 : r.1.1 225 2 = nI (R 2) := by rw [h2.r (by omega), wl_ne (by omega)]
  rw [e3, h4, z_add]
theorem mo_L26 (h : RI T g R) (y z : Int32) : ∃ g', Mo_stageGoes_L26 am_fuel g y z 0 = some g' ∧ RI T g' R ∧ Fm pR g g' ∧ ∀ w, w < T 0 → g'.1 230 w = nI (trd T R w) := by
  have hb := h.bb
  obtain ⟨r, h1, h2⟩ := lp_up (fun n (a : am_G) k => Mo_stageGoes_L26 n a y z (nI k)) (T 0) (fun k a => RI T a R ∧ Fm pR g a ∧ ∀ w, w < k → a.1 230 w = nI (trd T R w)) (fun r => RI T r R ∧ Fm pR g r ∧ ∀ w, w < T 0 → r.1 230 w = nI (trd T R w))
    (fun n a ha => ⟨a, by rw [Mo_stageGoes_L26]; simp (disch := omega) only [ha.1.u, z_lt, z_le, z_eq, z_in, z_cl, z_add, z_mul, z_mx, z_mn, zl12, zl18, zl19, zl30, zl115, zl116, zl119, zl291, zl640, zl999, zl9999, zl0, zl1, zl2, zl3, zl4, zl5, zl6, zl7, zl8, zl9, zl10, zl15, zl20, zl22, zl26, zl29, zl32, zl33, zl40, zl47, zl48, zl55, zl57, zl59, zl60, zl63, zl71, zl97, zl99, zl100, zl122, zl200, zl255, zl320, zl1000, zl1024, zl5040, zl1000000000, Nat.le_refl, ↓reduceIte], ha⟩)
    (fun n k a hk ha => by
      obtain ⟨k1, k2, k3⟩ := ha
      have h6 : ¬ T 0 ≤ k := by omega
      have h3 := k1.wb hk
      have h4 := k1.ld k
      refine ⟨am_wr a 230 k (nI (trd T R k)), ?_, k1.wo (by omega) (by omega), k2.wr (Or.inr rfl), fun w hw => ?_⟩
      · show Mo_stageGoes_L26 (n + 1) a y z (nI k) = _
        rw [Mo_stageGoes_L26, mo_load k1 (by omega), Option.bind_some, mo_force k1 hk, Option.bind_some]
        unfold trd
        by_cases q : T (4 + k) < lod T R k + R (4 + k)
        · have q1 : 0 ≤ R (4 + k) + 2 := by omega
          by_cases q2 : R (4 + k) + 2 ≤ 20
          · rw [if_pos q, Nat.min_eq_right q2]
            simp (disch := omega) only [k1.u, k1.r, h6, z_force, q, q1, q2, z_lt, z_le, z_eq, z_in, z_cl, z_add, z_mul, z_mx, z_mn, zl12, zl18, zl19, zl30, zl115, zl116, zl119, zl291, zl640, zl999, zl9999, zl0, zl1, zl2, zl3, zl4, zl5, zl6, zl7, zl8, zl9, zl10, zl15, zl20, zl22, zl26, zl29, zl32, zl33, zl40, zl47, zl48, zl55, zl57, zl59, zl60, zl63, zl71, zl97, zl99, zl100, zl122, zl200, zl255, zl320, zl1000, zl1024, zl5040, zl1000000000, not_true_eq_false, Option.bind_some, Option.bind_none, ↓reduceIte, Bool.false_eq_true, reduceCtorEq, Nat.one_ne_zero]
          · rw [if_pos q, Nat.min_eq_left (by omega)]
            simp (disch := omega) only [k1.u, k1.r, h6, z_force, q, q1, q2, z_lt, z_le, z_eq, z_in, z_cl, z_add, z_mul, z_mx, z_mn, zl12, zl18, zl19, zl30, zl115, zl116, zl119, zl291, zl640, zl999, zl9999, zl0, zl1, zl2, zl3, zl4, zl5, zl6, zl7, zl8, zl9, zl10, zl15, zl20, zl22, zl26, zl29, zl32, zl33, zl40, zl47, zl48, zl55, zl57, zl59, zl60, zl63, zl71, zl97, zl99, zl100, zl122, zl200, zl255, zl320, zl1000, zl1024, zl5040, zl1000000000, not_true_eq_false, Option.bind_some, Option.bind_none, ↓reduceIte, Bool.false_eq_true, reduceCtorEq, Nat.one_ne_zero]
        · rw [if_neg q]
          by_cases q1 : T (8 + k) ≤ R (4 + k)
          · have q2 : 0 ≤ R (4 + k) - T (8 + k) := by omega
            have q3 : R (4 + k) - T (8 + k) ≤ 20 := by omega
            have qf : nI (lod T R k) ≤ nI (T (4 + k)) - nI (R (4 + k)) := by rw [z_force (by omega) (by omega) (by omega)]; exact q
            simp only [qf, ↓reduceIte]
            simp (disch := omega) only [k1.u, k1.r, h6, z_sub, q2, q3, z_lt, z_le, z_eq, z_in, z_cl, z_add, z_mul, z_mx, z_mn, zl12, zl18, zl19, zl30, zl115, zl116, zl119, zl291, zl640, zl999, zl9999, zl0, zl1, zl2, zl3, zl4, zl5, zl6, zl7, zl8, zl9, zl10, zl15, zl20, zl22, zl26, zl29, zl32, zl33, zl40, zl47, zl48, zl55, zl57, zl59, zl60, zl63, zl71, zl97, zl99, zl100, zl122, zl200, zl255, zl320, zl1000, zl1024, zl5040, zl1000000000, not_false_eq_true, Option.bind_some, Option.bind_none, ↓reduceIte, Bool.false_eq_true, reduceCtorEq]
          · have q2 : ¬ (0 ≤ nI (R (4 + k)) - nI (T (8 + k))) := by
              rw [zl0, zI_n, zI_n, zI_n, zI_sub, zI_le (by omega) (by omega)]; omega
            rw [zl0] at q2
            rw [show R (4 + k) - T (8 + k) = 0 by omega]
            simp (disch := omega) only [k1.u, k1.r, h6, z_force, q, q2, z_lt, z_le, z_eq, z_in, z_cl, z_add, z_mul, z_mx, z_mn, zl12, zl18, zl19, zl30, zl115, zl116, zl119, zl291, zl640, zl999, zl9999, zl0, zl1, zl2, zl3, zl4, zl5, zl6, zl7, zl8, zl9, zl10, zl15, zl20, zl22, zl26, zl29, zl32, zl33, zl40, zl47, zl48, zl55, zl57, zl59, zl60, zl63, zl71, zl97, zl99, zl100, zl122, zl200, zl255, zl320, zl1000, zl1024, zl5040, zl1000000000, not_false_eq_true, Option.bind_some, Option.bind_none, ↓reduceIte, Bool.false_eq_true, reduceCtorEq]
      · by_cases e : w = k
        · subst e; rw [m_eq]
        · rw [m_nk e]; exact k3 w (by omega))
    am_fuel 0 g (by omega) (z_fuel (by omega)) ⟨h, Fm.rf _ _, fun w hw => by omega⟩
  exact ⟨r, h1, h2⟩
theorem mo_L131 (h : RI T g R) (y z : Int32) (h0 : ∀ w, w < T 0 → g.1 230 w = nI (trd T R w)) : ∃ g', Mo_stageGoes_L131 am_fuel g y z 0 = some g' ∧ RI T g' (trN T R (T 0)) ∧ Fm pR g g' := by
  have hb := h.bb
  obtain ⟨r, h1, h2⟩ := lp_up (fun n (a : am_G) k => Mo_stageGoes_L131 n a y z (nI k)) (T 0) (fun k a => (RI T a (trN T R k) ∧ Fm pR g a) ∧ ∀ w, w < T 0 → a.1 230 w = nI (trd T R w)) (fun r => RI T r (trN T R (T 0)) ∧ Fm pR g r)
    (fun n a ha => ⟨a, by rw [Mo_stageGoes_L131]; simp (disch := omega) only [ha.1.1.u, z_lt, z_le, z_eq, z_in, z_cl, z_add, z_mul, z_mx, z_mn, zl12, zl18, zl19, zl30, zl115, zl116, zl119, zl291, zl640, zl999, zl9999, zl0, zl1, zl2, zl3, zl4, zl5, zl6, zl7, zl8, zl9, zl10, zl15, zl20, zl22, zl26, zl29, zl32, zl33, zl40, zl47, zl48, zl55, zl57, zl59, zl60, zl63, zl71, zl97, zl99, zl100, zl122, zl200, zl255, zl320, zl1000, zl1024, zl5040, zl1000000000, Nat.le_refl, ↓reduceIte], ha.1⟩)
    (fun n k a hk ha => by
      obtain ⟨⟨k1, k2⟩, k3⟩ := ha
      have h6 : ¬ T 0 ≤ k := by omega
      have e := k3 k hk
      refine ⟨am_wr a 225 (4 + k) (nI (trd T R k)), ?_, ⟨?_, k2.wr (Or.inl ⟨rfl, by omega⟩)⟩, fun w hw => by rw [m_na (by omega)]; exact k3 w hw⟩
      · show Mo_stageGoes_L131 (n + 1) a y z (nI k) = _
        rw [Mo_stageGoes_L131]
        simp (disch := omega) only [k1.u, h6, z_lt, z_le, z_eq, z_in, z_cl, z_add, z_mul, z_mx, z_mn, zl12, zl18, zl19, zl30, zl115, zl116, zl119, zl291, zl640, zl999, zl9999, zl0, zl1, zl2, zl3, zl4, zl5, zl6, zl7, zl8, zl9, zl10, zl15, zl20, zl22, zl26, zl29, zl32, zl33, zl40, zl47, zl48, zl55, zl57, zl59, zl60, zl63, zl71, zl97, zl99, zl100, zl122, zl200, zl255, zl320, zl1000, zl1024, zl5040, zl1000000000, e, Option.bind_some, Option.bind_none, ↓reduceIte, Bool.false_eq_true, reduceCtorEq]
      · rw [← trN_s]
        exact k1.wr (by rw [trN_s]; exact h.2.2.1.tr h.1 (by omega)))
    am_fuel 0 g (by omega) (z_fuel (by omega)) ⟨⟨by
      have : trN T R 0 = R := by funext k; exact trN_hi _ _ _ (by omega)
      rw [this]; exact h, Fm.rf _ _⟩, h0⟩
  exact ⟨r, h1, h2⟩
def dry (R : Nat → Nat) (b : Bool) (n : Nat) : Nat → Nat := fun k => if b = false ∧ 22 ≤ k ∧ k < 22 + n then 0 else R k
theorem dry_s (R : Nat → Nat) (b : Bool) (n : Nat) : up (dry R b n) (22 + n) (if b = false then 0 else R (22 + n)) = dry R b (n + 1) := by
  funext k
  by_cases e : k = 22 + n
  · subst e
    have h1 : 22 ≤ 22 + n := by omega
    have h2 : 22 + n < 22 + (n + 1) := by omega
    rw [up_eq]
    simp only [dry, h1, h2, and_true]
  · rw [up_ne e]
    simp only [dry]
    by_cases e2 : b = false ∧ 22 ≤ k ∧ k < 22 + n
    · rw [if_pos e2, if_pos ⟨e2.1, e2.2.1, by omega⟩]
    · rw [if_neg e2, if_neg (fun q => e2 ⟨q.1, q.2.1, by omega⟩)]
theorem mo_L167 (h : RI T g R) (b : Bool) (z : Int32) : ∃ g', Mo_stageGoes_L167 am_fuel g (am_b b) z 0 = some g' ∧ RI T g' (dry R b (T 1)) ∧ Fm pR g g' := by
  have hb := h.bb
  obtain ⟨r, h1, h2⟩ := lp_up (fun n (a : am_G) k => Mo_stageGoes_L167 n a (am_b b) z (nI k)) (T 1) (fun k a => RI T a (dry R b k) ∧ Fm pR g a) (fun r => RI T r (dry R b (T 1)) ∧ Fm pR g r)
    (fun n a ha => ⟨a, by rw [Mo_stageGoes_L167]; simp (disch := omega) only [ha.1.u, z_lt, z_le, z_eq, z_in, z_cl, z_add, z_mul, z_mx, z_mn, zl12, zl18, zl19, zl30, zl115, zl116, zl119, zl291, zl640, zl999, zl9999, zl0, zl1, zl2, zl3, zl4, zl5, zl6, zl7, zl8, zl9, zl10, zl15, zl20, zl22, zl26, zl29, zl32, zl33, zl40, zl47, zl48, zl55, zl57, zl59, zl60, zl63, zl71, zl97, zl99, zl100, zl122, zl200, zl255, zl320, zl1000, zl1024, zl5040, zl1000000000, Nat.le_refl, ↓reduceIte], ha⟩)
    (fun n k a hk ha => by
      have h6 : ¬ T 1 ≤ k := by omega
      have h4 := h.tb hk
      have e1 : dry R b k (22 + k) = R (22 + k) := by simp only [dry]; rw [if_neg (by omega)]
      refine ⟨am_wr a 225 (22 + k) (nI (if b = false then 0 else R (22 + k))), ?_, ?_, ha.2.wr (Or.inl ⟨rfl, by omega⟩)⟩
      · show Mo_stageGoes_L167 (n + 1) a (am_b b) z (nI k) = _
        rw [Mo_stageGoes_L167]
        cases b
        · rw [if_pos (show am_b false = 0 from rfl)]
          simp (disch := omega) only [ha.1.u, ha.1.r, h6, z_lt, z_le, z_eq, z_in, z_cl, z_add, z_mul, z_mx, z_mn, zl12, zl18, zl19, zl30, zl115, zl116, zl119, zl291, zl640, zl999, zl9999, zl0, zl1, zl2, zl3, zl4, zl5, zl6, zl7, zl8, zl9, zl10, zl15, zl20, zl22, zl26, zl29, zl32, zl33, zl40, zl47, zl48, zl55, zl57, zl59, zl60, zl63, zl71, zl97, zl99, zl100, zl122, zl200, zl255, zl320, zl1000, zl1024, zl5040, zl1000000000, e1, Option.bind_some, Option.bind_none, ↓reduceIte, Bool.false_eq_true, reduceCtorEq]
        · rw [if_neg (show ¬ am_b true = 0 by decide)]
          simp (disch := omega) only [ha.1.u, ha.1.r, h6, z_lt, z_le, z_eq, z_in, z_cl, z_add, z_mul, z_mx, z_mn, zl12, zl18, zl19, zl30, zl115, zl116, zl119, zl291, zl640, zl999, zl9999, zl0, zl1, zl2, zl3, zl4, zl5, zl6, zl7, zl8, zl9, zl10, zl15, zl20, zl22, zl26, zl29, zl32, zl33, zl40, zl47, zl48, zl55, zl57, zl59, zl60, zl63, zl71, zl97, zl99, zl100, zl122, zl200, zl255, zl320, zl1000, zl1024, zl5040, zl1000000000, e1, Option.bind_some, Option.bind_none, ↓reduceIte, Bool.false_eq_true, reduceCtorEq]
      · have := ha.1.wr (j := 22 + k) (v := if b = false then 0 else R (22 + k)) (ha.1.2.2.1.upX h.1 hk (by split <;> omega))
        rw [dry_s] at this
        exact this)
    am_fuel 0 g (by omega) (z_fuel (by omega)) ⟨by
      have : dry R b 0 = R := by funext k; simp only [dry]; rw [if_neg (by omega)]
      rw [this]; exact h, Fm.rf _ _⟩
  exact ⟨r, h1, h2⟩
theorem mo_stageGoes (h : RI T g S) (hd : S 0 < T 2) (b : Bool) {o : Nat → Nat} (ho : ∀ i, i < T 1 → g.1 229 i = nI (o i) ∧ o i < T 1) : ∃ g', Mo_stageGoes g (am_b b) = some (g', nI (slo T (rnN S b (T 1)) (T (47 + S 0)))) ∧ RI T g' (gon T o (T 1) b S) ∧ Fm pR g g' := by
  have hb := h.bb
  have hL := h.db hd
  obtain ⟨g1, e1, h1, f1⟩ := mo_rains h b
  have eS : rnN S b (T 1) 0 = S 0 := rnN_lo _ _ _ (by omega)
  have e2 := mo_slowest h1 hL.1
  obtain ⟨g2, e3, h2, f2, hw⟩ := mo_L26 h1 (am_b b) (nI (slo T (rnN S b (T 1)) (T (47 + S 0))))
  obtain ⟨g3, e4, h3, f3⟩ := mo_L131 h2 (am_b b) (nI (slo T (rnN S b (T 1)) (T (47 + S 0)))) hw
  have f13 := (f1.tr f2).tr f3
  obtain ⟨g4, e5, h4, f4⟩ := mo_eats h3 (o := o) (fun i hi => by rw [f13.2 229 i (fun q => by unfold pR at q; omega)]; exact ho i hi)
  obtain ⟨g5, e6, h5, f5⟩ := mo_L167 h4 b (nI (slo T (rnN S b (T 1)) (T (47 + S 0))))
  have h6 := h5.wr (j := 1) (v := S 1 + slo T (rnN S b (T 1)) (T (47 + S 0))) (h5.2.2.1.upn (by omega) (by omega) _)
  have r1 : ∀ k, 8 ≤ k → k < 22 → trN T (rnN S b (T 1)) (T 0) k = S k := fun k h1 h2 => by rw [trN_hi _ _ _ (by omega), rnN_lo _ _ _ (by omega)]
  have r2 : eD T (trN T (rnN S b (T 1)) (T 0)) o (T 1) = eD T S o (T 1) := eD_cg (fun i hi => by have := (ho i hi).2; omega) (fun t ht => r1 _ (by omega) (by omega)) (fun t ht => r1 _ (by omega) (by omega))
  have r3 : ∀ k, k < 4 → trN T (rnN S b (T 1)) (T 0) k = S k := fun k h1 => by rw [trN_hi _ _ _ (by omega), rnN_lo _ _ _ (by omega)]
  have r4 : ∀ R : Nat → Nat, ∀ k, k < 22 → dry R b (T 1) k = R k := fun R k hk => by simp only [dry]; rw [if_neg (by omega)]
  have d0 : dry (up (wl (trN T (rnN S b (T 1)) (T 0)) (eD T (trN T (rnN S b (T 1)) (T 0)) o (T 1)).1) 2 (trN T (rnN S b (T 1)) (T 0) 2 + (eD T (trN T (rnN S b (T 1)) (T 0)) o (T 1)).2)) b (T 1) 0 = S 0 := by
    rw [r4 _ _ (by omega), up_ne (by omega), wl_ne (by omega), r3 _ (by omega)]
  have d1 : dry (up (wl (trN T (rnN S b (T 1)) (T 0)) (eD T (trN T (rnN S b (T 1)) (T 0)) o (T 1)).1) 2 (trN T (rnN S b (T 1)) (T 0) 2 + (eD T (trN T (rnN S b (T 1)) (T 0)) o (T 1)).2)) b (T 1) 1 = S 1 := by
    rw [r4 _ _ (by omega), up_ne (by omega), wl_ne (by omega), r3 _ (by omega)]
  have h7 := h6.wr (j := 0) (v := S 0 + 1) (h6.2.2.1.up0 (by omega))
  refine ⟨_, ?_, h7.cg (fun k hk => ?_), ((f13.tr f4).tr f5).wr (Or.inl ⟨rfl, by omega⟩) |>.wr (Or.inl ⟨rfl, by omega⟩)⟩
  · rw [Mo_stageGoes, e1, Option.bind_some, h1.r (by omega), eS, zl47, z_add, if_pos (z_in (by omega) (by omega)), z_cl (by omega), h1.u (by omega), e2, Option.bind_some, e3, Option.bind_some, e4, Option.bind_some, e5, Option.bind_some, e6, Option.bind_some, m_nk (by omega), h5.r (by omega), h5.r (by omega), d0, d1, z_add, zl1, z_add]
  · by_cases k0 : k = 0
    · subst k0; simp [gon, up]
    rw [up_ne k0]
    by_cases k1 : k = 1
    · subst k1; simp [gon, up]
    rw [up_ne k1]
    simp only [gon]
    rw [if_neg k0, if_neg k1]
    by_cases k2 : k = 2
    · subst k2
      rw [if_pos rfl, r4 _ _ (by omega), up_eq, r3 _ (by omega), r2]
    rw [if_neg k2]
    by_cases k3 : 4 ≤ k ∧ k < 4 + T 0
    · rw [if_pos k3, r4 _ _ (by omega), up_ne k2, wl_ne (by omega)]
      have := trN_at T (rnN S b (T 1)) (n := T 0) (w := k - 4) (by omega)
      rw [show 4 + (k - 4) = k by omega] at this
      exact this
    rw [if_neg k3]
    by_cases k4 : 15 ≤ k ∧ k < 22
    · rw [if_pos k4, r4 _ _ (by omega), up_ne k2, r2]
      have := wl_at (S := trN T (rnN S b (T 1)) (T 0)) (f := (eD T S o (T 1)).1) (k := k - 15) (by omega)
      rw [show 15 + (k - 15) = k by omega] at this
      exact this
    rw [if_neg k4]
    simp only [dry]
    by_cases k5 : b = false ∧ 22 ≤ k ∧ k < 22 + T 1
    · rw [if_pos k5, if_pos k5]
    · rw [if_neg k5, if_neg k5, up_ne k2, wl_ne (by omega), trN_hi _ _ _ (by omega)]
end
