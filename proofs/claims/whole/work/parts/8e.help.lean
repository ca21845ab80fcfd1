-- HELPS, LEAVE
def wk (T S : Nat → Nat) : Nat → Nat := rnN S (decide (T (55 + S 0) = 1)) (T 1)
def hp1 (T R : Nat → Nat) (L t : Nat) (st : Nat × Int32) : Nat → Nat × Int32
  | 0 => st
  | w + 1 => if slo T (up R (8 + t) w) L < (hp1 T R L t st w).1 then (slo T (up R (8 + t) w) L, nI (10 * t + w)) else hp1 T R L t st w
def hpN (T R : Nat → Nat) (L : Nat) : Nat → Nat × Int32
  | 0 => (slo T R L, -9)
  | t + 1 => if R (8 + t) = 9 then hpN T R L t else hp1 T R L t (hpN T R L t) (T 0)
def pT (a _k : Nat) : Prop := 74 ≤ a ∧ a ≤ 80
section
variable {T S R : Nat → Nat} {g g' : am_G} {L t w v : Nat}
theorem up_up (f : Nat → Nat) (k a b : Nat) : up (up f k a) k b = up f k b := by
  funext j
  by_cases e : j = k
  · subst e; rw [up_eq, up_eq]
  · rw [up_ne e, up_ne e, up_ne e]
theorem wk_lo {k : Nat} (h : k < 22) : wk T S k = S k := rnN_lo _ _ _ h
theorem to_wake (h : CI T g 28 S) (hd : S 0 < T 2) : ∃ g', To_wake g = some (g', true) ∧ CI T g' 77 (wk T S) ∧ CI T g' 28 S ∧ g'.1 74 2 = nI (T (47 + S 0)) ∧ Fm pT g g' := by
  have hb := h.bb
  obtain ⟨g1, e1, ce, f1⟩ := ca_copyFrom g (c := 77) (o := 28) (by omega)
  have h1 := h.ce ce f1 (by omega)
  obtain ⟨g2, e2, h2, f2⟩ : ∃ g2, (if (decide (T (55 + S 0) = 1)) = true then (Ca_soak g1 77).bind fun q9 => some q9 else some g1) = some g2 ∧ CI T g2 77 (wk T S) ∧ Fm (pC 77) g1 g2 := by
    unfold wk
    by_cases q : T (55 + S 0) = 1
    · obtain ⟨g2, c1, c2, c3⟩ := ca_soak h1 (by omega)
      rw [decide_eq_true q]
      exact ⟨g2, by rw [if_pos rfl, c1]; rfl, c2, c3⟩
    · rw [decide_eq_false q]
      exact ⟨g1, by rw [if_neg (by simp)], by rw [rnN_f]; exact h1, Fm.rf _ _⟩
  have f3 : Fm pT g (am_wr g2 74 2 (nI (T (47 + S 0)))) := ((f1.mo (fun a k q => by unfold pC at q; unfold pT; omega)).tr (f2.mo (fun a k q => by unfold pC at q; unfold pT; omega))).wr (by unfold pT; omega)
  refine ⟨am_wr g2 74 2 (nI (T (47 + S 0))), ?_, ?_, h.fm f3 (fun a k q1 q2 q => by unfold pT at q; omega) (fun a k q1 q2 q => by unfold pT at q; omega), by rw [m_eq], f3⟩
  · have e5 : g2.1 77 1 = nI (S 0) := by rw [h2.s.1, wk_lo (by omega)]
    rw [To_wake, ca_hasStage h, Option.bind_some, if_pos (decide_eq_true hd), e1, Option.bind_some, h1.s.1, ta_rains h1 hd, Option.bind_some, e2, Option.bind_some, e5, if_pos (z_in (by omega) (by omega)), z_cl (by omega), (h2.dd hd).1]
  · exact h2.fm (P := fun a _ => a = 74) ((Fm.rf _ _).wr rfl) (fun a k q1 q2 q => by omega) (fun a k q1 q2 q => by omega)
theorem slo_eq {R' : Nat → Nat} (e : eqS T R R') (L : Nat) : slo T R L = slo T R' L := by
  apply gr_cg
  intro w hw
  unfold tkw pac
  rw [e.2.1 w hw, lod_cg w (fun t ht => e.2.2 t ht)]
theorem hp1_le {st : Nat × Int32} (h : st.1 ≤ slo T R L) (n : Nat) : (hp1 T R L t st n).1 ≤ slo T R L := by
  induction n with
  | zero => exact h
  | succ n ih => simp only [hp1]; split <;> (try simp only []) <;> omega
theorem hpN_le (n : Nat) : (hpN T R L n).1 ≤ slo T R L := by
  induction n with
  | zero => exact Nat.le_refl _
  | succ n ih =>
    simp only [hpN]
    split
    · exact ih
    · exact hp1_le ih _
theorem to_gift1 (h77 : CI T g 77 (wk T S)) (h28 : CI T g 28 S) (hL : L ≤ 20) (h74 : g.1 74 2 = nI L) (ht : t < T 1) {st : Nat × Int32} (hst : st.1 ≤ slo T (wk T S) L) : ∃ g' v, (v < T 0 ∨ v = 9) ∧ To_bestGift_L44 am_fuel g (nI st.1) st.2 (nI t) 0 = some (g', nI (if S (8 + t) = 9 then st else hp1 T (wk T S) L t st (T 0)).1, (if S (8 + t) = 9 then st else hp1 T (wk T S) L t st (T 0)).2) ∧ CI T g' 77 (up (wk T S) (8 + t) v) ∧ Fm (fun a _ => a = 78) g g' := by
  have hb := h28.bb
  have hwt : wk T S (8 + t) = S (8 + t) := wk_lo (by omega)
  have hval := h28.2.2.1.2.2 t ht
  have hsl := slo_le (T := T) (S := wk T S) hL (T 0)
  obtain ⟨r, h1, v, h2, h3, h4, h5⟩ := lp_up (fun n (a : am_G × Int32 × Int32) k => To_bestGift_L44 n a.1 a.2.1 a.2.2 (nI t) (nI k)) (T 0)
    (fun k a => ∃ v, (v < T 0 ∨ v = 9) ∧ CI T a.1 77 (up (wk T S) (8 + t) v) ∧ Fm (fun a _ => a = 78) g a.1 ∧ (a.2.1, a.2.2) = (nI (if S (8 + t) = 9 then st else hp1 T (wk T S) L t st k).1, (if S (8 + t) = 9 then st else hp1 T (wk T S) L t st k).2))
    (fun a => ∃ v, (v < T 0 ∨ v = 9) ∧ CI T a.1 77 (up (wk T S) (8 + t) v) ∧ Fm (fun a _ => a = 78) g a.1 ∧ (a.2.1, a.2.2) = (nI (if S (8 + t) = 9 then st else hp1 T (wk T S) L t st (T 0)).1, (if S (8 + t) = 9 then st else hp1 T (wk T S) L t st (T 0)).2))
    (fun n a ha => by
      obtain ⟨v, a1, a2, a3, a4⟩ := id ha
      exact ⟨a, by rw [To_bestGift_L44]; simp (disch := omega) only [a2.n, z_lt, z_le, z_eq, z_in, z_cl, z_add, z_mul, z_mx, z_mn, zl12, zl18, zl19, zl30, zl115, zl116, zl119, zl291, zl640, zl999, zl9999, zl0, zl1, zl2, zl3, zl4, zl5, zl6, zl7, zl8, zl9, zl10, zl15, zl20, zl22, zl26, zl29, zl32, zl33, zl40, zl47, zl48, zl55, zl57, zl59, zl60, zl63, zl71, zl97, zl99, zl100, zl122, zl200, zl255, zl320, zl1000, zl1024, zl5040, zl1000000000, Nat.le_refl, ↓reduceIte], ha⟩)
    (fun n k a hk ha => by
      obtain ⟨v, a1, a2, a3, a4⟩ := ha
      obtain ⟨a5, a6⟩ := Prod.mk.inj a4
      have h6 : ¬ T 0 ≤ k := by omega
      have c28 : CI T a.1 28 S := h28.fm a3 (fun a k q1 q2 q => by omega) (fun a k q1 q2 q => by omega)
      have c74 : a.1.1 74 2 = nI L := by rw [a3.2 74 2 (by omega)]; exact h74
      by_cases q9 : S (8 + t) = 9
      · refine ⟨a, ?_, v, a1, a2, a3, ?_⟩
        · rw [To_bestGift_L44, ca_canBeGiven c28 ht (by omega), Option.bind_some]
          simp (disch := omega) only [a2.n, z_lt, z_le, z_eq, z_in, z_cl, z_add, z_mul, z_mx, z_mn, zl12, zl18, zl19, zl30, zl115, zl116, zl119, zl291, zl640, zl999, zl9999, zl0, zl1, zl2, zl3, zl4, zl5, zl6, zl7, zl8, zl9, zl10, zl15, zl20, zl22, zl26, zl29, zl32, zl33, zl40, zl47, zl48, zl55, zl57, zl59, zl60, zl63, zl71, zl97, zl99, zl100, zl122, zl200, zl255, zl320, zl1000, zl1024, zl5040, zl1000000000, h6, q9, ne_eq, not_true_eq_false, false_and, decide_false, Option.bind_some, Option.bind_none, ↓reduceIte, Bool.false_eq_true, reduceCtorEq]
        · rw [a4, if_pos q9, if_pos q9]
      · rw [if_neg q9] at a5 a6
        have hle := hp1_le (t := t) hst k
        by_cases qw : S (8 + t) = k
        · refine ⟨a, ?_, v, a1, a2, a3, ?_⟩
          · rw [To_bestGift_L44, ca_canBeGiven c28 ht (by omega), Option.bind_some]
            simp (disch := omega) only [a2.n, z_lt, z_le, z_eq, z_in, z_cl, z_add, z_mul, z_mx, z_mn, zl12, zl18, zl19, zl30, zl115, zl116, zl119, zl291, zl640, zl999, zl9999, zl0, zl1, zl2, zl3, zl4, zl5, zl6, zl7, zl8, zl9, zl10, zl15, zl20, zl22, zl26, zl29, zl32, zl33, zl40, zl47, zl48, zl55, zl57, zl59, zl60, zl63, zl71, zl97, zl99, zl100, zl122, zl200, zl255, zl320, zl1000, zl1024, zl5040, zl1000000000, h6, qw, ne_eq, not_true_eq_false, and_false, decide_false, Option.bind_some, Option.bind_none, ↓reduceIte, Bool.false_eq_true, reduceCtorEq]
          · have e : up (wk T S) (8 + t) k = wk T S := by rw [← qw, ← hwt, up_id]
            rw [if_neg q9, hp1, e, if_neg (by omega), a5, a6]
        · have c2 := a2.wrW (by omega) ht (v := k) (Or.inl hk)
          rw [up_up] at c2
          have c74' : (am_wr a.1 (77 + 1) t (nI k)).1 74 2 = nI L := by rw [m_na (by omega)]; exact c74
          have hs2 := slo_le (T := T) (S := up (wk T S) (8 + t) k) hL (T 0)
          have hs2' : slo T (up (wk T S) (8 + t) k) L ≤ 1200 := hs2
          have hs1' : slo T (wk T S) L ≤ 1200 := hsl
          refine ⟨(am_wr a.1 (77 + 1) t (nI k), nI (hp1 T (wk T S) L t st (k + 1)).1, (hp1 T (wk T S) L t st (k + 1)).2), ?_, k, Or.inl hk, c2, a3.wr rfl, by rw [if_neg q9]⟩
          show To_bestGift_L44 (n + 1) a.1 a.2.1 a.2.2 (nI t) (nI k) = _
          rw [To_bestGift_L44, ca_canBeGiven c28 ht (by omega), Option.bind_some, if_pos (show decide (S (8 + t) ≠ 9 ∧ S (8 + t) ≠ k) = true from decide_eq_true ⟨q9, qw⟩), z_cl (by omega), c74', ca_slowest c2 hL, Option.bind_some, a5, a6]
          by_cases q : slo T (up (wk T S) (8 + t) k) L < (hp1 T (wk T S) L t st k).1
          · have q' : ¬ (hp1 T (wk T S) L t st k).1 ≤ slo T (up (wk T S) (8 + t) k) L := by omega
            rw [hp1, if_pos q]
            simp (disch := omega) only [a2.n, z_lt, z_le, z_eq, z_in, z_cl, z_add, z_mul, z_mx, z_mn, zl12, zl18, zl19, zl30, zl115, zl116, zl119, zl291, zl640, zl999, zl9999, zl0, zl1, zl2, zl3, zl4, zl5, zl6, zl7, zl8, zl9, zl10, zl15, zl20, zl22, zl26, zl29, zl32, zl33, zl40, zl47, zl48, zl55, zl57, zl59, zl60, zl63, zl71, zl97, zl99, zl100, zl122, zl200, zl255, zl320, zl1000, zl1024, zl5040, zl1000000000, h6, q', Option.bind_some, Option.bind_none, ↓reduceIte, Bool.false_eq_true, reduceCtorEq]
          · have q' : (hp1 T (wk T S) L t st k).1 ≤ slo T (up (wk T S) (8 + t) k) L := by omega
            rw [hp1, if_neg q]
            simp (disch := omega) only [a2.n, z_lt, z_le, z_eq, z_in, z_cl, z_add, z_mul, z_mx, z_mn, zl12, zl18, zl19, zl30, zl115, zl116, zl119, zl291, zl640, zl999, zl9999, zl0, zl1, zl2, zl3, zl4, zl5, zl6, zl7, zl8, zl9, zl10, zl15, zl20, zl22, zl26, zl29, zl32, zl33, zl40, zl47, zl48, zl55, zl57, zl59, zl60, zl63, zl71, zl97, zl99, zl100, zl122, zl200, zl255, zl320, zl1000, zl1024, zl5040, zl1000000000, h6, q', Option.bind_some, Option.bind_none, ↓reduceIte, Bool.false_eq_true, reduceCtorEq])
    am_fuel 0 (g, nI st.1, st.2) (by omega) (z_fuel (by omega)) ⟨S (8 + t), hval.1, by rw [← hwt, up_id]; exact h77, Fm.rf _ _, by split <;> rfl⟩
  obtain ⟨a5, a6⟩ := Prod.mk.inj h5
  exact ⟨r.1, v, h2, by rw [← a5, ← a6]; exact h1, h3, h4⟩
theorem to_bestGift (h : CI T g 28 S) (hd : S 0 < T 2) : ∃ g', To_bestGift g = some (g', (hpN T (wk T S) (T (47 + S 0)) (T 1)).2) ∧ Fm pT g g' := by
  have hb := h.bb
  have hL := (h.dd hd).2.2.2.1
  obtain ⟨g1, e1, h77, h28, h74, f1⟩ := to_wake h hd
  obtain ⟨r, h1, h2, h3⟩ := lp_up (fun n (a : am_G × Int32 × Int32) k => To_bestGift_L29 n a.1 a.2.1 a.2.2 (nI k)) (T 1)
    (fun k a => CI T a.1 77 (wk T S) ∧ Fm pT g a.1 ∧ CI T a.1 28 S ∧ a.1.1 74 2 = nI (T (47 + S 0)) ∧ a.2.1 = nI (hpN T (wk T S) (T (47 + S 0)) k).1 ∧ a.2.2 = (hpN T (wk T S) (T (47 + S 0)) k).2)
    (fun b => Fm pT g b.1 ∧ b.2 = (hpN T (wk T S) (T (47 + S 0)) (T 1)).2)
    (fun n a ha => ⟨(a.1, a.2.2), by rw [To_bestGift_L29]; simp (disch := omega) only [ha.1.n, z_lt, z_le, z_eq, z_in, z_cl, z_add, z_mul, z_mx, z_mn, zl12, zl18, zl19, zl30, zl115, zl116, zl119, zl291, zl640, zl999, zl9999, zl0, zl1, zl2, zl3, zl4, zl5, zl6, zl7, zl8, zl9, zl10, zl15, zl20, zl22, zl26, zl29, zl32, zl33, zl40, zl47, zl48, zl55, zl57, zl59, zl60, zl63, zl71, zl97, zl99, zl100, zl122, zl200, zl255, zl320, zl1000, zl1024, zl5040, zl1000000000, Nat.le_refl, ↓reduceIte], ha.2.1, ha.2.2.2.2.2⟩)
    (fun n k a hk ha => by
      obtain ⟨a1, a2, a3, a4, a5, a6⟩ := ha
      have h6 : ¬ T 1 ≤ k := by omega
      obtain ⟨g2, v, c0, c1, c2, c3⟩ := to_gift1 a1 a3 hL a4 hk (hpN_le (T := T) (R := wk T S) k)
      have c28 : CI T g2 28 S := a3.fm c3 (fun a k q1 q2 q => by omega) (fun a k q1 q2 q => by omega)
      have w1 := c28.tt hk
      have hval := c28.2.2.1.2.2 k hk
      have hwt : wk T S (8 + k) = S (8 + k) := wk_lo (by omega)
      have c4 := c2.wrW (by omega) hk (v := S (8 + k)) hval.1
      rw [up_up, ← hwt, up_id, hwt] at c4
      have f4 : Fm (fun a _ => a = 78) a.1 (am_wr g2 (77 + 1) k (nI (S (8 + k)))) := c3.wr rfl
      refine ⟨(am_wr g2 (77 + 1) k (nI (S (8 + k))), nI (hpN T (wk T S) (T (47 + S 0)) (k + 1)).1, (hpN T (wk T S) (T (47 + S 0)) (k + 1)).2), ?_, c4, a2.tr (f4.mo (fun a k q => by unfold pT; omega)), a3.fm f4 (fun a k q1 q2 q => by omega) (fun a k q1 q2 q => by omega), by rw [f4.2 74 2 (by omega)]; exact a4, rfl, rfl⟩
      show To_bestGift_L29 (n + 1) a.1 a.2.1 a.2.2 (nI k) = _
      rw [To_bestGift_L29, a5, a6, c1, Option.bind_some]
      simp (disch := omega) only [a1.n, z_lt, z_le, z_eq, z_in, z_cl, z_add, z_mul, z_mx, z_mn, zl12, zl18, zl19, zl30, zl115, zl116, zl119, zl291, zl640, zl999, zl9999, zl0, zl1, zl2, zl3, zl4, zl5, zl6, zl7, zl8, zl9, zl10, zl15, zl20, zl22, zl26, zl29, zl32, zl33, zl40, zl47, zl48, zl55, zl57, zl59, zl60, zl63, zl71, zl97, zl99, zl100, zl122, zl200, zl255, zl320, zl1000, zl1024, zl5040, zl1000000000, h6, w1, Option.bind_some, Option.bind_none, ↓reduceIte, Bool.false_eq_true, reduceCtorEq, hpN, hwt])
    am_fuel 0 (g1, nI (slo T (wk T S) (T (47 + S 0))), -9) (by omega) (z_fuel (by omega)) ⟨h77, f1, h28, h74, rfl, rfl⟩
  refine ⟨r.1, ?_, h2⟩
  rw [To_bestGift, e1, Option.bind_some, if_pos rfl, h74, ca_slowest h77 hL, Option.bind_some, show To_bestGift_L29 am_fuel g1 (nI (slo T (wk T S) (T (47 + S 0)))) (-9) 0 = some r from h1, Option.bind_some, h3]
theorem mo_gift1 (h : RI T g R) (hL : L ≤ 20) (ht : t < T 1) {st : Nat × Int32} (hst : st.1 ≤ slo T R L) : ∃ g' v, (v < T 0 ∨ v = 9) ∧ Mo_helps_L75 am_fuel g (nI L) (nI st.1) st.2 (nI t) (nI (R (8 + t))) 0 = some (g', nI (if R (8 + t) = 9 then st else hp1 T R L t st (T 0)).1, (if R (8 + t) = 9 then st else hp1 T R L t st (T 0)).2) ∧ RI T g' (up R (8 + t) v) ∧ Fm pR g g' := by
  have hb := h.bb
  have hval := h.2.2.1.2.2 t ht
  have h4 := h.tb ht
  have hsl : slo T R L ≤ 1200 := slo_le (T := T) (S := R) hL (T 0)
  by_cases q9 : R (8 + t) = 9
  · refine ⟨g, R (8 + t), hval.1, ?_, by rw [up_id]; exact h, Fm.rf _ _⟩
    rw [if_pos q9, q9, show am_fuel = 999999 + 1 from rfl, Mo_helps_L75]
    by_cases q0 : T 0 ≤ 0
    · simp (disch := omega) only [h.u, z_lt, z_le, z_eq, z_in, z_cl, z_add, z_mul, z_mx, z_mn, zl12, zl18, zl19, zl30, zl115, zl116, zl119, zl291, zl640, zl999, zl9999, zl0, zl1, zl2, zl3, zl4, zl5, zl6, zl7, zl8, zl9, zl10, zl15, zl20, zl22, zl26, zl29, zl32, zl33, zl40, zl47, zl48, zl55, zl57, zl59, zl60, zl63, zl71, zl97, zl99, zl100, zl122, zl200, zl255, zl320, zl1000, zl1024, zl5040, zl1000000000, q0, ↓reduceIte]
    · simp (disch := omega) only [h.u, z_lt, z_le, z_eq, z_in, z_cl, z_add, z_mul, z_mx, z_mn, zl12, zl18, zl19, zl30, zl115, zl116, zl119, zl291, zl640, zl999, zl9999, zl0, zl1, zl2, zl3, zl4, zl5, zl6, zl7, zl8, zl9, zl10, zl15, zl20, zl22, zl26, zl29, zl32, zl33, zl40, zl47, zl48, zl55, zl57, zl59, zl60, zl63, zl71, zl97, zl99, zl100, zl122, zl200, zl255, zl320, zl1000, zl1024, zl5040, zl1000000000, q0, ↓reduceIte]
  rw [if_neg q9]
  obtain ⟨r, h1, v, h2, h3, h4, h5⟩ := lp_up (fun n (a : am_G × Int32 × Int32) k => Mo_helps_L75 n a.1 (nI L) a.2.1 a.2.2 (nI t) (nI (R (8 + t))) (nI k)) (T 0)
    (fun k a => ∃ v, (v < T 0 ∨ v = 9) ∧ RI T a.1 (up R (8 + t) v) ∧ Fm pR g a.1 ∧ (a.2.1, a.2.2) = (nI (hp1 T R L t st k).1, (hp1 T R L t st k).2))
    (fun a => ∃ v, (v < T 0 ∨ v = 9) ∧ RI T a.1 (up R (8 + t) v) ∧ Fm pR g a.1 ∧ (a.2.1, a.2.2) = (nI (hp1 T R L t st (T 0)).1, (hp1 T R L t st (T 0)).2))
    (fun n a ha => by
      obtain ⟨v, a1, a2, a3, a4⟩ := id ha
      exact ⟨a, by rw [Mo_helps_L75]; simp (disch := omega) only [a2.u, z_lt, z_le, z_eq, z_in, z_cl, z_add, z_mul, z_mx, z_mn, zl12, zl18, zl19, zl30, zl115, zl116, zl119, zl291, zl640, zl999, zl9999, zl0, zl1, zl2, zl3, zl4, zl5, zl6, zl7, zl8, zl9, zl10, zl15, zl20, zl22, zl26, zl29, zl32, zl33, zl40, zl47, zl48, zl55, zl57, zl59, zl60, zl63, zl71, zl97, zl99, zl100, zl122, zl200, zl255, zl320, zl1000, zl1024, zl5040, zl1000000000, Nat.le_refl, ↓reduceIte], ha⟩)
    (fun n k a hk ha => by
      obtain ⟨v, a1, a2, a3, a4⟩ := ha
      obtain ⟨a5, a6⟩ := Prod.mk.inj a4
      have h6 : ¬ T 0 ≤ k := by omega
      have hle := hp1_le (t := t) hst k
      have c2 := a2.wr (j := 8 + t) (v := k) (a2.2.2.1.upW a2.1 ht (Or.inl hk))
      rw [up_up] at c2
      have hs2' : slo T (up R (8 + t) k) L ≤ 1200 := slo_le (T := T) (S := up R (8 + t) k) hL (T 0)
      refine ⟨(am_wr a.1 225 (8 + t) (nI k), nI (hp1 T R L t st (k + 1)).1, (hp1 T R L t st (k + 1)).2), ?_, k, Or.inl hk, c2, a3.wr (Or.inl ⟨rfl, by omega⟩), rfl⟩
      show Mo_helps_L75 (n + 1) a.1 (nI L) a.2.1 a.2.2 (nI t) (nI (R (8 + t))) (nI k) = _
      rw [Mo_helps_L75, zl8, z_add, z_cl (by omega), mo_slowest c2 hL, Option.bind_some, a5, a6]
      by_cases q : slo T (up R (8 + t) k) L < (hp1 T R L t st k).1
      · have q' : ¬ (hp1 T R L t st k).1 ≤ slo T (up R (8 + t) k) L := by omega
        rw [hp1, if_pos q]
        simp (disch := omega) only [a2.u, z_lt, z_le, z_eq, z_in, z_cl, z_add, z_mul, z_mx, z_mn, zl12, zl18, zl19, zl30, zl115, zl116, zl119, zl291, zl640, zl999, zl9999, zl0, zl1, zl2, zl3, zl4, zl5, zl6, zl7, zl8, zl9, zl10, zl15, zl20, zl22, zl26, zl29, zl32, zl33, zl40, zl47, zl48, zl55, zl57, zl59, zl60, zl63, zl71, zl97, zl99, zl100, zl122, zl200, zl255, zl320, zl1000, zl1024, zl5040, zl1000000000, h6, q', q9, Option.bind_some, Option.bind_none, ↓reduceIte, Bool.false_eq_true, reduceCtorEq]
      · have q' : (hp1 T R L t st k).1 ≤ slo T (up R (8 + t) k) L := by omega
        rw [hp1, if_neg q]
        simp (disch := omega) only [a2.u, z_lt, z_le, z_eq, z_in, z_cl, z_add, z_mul, z_mx, z_mn, zl12, zl18, zl19, zl30, zl115, zl116, zl119, zl291, zl640, zl999, zl9999, zl0, zl1, zl2, zl3, zl4, zl5, zl6, zl7, zl8, zl9, zl10, zl15, zl20, zl22, zl26, zl29, zl32, zl33, zl40, zl47, zl48, zl55, zl57, zl59, zl60, zl63, zl71, zl97, zl99, zl100, zl122, zl200, zl255, zl320, zl1000, zl1024, zl5040, zl1000000000, h6, q', q9, Option.bind_some, Option.bind_none, ↓reduceIte, Bool.false_eq_true, reduceCtorEq])
    am_fuel 0 (g, nI st.1, st.2) (by omega) (z_fuel (by omega)) ⟨R (8 + t), hval.1, by rw [up_id]; exact h, Fm.rf _ _, rfl⟩
  obtain ⟨a5, a6⟩ := Prod.mk.inj h5
  exact ⟨r.1, v, h2, by rw [← a5, ← a6]; exact h1, h3, h4⟩
theorem mo_helpsL (h : RI T g R) (hL : L ≤ 20) : ∃ g', Mo_helps_L49 am_fuel g (nI L) (nI (slo T R L)) (-9) 0 = some (g', (hpN T R L (T 1)).2) ∧ Fm pR g g' := by
  have hb := h.bb
  obtain ⟨r, h1, h2, h3⟩ := lp_up (fun n (a : am_G × Int32 × Int32) k => Mo_helps_L49 n a.1 (nI L) a.2.1 a.2.2 (nI k)) (T 1)
    (fun k a => RI T a.1 R ∧ Fm pR g a.1 ∧ a.2.1 = nI (hpN T R L k).1 ∧ a.2.2 = (hpN T R L k).2)
    (fun b => Fm pR g b.1 ∧ b.2 = (hpN T R L (T 1)).2)
    (fun n a ha => ⟨(a.1, a.2.2), by rw [Mo_helps_L49]; simp (disch := omega) only [ha.1.u, z_lt, z_le, z_eq, z_in, z_cl, z_add, z_mul, z_mx, z_mn, zl12, zl18, zl19, zl30, zl115, zl116, zl119, zl291, zl640, zl999, zl9999, zl0, zl1, zl2, zl3, zl4, zl5, zl6, zl7, zl8, zl9, zl10, zl15, zl20, zl22, zl26, zl29, zl32, zl33, zl40, zl47, zl48, zl55, zl57, zl59, zl60, zl63, zl71, zl97, zl99, zl100, zl122, zl200, zl255, zl320, zl1000, zl1024, zl5040, zl1000000000, Nat.le_refl, ↓reduceIte], ha.2.1, ha.2.2.2⟩)
    (fun n k a hk ha => by
      obtain ⟨a1, a2, a5, a6⟩ := ha
      have h6 : ¬ T 1 ≤ k := by omega
      obtain ⟨g2, v, c0, c1, c2, c3⟩ := mo_gift1 a1 hL hk (hpN_le (T := T) (R := R) k)
      have hval := a1.2.2.1.2.2 k hk
      have c4 := c2.wr (j := 8 + k) (v := R (8 + k)) (c2.2.2.1.upW c2.1 hk hval.1)
      rw [up_up, up_id] at c4
      refine ⟨(am_wr g2 225 (8 + k) (nI (R (8 + k))), nI (hpN T R L (k + 1)).1, (hpN T R L (k + 1)).2), ?_, c4, (a2.tr c3).wr (Or.inl ⟨rfl, by omega⟩), rfl, rfl⟩
      show Mo_helps_L49 (n + 1) a.1 (nI L) a.2.1 a.2.2 (nI k) = _
      rw [Mo_helps_L49, a5, a6, zl8, z_add, z_cl (by omega), a1.r (by omega), c1, Option.bind_some]
      simp (disch := omega) only [a1.u, z_lt, z_le, z_eq, z_in, z_cl, z_add, z_mul, z_mx, z_mn, zl12, zl18, zl19, zl30, zl115, zl116, zl119, zl291, zl640, zl999, zl9999, zl0, zl1, zl2, zl3, zl4, zl5, zl6, zl7, zl8, zl9, zl10, zl15, zl20, zl22, zl26, zl29, zl32, zl33, zl40, zl47, zl48, zl55, zl57, zl59, zl60, zl63, zl71, zl97, zl99, zl100, zl122, zl200, zl255, zl320, zl1000, zl1024, zl5040, zl1000000000, h6, Option.bind_some, Option.bind_none, ↓reduceIte, Bool.false_eq_true, reduceCtorEq, hpN])
    am_fuel 0 (g, nI (slo T R L), -9) (by omega) (z_fuel (by omega)) ⟨h, Fm.rf _ _, rfl, rfl⟩
  exact ⟨r.1, by rw [← h3]; exact h1, h2⟩
end
theorem sp_helps (g : am_G) (h : Inv g) : ∃ g1 g2 r, Tb_helps g = some (g1, r) ∧ Mo_helps g1 = some (g2, r) ∧ Inv g2 := by
  have hI := h
  obtain ⟨T, S, n, P, h⟩ := h
  have hb := h.c.bb
  by_cases q : S 0 < T 2
  · have hL := h.r.db q
    obtain ⟨g1, c1, c3⟩ := to_bestGift h.c q
    have f1 : Fs g g1 := c3.s (fun a k q => by unfold pT at q; unfold scr; omega)
    have h1 := h.fs f1
    obtain ⟨g2, d1, d2, d3⟩ := mo_holds g1
    have r2 : RI T g2 S := h1.r.fm d3 (fun k q => absurd (show (223 : Nat) = 231 from q) (by decide)) (fun k _ q => absurd (show (225 : Nat) = 231 from q) (by decide))
    obtain ⟨g3, a1, a2, a3⟩ := mo_rains r2 (decide (T (55 + S 0) = 1))
    have a2' : RI T g3 (wk T S) := a2
    have e0 : wk T S 0 = S 0 := wk_lo (by omega)
    obtain ⟨g4, b1, b2⟩ := mo_helpsL a2' hL.1
    have fw : Fm pW g2 g4 := (a3.tr b2).mo (fun a k q => by rcases q with q | q; exact Or.inl q; exact Or.inr (Or.inr q))
    obtain ⟨g5, l1, l2, l3, l4⟩ := mo_round d2 d3 fw
    refine ⟨g1, g5, _, by rw [Tb_helps, c1]; rfl, ?_, T, S, n, P, h1.fs l2⟩
    rw [Mo_helps, mo_isStage h1.r, Option.bind_some, if_pos (decide_eq_true q), d1, Option.bind_some, mo_isRain r2 q, Option.bind_some, a1, Option.bind_some, a2'.r (by omega), e0, zl47, z_add, if_pos (z_in (by omega) (by omega)), z_cl (by omega), a2'.u (by omega), mo_slowest a2' hL.1, Option.bind_some, b1, Option.bind_some, l1]; rfl
  · refine ⟨g, g, -9, ?_, ?_, hI⟩
    · rw [Tb_helps, To_bestGift, To_wake, ca_hasStage h.c, Option.bind_some, if_neg (by simpa using q)]; rfl
    · rw [Mo_helps, mo_isStage h.r, Option.bind_some, if_neg (by simpa using q)]
