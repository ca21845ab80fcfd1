-- THE EVENING
def rc (T S o : Nat → Nat) : Nat → Nat
  | 0 => 0
  | n + 1 => if T (26 + o n) = 1 ∧ S (8 + o n) ≠ 9 ∧ 0 < (eD T S o n).2 ∧ 0 < (eD T S o n).1 (o n) then n + 1 else rc T S o n
section
variable {T S R : Nat → Nat} {g g' : am_G} {c t w v : Nat}
theorem up_id (f : Nat → Nat) (k : Nat) : up f k (f k) = f := by
  funext j
  by_cases e : j = k
  · subst e; rw [up_eq]
  · rw [up_ne e]
theorem et_z {a : (Nat → Nat) × Nat} (h : a.1 t = 0) : et T S a t = a := by
  unfold et
  split
  · rw [h, Nat.min_zero, Nat.sub_zero, Nat.sub_zero, ← h, up_id]
  · rfl
theorem et_0 {a : (Nat → Nat) × Nat} (h : a.2 = 0) : et T S a t = a := by
  unfold et
  split
  · rw [h, Nat.zero_min, Nat.sub_zero, Nat.sub_zero, up_id, ← h]
  · rfl
theorem et_le (a : (Nat → Nat) × Nat) (t u : Nat) : (et T S a t).1 u ≤ a.1 u ∧ (et T S a t).2 ≤ a.2 := by
  unfold et
  split
  · refine ⟨?_, Nat.sub_le _ _⟩
    by_cases e : u = t
    · subst e; simp only [up_eq]; omega
    · simp only [up_ne e]; omega
  · exact ⟨Nat.le_refl _, Nat.le_refl _⟩
theorem eD_0 (T S o : Nat → Nat) : eD T S o 0 = (lf S, 2 * T 0) := rfl
theorem eD_s (T S o : Nat → Nat) (n : Nat) : eD T S o (n + 1) = et T S (eD T S o n) (o n) := rfl
theorem eD_due (T S o : Nat → Nat) (n : Nat) : (eD T S o n).2 ≤ 2 * T 0 := by
  induction n with
  | zero => exact Nat.le_refl _
  | succ n ih => exact Nat.le_trans (et_le _ _ 0).2 ih
theorem eD_lf (T S o : Nat → Nat) (n u : Nat) : (eD T S o n).1 u ≤ lf S u := by
  induction n with
  | zero => exact Nat.le_refl _
  | succ n ih => exact Nat.le_trans (et_le _ _ u).1 ih
theorem eD_done {o : Nat → Nat} {k m : Nat} (h : (eD T S o k).2 = 0) (hm : k ≤ m) : eD T S o m = eD T S o k ∧ rc T S o m = rc T S o k := by
  induction m with
  | zero =>
    have : k = 0 := by omega
    subst this; exact ⟨rfl, rfl⟩
  | succ m ih =>
    by_cases e : k = m + 1
    · subst e; exact ⟨rfl, rfl⟩
    · obtain ⟨h1, h2⟩ := ih (by omega)
      have h3 : (eD T S o m).2 = 0 := by rw [h1]; exact h
      refine ⟨by rw [eD_s, et_0 h3, h1], ?_⟩
      rw [rc, if_neg (fun q => by omega), h2]
theorem wl_ne {f : Nat → Nat} {k : Nat} (h : k < 15 ∨ 22 ≤ k) : wl S f k = S k := by
  simp only [wl]
  rw [if_neg (by omega)]
theorem wl_at {f : Nat → Nat} {k : Nat} (h : k < 7) : wl S f (15 + k) = f k := by
  simp only [wl]
  rw [if_pos (by omega), show 15 + k - 15 = k by omega]
theorem wl_lf (S : Nat → Nat) : wl S (lf S) = S := by
  funext k
  by_cases h : 15 ≤ k ∧ k < 22
  · simp only [wl, lf]
    rw [if_pos h, if_pos (by omega), show 15 + (k - 15) = k by omega]
  · rw [wl_ne (by omega)]
theorem wl_up {f : Nat → Nat} (h : t < 7) : up (wl S f) (15 + t) v = wl S (up f t v) := by
  funext k
  by_cases e : k = 15 + t
  · subst e; rw [up_eq, wl_at h, up_eq]
  · rw [up_ne e]
    by_cases h2 : 15 ≤ k ∧ k < 22
    · simp only [wl]
      rw [if_pos h2, if_pos h2, up_ne (by omega)]
    · rw [wl_ne (by omega), wl_ne (by omega)]
theorem SW.wl {f : Nat → Nat} (h : SW T S) (hT : TW T) (hf : ∀ t, t < T 1 → f t ≤ 20) : SW T (wl S f) := by
  have a1 := hT.1; have a2 := hT.2.1
  obtain ⟨h1, h4, h5⟩ := h
  refine ⟨by rw [wl_ne (by omega)]; exact h1, fun w hw => by rw [wl_ne (by omega)]; exact h4 w hw, fun t ht => ?_⟩
  rw [wl_ne (by omega), wl_at (by omega), wl_ne (by omega)]
  exact ⟨(h5 t ht).1, hf t ht, (h5 t ht).2.2⟩
theorem eD_le (hT : TW T) (hS : SW T S) (o : Nat → Nat) (n : Nat) (ht : t < T 1) : (eD T S o n).1 t ≤ 20 := by
  have a2 := hT.2.1
  have h1 := eD_lf T S o n t
  have h2 := (hS.2.2 t ht).2.1
  simp only [lf] at h1
  rw [if_pos (by omega)] at h1
  omega
theorem eD_cg {S' : Nat → Nat} {o : Nat → Nat} {n : Nat} (ho : ∀ i, i < n → o i < 7) (h1 : ∀ t, t < 7 → S (8 + t) = S' (8 + t)) (h2 : ∀ t, t < 7 → S (15 + t) = S' (15 + t)) : eD T S o n = eD T S' o n := by
  induction n with
  | zero =>
    rw [eD_0, eD_0]
    congr 1
    funext t
    simp only [lf]
    split
    · rename_i q; exact h2 t q
    · rfl
  | succ n ih =>
    rw [eD_s, eD_s, ih (fun i hi => ho i (by omega)), et, et, h1 _ (ho n (by omega))]

theorem ca_feed_x (h : CI T g c R) (hc : 14 ≤ c) {m : Nat} (hm : m ≤ 7) (ho : m ≤ T 1) : ∃ g', Ca_feed_x g c (nI m) = some (g', nI (rc T R (fun i => i) m)) ∧ CI T g' c (up (wl R (eD T R (fun i => i) m).1) 2 (R 2 + (eD T R (fun i => i) m).2)) ∧ Fm (pC c) g g' := by
  have hb := h.bb
  obtain ⟨r, h1, h2, h3, h4, h5⟩ := lp_ex (fun n (a : am_G × Int32 × Int32) k => Ca_feed_x_L16 n a.1 c (nI m) a.2.1 a.2.2 (nI k)) m
    (fun k a => CI T a.1 c (wl R (eD T R (fun i => i) k).1) ∧ Fm (pC c) g a.1 ∧ a.2.1 = nI (eD T R (fun i => i) k).2 ∧ a.2.2 = nI (rc T R (fun i => i) k))
    (fun r => CI T r.1 c (wl R (eD T R (fun i => i) m).1) ∧ Fm (pC c) g r.1 ∧ r.2.1 = nI (eD T R (fun i => i) m).2 ∧ r.2.2 = nI (rc T R (fun i => i) m))
    (fun n a ha => ⟨a, by rw [Ca_feed_x_L16]; simp (disch := omega) only [z_lt, z_le, z_eq, z_in, z_cl, z_add, z_mul, z_mx, z_mn, zl12, zl18, zl19, zl30, zl115, zl116, zl119, zl291, zl640, zl999, zl9999, zl0, zl1, zl2, zl3, zl4, zl5, zl6, zl7, zl8, zl9, zl10, zl15, zl20, zl22, zl26, zl29, zl32, zl33, zl40, zl47, zl48, zl55, zl57, zl59, zl60, zl63, zl71, zl97, zl99, zl100, zl122, zl200, zl255, zl320, zl1000, zl1024, zl5040, zl1000000000, Nat.le_refl, ↓reduceIte], ha⟩)
    (fun n k a hk ha => by
      obtain ⟨k1, k2, k3, k4⟩ := ha
      have h6 : ¬ m ≤ k := by omega
      have hok : k < T 1 := by omega
      have k5 := k1.tt hok
      have k6 := k1.tb hok
      have k7 := eD_due T R (fun i => i) k
      have e0 : wl R (eD T R (fun i => i) k).1 (8 + k) = R (8 + k) := wl_ne (by omega)
      have e1 : wl R (eD T R (fun i => i) k).1 (15 + k) = (eD T R (fun i => i) k).1 k := wl_at (by omega)
      rw [e1] at k5 k6
      have k9 : eD T R (fun i => i) (k + 1) = et T R (eD T R (fun i => i) k) k := rfl
      by_cases q0 : (eD T R (fun i => i) k).2 = 0
      · right
        refine ⟨a, ?_, ?_⟩
        · rw [Ca_feed_x_L16, k3]
          have q0' : (eD T R (fun i => i) k).2 ≤ 0 := by omega
          simp (disch := omega) only [h6, z_lt, z_le, z_eq, z_in, z_cl, z_add, z_mul, z_mx, z_mn, zl12, zl18, zl19, zl30, zl115, zl116, zl119, zl291, zl640, zl999, zl9999, zl0, zl1, zl2, zl3, zl4, zl5, zl6, zl7, zl8, zl9, zl10, zl15, zl20, zl22, zl26, zl29, zl32, zl33, zl40, zl47, zl48, zl55, zl57, zl59, zl60, zl63, zl71, zl97, zl99, zl100, zl122, zl200, zl255, zl320, zl1000, zl1024, zl5040, zl1000000000, q0, q0', Nat.le_refl, ↓reduceIte]
          rw [show nI 0 = a.2.1 from (by rw [k3, q0])]
        · obtain ⟨d1, d2⟩ := eD_done (T := T) (S := R) (o := (fun i => i)) q0 (Nat.le_of_lt hk)
          rw [d1, d2]
          exact ⟨k1, k2, k3, k4⟩
      · left
        have q0' : ¬ (eD T R (fun i => i) k).2 ≤ 0 := by omega
        have q0p : 0 < (eD T R (fun i => i) k).2 := by omega
        have pass : (∀ y, Ca_feed_x_L16 (n + 1) a.1 c (nI m) a.2.1 a.2.2 (nI k) = y → y = Ca_feed_x_L16 n a.1 c (nI m) a.2.1 a.2.2 (nI (k + 1)) → eD T R (fun i => i) (k + 1) = eD T R (fun i => i) k → rc T R (fun i => i) (k + 1) = rc T R (fun i => i) k → ∃ a' : am_G × Int32 × Int32, Ca_feed_x_L16 (n + 1) a.1 c (nI m) a.2.1 a.2.2 (nI k) = Ca_feed_x_L16 n a'.1 c (nI m) a'.2.1 a'.2.2 (nI (k + 1)) ∧ CI T a'.1 c (wl R (eD T R (fun i => i) (k + 1)).1) ∧ Fm (pC c) g a'.1 ∧ a'.2.1 = nI (eD T R (fun i => i) (k + 1)).2 ∧ a'.2.2 = nI (rc T R (fun i => i) (k + 1))) := fun y y1 y2 y3 y4 => ⟨a, y1.trans y2, by rw [y3]; exact k1, k2, by rw [y3]; exact k3, by rw [y4]; exact k4⟩
        by_cases q1 : T (26 + k) = 1
        · by_cases q2 : R (8 + k) = 9
          · refine pass _ rfl ?_ (by rw [k9, et, if_neg (fun q => q.2 q2)]) (by rw [rc, if_neg (fun q => q.2.1 q2)])
            rw [Ca_feed_x_L16, k3, k4]
            simp (disch := omega) only [h6, z_lt, z_le, z_eq, z_in, z_cl, z_add, z_mul, z_mx, z_mn, zl12, zl18, zl19, zl30, zl115, zl116, zl119, zl291, zl640, zl999, zl9999, zl0, zl1, zl2, zl3, zl4, zl5, zl6, zl7, zl8, zl9, zl10, zl15, zl20, zl22, zl26, zl29, zl32, zl33, zl40, zl47, zl48, zl55, zl57, zl59, zl60, zl63, zl71, zl97, zl99, zl100, zl122, zl200, zl255, zl320, zl1000, zl1024, zl5040, zl1000000000, q0', k5, q1, ca_isCarried k1 hok, e0, q2, ne_eq, not_true_eq_false, decide_false, Option.bind_some, Option.bind_none, ↓reduceIte, Bool.false_eq_true, reduceCtorEq]
          · by_cases q3 : (eD T R (fun i => i) k).1 k = 0
            · refine pass _ rfl ?_ ?_ (by rw [rc, if_neg (fun q => by omega)])
              · rw [Ca_feed_x_L16, k3, k4]
                have q3' : (eD T R (fun i => i) k).1 k ≤ 0 := by omega
                simp (disch := omega) only [h6, z_lt, z_le, z_eq, z_in, z_cl, z_add, z_mul, z_mx, z_mn, zl12, zl18, zl19, zl30, zl115, zl116, zl119, zl291, zl640, zl999, zl9999, zl0, zl1, zl2, zl3, zl4, zl5, zl6, zl7, zl8, zl9, zl10, zl15, zl20, zl22, zl26, zl29, zl32, zl33, zl40, zl47, zl48, zl55, zl57, zl59, zl60, zl63, zl71, zl97, zl99, zl100, zl122, zl200, zl255, zl320, zl1000, zl1024, zl5040, zl1000000000, q0', k5, q1, ca_isCarried k1 hok, e0, q2, q3', ne_eq, not_false_eq_true, decide_true, Option.bind_some, Option.bind_none, ↓reduceIte, Bool.false_eq_true, reduceCtorEq]
              · rw [k9, et_z q3]
            · have q3' : ¬ (eD T R (fun i => i) k).1 k ≤ 0 := by omega
              have k9' : eD T R (fun i => i) (k + 1) = (up (eD T R (fun i => i) k).1 k ((eD T R (fun i => i) k).1 k - min (eD T R (fun i => i) k).2 ((eD T R (fun i => i) k).1 k)), (eD T R (fun i => i) k).2 - min (eD T R (fun i => i) k).2 ((eD T R (fun i => i) k).1 k)) := by
                rw [k9, et, if_pos ⟨q1, q2⟩]
              refine ⟨(am_wr a.1 (c + 2) k (nI ((eD T R (fun i => i) k).1 k - min (eD T R (fun i => i) k).2 ((eD T R (fun i => i) k).1 k))), nI ((eD T R (fun i => i) k).2 - min (eD T R (fun i => i) k).2 ((eD T R (fun i => i) k).1 k)), nI (k + 1)), ?_, ?_, k2.wr ⟨by omega, by omega⟩, by rw [k9'], by rw [rc, if_pos ⟨q1, q2, q0p, by omega⟩]⟩
              · show Ca_feed_x_L16 (n + 1) a.1 c (nI m) a.2.1 a.2.2 (nI k) = _
                rw [Ca_feed_x_L16, k3, k4]
                simp (disch := omega) only [h6, z_lt, z_le, z_eq, z_in, z_cl, z_add, z_mul, z_mx, z_mn, zl12, zl18, zl19, zl30, zl115, zl116, zl119, zl291, zl640, zl999, zl9999, zl0, zl1, zl2, zl3, zl4, zl5, zl6, zl7, zl8, zl9, zl10, zl15, zl20, zl22, zl26, zl29, zl32, zl33, zl40, zl47, zl48, zl55, zl57, zl59, zl60, zl63, zl71, zl97, zl99, zl100, zl122, zl200, zl255, zl320, zl1000, zl1024, zl5040, zl1000000000, z_sub, q0', k5, q1, ca_isCarried k1 hok, e0, q2, q3', ne_eq, not_false_eq_true, decide_true, Option.bind_some, Option.bind_none, ↓reduceIte, Bool.false_eq_true, reduceCtorEq]
              · rw [k9']
                have := k1.wrL (by omega) hok (v := (eD T R (fun i => i) k).1 k - min (eD T R (fun i => i) k).2 ((eD T R (fun i => i) k).1 k)) (by omega)
                rw [wl_up (by omega)] at this
                exact this
        · refine pass _ rfl ?_ (by rw [k9, et, if_neg (fun q => q1 q.1)]) (by rw [rc, if_neg (fun q => q1 q.1)])
          rw [Ca_feed_x_L16, k3, k4]
          simp (disch := omega) only [h6, z_lt, z_le, z_eq, z_in, z_cl, z_add, z_mul, z_mx, z_mn, zl12, zl18, zl19, zl30, zl115, zl116, zl119, zl291, zl640, zl999, zl9999, zl0, zl1, zl2, zl3, zl4, zl5, zl6, zl7, zl8, zl9, zl10, zl15, zl20, zl22, zl26, zl29, zl32, zl33, zl40, zl47, zl48, zl55, zl57, zl59, zl60, zl63, zl71, zl97, zl99, zl100, zl122, zl200, zl255, zl320, zl1000, zl1024, zl5040, zl1000000000, q0', k5, q1, Option.bind_some, Option.bind_none, ↓reduceIte, Bool.false_eq_true, reduceCtorEq])
    am_fuel 0 (g, nI (2 * T 0), 0) (by omega) (z_fuel (by omega)) ⟨by rw [eD_0, wl_lf]; exact h, Fm.rf _ _, rfl, rfl⟩
  refine ⟨am_wr r.1 c 3 (nI (R 2 + (eD T R (fun i => i) m).2)), ?_, h2.wrN (by omega) (k := 2) (by omega) (h2.2.2.1.upn (by omega) (by omega) _), h3.wr ⟨by omega, by omega⟩⟩
  rw [Ca_feed_x, h.n.1, zl2, z_mul]
  rw [show Ca_feed_x_L16 am_fuel g c (nI m) (nI (2 * T 0)) 0 0 = some r from h1, Option.bind_some]
  have e3 : r.1.1 c 3 = nI (R 2) := by rw [h2.s.2.2.1, wl_ne (by omega)]
  rw [e3, h4, h5, z_add]

theorem ca_feed_r (h : CI T g c R) (hc : 84 ≤ c) {o : Nat → Nat} {m : Nat} (hm : m ≤ 7) (ho : ∀ i, i < m → g.1 83 i = nI (o i) ∧ o i < T 1) : ∃ g', Ca_feed_r g c (nI m) = some (g', nI (rc T R o m)) ∧ CI T g' c (up (wl R (eD T R o m).1) 2 (R 2 + (eD T R o m).2)) ∧ Fm (pC c) g g' := by
  have hb := h.bb
  obtain ⟨r, h1, h2, h3, h4, h5⟩ := lp_ex (fun n (a : am_G × Int32 × Int32) k => Ca_feed_r_L16 n a.1 c (nI m) a.2.1 a.2.2 (nI k)) m
    (fun k a => CI T a.1 c (wl R (eD T R o k).1) ∧ Fm (pC c) g a.1 ∧ a.2.1 = nI (eD T R o k).2 ∧ a.2.2 = nI (rc T R o k))
    (fun r => CI T r.1 c (wl R (eD T R o m).1) ∧ Fm (pC c) g r.1 ∧ r.2.1 = nI (eD T R o m).2 ∧ r.2.2 = nI (rc T R o m))
    (fun n a ha => ⟨a, by rw [Ca_feed_r_L16]; simp (disch := omega) only [z_lt, z_le, z_eq, z_in, z_cl, z_add, z_mul, z_mx, z_mn, zl12, zl18, zl19, zl30, zl115, zl116, zl119, zl291, zl640, zl999, zl9999, zl0, zl1, zl2, zl3, zl4, zl5, zl6, zl7, zl8, zl9, zl10, zl15, zl20, zl22, zl26, zl29, zl32, zl33, zl40, zl47, zl48, zl55, zl57, zl59, zl60, zl63, zl71, zl97, zl99, zl100, zl122, zl200, zl255, zl320, zl1000, zl1024, zl5040, zl1000000000, Nat.le_refl, ↓reduceIte], ha⟩)
    (fun n k a hk ha => by
      obtain ⟨k1, k2, k3, k4⟩ := ha
      have h6 : ¬ m ≤ k := by omega
      have hok : o k < T 1 := (ho k hk).2
      have k5 := k1.tt hok
      have k6 := k1.tb hok
      have k7 := eD_due T R o k
      have e0 : wl R (eD T R o k).1 (8 + o k) = R (8 + o k) := wl_ne (by omega)
      have e1 : wl R (eD T R o k).1 (15 + o k) = (eD T R o k).1 (o k) := wl_at (by omega)
      have e2 : a.1.1 83 k = nI (o k) := by rw [k2.2 83 k (fun q => by unfold pC at q; omega)]; exact (ho k hk).1
      rw [e1] at k5 k6
      have k9 : eD T R o (k + 1) = et T R (eD T R o k) (o k) := rfl
      by_cases q0 : (eD T R o k).2 = 0
      · right
        refine ⟨a, ?_, ?_⟩
        · rw [Ca_feed_r_L16, k3]
          have q0' : (eD T R o k).2 ≤ 0 := by omega
          simp (disch := omega) only [h6, z_lt, z_le, z_eq, z_in, z_cl, z_add, z_mul, z_mx, z_mn, zl12, zl18, zl19, zl30, zl115, zl116, zl119, zl291, zl640, zl999, zl9999, zl0, zl1, zl2, zl3, zl4, zl5, zl6, zl7, zl8, zl9, zl10, zl15, zl20, zl22, zl26, zl29, zl32, zl33, zl40, zl47, zl48, zl55, zl57, zl59, zl60, zl63, zl71, zl97, zl99, zl100, zl122, zl200, zl255, zl320, zl1000, zl1024, zl5040, zl1000000000, q0, q0', Nat.le_refl, ↓reduceIte]
          rw [show nI 0 = a.2.1 from (by rw [k3, q0])]
        · obtain ⟨d1, d2⟩ := eD_done (T := T) (S := R) (o := o) q0 (Nat.le_of_lt hk)
          rw [d1, d2]
          exact ⟨k1, k2, k3, k4⟩
      · left
        have q0' : ¬ (eD T R o k).2 ≤ 0 := by omega
        have q0p : 0 < (eD T R o k).2 := by omega
        have pass : (∀ y, Ca_feed_r_L16 (n + 1) a.1 c (nI m) a.2.1 a.2.2 (nI k) = y → y = Ca_feed_r_L16 n a.1 c (nI m) a.2.1 a.2.2 (nI (k + 1)) → eD T R o (k + 1) = eD T R o k → rc T R o (k + 1) = rc T R o k → ∃ a' : am_G × Int32 × Int32, Ca_feed_r_L16 (n + 1) a.1 c (nI m) a.2.1 a.2.2 (nI k) = Ca_feed_r_L16 n a'.1 c (nI m) a'.2.1 a'.2.2 (nI (k + 1)) ∧ CI T a'.1 c (wl R (eD T R o (k + 1)).1) ∧ Fm (pC c) g a'.1 ∧ a'.2.1 = nI (eD T R o (k + 1)).2 ∧ a'.2.2 = nI (rc T R o (k + 1))) := fun y y1 y2 y3 y4 => ⟨a, y1.trans y2, by rw [y3]; exact k1, k2, by rw [y3]; exact k3, by rw [y4]; exact k4⟩
        by_cases q1 : T (26 + o k) = 1
        · by_cases q2 : R (8 + o k) = 9
          · refine pass _ rfl ?_ (by rw [k9, et, if_neg (fun q => q.2 q2)]) (by rw [rc, if_neg (fun q => q.2.1 q2)])
            rw [Ca_feed_r_L16, k3, k4]
            simp (disch := omega) only [h6, z_lt, z_le, z_eq, z_in, z_cl, z_add, z_mul, z_mx, z_mn, zl12, zl18, zl19, zl30, zl115, zl116, zl119, zl291, zl640, zl999, zl9999, zl0, zl1, zl2, zl3, zl4, zl5, zl6, zl7, zl8, zl9, zl10, zl15, zl20, zl22, zl26, zl29, zl32, zl33, zl40, zl47, zl48, zl55, zl57, zl59, zl60, zl63, zl71, zl97, zl99, zl100, zl122, zl200, zl255, zl320, zl1000, zl1024, zl5040, zl1000000000, q0', e2, k5, q1, ca_isCarried k1 hok, e0, q2, ne_eq, not_true_eq_false, decide_false, Option.bind_some, Option.bind_none, ↓reduceIte, Bool.false_eq_true, reduceCtorEq]
          · by_cases q3 : (eD T R o k).1 (o k) = 0
            · refine pass _ rfl ?_ ?_ (by rw [rc, if_neg (fun q => by omega)])
              · rw [Ca_feed_r_L16, k3, k4]
                have q3' : (eD T R o k).1 (o k) ≤ 0 := by omega
                simp (disch := omega) only [h6, z_lt, z_le, z_eq, z_in, z_cl, z_add, z_mul, z_mx, z_mn, zl12, zl18, zl19, zl30, zl115, zl116, zl119, zl291, zl640, zl999, zl9999, zl0, zl1, zl2, zl3, zl4, zl5, zl6, zl7, zl8, zl9, zl10, zl15, zl20, zl22, zl26, zl29, zl32, zl33, zl40, zl47, zl48, zl55, zl57, zl59, zl60, zl63, zl71, zl97, zl99, zl100, zl122, zl200, zl255, zl320, zl1000, zl1024, zl5040, zl1000000000, q0', e2, k5, q1, ca_isCarried k1 hok, e0, q2, q3', ne_eq, not_false_eq_true, decide_true, Option.bind_some, Option.bind_none, ↓reduceIte, Bool.false_eq_true, reduceCtorEq]
              · rw [k9, et_z q3]
            · have q3' : ¬ (eD T R o k).1 (o k) ≤ 0 := by omega
              have k9' : eD T R o (k + 1) = (up (eD T R o k).1 (o k) ((eD T R o k).1 (o k) - min (eD T R o k).2 ((eD T R o k).1 (o k))), (eD T R o k).2 - min (eD T R o k).2 ((eD T R o k).1 (o k))) := by
                rw [k9, et, if_pos ⟨q1, q2⟩]
              refine ⟨(am_wr a.1 (c + 2) (o k) (nI ((eD T R o k).1 (o k) - min (eD T R o k).2 ((eD T R o k).1 (o k)))), nI ((eD T R o k).2 - min (eD T R o k).2 ((eD T R o k).1 (o k))), nI (k + 1)), ?_, ?_, k2.wr ⟨by omega, by omega⟩, by rw [k9'], by rw [rc, if_pos ⟨q1, q2, q0p, by omega⟩]⟩
              · show Ca_feed_r_L16 (n + 1) a.1 c (nI m) a.2.1 a.2.2 (nI k) = _
                rw [Ca_feed_r_L16, k3, k4]
                simp (disch := omega) only [h6, z_lt, z_le, z_eq, z_in, z_cl, z_add, z_mul, z_mx, z_mn, zl12, zl18, zl19, zl30, zl115, zl116, zl119, zl291, zl640, zl999, zl9999, zl0, zl1, zl2, zl3, zl4, zl5, zl6, zl7, zl8, zl9, zl10, zl15, zl20, zl22, zl26, zl29, zl32, zl33, zl40, zl47, zl48, zl55, zl57, zl59, zl60, zl63, zl71, zl97, zl99, zl100, zl122, zl200, zl255, zl320, zl1000, zl1024, zl5040, zl1000000000, z_sub, q0', e2, k5, q1, ca_isCarried k1 hok, e0, q2, q3', ne_eq, not_false_eq_true, decide_true, Option.bind_some, Option.bind_none, ↓reduceIte, Bool.false_eq_true, reduceCtorEq]
              · rw [k9']
                have := k1.wrL (by omega) hok (v := (eD T R o k).1 (o k) - min (eD T R o k).2 ((eD T R o k).1 (o k))) (by omega)
                rw [wl_up (by omega)] at this
                exact this
        · refine pass _ rfl ?_ (by rw [k9, et, if_neg (fun q => q1 q.1)]) (by rw [rc, if_neg (fun q => q1 q.1)])
          rw [Ca_feed_r_L16, k3, k4]
          simp (disch := omega) only [h6, z_lt, z_le, z_eq, z_in, z_cl, z_add, z_mul, z_mx, z_mn, zl12, zl18, zl19, zl30, zl115, zl116, zl119, zl291, zl640, zl999, zl9999, zl0, zl1, zl2, zl3, zl4, zl5, zl6, zl7, zl8, zl9, zl10, zl15, zl20, zl22, zl26, zl29, zl32, zl33, zl40, zl47, zl48, zl55, zl57, zl59, zl60, zl63, zl71, zl97, zl99, zl100, zl122, zl200, zl255, zl320, zl1000, zl1024, zl5040, zl1000000000, q0', e2, k5, q1, Option.bind_some, Option.bind_none, ↓reduceIte, Bool.false_eq_true, reduceCtorEq])
    am_fuel 0 (g, nI (2 * T 0), 0) (by omega) (z_fuel (by omega)) ⟨by rw [eD_0, wl_lf]; exact h, Fm.rf _ _, rfl, rfl⟩
  refine ⟨am_wr r.1 c 3 (nI (R 2 + (eD T R o m).2)), ?_, h2.wrN (by omega) (k := 2) (by omega) (h2.2.2.1.upn (by omega) (by omega) _), h3.wr ⟨by omega, by omega⟩⟩
  rw [Ca_feed_r, h.n.1, zl2, z_mul]
  rw [show Ca_feed_r_L16 am_fuel g c (nI m) (nI (2 * T 0)) 0 0 = some r from h1, Option.bind_some]
  have e3 : r.1.1 c 3 = nI (R 2) := by rw [h2.s.2.2.1, wl_ne (by omega)]
  rw [e3, h4, h5, z_add]

theorem ca_settle (h : CI T g c R) (hc : 14 ≤ c) (hd : R 0 < T 2) (b : Bool) : ∃ g', Ca_settle g c (am_b b) = some g' ∧ CI T g' c (fun k => if k = 0 then R 0 + 1 else if b = false ∧ 22 ≤ k ∧ k < 22 + T 1 then 0 else R k) ∧ Fm (pC c) g g' := by
  have hb := h.bb
  have sw : ∀ Q : Nat → Nat, SW T Q → Q 0 = R 0 → SW T (up Q 0 (R 0 + 1)) := by
    intro Q hQ e
    obtain ⟨h1, h4, h5⟩ := hQ
    refine ⟨by rw [up_eq]; omega, fun w hw => by rw [up_ne (by omega)]; exact h4 w hw, fun t ht => ?_⟩
    rw [up_ne (by omega), up_ne (by omega), up_ne (by omega)]; exact h5 t ht
  cases b
  · have k1 := h.wr0 hc
    refine ⟨_, ?_, (k1.wrN hc (k := 0) (v := R 0 + 1) (by omega) (sw _ k1.2.2.1 (by simp))).cg ?_, ((Fm.rf _ g).wr (a := c) (k := 5) (v := 0) ⟨by omega, by omega⟩).wr ⟨by omega, by omega⟩⟩
    · rw [Ca_settle, if_pos (show am_b false = 0 from rfl), m_nk (by omega), h.s.1, zl1, z_add]
    · refine ⟨fun k hk => ?_, fun w hw => ?_, fun t ht => ?_⟩
      · by_cases e : k = 0
        · subst e; simp [up]
        · rw [up_ne e]; simp only []; rw [if_neg (by omega), if_neg e, if_neg (by omega)]
      · rw [up_ne (by omega)]; simp only []; rw [if_neg (by omega), if_neg (by omega), if_neg (by omega)]
      · rw [up_ne (by omega), up_ne (by omega), up_ne (by omega)]; simp only []
        have z1 : 22 ≤ 22 + t ∧ 22 + t < 22 + T 1 := by omega
        have z2 : ¬ (22 ≤ 15 + t ∧ 15 + t < 22 + T 1) := by omega
        have z3 : ¬ (22 ≤ 8 + t ∧ 8 + t < 22 + T 1) := by omega
        have z4 : ¬ 8 + t = 0 := by omega
        have z5 : ¬ 15 + t = 0 := by omega
        have z6 : ¬ 22 + t = 0 := by omega
        simp only [z1, z2, z3, z4, z5, z6, and_self, and_false, ↓reduceIte]
  · refine ⟨_, ?_, (h.wrN hc (k := 0) (v := R 0 + 1) (by omega) (sw _ h.2.2.1 rfl)).cg ?_, (Fm.rf _ g).wr ⟨by omega, by omega⟩⟩
    · rw [Ca_settle, if_neg (show ¬ am_b true = 0 by decide), h.s.1, zl1, z_add]
    · refine ⟨fun k hk => ?_, fun w hw => ?_, fun t ht => ?_⟩
      · by_cases e : k = 0
        · subst e; simp [up]
        · rw [up_ne e]; simp [e]
      · rw [up_ne (by omega)]; simp
      · rw [up_ne (by omega), up_ne (by omega), up_ne (by omega)]; simp
/-- behind the march, the evening and the night: the stage is gone -/
theorem ca_night (hT : TW T) (hS : SW T S) (b : Bool) {o : Nat → Nat} {n : Nat} (ho : ∀ i, i < n → o i < 7) {R Q : Nat → Nat} (hR : R = up (trN T (rnN S b (T 1)) (T 0)) 1 (S 1 + slo T (rnN S b (T 1)) (T (47 + S 0)))) (hQ : Q = up (wl R (eD T R o n).1) 2 (R 2 + (eD T R o n).2)) : eqS T (fun k => if k = 0 then Q 0 + 1 else if b = false ∧ 22 ≤ k ∧ k < 22 + T 1 then 0 else Q k) (gon T o n b S) := by
  have a1 := hT.1; have a2 := hT.2.1
  have r1 : ∀ k, 8 ≤ k → k < 22 → R k = S k := fun k h1 h2 => by rw [hR, up_ne (by omega), trN_hi _ _ _ (by omega), rnN_lo _ _ _ (by omega)]
  have r2 : eD T R o n = eD T S o n := eD_cg ho (fun t ht => r1 _ (by omega) (by omega)) (fun t ht => r1 _ (by omega) (by omega))
  have r3 : ∀ k, k < 4 → k ≠ 1 → R k = S k := fun k h1 h2 => by rw [hR, up_ne h2, trN_hi _ _ _ (by omega), rnN_lo _ _ _ (by omega)]
  have q3 : ∀ k, k < 15 → k ≠ 2 → Q k = R k := fun k h1 h2 => by rw [hQ, up_ne h2, wl_ne (by omega)]
  refine ⟨fun k hk => ?_, fun w hw => ?_, fun t ht => ?_⟩
  · have hk : k = 0 ∨ k = 1 ∨ k = 2 ∨ k = 3 := by omega
    rcases hk with rfl | rfl | rfl | rfl
    · simp [gon, q3 0 (by omega) (by omega), r3 0 (by omega) (by omega)]
    · simp [gon, q3 1 (by omega) (by omega), hR, up]
    · simp [gon, hQ, up, r2]
      simp [hR, up, trN, rnN]
    · simp [gon, q3 3 (by omega) (by omega), r3 3 (by omega) (by omega), rnN]
  · simp only [gon]
    rw [if_neg (by omega), if_neg (by omega), if_neg (by omega), if_neg (by omega), if_neg (by omega), if_pos (by omega), q3 _ (by omega) (by omega), hR, up_ne (by omega), trN_at _ _ hw, show 4 + w - 4 = w by omega]
  · simp only [gon]
    refine ⟨?_, ?_, ?_⟩
    · rw [if_neg (by omega), if_neg (by omega), if_neg (by omega), if_neg (by omega), if_neg (by omega), if_neg (by omega), if_neg (by omega), if_neg (by omega), q3 _ (by omega) (by omega), r1 _ (by omega) (by omega), rnN_lo _ _ _ (by omega)]
    · rw [if_neg (by omega), if_neg (by omega), if_neg (by omega), if_neg (by omega), if_neg (by omega), if_neg (by omega), if_pos (by omega), hQ, up_ne (by omega), wl_at (by omega), r2, show 15 + t - 15 = t by omega]
    · have z1 : 22 ≤ 22 + t ∧ 22 + t < 22 + T 1 := by omega
      have z2 : ¬ (15 ≤ 22 + t ∧ 22 + t < 22) := by omega
      have z3 : ¬ (4 ≤ 22 + t ∧ 22 + t < 4 + T 0) := by omega
      have z4 : ¬ 22 + t = 0 := by omega
      have z5 : ¬ 22 + t = 1 := by omega
      have z6 : ¬ 22 + t = 2 := by omega
      simp only [z1, z2, z3, z4, z5, z6, and_self, and_true, and_false, ↓reduceIte]
      cases b
      · simp
      · rw [if_neg (by simp), if_neg (by simp), hQ, up_ne (by omega), wl_ne (by omega), hR, up_ne (by omega), trN_hi _ _ _ (by omega)]
theorem ca_pass (h : CI T g c S) (hc : 14 ≤ c) (hd : S 0 < T 2) (b : Bool) : ∃ g', Ca_pass g c (am_b b) = some g' ∧ CI T g' c (gon T (fun i => i) (T 1) b S) ∧ Fm (pC c) g g' := by
  have hb := h.bb
  obtain ⟨g1, e1, h1, f1⟩ := ca_march h hc hd b
  have hR0 : (up (trN T (rnN S b (T 1)) (T 0)) 1 (S 1 + slo T (rnN S b (T 1)) (T (47 + S 0)))) 0 = S 0 := by rw [up_ne (by omega), trN_hi _ _ _ (by omega), rnN_lo _ _ _ (by omega)]
  obtain ⟨g2, e2, h2, f2⟩ := ca_feed_x h1 hc (m := T 1) (by omega) (Nat.le_refl _)
  obtain ⟨g3, e3, h3, f3⟩ := ca_settle h2 hc (by rw [up_ne (by omega), wl_ne (by omega), hR0]; exact hd) b
  refine ⟨g3, ?_, h3.cg (ca_night h.1 h.2.2.1 b (o := fun i => i) (fun i hi => by show i < 7; omega) rfl rfl), (f1.tr f2).tr f3⟩
  rw [Ca_pass, e1, Option.bind_some, h1.n.2.1, e2, Option.bind_some, e3]; rfl
end
