-- LEAVE
def wf (R f : Nat → Nat) : Nat → Nat := fun k => if 8 ≤ k ∧ k < 15 then f (k - 8) else R k
def wx (S : Nat → Nat) (x t : Nat) : Nat := if x / 2 ^ t % 2 = 1 then 9 else S (8 + t)
def lmay (T S : Nat → Nat) (x n : Nat) : Prop := ∀ t, t < n → x / 2 ^ t % 2 = 1 → T (26 + t) = 0 ∧ S (8 + t) ≠ 9
def lok (T S R : Nat → Nat) (L m x : Nat) : Prop := lmay T S x (T 1) ∧ slo T (wf R (wx S x)) L ≤ m
/-- of the sets below x the best one (and what it weighs) -/
def lsB (T S R : Nat → Nat) (L m x : Nat) (r : Option Nat) : Prop := (r = none ∧ ∀ y, y < x → ¬ lok T S R L m y) ∨ ∃ z, r = some z ∧ z < x ∧ lok T S R L m z ∧ (∀ y, y < x → lok T S R L m y → sm (lof S z) (T 1) ≤ sm (lof S y) (T 1)) ∧ (∀ y, y < z → lok T S R L m y → sm (lof S z) (T 1) < sm (lof S y) (T 1))
section
variable {T S R f : Nat → Nat} {g g' : am_G} {L t w v x m : Nat}
theorem wf_at (h : t < 7) : wf R f (8 + t) = f t := by
  simp only [wf]
  rw [if_pos (by omega), show 8 + t - 8 = t by omega]
theorem wf_ne {k : Nat} (h : k < 8 ∨ 15 ≤ k) : wf R f k = R k := by
  simp only [wf]
  rw [if_neg (by omega)]
theorem wf_up (h : t < 7) : up (wf R f) (8 + t) v = wf R (up f t v) := by
  funext k
  by_cases e : k = 8 + t
  · subst e; rw [up_eq, wf_at h, up_eq]
  · rw [up_ne e]
    by_cases h2 : 8 ≤ k ∧ k < 15
    · simp only [wf]
      rw [if_pos h2, if_pos h2, up_ne (by omega)]
    · rw [wf_ne (by omega), wf_ne (by omega)]
theorem wf_id (R : Nat → Nat) : wf R (fun t => R (8 + t)) = R := by
  funext k
  by_cases h2 : 8 ≤ k ∧ k < 15
  · simp only [wf]
    rw [if_pos h2, show 8 + (k - 8) = k by omega]
  · rw [wf_ne (by omega)]
theorem lmay_s (k : Nat) : lmay T S x (k + 1) ↔ lmay T S x k ∧ (x / 2 ^ k % 2 = 1 → T (26 + k) = 0 ∧ S (8 + k) ≠ 9) := by
  constructor
  · intro h
    exact ⟨fun t ht => h t (by omega), h k (by omega)⟩
  · intro h t ht
    by_cases e : t = k
    · subst e; exact h.2
    · exact h.1 t (by omega)
theorem lsB_s {r : Option Nat} (h : lsB T S R L m x r) : ∃ r', lsB T S R L m (x + 1) r' ∧ ((lok T S R L m x ∧ (∀ z, r = some z → sm (lof S x) (T 1) < sm (lof S z) (T 1)) ∧ r' = some x) ∨ (¬ (lok T S R L m x ∧ (∀ z, r = some z → sm (lof S x) (T 1) < sm (lof S z) (T 1))) ∧ r' = r)) := by
  by_cases q : lok T S R L m x ∧ (∀ z, r = some z → sm (lof S x) (T 1) < sm (lof S z) (T 1))
  · refine ⟨some x, Or.inr ⟨x, rfl, by omega, q.1, fun y hy hk => ?_, fun y hy hk => ?_⟩, Or.inl ⟨q.1, q.2, rfl⟩⟩
    · by_cases e : y = x
      · subst e; exact Nat.le_refl _
      · rcases h with ⟨-, h2⟩ | ⟨z, h1, h2, h3, h4, h5⟩
        · exact absurd hk (h2 y (by omega))
        · have := q.2 z h1
          have := h4 y (by omega) hk
          omega
    · rcases h with ⟨-, h2⟩ | ⟨z, h1, h2, h3, h4, h5⟩
      · exact absurd hk (h2 y (by omega))
      · have := q.2 z h1
        have := h4 y (by omega) hk
        omega
  · refine ⟨r, ?_, Or.inr ⟨q, rfl⟩⟩
    rcases h with ⟨h1, h2⟩ | ⟨z, h1, h2, h3, h4, h5⟩
    · refine Or.inl ⟨h1, fun y hy hk => ?_⟩
      by_cases e : y = x
      · subst e; exact q ⟨hk, fun z hz => by rw [h1] at hz; cases hz⟩
      · exact h2 y (by omega) hk
    · refine Or.inr ⟨z, h1, by omega, h3, fun y hy hk => ?_, h5⟩
      by_cases e : y = x
      · subst e
        refine Nat.le_of_not_lt (fun hlt => q ⟨hk, fun z' hz' => ?_⟩)
        rw [h1] at hz'; cases hz'; exact hlt
      · exact h4 y (by omega) hk
theorem lsB_un {r r' : Option Nat} (h : lsB T S R L m x r) (h' : lsB T S R L m x r') : r = r' := by
  rcases h with ⟨h1, h2⟩ | ⟨z, h1, h2, h3, h4, h5⟩
  · rcases h' with ⟨k1, k2⟩ | ⟨z', k1, k2, k3, k4, k5⟩
    · rw [h1, k1]
    · exact absurd k3 (h2 z' k2)
  · rcases h' with ⟨k1, k2⟩ | ⟨z', k1, k2, k3, k4, k5⟩
    · exact absurd h3 (k2 z h2)
    · have e : z = z' := by
        rcases Nat.lt_trichotomy z z' with e | e | e
        · have := k5 z e h3; have := h4 z' k2 k3; omega
        · exact e
        · have := h5 z' e k3; have := k4 z h2 h3; omega
      rw [h1, k1, e]
/-- the camp of Today with any bearers -/
theorem to_quick (h77 : CI T g 77 (wf R f)) (h28 : CI T g 28 S) (hL : L ≤ 20) (h74 : g.1 74 2 = nI L) (hx : x < 128) (hm : m ≤ 999) : ∃ g' f' b, To_isQuickWithout g (nI x) (nI m) = some (g', b) ∧ (b = true ↔ lok T S R L m x) ∧ CI T g' 77 (wf R f') ∧ Fm (fun a _ => a = 78) g g' := by
  have hb := h28.bb
  obtain ⟨r, h1, h2⟩ := lp_ex (fun n (a : am_G) k => To_isQuickWithout_L3 n a (nI x) (nI m) (nI k)) (T 1)
    (fun k a => lmay T S x k ∧ Fm (fun a _ => a = 78) g a ∧ ∃ f', CI T a 77 (wf R f') ∧ ∀ t, t < k → f' t = wx S x t)
    (fun r => (∃ g', r = .inl g' ∧ lmay T S x (T 1) ∧ Fm (fun a _ => a = 78) g g' ∧ ∃ f', CI T g' 77 (wf R f') ∧ ∀ t, t < T 1 → f' t = wx S x t) ∨ (∃ g', r = .inr (g', false) ∧ ¬ lmay T S x (T 1) ∧ Fm (fun a _ => a = 78) g g' ∧ ∃ f', CI T g' 77 (wf R f')))
    (fun n a ha => by
      obtain ⟨a1, a2, f', a3, a4⟩ := id ha
      exact ⟨.inl a, by rw [To_isQuickWithout_L3]; simp (disch := omega) only [a3.n, z_lt, z_le, z_eq, z_in, z_cl, z_add, z_mul, z_mx, z_mn, zl12, zl18, zl19, zl30, zl115, zl116, zl119, zl291, zl640, zl999, zl9999, zl0, zl1, zl2, zl3, zl4, zl5, zl6, zl7, zl8, zl9, zl10, zl15, zl20, zl22, zl26, zl29, zl32, zl33, zl40, zl47, zl48, zl55, zl57, zl59, zl60, zl63, zl71, zl97, zl99, zl100, zl122, zl200, zl255, zl320, zl1000, zl1024, zl5040, zl1000000000, Nat.le_refl, ↓reduceIte], Or.inl ⟨a, rfl, a1, a2, f', a3, a4⟩⟩)
    (fun n k a hk ha => by
      obtain ⟨a1, a2, f', a3, a4⟩ := ha
      have h6 : ¬ T 1 ≤ k := by omega
      have c28 : CI T a 28 S := h28.fm a2 (fun a k q1 q2 q => by omega) (fun a k q1 q2 q => by omega)
      have w1 := c28.tt hk
      have w2 := c28.tb hk
      have w3 := c28.2.2.1.2.2 k hk
      by_cases q : x / 2 ^ k % 2 = 1
      · by_cases q1 : T (26 + k) = 1
        · right
          refine ⟨.inr (a, false), ?_, Or.inr ⟨a, rfl, fun e => ?_, a2, f', a3⟩⟩
          · rw [To_isQuickWithout_L3]
            simp (disch := omega) only [a3.n, b_get, z_lt, z_le, z_eq, z_in, z_cl, z_add, z_mul, z_mx, z_mn, zl12, zl18, zl19, zl30, zl115, zl116, zl119, zl291, zl640, zl999, zl9999, zl0, zl1, zl2, zl3, zl4, zl5, zl6, zl7, zl8, zl9, zl10, zl15, zl20, zl22, zl26, zl29, zl32, zl33, zl40, zl47, zl48, zl55, zl57, zl59, zl60, zl63, zl71, zl97, zl99, zl100, zl122, zl200, zl255, zl320, zl1000, zl1024, zl5040, zl1000000000, h6, q, q1, w1, Option.bind_some, Option.bind_none, ↓reduceIte, Bool.false_eq_true, reduceCtorEq, Nat.one_ne_zero]
          · have := (e k hk q).1; omega
        · by_cases q2 : S (8 + k) = 9
          · right
            refine ⟨.inr (a, false), ?_, Or.inr ⟨a, rfl, fun e => (e k hk q).2 q2, a2, f', a3⟩⟩
            rw [To_isQuickWithout_L3, ca_isCarried c28 hk]
            simp (disch := omega) only [a3.n, b_get, z_lt, z_le, z_eq, z_in, z_cl, z_add, z_mul, z_mx, z_mn, zl12, zl18, zl19, zl30, zl115, zl116, zl119, zl291, zl640, zl999, zl9999, zl0, zl1, zl2, zl3, zl4, zl5, zl6, zl7, zl8, zl9, zl10, zl15, zl20, zl22, zl26, zl29, zl32, zl33, zl40, zl47, zl48, zl55, zl57, zl59, zl60, zl63, zl71, zl97, zl99, zl100, zl122, zl200, zl255, zl320, zl1000, zl1024, zl5040, zl1000000000, h6, q, q1, q2, w1, Option.bind_some, Option.bind_none, ↓reduceIte, Bool.false_eq_true, reduceCtorEq, Nat.one_ne_zero, ne_eq, not_true_eq_false, decide_false]
          · left
            have c2 := a3.wrW (by omega) hk (v := 9) (Or.inr rfl)
            rw [wf_up (by omega)] at c2
            refine ⟨am_wr a (77 + 1) k (nI 9), ?_, (lmay_s k).2 ⟨a1, fun _ => ⟨by omega, q2⟩⟩, a2.wr rfl, up f' k 9, c2, fun t ht => ?_⟩
            · show To_isQuickWithout_L3 (n + 1) a (nI x) (nI m) (nI k) = _
              rw [To_isQuickWithout_L3, ca_isCarried c28 hk]
              simp (disch := omega) only [a3.n, b_get, z_lt, z_le, z_eq, z_in, z_cl, z_add, z_mul, z_mx, z_mn, zl12, zl18, zl19, zl30, zl115, zl116, zl119, zl291, zl640, zl999, zl9999, zl0, zl1, zl2, zl3, zl4, zl5, zl6, zl7, zl8, zl9, zl10, zl15, zl20, zl22, zl26, zl29, zl32, zl33, zl40, zl47, zl48, zl55, zl57, zl59, zl60, zl63, zl71, zl97, zl99, zl100, zl122, zl200, zl255, zl320, zl1000, zl1024, zl5040, zl1000000000, h6, q, q1, q2, w1, Option.bind_some, Option.bind_none, ↓reduceIte, Bool.false_eq_true, reduceCtorEq, Nat.one_ne_zero, ne_eq, not_false_eq_true, decide_true]
            · by_cases e : t = k
              · subst e; rw [up_eq, wx, if_pos q]
              · rw [up_ne e]; exact a4 t (by omega)
      · left
        have c2 := a3.wrW (by omega) hk (v := S (8 + k)) w3.1
        rw [wf_up (by omega)] at c2
        refine ⟨am_wr a (77 + 1) k (nI (S (8 + k))), ?_, (lmay_s k).2 ⟨a1, fun e => absurd e q⟩, a2.wr rfl, up f' k (S (8 + k)), c2, fun t ht => ?_⟩
        · show To_isQuickWithout_L3 (n + 1) a (nI x) (nI m) (nI k) = _
          rw [To_isQuickWithout_L3]
          simp (disch := omega) only [a3.n, b_get, z_lt, z_le, z_eq, z_in, z_cl, z_add, z_mul, z_mx, z_mn, zl12, zl18, zl19, zl30, zl115, zl116, zl119, zl291, zl640, zl999, zl9999, zl0, zl1, zl2, zl3, zl4, zl5, zl6, zl7, zl8, zl9, zl10, zl15, zl20, zl22, zl26, zl29, zl32, zl33, zl40, zl47, zl48, zl55, zl57, zl59, zl60, zl63, zl71, zl97, zl99, zl100, zl122, zl200, zl255, zl320, zl1000, zl1024, zl5040, zl1000000000, h6, q, w1, Option.bind_some, Option.bind_none, ↓reduceIte, Bool.false_eq_true, reduceCtorEq]
        · by_cases e : t = k
          · subst e; rw [up_eq, wx, if_neg q]
          · rw [up_ne e]; exact a4 t (by omega))
    am_fuel 0 g (by omega) (z_fuel (by omega)) ⟨fun t ht => by omega, Fm.rf _ _, f, h77, fun t ht => by omega⟩
  have e5 : To_isQuickWithout g (nI x) (nI m) = (some r).bind fun q13 => match q13 with | .inr w => some w | .inl w14 => (Ca_slowest w14 77 (w14.1 74 2)).bind fun q15 => if nI m < q15 then some (w14, false) else some (w14, true) := by
    rw [To_isQuickWithout, show To_isQuickWithout_L3 am_fuel g (nI x) (nI m) 0 = some r from h1]; rfl
  rcases h2 with ⟨g1, rfl, k1, k2, f', k3, k4⟩ | ⟨g1, rfl, k1, k2, f', k3⟩
  · have es : slo T (wf R f') L = slo T (wf R (wx S x)) L := slo_eq ⟨fun k hk => by rw [wf_ne (by omega), wf_ne (by omega)], fun k hk => by rw [wf_ne (by omega), wf_ne (by omega)], fun t ht => by rw [wf_at (by omega), wf_at (by omega), wf_ne (by omega), wf_ne (by omega), wf_ne (by omega), wf_ne (by omega)]; exact ⟨k4 t ht, rfl, rfl⟩⟩ L
    have hs : slo T (wf R (wx S x)) L ≤ 1200 := slo_le hL (T 0)
    have e6 : Ca_slowest g1 77 (g1.1 74 2) = some (nI (slo T (wf R (wx S x)) L)) := by rw [k2.2 74 2 (by omega), h74, ca_slowest k3 hL, es]
    by_cases q : m < slo T (wf R (wx S x)) L
    · refine ⟨g1, f', false, ?_, ⟨fun e => by simp at e, fun e => by have := e.2; omega⟩, k3, k2⟩
      rw [e5, Option.bind_some]
      simp only [e6, Option.bind_some]
      rw [if_pos (by rw [z_lt (by omega) (by omega)]; exact q)]
    · refine ⟨g1, f', true, ?_, ⟨fun e => ⟨k1, by omega⟩, fun e => rfl⟩, k3, k2⟩
      rw [e5, Option.bind_some]
      simp only [e6, Option.bind_some]
      rw [if_neg (by rw [z_lt (by omega) (by omega)]; exact q)]
  · exact ⟨g1, f', false, by rw [e5]; rfl, ⟨fun e => by simp at e, fun e => absurd e.1 k1⟩, k3, k2⟩
theorem p2_le (h : T 1 ≤ 7) : 2 ^ (T 1) ≤ 128 := Nat.pow_le_pow_right (by omega) h
theorem to_lightest (h : CI T g 28 S) (hd : S 0 < T 2) (hm : m ≤ 999) : ∃ g' r, To_lightestSet g (nI m) = some (g', match r with | none => -9 | some z => nI z) ∧ lsB T S (wk T S) (T (47 + S 0)) m (2 ^ (T 1)) r ∧ Fm pT g g' := by
  have hb := h.bb
  have hL := (h.dd hd).2.2.2.1
  have hp := p2_le (T := T) hb.2.1
  obtain ⟨g1, e1, h77, h28, h74, f1⟩ := to_wake h hd
  obtain ⟨r, h1, h2, z, h3, h4⟩ := lp_up (fun n (a : am_G × Int32 × Int32) k => To_lightestSet_L21 n a.1 (nI m) a.2.1 a.2.2 (nI k)) (2 ^ (T 1))
    (fun k a => CI T a.1 28 S ∧ a.1.1 74 2 = nI (T (47 + S 0)) ∧ Fm pT g a.1 ∧ (∃ f', CI T a.1 77 (wf (wk T S) f')) ∧ ∃ r, lsB T S (wk T S) (T (47 + S 0)) m k r ∧ (r = none → a.2.1 = nI 1000000000 ∧ a.2.2 = -9) ∧ (∀ z, r = some z → a.2.1 = nI (sm (lof S z) (T 1)) ∧ a.2.2 = nI z))
    (fun b => Fm pT g b.1 ∧ ∃ r, lsB T S (wk T S) (T (47 + S 0)) m (2 ^ (T 1)) r ∧ b.2 = match r with | none => -9 | some z => nI z)
    (fun n a ha => by
      obtain ⟨a1, a2, a3, ⟨f', a4⟩, r, a5, a6, a7⟩ := ha
      refine ⟨(a.1, a.2.2), ?_, a3, r, a5, ?_⟩
      · rw [To_lightestSet_L21, a1.n.2.1, zl1, b_sh _ (by omega), if_pos (nI_le (Nat.le_refl _) (by omega))]
      · cases r with
        | none => exact (a6 rfl).2
        | some z => exact (a7 z rfl).2)
    (fun n k a hk ha => by
      obtain ⟨a1, a2, a3, ⟨f', a4⟩, r, a5, a6, a7⟩ := ha
      have h6 : ¬ nI (2 ^ (T 1)) ≤ nI k := nI_ge hk (by omega)
      have hl := lof_le a1 k (Nat.le_refl _)
      obtain ⟨g2, f2, b, c1, c2, c3, c4⟩ := to_quick a4 a1 hL a2 (x := k) (m := m) (by omega) hm
      obtain ⟨r', s1, s2⟩ := lsB_s a5
      have c28 : CI T g2 28 S := a1.fm c4 (fun a k q1 q2 q => by omega) (fun a k q1 q2 q => by omega)
      have c74 : g2.1 74 2 = nI (T (47 + S 0)) := by rw [c4.2 74 2 (by omega)]; exact a2
      have f5 : Fm pT g g2 := a3.tr (c4.mo (fun a k q => by unfold pT; omega))
      have st : To_lightestSet_L21 (n + 1) a.1 (nI m) a.2.1 a.2.2 (nI k) = (if a.2.1 ≤ nI (sm (lof S k) (T 1)) then some (a.1, a.2.1, a.2.2) else (some (g2, b)).bind fun q8 => if q8.2 = true then some (q8.1, nI (sm (lof S k) (T 1)), nI k) else some (q8.1, a.2.1, a.2.2)).bind fun (q11 : am_G × Int32 × Int32) => To_lightestSet_L21 n q11.1 (nI m) q11.2.1 q11.2.2 (nI (k + 1)) := by
        rw [To_lightestSet_L21, a1.n.2.1, zl1, b_sh _ (by omega), if_neg h6, ca_leftOf a1 (by omega), Option.bind_some, c1, z_add]
      have cond : (a.2.1 ≤ nI (sm (lof S k) (T 1))) ↔ ¬ (∀ z, r = some z → sm (lof S k) (T 1) < sm (lof S z) (T 1)) := by
        cases r with
        | none =>
          rw [(a6 rfl).1, z_le (by omega) (by omega)]
          constructor
          · intro e; omega
          · intro e; exact absurd (fun z hz => by cases hz) e
        | some z =>
          have hz := lof_le a1 z (Nat.le_refl _)
          rw [(a7 z rfl).1, z_le (by omega) (by omega)]
          constructor
          · intro e q; have := q z rfl; omega
          · intro e
            refine Nat.le_of_not_lt (fun q => e (fun z' hz' => ?_))
            cases hz'; exact q
      by_cases q : a.2.1 ≤ nI (sm (lof S k) (T 1))
      · refine ⟨a, ?_, a1, a2, a3, ⟨f', a4⟩, r, ?_, a6, a7⟩
        · show To_lightestSet_L21 (n + 1) a.1 (nI m) a.2.1 a.2.2 (nI k) = _
          rw [st, if_pos q, Option.bind_some]
        · rcases s2 with ⟨-, s3, -⟩ | ⟨-, s3⟩
          · exact absurd s3 (cond.1 q)
          · rw [← s3]; exact s1
      · have q' : ∀ z, r = some z → sm (lof S k) (T 1) < sm (lof S z) (T 1) := Classical.byContradiction (fun e => q (cond.2 e))
        by_cases hbt : b = true
        · refine ⟨(g2, nI (sm (lof S k) (T 1)), nI k), ?_, c28, c74, f5, ⟨f2, c3⟩, some k, ?_, (fun e => by cases e), (fun z e => by cases e; exact ⟨rfl, rfl⟩)⟩
          · show To_lightestSet_L21 (n + 1) a.1 (nI m) a.2.1 a.2.2 (nI k) = _
            rw [st, if_neg q, Option.bind_some, if_pos hbt, Option.bind_some]
          · rcases s2 with ⟨-, -, s3⟩ | ⟨s3, -⟩
            · rw [← s3]; exact s1
            · exact absurd ⟨c2.1 hbt, q'⟩ s3
        · refine ⟨(g2, a.2.1, a.2.2), ?_, c28, c74, f5, ⟨f2, c3⟩, r, ?_, a6, a7⟩
          · show To_lightestSet_L21 (n + 1) a.1 (nI m) a.2.1 a.2.2 (nI k) = _
            rw [st, if_neg q, Option.bind_some, if_neg hbt, Option.bind_some]
          · rcases s2 with ⟨s3, -, -⟩ | ⟨-, s3⟩
            · exact absurd (c2.2 s3) hbt
            · rw [← s3]; exact s1)
    am_fuel 0 (g1, nI 1000000000, -9) (Nat.zero_le _) (z_fuel (by omega)) ⟨h28, h74, f1, ⟨_, by rw [wf_id]; exact h77⟩, none, Or.inl ⟨rfl, fun y hy => by omega⟩, fun _ => ⟨rfl, rfl⟩, fun z e => by cases e⟩
  refine ⟨r.1, z, ?_, h3, h2⟩
  rw [To_lightestSet, e1, Option.bind_some, if_pos rfl, show To_lightestSet_L21 am_fuel g1 (nI m) 1000000000 (-9) 0 = some r from h1, Option.bind_some, h4]
theorem mo_leave1 (h : RI T g (wf R f)) (hR : ∀ t, t < 7 → R (15 + t) = S (15 + t)) (hS : SW T S) (h231 : ∀ k, k < 29 → g.1 231 k = nI (S k)) (hx : x < 128) (y1 y2 y3 y4 : Int32) : ∃ g' f' b, Mo_leave_L75 am_fuel g y1 y2 y3 y4 (nI x) 0 1 0 = some (g', nI (sm (lof S x) (T 1)), b) ∧ ((b = nI 1 ∧ lmay T S x (T 1)) ∨ (b = nI 0 ∧ ¬ lmay T S x (T 1))) ∧ RI T g' (wf R f') ∧ (∀ t, t < T 1 → f' t = wx S x t) ∧ Fm pR g g' := by
  have hb := h.bb
  have hlof : ∀ k, k ≤ T 1 → sm (lof S x) k ≤ 140 := fun k hk => by
    have := sm_le (n := k) (f := lof S x) (c := 20) (fun i hi => by
      have := (hS.2.2 i (by omega)).2.1
      unfold lof
      split <;> omega)
    omega
  obtain ⟨r, h1, h2, h3, h4, h5, h6⟩ := lp_up (fun n (a : am_G × Int32 × Int32) k => Mo_leave_L75 n a.1 y1 y2 y3 y4 (nI x) a.2.1 a.2.2 (nI k)) (T 1)
    (fun k a => a.2.1 = nI (sm (lof S x) k) ∧ ((a.2.2 = nI 1 ∧ lmay T S x k) ∨ (a.2.2 = nI 0 ∧ ¬ lmay T S x k)) ∧ Fm pR g a.1 ∧ ∃ f', RI T a.1 (wf R f') ∧ ∀ t, t < k → f' t = wx S x t)
    (fun a => a.2.1 = nI (sm (lof S x) (T 1)) ∧ ((a.2.2 = nI 1 ∧ lmay T S x (T 1)) ∨ (a.2.2 = nI 0 ∧ ¬ lmay T S x (T 1))) ∧ Fm pR g a.1 ∧ ∃ f', RI T a.1 (wf R f') ∧ ∀ t, t < T 1 → f' t = wx S x t)
    (fun n a ha => by
      obtain ⟨a0, a1, a2, f', a3, a4⟩ := id ha
      exact ⟨a, by rw [Mo_leave_L75]; simp (disch := omega) only [a3.u, z_lt, z_le, z_eq, z_in, z_cl, z_add, z_mul, z_mx, z_mn, zl12, zl18, zl19, zl30, zl115, zl116, zl119, zl291, zl640, zl999, zl9999, zl0, zl1, zl2, zl3, zl4, zl5, zl6, zl7, zl8, zl9, zl10, zl15, zl20, zl22, zl26, zl29, zl32, zl33, zl40, zl47, zl48, zl55, zl57, zl59, zl60, zl63, zl71, zl97, zl99, zl100, zl122, zl200, zl255, zl320, zl1000, zl1024, zl5040, zl1000000000, Nat.le_refl, ↓reduceIte], ha⟩)
    (fun n k a hk ha => by
      obtain ⟨a0, a1, a2, f', a3, a4⟩ := ha
      have h6 : ¬ T 1 ≤ k := by omega
      have hl := hlof k (by omega)
      have w2 := hS.2.2 k hk
      have w3 := h.1.2.2.2.2.1 k hk
      have e31 : a.1.1 231 (8 + k) = nI (S (8 + k)) := by rw [a2.2 231 _ (by unfold pR; omega)]; exact h231 _ (by omega)
      have e15 : wf R f' (15 + k) = S (15 + k) := by rw [wf_ne (by omega), hR k (by omega)]
      have c2 := a3.wr (j := 8 + k) (v := wx S x k) (a3.2.2.1.upW a3.1 hk (by unfold wx; split; exact Or.inr rfl; exact w2.1))
      rw [wf_up (by omega)] at c2
      have fin : ∀ b, Mo_leave_L75 (n + 1) a.1 y1 y2 y3 y4 (nI x) a.2.1 a.2.2 (nI k) = Mo_leave_L75 n (am_wr a.1 225 (8 + k) (nI (wx S x k))) y1 y2 y3 y4 (nI x) (nI (sm (lof S x) (k + 1))) b (nI (k + 1)) → ((b = nI 1 ∧ lmay T S x (k + 1)) ∨ (b = nI 0 ∧ ¬ lmay T S x (k + 1))) → ∃ a' : am_G × Int32 × Int32, Mo_leave_L75 (n + 1) a.1 y1 y2 y3 y4 (nI x) a.2.1 a.2.2 (nI k) = Mo_leave_L75 n a'.1 y1 y2 y3 y4 (nI x) a'.2.1 a'.2.2 (nI (k + 1)) ∧ a'.2.1 = nI (sm (lof S x) (k + 1)) ∧ ((a'.2.2 = nI 1 ∧ lmay T S x (k + 1)) ∨ (a'.2.2 = nI 0 ∧ ¬ lmay T S x (k + 1))) ∧ Fm pR g a'.1 ∧ ∃ f', RI T a'.1 (wf R f') ∧ ∀ t, t < k + 1 → f' t = wx S x t := by
        intro b z1 z2
        refine ⟨(_, _, b), z1, rfl, z2, a2.wr (Or.inl ⟨rfl, by omega⟩), up f' k (wx S x k), c2, fun t ht => ?_⟩
        by_cases e : t = k
        · subst e; rw [up_eq]
        · rw [up_ne e]; exact a4 t (by omega)
      by_cases q : x / 2 ^ k % 2 = 1
      · have ew : wx S x k = 9 := by rw [wx, if_pos q]
        have el : sm (lof S x) (k + 1) = sm (lof S x) k + S (15 + k) := by rw [sm_s, lof, if_pos q]
        rcases a1 with ⟨b1, b2⟩ | ⟨b1, b2⟩
        · by_cases q1 : T (26 + k) = 0
          · by_cases q2 : S (8 + k) = 9
            · refine fin (nI 0) ?_ (Or.inr ⟨rfl, fun e => (e k (by omega) q).2 q2⟩)
              rw [Mo_leave_L75, a0, b1, ew, el]
              simp (disch := omega) only [a3.u, a3.r, b_get, z_lt, z_le, z_eq, z_in, z_cl, z_add, z_mul, z_mx, z_mn, zl12, zl18, zl19, zl30, zl115, zl116, zl119, zl291, zl640, zl999, zl9999, zl0, zl1, zl2, zl3, zl4, zl5, zl6, zl7, zl8, zl9, zl10, zl15, zl20, zl22, zl26, zl29, zl32, zl33, zl40, zl47, zl48, zl55, zl57, zl59, zl60, zl63, zl71, zl97, zl99, zl100, zl122, zl200, zl255, zl320, zl1000, zl1024, zl5040, zl1000000000, h6, q, q1, q2, e31, e15, Option.bind_some, Option.bind_none, ↓reduceIte, Bool.false_eq_true, reduceCtorEq, Nat.one_ne_zero]
            · refine fin (nI 1) ?_ (Or.inl ⟨rfl, (lmay_s k).2 ⟨b2, fun _ => ⟨q1, q2⟩⟩⟩)
              rw [Mo_leave_L75, a0, b1, ew, el]
              simp (disch := omega) only [a3.u, a3.r, b_get, z_lt, z_le, z_eq, z_in, z_cl, z_add, z_mul, z_mx, z_mn, zl12, zl18, zl19, zl30, zl115, zl116, zl119, zl291, zl640, zl999, zl9999, zl0, zl1, zl2, zl3, zl4, zl5, zl6, zl7, zl8, zl9, zl10, zl15, zl20, zl22, zl26, zl29, zl32, zl33, zl40, zl47, zl48, zl55, zl57, zl59, zl60, zl63, zl71, zl97, zl99, zl100, zl122, zl200, zl255, zl320, zl1000, zl1024, zl5040, zl1000000000, h6, q, q1, q2, e31, e15, Option.bind_some, Option.bind_none, ↓reduceIte, Bool.false_eq_true, reduceCtorEq, Nat.one_ne_zero]
          · refine fin (nI 0) ?_ (Or.inr ⟨rfl, fun e => q1 (e k (by omega) q).1⟩)
            rw [Mo_leave_L75, a0, b1, ew, el]
            simp (disch := omega) only [a3.u, a3.r, b_get, z_lt, z_le, z_eq, z_in, z_cl, z_add, z_mul, z_mx, z_mn, zl12, zl18, zl19, zl30, zl115, zl116, zl119, zl291, zl640, zl999, zl9999, zl0, zl1, zl2, zl3, zl4, zl5, zl6, zl7, zl8, zl9, zl10, zl15, zl20, zl22, zl26, zl29, zl32, zl33, zl40, zl47, zl48, zl55, zl57, zl59, zl60, zl63, zl71, zl97, zl99, zl100, zl122, zl200, zl255, zl320, zl1000, zl1024, zl5040, zl1000000000, h6, q, q1, e31, e15, Option.bind_some, Option.bind_none, ↓reduceIte, Bool.false_eq_true, reduceCtorEq, Nat.one_ne_zero]
        · refine fin (nI 0) ?_ (Or.inr ⟨rfl, fun e => b2 ((lmay_s k).1 e).1⟩)
          rw [Mo_leave_L75, a0, b1, ew, el]
          simp (disch := omega) only [a3.u, a3.r, b_get, z_lt, z_le, z_eq, z_in, z_cl, z_add, z_mul, z_mx, z_mn, zl12, zl18, zl19, zl30, zl115, zl116, zl119, zl291, zl640, zl999, zl9999, zl0, zl1, zl2, zl3, zl4, zl5, zl6, zl7, zl8, zl9, zl10, zl15, zl20, zl22, zl26, zl29, zl32, zl33, zl40, zl47, zl48, zl55, zl57, zl59, zl60, zl63, zl71, zl97, zl99, zl100, zl122, zl200, zl255, zl320, zl1000, zl1024, zl5040, zl1000000000, h6, q, e31, e15, Option.bind_some, Option.bind_none, ↓reduceIte, Bool.false_eq_true, reduceCtorEq, Nat.one_ne_zero]
      · have ew : wx S x k = S (8 + k) := by rw [wx, if_neg q]
        have el : sm (lof S x) (k + 1) = sm (lof S x) k + 0 := by rw [sm_s, lof, if_neg q]
        rcases a1 with ⟨b1, b2⟩ | ⟨b1, b2⟩
        · refine fin (nI 1) ?_ (Or.inl ⟨rfl, (lmay_s k).2 ⟨b2, fun e => absurd e q⟩⟩)
          rw [Mo_leave_L75, a0, b1, ew, el]
          simp (disch := omega) only [a3.u, a3.r, b_get, z_lt, z_le, z_eq, z_in, z_cl, z_add, z_mul, z_mx, z_mn, zl12, zl18, zl19, zl30, zl115, zl116, zl119, zl291, zl640, zl999, zl9999, zl0, zl1, zl2, zl3, zl4, zl5, zl6, zl7, zl8, zl9, zl10, zl15, zl20, zl22, zl26, zl29, zl32, zl33, zl40, zl47, zl48, zl55, zl57, zl59, zl60, zl63, zl71, zl97, zl99, zl100, zl122, zl200, zl255, zl320, zl1000, zl1024, zl5040, zl1000000000, h6, q, e31, e15, Option.bind_some, Option.bind_none, ↓reduceIte, Bool.false_eq_true, reduceCtorEq, Nat.one_ne_zero]
        · refine fin (nI 0) ?_ (Or.inr ⟨rfl, fun e => b2 ((lmay_s k).1 e).1⟩)
          rw [Mo_leave_L75, a0, b1, ew, el]
          simp (disch := omega) only [a3.u, a3.r, b_get, z_lt, z_le, z_eq, z_in, z_cl, z_add, z_mul, z_mx, z_mn, zl12, zl18, zl19, zl30, zl115, zl116, zl119, zl291, zl640, zl999, zl9999, zl0, zl1, zl2, zl3, zl4, zl5, zl6, zl7, zl8, zl9, zl10, zl15, zl20, zl22, zl26, zl29, zl32, zl33, zl40, zl47, zl48, zl55, zl57, zl59, zl60, zl63, zl71, zl97, zl99, zl100, zl122, zl200, zl255, zl320, zl1000, zl1024, zl5040, zl1000000000, h6, q, e31, e15, Option.bind_some, Option.bind_none, ↓reduceIte, Bool.false_eq_true, reduceCtorEq, Nat.one_ne_zero])
    am_fuel 0 (g, 0, 1) (by omega) (z_fuel (by omega)) ⟨rfl, Or.inl ⟨rfl, fun t ht => by omega⟩, Fm.rf _ _, f, h, fun t ht => by omega⟩
  exact ⟨r.1, h5, r.2.2, by rw [← h2]; exact h1, h3, h6.1, h6.2, h4⟩
theorem mo_leaveL (h : RI T g R) (hR0 : R 0 = S 0) (hR : ∀ t, t < 7 → R (15 + t) = S (15 + t)) (hS : SW T S) (hd : S 0 < T 2) (h231 : ∀ k, k < 29 → g.1 231 k = nI (S k)) (hm : m ≤ 999) (y : Int32) (h9 : ∀ k, k < 2 ^ 31 → ¬ nI k = -9) : ∃ g' r, Mo_leave_L53 am_fuel g (nI m) y (-9) 0 0 = some (g', (match r with | none => -9 | some z => nI z), (match r with | none => 0 | some z => nI (sm (lof S z) (T 1)))) ∧ lsB T S R (T (47 + S 0)) m (2 ^ (T 1)) r ∧ Fm pR g g' := by
  have hb := h.bb
  have hL := h.db hd
  have hp := p2_le (T := T) hb.2.1
  have hlof : ∀ x, sm (lof S x) (T 1) ≤ 140 := fun x => by
    have := sm_le (n := T 1) (f := lof S x) (c := 20) (fun i hi => by
      have := (hS.2.2 i (by omega)).2.1
      unfold lof
      split <;> omega)
    omega
  obtain ⟨r, h1, h2, z, h3, h4⟩ := lp_up (fun n (a : am_G × Int32 × Int32) k => Mo_leave_L53 n a.1 (nI m) y a.2.1 a.2.2 (nI k)) (2 ^ (T 1))
    (fun k a => Fm pR g a.1 ∧ (∃ f', RI T a.1 (wf R f')) ∧ ∃ r, lsB T S R (T (47 + S 0)) m k r ∧ (a.2.1, a.2.2) = ((match r with | none => -9 | some z => nI z), (match r with | none => 0 | some z => nI (sm (lof S z) (T 1)))))
    (fun b => Fm pR g b.1 ∧ ∃ r, lsB T S R (T (47 + S 0)) m (2 ^ (T 1)) r ∧ (b.2.1, b.2.2) = ((match r with | none => -9 | some z => nI z), (match r with | none => 0 | some z => nI (sm (lof S z) (T 1)))))
    (fun n a ha => by
      obtain ⟨a1, ⟨f', a2⟩, r, a3, a4⟩ := ha
      refine ⟨a, ?_, a1, r, a3, a4⟩
      rw [Mo_leave_L53, a2.u (by omega), zl1, b_sh _ (by omega), if_pos (nI_le (Nat.le_refl _) (by omega))])
    (fun n k a hk ha => by
      obtain ⟨a1, ⟨f', a2⟩, r, a3, a4⟩ := ha
      obtain ⟨a5, a6⟩ := Prod.mk.inj a4
      have h6 : ¬ nI (2 ^ (T 1)) ≤ nI k := nI_ge hk (by omega)
      obtain ⟨g2, f2, b, c1, c2, c3, c4, c5⟩ := mo_leave1 a2 hR hS (fun j hj => by rw [a1.2 231 j (by unfold pR; omega)]; exact h231 j hj) (x := k) (by omega) (nI m) y a.2.1 a.2.2
      obtain ⟨r', s1, s2⟩ := lsB_s a3
      have es : slo T (wf R f2) (T (47 + S 0)) = slo T (wf R (wx S k)) (T (47 + S 0)) := slo_eq ⟨fun k hk => by rw [wf_ne (by omega), wf_ne (by omega)], fun k hk => by rw [wf_ne (by omega), wf_ne (by omega)], fun t ht => by rw [wf_at (by omega), wf_at (by omega), wf_ne (by omega), wf_ne (by omega), wf_ne (by omega), wf_ne (by omega)]; exact ⟨c4 t ht, rfl, rfl⟩⟩ _
      have hs : slo T (wf R (wx S k)) (T (47 + S 0)) ≤ 1200 := slo_le hL.1 (T 0)
      have d0 : g2.1 225 0 = nI (S 0) := by rw [c3.r (by omega), wf_ne (by omega), hR0]
      have e6 : Mo_slowest g2 (nI (T (47 + S 0))) = some (nI (slo T (wf R (wx S k)) (T (47 + S 0)))) := by rw [mo_slowest c3 hL.1, es]
      have lk := hlof k
      have st : ∀ q : Bool, (q = true ↔ (lok T S R (T (47 + S 0)) m k ∧ ∀ z, r = some z → sm (lof S k) (T 1) < sm (lof S z) (T 1))) → Mo_leave_L53 (n + 1) a.1 (nI m) y a.2.1 a.2.2 (nI k) = Mo_leave_L53 n g2 (nI m) y (if q = true then nI k else a.2.1) (if q = true then nI (sm (lof S k) (T 1)) else a.2.2) (nI (k + 1)) := by
        intro q hq
        rw [Mo_leave_L53, a2.u (by omega), show (1 : Int32) <<< (nI (T 1) &&& 31) = nI (2 ^ T 1) from b_sh _ (by omega), if_neg h6, c1, Option.bind_some, d0, zl47, z_add, z_in (show 47 + S 0 < 71 by omega) (by omega), z_cl (by omega), c3.u (by omega), e6]
        have tail : ∀ v : Int32, ((v = nI 1 ∧ q = true) ∨ (v = nI 0 ∧ ¬ q = true)) → Mo_leave_L53 n g2 (nI m) y (if v = 0 then a.2.1 else nI k) (if v = 0 then a.2.2 else nI (sm (lof S k) (T 1))) (nI k + 1) = Mo_leave_L53 n g2 (nI m) y (if q = true then nI k else a.2.1) (if q = true then nI (sm (lof S k) (T 1)) else a.2.2) (nI (k + 1)) := by
          intro v hv
          rcases hv with ⟨rfl, hq⟩ | ⟨rfl, hq⟩
          · rw [if_neg (by decide), if_neg (by decide), if_pos hq, if_pos hq, nI_1]
          · rw [if_pos (show nI 0 = 0 from rfl), if_pos (show nI 0 = 0 from rfl), if_neg hq, if_neg hq, nI_1]
        rcases c2 with ⟨rfl, b2⟩ | ⟨rfl, b2⟩
        · simp only [show ¬ nI 1 = 0 by decide, ↓reduceIte, Option.bind_some]
          by_cases qs : m < slo T (wf R (wx S k)) (T (47 + S 0))
          · have qs' : nI m < nI (slo T (wf R (wx S k)) (T (47 + S 0))) := nI_lt qs (by omega)
            have nq : ¬ q = true := fun e => by have := (hq.1 e).1.2; omega
            simp only [qs', ↓reduceIte]
            by_cases e9 : a.2.1 = -9
            · simp only [e9, ↓reduceIte, Option.bind_some]; rw [← e9]; exact tail _ (Or.inr ⟨rfl, nq⟩)
            · simp only [e9, ↓reduceIte]
              by_cases e8 : a.2.2 ≤ nI (sm (lof S k) (T 1))
              · simp only [e8, ↓reduceIte, Option.bind_some]; exact tail _ (Or.inr ⟨rfl, nq⟩)
              · simp only [e8, ↓reduceIte, Option.bind_some]; exact tail _ (Or.inr ⟨rfl, nq⟩)
          · have qs' : ¬ nI m < nI (slo T (wf R (wx S k)) (T (47 + S 0))) := nI_nlt (by omega) (by omega)
            have lk' : lok T S R (T (47 + S 0)) m k := ⟨b2, by omega⟩
            simp only [qs', ↓reduceIte]
            cases r with
            | none =>
              have e9 : a.2.1 = -9 := a5
              have hqt : q = true := hq.2 ⟨lk', fun z hz => by cases hz⟩
              simp only [e9, ↓reduceIte, Option.bind_some]; rw [← e9]; exact tail _ (Or.inl ⟨rfl, hqt⟩)
            | some z =>
              have hz : z < 2 ^ (T 1) := by
                rcases a3 with ⟨e, -⟩ | ⟨z', e, e2, -⟩
                · cases e
                · cases e; omega
              have e9 : ¬ a.2.1 = -9 := by rw [show a.2.1 = nI z from a5]; exact h9 z (by omega)
              have lz := hlof z
              simp only [e9, ↓reduceIte]
              by_cases e8 : sm (lof S z) (T 1) ≤ sm (lof S k) (T 1)
              · have e8' : a.2.2 ≤ nI (sm (lof S k) (T 1)) := by rw [show a.2.2 = nI (sm (lof S z) (T 1)) from a6]; exact nI_le e8 (by omega)
                have nq : ¬ q = true := fun e => by have := (hq.1 e).2 z rfl; omega
                simp only [e8', ↓reduceIte, Option.bind_some]; exact tail _ (Or.inr ⟨rfl, nq⟩)
              · have e8' : ¬ a.2.2 ≤ nI (sm (lof S k) (T 1)) := by rw [show a.2.2 = nI (sm (lof S z) (T 1)) from a6]; exact nI_ge (by omega) (by omega)
                have hqt : q = true := hq.2 ⟨lk', fun z' hz' => by cases hz'; omega⟩
                simp only [e8', ↓reduceIte, Option.bind_some]; exact tail _ (Or.inl ⟨rfl, hqt⟩)
        · simp only [show nI 0 = 0 from rfl, ↓reduceIte, Option.bind_some]
          have nq : ¬ q = true := fun e => b2 (hq.1 e).1.1
          exact tail _ (Or.inr ⟨rfl, nq⟩)
      rcases s2 with ⟨s3, s4, s5⟩ | ⟨s3, s5⟩
      · refine ⟨(g2, nI k, nI (sm (lof S k) (T 1))), ?_, a1.tr c5, ⟨f2, c3⟩, some k, by rw [← s5]; exact s1, rfl⟩
        have := st true ⟨fun _ => ⟨s3, s4⟩, fun _ => rfl⟩
        rw [if_pos rfl, if_pos rfl] at this
        exact this
      · refine ⟨(g2, a.2.1, a.2.2), ?_, a1.tr c5, ⟨f2, c3⟩, r, by rw [← s5]; exact s1, a4⟩
        have := st false ⟨fun e => by simp at e, fun e => absurd e s3⟩
        rw [if_neg (by simp), if_neg (by simp)] at this
        exact this)
    am_fuel 0 (g, -9, 0) (Nat.zero_le _) (z_fuel (by omega)) ⟨Fm.rf _ _, ⟨_, by rw [wf_id]; exact h⟩, none, Or.inl ⟨rfl, fun y hy => by omega⟩, rfl⟩
  obtain ⟨a5, a6⟩ := Prod.mk.inj h4
  exact ⟨r.1, z, by rw [← a5, ← a6]; exact h1, h3, h2⟩
end
def lr9 (r : Option Nat) (f : Nat → Int32) : Int32 := match r with | none => -9 | some z => f z
theorem n9 (k : Nat) (hk : k < 2 ^ 31) : ¬ nI k = -9 := fun e => by
  have h1 := nI_pos (n := k) hk
  rw [e] at h1
  exact h1 (by decide)
theorem sp_leave (g : am_G) (y1 y2 : Int32) (h : Inv g) : ∃ g1 g2 r, Tb_leave g y1 y2 = some (g1, r) ∧ Mo_leave g1 y1 y2 = some (g2, r) ∧ Inv g2 := by
  have hI := h
  obtain ⟨T, S, n, P, h⟩ := h
  have hb := h.c.bb
  rcases w_li g (lo := 0) (hi := 999) (by omega) (by omega) y1 with ⟨m, -, hm, rfl, e1⟩ | ⟨-, e1⟩
  · have e1' : Tb_isWithin g (nI m) 0 999 = some true := e1
    rcases w_01 g y2 with ⟨j, hj, rfl, e2, e3⟩ | ⟨e2, e3⟩
    · by_cases q : S 0 < T 2
      · have hL := h.r.db q
        have hp := p2_le (T := T) hb.2.1
        obtain ⟨g1, r, c1, c2, c3⟩ := to_lightest h.c q hm
        have f1 : Fs g g1 := c3.s (fun a k q => by unfold pT at q; unfold scr; omega)
        have h1 := h.fs f1
        obtain ⟨g2, d1, d2, d3⟩ := mo_holds g1
        have r2 : RI T g2 S := h1.r.fm d3 (fun k q => absurd (show (223 : Nat) = 231 from q) (by decide)) (fun k _ q => absurd (show (225 : Nat) = 231 from q) (by decide))
        obtain ⟨g3, a1, a2, a3⟩ := mo_rains r2 (decide (T (55 + S 0) = 1))
        have a2' : RI T g3 (wk T S) := a2
        obtain ⟨g4, r', b1, b2, b3⟩ := mo_leaveL a2' (wk_lo (by omega)) (fun t ht => wk_lo (by omega)) h.2.2.2.1.2.1 q (fun k hk => by rw [a3.2 231 k (by unfold pR; omega), d2 k hk]; exact h1.r.r hk) hm (nI j) n9
        have er := lsB_un b2 c2
        subst er
        have fw : Fm pW g2 g4 := (a3.tr b3).mo (fun a k q => by rcases q with q | q; exact Or.inl q; exact Or.inr (Or.inr q))
        obtain ⟨g5, l1, l2, l3, l4⟩ := mo_round d2 d3 fw
        have hz : ∀ z, r' = some z → z < 128 := fun z hz => by
          rcases b2 with ⟨e, -⟩ | ⟨z', e, e2, -⟩
          · rw [hz] at e; cases e
          · rw [hz] at e; cases e; omega
        refine ⟨g1, g5, lr9 r' (fun z => if j = 0 then nI z else nI (sm (lof S z) (T 1))), ?_, ?_, T, S, n, P, h1.fs l2⟩
        · rw [Tb_leave, e1', Option.bind_some, if_pos rfl, e2, Option.bind_some, if_pos rfl, c1, Option.bind_some]
          cases r' with
          | none => rfl
          | some z =>
            have hz' := hz z rfl
            simp only [lr9]
            rw [if_neg (n9 z (by omega))]
            have : j = 0 ∨ j = 1 := by omega
            rcases this with rfl | rfl
            · rw [if_pos (show nI 0 = 0 from rfl), if_pos rfl]
            · rw [if_neg (show ¬ nI 1 = 0 by decide), if_neg (by omega), ca_leftOf h1.c (by omega)]; rfl
        · rw [Mo_leave, wi g, e1', Option.bind_some, if_pos rfl, wi g, e3, Option.bind_some, if_pos rfl, mo_isStage h1.r, Option.bind_some, if_pos (decide_eq_true q), d1, Option.bind_some, mo_isRain r2 q, Option.bind_some, a1, Option.bind_some, b1, Option.bind_some, l1, Option.bind_some]
          cases r' with
          | none => rfl
          | some z =>
            have hz' := hz z rfl
            simp only [lr9]
            rw [if_neg (n9 z (by omega))]
            have : j = 0 ∨ j = 1 := by omega
            rcases this with rfl | rfl
            · rw [if_pos (show nI 0 = 0 from rfl), if_pos rfl]
            · rw [if_neg (show ¬ nI 1 = 0 by decide), if_neg (by omega)]
      · refine ⟨g, g, -9, ?_, ?_, hI⟩
        · rw [Tb_leave, e1', Option.bind_some, if_pos rfl, e2, Option.bind_some, if_pos rfl, To_lightestSet, To_wake, ca_hasStage h.c, Option.bind_some, if_neg (by simpa using q)]; rfl
        · rw [Mo_leave, wi g, e1', Option.bind_some, if_pos rfl, wi g, e3, Option.bind_some, if_pos rfl, mo_isStage h.r, Option.bind_some, if_neg (by simpa using q)]
    · exact ⟨g, g, -1, by rw [Tb_leave, e1', Option.bind_some, if_pos rfl, e2]; rfl, by rw [Mo_leave, wi g, e1', Option.bind_some, if_pos rfl, wi g, e3]; rfl, hI⟩
  · have e1' : Tb_isWithin g y1 0 999 = some false := e1
    exact ⟨g, g, -1, by rw [Tb_leave, e1']; rfl, by rw [Mo_leave, wi g, e1']; rfl, hI⟩
