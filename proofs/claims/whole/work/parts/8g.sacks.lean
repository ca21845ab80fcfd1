-- SACKS
def IBf (T : Nat → Nat) (g : am_G) (B : Nat) (bw bl bm : Nat → Nat) : Prop := B ≤ 6 ∧ g.1 121 2 = nI B ∧ g.1 221 9 = nI B ∧ ∀ i, i < B → bw i < T 0 ∧ bl i ≤ 20 ∧ bm i ≤ 999 ∧ g.1 122 i = nI (bw i) ∧ g.1 123 i = nI (bl i) ∧ g.1 124 i = nI (bm i) ∧ g.1 228 (3 * i) = nI (bw i) ∧ g.1 228 (3 * i + 1) = nI (bl i) ∧ g.1 228 (3 * i + 2) = nI (bm i)
theorem IB.f {T : Nat → Nat} {g : am_G} (h : IB T g) : ∃ B bw bl bm, IBf T g B bw bl bm := by
  obtain ⟨B, h1, h2, h3, h4⟩ := h
  have : ∀ i, ∃ p : Nat × Nat × Nat, i < B → p.1 < T 0 ∧ p.2.1 ≤ 20 ∧ p.2.2 ≤ 999 ∧ g.1 122 i = nI p.1 ∧ g.1 123 i = nI p.2.1 ∧ g.1 124 i = nI p.2.2 ∧ g.1 228 (3 * i) = nI p.1 ∧ g.1 228 (3 * i + 1) = nI p.2.1 ∧ g.1 228 (3 * i + 2) = nI p.2.2 := by
    intro i
    by_cases q : i < B
    · obtain ⟨w, l, m, k⟩ := h4 i q
      exact ⟨(w, l, m), fun _ => k⟩
    · exact ⟨(0, 0, 0), fun e => absurd e q⟩
  exact ⟨B, fun i => (this i).choose.1, fun i => (this i).choose.2.1, fun i => (this i).choose.2.2, h1, h2, h3, fun i hi => (this i).choose_spec hi⟩
def so1 (T R bw bl : Nat → Nat) (i : Nat) : Nat := tks (bl i) (pac T R (bw i) (lod T R (bw i)))
def sob (T R bw bl bm : Nat → Nat) : Nat → Bool
  | 0 => true
  | n + 1 => sob T R bw bl bm n && decide (so1 T R bw bl n = bm n)
def okb (T S : Nat → Nat) (B : Nat) (bw bl bm : Nat → Nat) (t w : Nat) : Bool := decide (S (8 + t) ≠ 9 ∧ S (8 + t) ≠ w) && sob T (up S (8 + t) w) bw bl bm B
def pre (t w t' w' : Nat) : Prop := t' < t ∨ (t' = t ∧ w' < w)
def bn (b : Bool) : Nat := if b = true then 1 else 0
section
variable {T S R bw bl bm : Nat → Nat} {g g' : am_G} {B t w v : Nat}
theorem sob_f {n m : Nat} (h : sob T R bw bl bm n = false) (hn : n ≤ m) : sob T R bw bl bm m = false := by
  induction m with
  | zero => have : n = 0 := by omega
            subst this; exact h
  | succ m ih =>
    by_cases e : n = m + 1
    · subst e; exact h
    · simp only [sob]; rw [ih (by omega)]; rfl
theorem bo_isSo (h : CI T g 125 R) (hB : IBf T g B bw bl bm) : Bo_isSo g = some (sob T R bw bl bm B) := by
  have hb := h.bb
  obtain ⟨b0, b1, b2, b3⟩ := hB
  obtain ⟨r, h1, h2⟩ := lp_ex (fun n (_ : Unit) k => Bo_isSo_L2 n g (nI k)) B (fun k _ => sob T R bw bl bm k = true) (fun r => (r = .inl () ∧ sob T R bw bl bm B = true) ∨ (r = .inr false ∧ sob T R bw bl bm B = false))
    (fun n a ha => ⟨.inl (), by rw [Bo_isSo_L2]; simp (disch := omega) only [b1, z_lt, z_le, z_eq, z_in, z_cl, z_add, z_mul, z_mx, z_mn, zl12, zl18, zl19, zl30, zl115, zl116, zl119, zl291, zl640, zl999, zl9999, zl0, zl1, zl2, zl3, zl4, zl5, zl6, zl7, zl8, zl9, zl10, zl15, zl20, zl22, zl26, zl29, zl32, zl33, zl40, zl47, zl48, zl55, zl57, zl59, zl60, zl63, zl71, zl97, zl99, zl100, zl122, zl200, zl255, zl320, zl1000, zl1024, zl5040, zl1000000000, Nat.le_refl, ↓reduceIte], Or.inl ⟨rfl, ha⟩⟩)
    (fun n k a hk ha => by
      have h6 : ¬ B ≤ k := by omega
      obtain ⟨c1, c2, c3, c4, c5, c6, -⟩ := b3 k hk
      have hl := h.ld (bw k)
      have e1 := ca_minutesFor h c1 (l := lod T R (bw k)) (by omega) c2
      have t1 := tks_le c2 (pac_le T R (bw k) (lod T R (bw k))).1
      by_cases q : so1 T R bw bl k = bm k
      · left
        refine ⟨(), ?_, by simp only [sob]; rw [ha, decide_eq_true q]; rfl⟩
        have q' : tks (bl k) (pac T R (bw k) (lod T R (bw k))) = bm k := q
        rw [Bo_isSo_L2]
        simp (disch := omega) only [b1, z_lt, z_le, z_eq, z_in, z_cl, z_add, z_mul, z_mx, z_mn, zl12, zl18, zl19, zl30, zl115, zl116, zl119, zl291, zl640, zl999, zl9999, zl0, zl1, zl2, zl3, zl4, zl5, zl6, zl7, zl8, zl9, zl10, zl15, zl20, zl22, zl26, zl29, zl32, zl33, zl40, zl47, zl48, zl55, zl57, zl59, zl60, zl63, zl71, zl97, zl99, zl100, zl122, zl200, zl255, zl320, zl1000, zl1024, zl5040, zl1000000000, h6, c4, c5, c6, ca_load h, e1, q', Option.bind_some, Option.bind_none, ↓reduceIte, Bool.false_eq_true, reduceCtorEq]
      · right
        refine ⟨.inr false, ?_, Or.inr ⟨rfl, sob_f (n := k + 1) (by simp only [sob]; rw [decide_eq_false q, Bool.and_false]) hk⟩⟩
        have q' : ¬ tks (bl k) (pac T R (bw k) (lod T R (bw k))) = bm k := q
        rw [Bo_isSo_L2]
        simp (disch := omega) only [b1, z_lt, z_le, z_eq, z_in, z_cl, z_add, z_mul, z_mx, z_mn, zl12, zl18, zl19, zl30, zl115, zl116, zl119, zl291, zl640, zl999, zl9999, zl0, zl1, zl2, zl3, zl4, zl5, zl6, zl7, zl8, zl9, zl10, zl15, zl20, zl22, zl26, zl29, zl32, zl33, zl40, zl47, zl48, zl55, zl57, zl59, zl60, zl63, zl71, zl97, zl99, zl100, zl122, zl200, zl255, zl320, zl1000, zl1024, zl5040, zl1000000000, h6, c4, c5, c6, ca_load h, e1, q', Option.bind_some, Option.bind_none, ↓reduceIte, Bool.false_eq_true, reduceCtorEq])
    am_fuel 0 () (by omega) (z_fuel (by omega)) rfl
  rw [Bo_isSo]
  rw [show Bo_isSo_L2 am_fuel g 0 = some r from h1]
  rcases h2 with ⟨rfl, k⟩ | ⟨rfl, k⟩
  · rw [k]; rfl
  · rw [k]; rfl
theorem mo_isSo (h : RI T g R) (hB : IBf T g B bw bl bm) : Mo_isSo g = some (sob T R bw bl bm B) := by
  have hb := h.bb
  obtain ⟨b0, b1, b2, b3⟩ := hB
  obtain ⟨r, h1, h2⟩ := lp_up (fun n (a : Int32) k => Mo_isSo_L4 n g a (nI k)) B (fun k a => a = nI (bn (sob T R bw bl bm k))) (fun r => r = nI (bn (sob T R bw bl bm B)))
    (fun n a ha => ⟨a, by rw [Mo_isSo_L4]; simp (disch := omega) only [b2, z_lt, z_le, z_eq, z_in, z_cl, z_add, z_mul, z_mx, z_mn, zl12, zl18, zl19, zl30, zl115, zl116, zl119, zl291, zl640, zl999, zl9999, zl0, zl1, zl2, zl3, zl4, zl5, zl6, zl7, zl8, zl9, zl10, zl15, zl20, zl22, zl26, zl29, zl32, zl33, zl40, zl47, zl48, zl55, zl57, zl59, zl60, zl63, zl71, zl97, zl99, zl100, zl122, zl200, zl255, zl320, zl1000, zl1024, zl5040, zl1000000000, Nat.le_refl, ↓reduceIte], ha⟩)
    (fun n k a hk ha => by
      have h6 : ¬ B ≤ k := by omega
      obtain ⟨c1, c2, c3, -, -, -, c4, c5, c6⟩ := b3 k hk
      have hl := h.ld (bw k)
      have hp := pac_le T R (bw k) (lod T R (bw k))
      have t1 := tks_le c2 hp.1
      refine ⟨_, ?_, rfl⟩
      simp only [sob]
      rw [Mo_isSo_L4, ha]
      by_cases q0 : sob T R bw bl bm k = true
      · rw [q0]
        by_cases q : so1 T R bw bl k = bm k
        · have q' : tks (bl k) (pac T R (bw k) (lod T R (bw k))) = bm k := q
          rw [decide_eq_true q]
          simp (disch := omega) only [bn, b2, z_lt, z_le, z_eq, z_in, z_cl, z_add, z_mul, z_mx, z_mn, zl12, zl18, zl19, zl30, zl115, zl116, zl119, zl291, zl640, zl999, zl9999, zl0, zl1, zl2, zl3, zl4, zl5, zl6, zl7, zl8, zl9, zl10, zl15, zl20, zl22, zl26, zl29, zl32, zl33, zl40, zl47, zl48, zl55, zl57, zl59, zl60, zl63, zl71, zl97, zl99, zl100, zl122, zl200, zl255, zl320, zl1000, zl1024, zl5040, zl1000000000, h6, c4, c5, c6, mo_load h, mo_pl h c1, mo_takes c2, q', Option.bind_some, Option.bind_none, ↓reduceIte, Bool.false_eq_true, reduceCtorEq, Nat.one_ne_zero, Bool.and_self]
        · have q' : ¬ tks (bl k) (pac T R (bw k) (lod T R (bw k))) = bm k := q
          rw [decide_eq_false q]
          simp (disch := omega) only [bn, b2, z_lt, z_le, z_eq, z_in, z_cl, z_add, z_mul, z_mx, z_mn, zl12, zl18, zl19, zl30, zl115, zl116, zl119, zl291, zl640, zl999, zl9999, zl0, zl1, zl2, zl3, zl4, zl5, zl6, zl7, zl8, zl9, zl10, zl15, zl20, zl22, zl26, zl29, zl32, zl33, zl40, zl47, zl48, zl55, zl57, zl59, zl60, zl63, zl71, zl97, zl99, zl100, zl122, zl200, zl255, zl320, zl1000, zl1024, zl5040, zl1000000000, h6, c4, c5, c6, mo_load h, mo_pl h c1, mo_takes c2, q', Option.bind_some, Option.bind_none, ↓reduceIte, Bool.false_eq_true, reduceCtorEq, Nat.one_ne_zero, Bool.and_false]
      · rw [Bool.not_eq_true] at q0
        rw [q0]
        simp (disch := omega) only [bn, b2, z_lt, z_le, z_eq, z_in, z_cl, z_add, z_mul, z_mx, z_mn, zl12, zl18, zl19, zl30, zl115, zl116, zl119, zl291, zl640, zl999, zl9999, zl0, zl1, zl2, zl3, zl4, zl5, zl6, zl7, zl8, zl9, zl10, zl15, zl20, zl22, zl26, zl29, zl32, zl33, zl40, zl47, zl48, zl55, zl57, zl59, zl60, zl63, zl71, zl97, zl99, zl100, zl122, zl200, zl255, zl320, zl1000, zl1024, zl5040, zl1000000000, h6, Option.bind_some, Option.bind_none, ↓reduceIte, Bool.false_eq_true, reduceCtorEq, Bool.false_and])
    am_fuel 0 1 (by omega) (z_fuel (by omega)) rfl
  rw [Mo_isSo]
  rw [show Mo_isSo_L4 am_fuel g 1 0 = some r from h1, Option.bind_some, h2]
  cases sob T R bw bl bm B
  · rfl
  · rfl
/-- (t0, w0) is the first that is so -/
def isG (T : Nat → Nat) (ok : Nat → Nat → Bool) (t0 w0 : Nat) : Prop := t0 < T 1 ∧ w0 < T 0 ∧ ok t0 w0 = true ∧ ∀ t' w', w' < T 0 → pre t0 w0 t' w' → ok t' w' = false
def cnt (T : Nat → Nat) (ok : Nat → Nat → Bool) (t w : Nat) : Nat := sm (fun t' => sm (fun w' => bn (ok t' w')) (T 0)) t + sm (fun w' => bn (ok t w')) w
theorem cnt_s (ok : Nat → Nat → Bool) : cnt T ok t (w + 1) = cnt T ok t w + bn (ok t w) := by
  simp only [cnt, sm_s]; omega
theorem cnt_n (ok : Nat → Nat → Bool) : cnt T ok t (T 0) = cnt T ok (t + 1) 0 := by
  simp only [cnt, sm_s, sm_0]; omega
def pB (a k : Nat) : Prop := (125 ≤ a ∧ a ≤ 128) ∨ (a = 121 ∧ 6 ≤ k)
theorem IBf.fm {P : Nat → Nat → Prop} (h : IBf T g B bw bl bm) (f : Fm P g g') (h1 : ¬ P 121 2) (h2 : ¬ P 221 9) (h3 : ∀ a k, 122 ≤ a → a ≤ 124 → ¬ P a k) (h4 : ∀ k, ¬ P 228 k) : IBf T g' B bw bl bm := by
  obtain ⟨b0, b1, b2, b3⟩ := h
  refine ⟨b0, by rw [f.2 _ _ h1]; exact b1, by rw [f.2 _ _ h2]; exact b2, fun i hi => ?_⟩
  rw [f.2 122 i (h3 _ _ (by omega) (by omega)), f.2 123 i (h3 _ _ (by omega) (by omega)), f.2 124 i (h3 _ _ (by omega) (by omega)), f.2 228 _ (h4 _), f.2 228 _ (h4 _), f.2 228 _ (h4 _)]
  exact b3 i hi
def cG (T : Nat → Nat) (ok : Nat → Nat → Bool) (t w : Nat) (a : am_G) : Prop := a.1 121 6 = nI (cnt T ok t w) ∧ ((cnt T ok t w = 0 ∧ a.1 121 7 = -9 ∧ ∀ t' w', w' < T 0 → pre t w t' w' → ok t' w' = false) ∨ (0 < cnt T ok t w ∧ ∃ t0 w0, isG T ok t0 w0 ∧ a.1 121 7 = nI (10 * t0 + w0)))
theorem cnt_le (ok : Nat → Nat → Bool) (h0 : T 0 ≤ 4) (h1 : T 1 ≤ 7) (ht : t ≤ T 1) (hw : w ≤ T 0) : cnt T ok t w ≤ 100 := by
  have a1 : ∀ b, bn b ≤ 1 := fun b => by cases b <;> decide
  have a2 : ∀ t' n, n ≤ T 0 → sm (fun w' => bn (ok t' w')) n ≤ 4 := fun t' n hn => by
    have := sm_le (n := n) (f := fun w' => bn (ok t' w')) (c := 1) (fun i hi => a1 _)
    omega
  have a3 := sm_le (n := t) (f := fun t' => sm (fun w' => bn (ok t' w')) (T 0)) (c := 4) (fun i hi => a2 i _ (Nat.le_refl _))
  have a4 := a2 t w hw
  unfold cnt
  omega
theorem bo_gift1 (h125 : CI T g 125 S) (h28 : CI T g 28 S) (hB : IBf T g B bw bl bm) (ht : t < T 1) (hG : cG T (okb T S B bw bl bm) t 0 g) : ∃ g' v, (v < T 0 ∨ v = 9) ∧ Bo_findGifts_L34 am_fuel g (nI t) 0 = some g' ∧ CI T g' 125 (up S (8 + t) v) ∧ cG T (okb T S B bw bl bm) t (T 0) g' ∧ Fm pB g g' := by
  have hb := h28.bb
  have hval := h28.2.2.1.2.2 t ht
  obtain ⟨r, h1, ⟨v, h2, h3⟩, h4, h5⟩ := lp_up (fun n (a : am_G) k => Bo_findGifts_L34 n a (nI t) (nI k)) (T 0)
    (fun k a => (∃ v, (v < T 0 ∨ v = 9) ∧ CI T a 125 (up S (8 + t) v)) ∧ cG T (okb T S B bw bl bm) t k a ∧ Fm pB g a)
    (fun a => (∃ v, (v < T 0 ∨ v = 9) ∧ CI T a 125 (up S (8 + t) v)) ∧ cG T (okb T S B bw bl bm) t (T 0) a ∧ Fm pB g a)
    (fun n a ha => by
      obtain ⟨⟨v, a1, a2⟩, a3⟩ := id ha
      exact ⟨a, by rw [Bo_findGifts_L34]; simp (disch := omega) only [a2.n, z_lt, z_le, z_eq, z_in, z_cl, z_add, z_mul, z_mx, z_mn, zl12, zl18, zl19, zl30, zl115, zl116, zl119, zl291, zl640, zl999, zl9999, zl0, zl1, zl2, zl3, zl4, zl5, zl6, zl7, zl8, zl9, zl10, zl15, zl20, zl22, zl26, zl29, zl32, zl33, zl40, zl47, zl48, zl55, zl57, zl59, zl60, zl63, zl71, zl97, zl99, zl100, zl122, zl200, zl255, zl320, zl1000, zl1024, zl5040, zl1000000000, Nat.le_refl, ↓reduceIte], ha⟩)
    (fun n k a hk ha => by
      obtain ⟨⟨v, a1, a2⟩, a3, a4⟩ := ha
      have h6 : ¬ T 0 ≤ k := by omega
      have c2 := a2.wrW (by omega) ht (v := k) (Or.inl hk)
      rw [up_up] at c2
      have f2 : Fm pB g (am_wr a (125 + 1) t (nI k)) := a4.wr (by unfold pB; omega)
      have c28 : CI T (am_wr a (125 + 1) t (nI k)) 28 S := h28.fm f2 (fun a k q1 q2 q => by unfold pB at q; omega) (fun a k q1 q2 q => by unfold pB at q; omega)
      have cB := hB.fm f2 (by unfold pB; omega) (by unfold pB; omega) (fun a k q1 q2 q => by unfold pB at q; omega) (fun k q => by unfold pB at q; omega)
      have hc := cnt_le (t := t) (w := k) (okb T S B bw bl bm) hb.1 hb.2.1 (by omega) (by omega)
      have ecg := ca_canBeGiven c28 ht (w := k) (by omega)
      have eso := bo_isSo c2 cB
      have c6 : (am_wr a (125 + 1) t (nI k)).1 121 6 = nI (cnt T (okb T S B bw bl bm) t k) := by rw [m_na (by omega)]; exact a3.1
      have c7 : (am_wr a (125 + 1) t (nI k)).1 121 7 = a.1 121 7 := by rw [m_na (by omega)]
      have hok : okb T S B bw bl bm t k = (decide (S (8 + t) ≠ 9 ∧ S (8 + t) ≠ k) && sob T (up S (8 + t) k) bw bl bm B) := rfl
      by_cases q : okb T S B bw bl bm t k = true
      · have q1 : decide (S (8 + t) ≠ 9 ∧ S (8 + t) ≠ k) = true := by rw [hok, Bool.and_eq_true] at q; exact q.1
        have q2 : sob T (up S (8 + t) k) bw bl bm B = true := by rw [hok, Bool.and_eq_true] at q; exact q.2
        have ecn : cnt T (okb T S B bw bl bm) t (k + 1) = cnt T (okb T S B bw bl bm) t k + 1 := by rw [cnt_s, q]; rfl
        refine ⟨am_wr (am_wr (am_wr a (125 + 1) t (nI k)) 121 7 (if cnt T (okb T S B bw bl bm) t k = 0 then nI (10 * t + k) else a.1 121 7)) 121 6 (nI (cnt T (okb T S B bw bl bm) t k + 1)), ?_, ⟨k, Or.inl hk, ?_⟩, ⟨by rw [m_eq, ecn], ?_⟩, (f2.wr (by unfold pB; omega)).wr (by unfold pB; omega)⟩
        · show Bo_findGifts_L34 (n + 1) a (nI t) (nI k) = _
          rw [Bo_findGifts_L34, z_cl (by omega), ecg, Option.bind_some, if_pos q1, eso, Option.bind_some, if_pos q2, c6, c7, m_nk (by omega), c6]
          by_cases q3 : cnt T (okb T S B bw bl bm) t k = 0
          · simp (disch := omega) only [a2.n, z_lt, z_le, z_eq, z_in, z_cl, z_add, z_mul, z_mx, z_mn, zl12, zl18, zl19, zl30, zl115, zl116, zl119, zl291, zl640, zl999, zl9999, zl0, zl1, zl2, zl3, zl4, zl5, zl6, zl7, zl8, zl9, zl10, zl15, zl20, zl22, zl26, zl29, zl32, zl33, zl40, zl47, zl48, zl55, zl57, zl59, zl60, zl63, zl71, zl97, zl99, zl100, zl122, zl200, zl255, zl320, zl1000, zl1024, zl5040, zl1000000000, h6, q3, Option.bind_some, Option.bind_none, ↓reduceIte, Bool.false_eq_true, reduceCtorEq]
          · simp (disch := omega) only [a2.n, z_lt, z_le, z_eq, z_in, z_cl, z_add, z_mul, z_mx, z_mn, zl12, zl18, zl19, zl30, zl115, zl116, zl119, zl291, zl640, zl999, zl9999, zl0, zl1, zl2, zl3, zl4, zl5, zl6, zl7, zl8, zl9, zl10, zl15, zl20, zl22, zl26, zl29, zl32, zl33, zl40, zl47, zl48, zl55, zl57, zl59, zl60, zl63, zl71, zl97, zl99, zl100, zl122, zl200, zl255, zl320, zl1000, zl1024, zl5040, zl1000000000, h6, q3, Option.bind_some, Option.bind_none, ↓reduceIte, Bool.false_eq_true, reduceCtorEq]
        · exact c2.fm (P := fun a _ => a = 121) (((Fm.rf (fun a _ => a = 121) _).wr rfl).wr rfl) (fun a k q1 q2 q => by omega) (fun a k q1 q2 q => by omega)
        · right
          refine ⟨by omega, ?_⟩
          rw [m_nk (by omega), m_eq]
          rcases a3.2 with ⟨z1, z2, z3⟩ | ⟨z1, t0, w0, z2, z3⟩
          · rw [if_pos z1]
            exact ⟨t, k, ⟨ht, hk, q, z3⟩, rfl⟩
          · rw [if_neg (by omega)]
            exact ⟨t0, w0, z2, z3⟩
      · have q' : okb T S B bw bl bm t k = false := by simpa using q
        have ecn : cnt T (okb T S B bw bl bm) t (k + 1) = cnt T (okb T S B bw bl bm) t k := by rw [cnt_s, q']; rfl
        refine ⟨am_wr a (125 + 1) t (nI k), ?_, ⟨k, Or.inl hk, c2⟩, ⟨by rw [c6, ecn], ?_⟩, f2⟩
        · show Bo_findGifts_L34 (n + 1) a (nI t) (nI k) = _
          rw [Bo_findGifts_L34, z_cl (by omega), ecg, Option.bind_some, eso]
          by_cases q1 : decide (S (8 + t) ≠ 9 ∧ S (8 + t) ≠ k) = true
          · have q2 : sob T (up S (8 + t) k) bw bl bm B = false := by rw [hok, q1, Bool.true_and] at q'; exact q'
            rw [if_pos q1, q2]
            simp (disch := omega) only [a2.n, z_lt, z_le, z_eq, z_in, z_cl, z_add, z_mul, z_mx, z_mn, zl12, zl18, zl19, zl30, zl115, zl116, zl119, zl291, zl640, zl999, zl9999, zl0, zl1, zl2, zl3, zl4, zl5, zl6, zl7, zl8, zl9, zl10, zl15, zl20, zl22, zl26, zl29, zl32, zl33, zl40, zl47, zl48, zl55, zl57, zl59, zl60, zl63, zl71, zl97, zl99, zl100, zl122, zl200, zl255, zl320, zl1000, zl1024, zl5040, zl1000000000, h6, Option.bind_some, Option.bind_none, ↓reduceIte, Bool.false_eq_true, reduceCtorEq]
          · rw [if_neg q1]
            simp (disch := omega) only [a2.n, z_lt, z_le, z_eq, z_in, z_cl, z_add, z_mul, z_mx, z_mn, zl12, zl18, zl19, zl30, zl115, zl116, zl119, zl291, zl640, zl999, zl9999, zl0, zl1, zl2, zl3, zl4, zl5, zl6, zl7, zl8, zl9, zl10, zl15, zl20, zl22, zl26, zl29, zl32, zl33, zl40, zl47, zl48, zl55, zl57, zl59, zl60, zl63, zl71, zl97, zl99, zl100, zl122, zl200, zl255, zl320, zl1000, zl1024, zl5040, zl1000000000, h6, Option.bind_some, Option.bind_none, ↓reduceIte, Bool.false_eq_true, reduceCtorEq]
        · rw [ecn, c7]
          rcases a3.2 with ⟨z1, z2, z3⟩ | z1
          · refine Or.inl ⟨z1, z2, fun t' w' hw' hp => ?_⟩
            by_cases e : t' = t ∧ w' = k
            · rw [e.1, e.2]; exact q'
            · exact z3 t' w' hw' (by unfold pre at hp ⊢; omega)
          · exact Or.inr z1)
    am_fuel 0 g (by omega) (z_fuel (by omega)) ⟨⟨S (8 + t), hval.1, by rw [up_id]; exact h125⟩, hG, Fm.rf _ _⟩
  exact ⟨r, v, h2, h1, h3, h4, h5⟩
theorem bo_findGifts (h : CI T g 28 S) (hB : IBf T g B bw bl bm) : ∃ g', Bo_findGifts g = some g' ∧ cG T (okb T S B bw bl bm) (T 1) 0 g' ∧ Fm pB g g' := by
  have hb := h.bb
  obtain ⟨g1, e1, ce, f1⟩ := ca_copyFrom (am_wr (am_wr g 121 6 0) 121 7 (-9)) (c := 125) (o := 28) (by omega)
  have f0 : Fm pB g (am_wr (am_wr g 121 6 0) 121 7 (-9)) := ((Fm.rf _ _).wr (by unfold pB; omega)).wr (by unfold pB; omega)
  have f01 : Fm pB g g1 := f0.tr (f1.mo (fun a k q => by unfold pC at q; unfold pB; omega))
  have h28' := h.fm f0 (fun a k q1 q2 q => by unfold pB at q; omega) (fun a k q1 q2 q => by unfold pB at q; omega)
  have h125 := h28'.ce ce f1 (by omega)
  have w6 : g1.1 121 6 = 0 := by rw [f1.2 _ _ (fun q => by unfold pC at q; omega), m_nk (by omega), m_eq]
  have w7 : g1.1 121 7 = -9 := by rw [f1.2 _ _ (fun q => by unfold pC at q; omega), m_eq]
  obtain ⟨r, h1, h2, h3⟩ := lp_up (fun n (a : am_G) k => Bo_findGifts_L21 n a (nI k)) (T 1)
    (fun k a => CI T a 125 S ∧ cG T (okb T S B bw bl bm) k 0 a ∧ Fm pB g a)
    (fun a => cG T (okb T S B bw bl bm) (T 1) 0 a ∧ Fm pB g a)
    (fun n a ha => ⟨a, by rw [Bo_findGifts_L21]; simp (disch := omega) only [ha.1.n, z_lt, z_le, z_eq, z_in, z_cl, z_add, z_mul, z_mx, z_mn, zl12, zl18, zl19, zl30, zl115, zl116, zl119, zl291, zl640, zl999, zl9999, zl0, zl1, zl2, zl3, zl4, zl5, zl6, zl7, zl8, zl9, zl10, zl15, zl20, zl22, zl26, zl29, zl32, zl33, zl40, zl47, zl48, zl55, zl57, zl59, zl60, zl63, zl71, zl97, zl99, zl100, zl122, zl200, zl255, zl320, zl1000, zl1024, zl5040, zl1000000000, Nat.le_refl, ↓reduceIte], ha.2⟩)
    (fun n k a hk ha => by
      obtain ⟨a1, a2, a3⟩ := ha
      have h6 : ¬ T 1 ≤ k := by omega
      have c28 := h.fm a3 (fun a k q1 q2 q => by unfold pB at q; omega) (fun a k q1 q2 q => by unfold pB at q; omega)
      have cB := hB.fm a3 (by unfold pB; omega) (by unfold pB; omega) (fun a k q1 q2 q => by unfold pB at q; omega) (fun k q => by unfold pB at q; omega)
      obtain ⟨g2, v, d0, d1, d2, d3, d4⟩ := bo_gift1 a1 c28 cB hk a2
      have e28 := c28.fm d4 (fun a k q1 q2 q => by unfold pB at q; omega) (fun a k q1 q2 q => by unfold pB at q; omega)
      have hval := c28.2.2.1.2.2 k hk
      have w1 := e28.tt hk
      have d5 := d2.wrW (by omega) hk (v := S (8 + k)) hval.1
      rw [up_up, up_id] at d5
      refine ⟨am_wr g2 (125 + 1) k (nI (S (8 + k))), ?_, d5, ?_, (a3.tr d4).wr (by unfold pB; omega)⟩
      · show Bo_findGifts_L21 (n + 1) a (nI k) = _
        rw [Bo_findGifts_L21, d1, Option.bind_some]
        simp (disch := omega) only [a1.n, z_lt, z_le, z_eq, z_in, z_cl, z_add, z_mul, z_mx, z_mn, zl12, zl18, zl19, zl30, zl115, zl116, zl119, zl291, zl640, zl999, zl9999, zl0, zl1, zl2, zl3, zl4, zl5, zl6, zl7, zl8, zl9, zl10, zl15, zl20, zl22, zl26, zl29, zl32, zl33, zl40, zl47, zl48, zl55, zl57, zl59, zl60, zl63, zl71, zl97, zl99, zl100, zl122, zl200, zl255, zl320, zl1000, zl1024, zl5040, zl1000000000, h6, w1, Option.bind_some, Option.bind_none, ↓reduceIte, Bool.false_eq_true, reduceCtorEq]
      · unfold cG at d3 ⊢
        rw [m_na (by omega), m_na (by omega), ← cnt_n]
        refine ⟨d3.1, ?_⟩
        rcases d3.2 with ⟨z1, z2, z3⟩ | z1
        · exact Or.inl ⟨z1, z2, fun t' w' hw' hp => z3 t' w' hw' (by unfold pre at hp ⊢; omega)⟩
        · exact Or.inr z1)
    am_fuel 0 g1 (by omega) (z_fuel (by omega)) ⟨h125, ⟨by rw [w6]; rfl, Or.inl ⟨rfl, w7, fun t' w' hw' hp => by unfold pre at hp; omega⟩⟩, f01⟩
  refine ⟨r, ?_, h2, h3⟩
  rw [Bo_findGifts, e1, Option.bind_some, show Bo_findGifts_L21 am_fuel g1 0 = some r from h1]; rfl
def rG (T : Nat → Nat) (ok : Nat → Nat → Bool) (t w c : Nat) (f : Int32) : Prop := c + cnt T ok t w = cnt T ok (T 1) 0 ∧ ((f = -9 ∧ ∀ t' w', t' < T 1 → w' < T 0 → ¬ pre t w t' w' → ok t' w' = false) ∨ ∃ t0 w0, t0 < T 1 ∧ w0 < T 0 ∧ ¬ pre t w t0 w0 ∧ ok t0 w0 = true ∧ f = nI (10 * t0 + w0) ∧ ∀ t' w', w' < T 0 → ¬ pre t w t' w' → pre t0 w0 t' w' → ok t' w' = false)
theorem rG_s {ok : Nat → Nat → Bool} {c : Nat} {f : Int32} (h : rG T ok t (w + 1) c f) (ht : t < T 1) (hw : w < T 0) : rG T ok t w (c + bn (ok t w)) (if ok t w = true then nI (10 * t + w) else f) := by
  obtain ⟨h1, h2⟩ := h
  rw [cnt_s] at h1
  refine ⟨by omega, ?_⟩
  by_cases q : ok t w = true
  · rw [if_pos q]
    exact Or.inr ⟨t, w, ht, hw, by unfold pre; omega, q, rfl, fun t' w' hw' p1 p2 => by unfold pre at p1 p2; omega⟩
  · rw [if_neg q]
    have q' : ok t w = false := by simpa using q
    rcases h2 with ⟨z1, z2⟩ | ⟨t0, w0, z1, z2, z3, z4, z5, z6⟩
    · refine Or.inl ⟨z1, fun t' w' ht' hw' hp => ?_⟩
      by_cases e : t' = t ∧ w' = w
      · rw [e.1, e.2]; exact q'
      · exact z2 t' w' ht' hw' (by unfold pre at hp ⊢; omega)
    · refine Or.inr ⟨t0, w0, z1, z2, by unfold pre at z3 ⊢; omega, z4, z5, fun t' w' hw' hp hp2 => ?_⟩
      by_cases e : t' = t ∧ w' = w
      · rw [e.1, e.2]; exact q'
      · exact z6 t' w' hw' (by unfold pre at hp ⊢; omega) hp2
theorem rG_n {ok : Nat → Nat → Bool} {c : Nat} {f : Int32} (h : rG T ok (t + 1) 0 c f) : rG T ok t (T 0) c f := by
  obtain ⟨h1, h2⟩ := h
  rw [← cnt_n] at h1
  refine ⟨h1, ?_⟩
  rcases h2 with ⟨z1, z2⟩ | ⟨t0, w0, z1, z2, z3, z4, z5, z6⟩
  · exact Or.inl ⟨z1, fun t' w' ht' hw' hp => z2 t' w' ht' hw' (by unfold pre at hp ⊢; omega)⟩
  · exact Or.inr ⟨t0, w0, z1, z2, by unfold pre at z3 ⊢; omega, z4, z5, fun t' w' hw' hp hp2 => z6 t' w' hw' (by unfold pre at hp ⊢; omega) hp2⟩
theorem mo_gift2 (h : RI T g S) (hB : IBf T g B bw bl bm) (ht : t < T 1) (y : Int32) {c : Nat} {f : Int32} (hG : rG T (okb T S B bw bl bm) t (T 0) c f) : ∃ g' v c' f', (v < T 0 ∨ v = 9) ∧ Mo_sacks_L53 am_fuel g y (nI c) f (nI t) (nI (S (8 + t))) (nI (T 0) - 1) = some (g', nI c', f') ∧ RI T g' (up S (8 + t) v) ∧ rG T (okb T S B bw bl bm) t 0 c' f' ∧ Fm pR g g' := by
  have hb := h.bb
  have hval := h.2.2.1.2.2 t ht
  have h4 := h.tb ht
  have neg : (nI 0 - 1 : Int32) < 0 := by decide
  obtain ⟨r, h1, ⟨v, h2, h3⟩, ⟨c', h5, h6⟩, h7⟩ := lp_dn (fun n (a : am_G × Int32 × Int32) k => Mo_sacks_L53 n a.1 y a.2.1 a.2.2 (nI t) (nI (S (8 + t))) (nI k - 1))
    (fun k a => k ≤ T 0 ∧ (∃ v, (v < T 0 ∨ v = 9) ∧ RI T a.1 (up S (8 + t) v)) ∧ (∃ c', a.2.1 = nI c' ∧ rG T (okb T S B bw bl bm) t k c' a.2.2) ∧ Fm pR g a.1)
    (fun a => (∃ v, (v < T 0 ∨ v = 9) ∧ RI T a.1 (up S (8 + t) v)) ∧ (∃ c', a.2.1 = nI c' ∧ rG T (okb T S B bw bl bm) t 0 c' a.2.2) ∧ Fm pR g a.1)
    (fun n a ha => ⟨a, by rw [Mo_sacks_L53, if_pos neg], ha.2⟩)
    (fun n k a ha => by
      obtain ⟨a0, ⟨v, a1, a2⟩, ⟨c', a5, a6⟩, a4⟩ := ha
      have hk : k < T 0 := by omega
      have s1 := rG_s a6 ht hk
      have hok : okb T S B bw bl bm t k = (decide (S (8 + t) ≠ 9 ∧ S (8 + t) ≠ k) && sob T (up S (8 + t) k) bw bl bm B) := rfl
      have pk : nI k + (-1) = nI k - 1 := (Int32.sub_eq_add_neg ..).symm
      by_cases q1 : S (8 + t) ≠ 9 ∧ S (8 + t) ≠ k
      · have c2 := a2.wr (j := 8 + t) (v := k) (a2.2.2.1.upW a2.1 ht (Or.inl hk))
        rw [up_up] at c2
        have f2 : Fm pR g (am_wr a.1 225 (8 + t) (nI k)) := a4.wr (Or.inl ⟨rfl, by omega⟩)
        have cB := hB.fm f2 (by unfold pR; omega) (by unfold pR; omega) (fun a k q1 q2 q => by unfold pR at q; omega) (fun k q => by unfold pR at q; omega)
        have eso := mo_isSo c2 cB
        rw [decide_eq_true q1, Bool.true_and] at hok
        refine ⟨(am_wr a.1 225 (8 + t) (nI k), nI (c' + bn (okb T S B bw bl bm t k)), if okb T S B bw bl bm t k = true then nI (10 * t + k) else a.2.2), ?_, by omega, ⟨k, Or.inl hk, c2⟩, ⟨_, rfl, s1⟩, f2⟩
        show Mo_sacks_L53 (n + 1) a.1 y a.2.1 a.2.2 (nI t) (nI (S (8 + t))) (nI (k + 1) - 1) = _
        rw [nI_pred, Mo_sacks_L53, if_neg (nI_pos (by omega)), zl9, if_neg (z_ne (by omega) (by omega) q1.1), if_neg (z_ne (by omega) (by omega) q1.2), zl8, z_add, if_pos (z_in (by omega) (by omega)), z_cl (by omega), eso, Option.bind_some, Option.bind_some, pk, hok, a5]
        cases sob T (up S (8 + t) k) bw bl bm B
        · simp only [bn, Bool.false_eq_true, ↓reduceIte, zl0, z_add, Nat.add_zero]
        · simp only [bn, ↓reduceIte, zl1, zl10, z_add, z_mul]
      · have hf : okb T S B bw bl bm t k = false := by rw [hok, decide_eq_false q1, Bool.false_and]
        rw [hf, if_neg (by simp)] at s1
        refine ⟨a, ?_, by omega, ⟨v, a1, a2⟩, ⟨c', a5, s1⟩, a4⟩
        show Mo_sacks_L53 (n + 1) a.1 y a.2.1 a.2.2 (nI t) (nI (S (8 + t))) (nI (k + 1) - 1) = _
        rw [nI_pred, Mo_sacks_L53, if_neg (nI_pos (by omega)), zl9]
        by_cases q9 : S (8 + t) = 9
        · rw [if_pos (by rw [q9]), Option.bind_some, pk]
        · rw [if_neg (z_ne (by omega) (by omega) q9), if_pos (by rw [show S (8 + t) = k by omega]), Option.bind_some, pk])
    am_fuel (T 0) (g, nI c, f) (z_fuel (by omega)) ⟨Nat.le_refl _, ⟨S (8 + t), hval.1, by rw [up_id]; exact h⟩, ⟨c, rfl, hG⟩, Fm.rf _ _⟩
  exact ⟨r.1, v, c', r.2.2, h2, by rw [← h5]; exact h1, h3, h6, h7⟩
theorem mo_sacksL (h : RI T g S) (hB : IBf T g B bw bl bm) (y : Int32) : ∃ g' c' f', Mo_sacks_L26 am_fuel g y 0 (-9) (nI (T 1) - 1) = some (g', nI c', f') ∧ RI T g' S ∧ rG T (okb T S B bw bl bm) 0 0 c' f' ∧ Fm pR g g' := by
  have hb := h.bb
  have neg : (nI 0 - 1 : Int32) < 0 := by decide
  obtain ⟨r, h1, h2, ⟨c', h5, h6⟩, h7⟩ := lp_dn (fun n (a : am_G × Int32 × Int32) k => Mo_sacks_L26 n a.1 y a.2.1 a.2.2 (nI k - 1))
    (fun k a => k ≤ T 1 ∧ RI T a.1 S ∧ (∃ c', a.2.1 = nI c' ∧ rG T (okb T S B bw bl bm) k 0 c' a.2.2) ∧ Fm pR g a.1)
    (fun a => RI T a.1 S ∧ (∃ c', a.2.1 = nI c' ∧ rG T (okb T S B bw bl bm) 0 0 c' a.2.2) ∧ Fm pR g a.1)
    (fun n a ha => ⟨a, by rw [Mo_sacks_L26, if_pos neg], ha.2⟩)
    (fun n k a ha => by
      obtain ⟨a0, a2, ⟨c', a5, a6⟩, a4⟩ := ha
      have hk : k < T 1 := by omega
      have pk : nI k + (-1) = nI k - 1 := (Int32.sub_eq_add_neg ..).symm
      have cB := hB.fm a4 (by unfold pR; omega) (by unfold pR; omega) (fun a k q1 q2 q => by unfold pR at q; omega) (fun k q => by unfold pR at q; omega)
      obtain ⟨g2, v, c2, f2, d0, d1, d2, d3, d4⟩ := mo_gift2 a2 cB hk y (rG_n a6)
      have hval := a2.2.2.1.2.2 k hk
      have d5 := d2.wr (j := 8 + k) (v := S (8 + k)) (d2.2.2.1.upW d2.1 hk hval.1)
      rw [up_up, up_id] at d5
      refine ⟨(am_wr g2 225 (8 + k) (nI (S (8 + k))), nI c2, f2), ?_, by omega, d5, ⟨c2, rfl, d3⟩, (a4.tr d4).wr (Or.inl ⟨rfl, by omega⟩)⟩
      show Mo_sacks_L26 (n + 1) a.1 y a.2.1 a.2.2 (nI (k + 1) - 1) = _
      rw [nI_pred, Mo_sacks_L26, if_neg (nI_pos (by omega)), zl8, z_add, if_pos (z_in (by omega) (by omega)), z_cl (by omega), a2.r (by omega), a2.u (by omega), a5, d1, Option.bind_some, if_pos (z_in (by omega) (by omega)), pk])
    am_fuel (T 1) (g, 0, -9) (z_fuel (by omega)) ⟨Nat.le_refl _, h, ⟨0, rfl, ⟨by omega, Or.inl ⟨rfl, fun t' w' ht' hw' hp => by unfold pre at hp; omega⟩⟩⟩, Fm.rf _ _⟩
  exact ⟨r.1, c', r.2.2, by rw [← h5]; exact h1, h2, h6, h7⟩
end
theorem sp_sacks (g : am_G) (y1 : Int32) (h : Inv g) : ∃ g1 g2 r, Tb_sacks g y1 = some (g1, r) ∧ Mo_sacks g1 y1 = some (g2, r) ∧ Inv g2 := by
  have hI := h
  obtain ⟨T, S, n, P, h⟩ := h
  have hb := h.c.bb
  rcases w_01 g y1 with ⟨j, hj, rfl, e1, e2⟩ | ⟨e1, e2⟩
  · obtain ⟨B, bw, bl, bm, hB⟩ := h.2.2.2.2.2.2.2.1.f
    obtain ⟨g1, c1, c2, c3⟩ := bo_findGifts h.c hB
    have f1 : Fs g g1 := c3.s (fun a k q => by unfold pB at q; unfold scr; omega)
    have h1 := h.fs f1
    have cB := hB.fm c3 (by unfold pB; omega) (by unfold pB; omega) (fun a k q1 q2 q => by unfold pB at q; omega) (fun k q => by unfold pB at q; omega)
    obtain ⟨g2, c', f', d1, d2, d3, d4⟩ := mo_sacksL h1.r cB (nI j)
    have e0 : cnt T (okb T S B bw bl bm) 0 0 = 0 := rfl
    have ec : c' = cnt T (okb T S B bw bl bm) (T 1) 0 := by have := d3.1; rw [e0] at this; omega
    have ef : f' = g1.1 121 7 := by
      rcases c2.2 with ⟨z1, z2, z3⟩ | ⟨z1, t0, w0, z2, z3⟩
      · rcases d3.2 with ⟨y1, y2⟩ | ⟨t1, w1, y1, y2, y3, y4, y5, y6⟩
        · rw [y1, z2]
        · have := z3 t1 w1 y2 (by unfold pre; omega)
          rw [y4] at this; cases this
      · rcases d3.2 with ⟨y1, y2⟩ | ⟨t1, w1, y1, y2, y3, y4, y5, y6⟩
        · have := y2 t0 w0 z2.1 z2.2.1 (by unfold pre; omega)
          rw [z2.2.2.1] at this; cases this
        · have e : t1 = t0 ∧ w1 = w0 := by
            by_cases q : pre t0 w0 t1 w1
            · have := z2.2.2.2 t1 w1 y2 q
              rw [y4] at this; cases this
            · by_cases q2 : pre t1 w1 t0 w0
              · have := y6 t0 w0 z2.2.1 (by unfold pre; omega) q2
                rw [z2.2.2.1] at this; cases this
              · unfold pre at q q2; omega
          rw [y5, z3, e.1, e.2]
    have fs2 : Fs g1 g2 := ⟨fun a k q => by
      by_cases e : a = 225 ∧ k < 29
      · rw [e.1, d2.r e.2, h1.r.r e.2]
      · exact d4.2 a k (fun q' => by unfold pR at q'; unfold scr at q; omega), by rw [d4.1], by rw [d4.1]⟩
    refine ⟨g1, g2, if nI j = 0 then nI c' else f', ?_, ?_, T, S, n, P, h1.fs fs2⟩
    · rw [Tb_sacks, e1, Option.bind_some, if_pos rfl, c1, Option.bind_some, c2.1, ← ec, ← ef]
      split <;> rfl
    · rw [Mo_sacks, wi g, e2, Option.bind_some, if_pos rfl, h1.r.u (by omega), d1, Option.bind_some]
      split <;> rfl
  · exact ⟨g, g, -1, by rw [Tb_sacks, e1]; rfl, by rw [Mo_sacks, wi g, e2]; rfl, hI⟩
