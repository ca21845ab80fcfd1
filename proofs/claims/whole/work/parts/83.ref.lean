-- THE REFERENCE, what is read of it
def RI (T : Nat → Nat) (g : am_G) (S : Nat → Nat) : Prop := TW T ∧ TR T g ∧ SW T S ∧ RR g S
theorem zI_eq {a b : Int} (ha : -2000000000 ≤ a ∧ a ≤ 2000000000) (hb : -2000000000 ≤ b ∧ b ≤ 2000000000) : (zI a = zI b) = (a = b) := by
  rw [← Int32.toInt_inj, zI, zI, Int32.toInt_ofInt_of_le (by omega) (by omega), Int32.toInt_ofInt_of_le (by omega) (by omega)]
section
variable {T S : Nat → Nat} {g g' : am_G} {t w d : Nat}
theorem RI.bb (h : RI T g S) : T 0 ≤ 4 ∧ T 1 ≤ 7 ∧ T 2 ≤ 8 ∧ S 0 ≤ T 2 := ⟨h.1.1, h.1.2.1, h.1.2.2.1, h.2.2.1.1⟩
theorem RI.r (h : RI T g S) {k : Nat} (hk : k < 29) : g.1 225 k = nI (S k) := h.2.2.2 k hk
theorem RI.u (h : RI T g S) {k : Nat} (hk : k < 71) : g.1 223 k = nI (T k) := h.2.1 k hk
theorem RI.tb (h : RI T g S) (ht : t < T 1) : T (12 + t) ≤ 20 ∧ T (19 + t) ≤ 9 ∧ T (26 + t) ≤ 1 ∧ T (33 + t) ≤ 3 ∧ S (8 + t) ≤ 9 ∧ S (15 + t) ≤ 20 ∧ S (22 + t) ≤ 1 := by
  have h1 := h.1.2.2.2.2.1 t ht
  have h2 := h.2.2.1.2.2 t ht
  have h3 := h.1.1
  omega
theorem RI.wb (h : RI T g S) (hw : w < T 0) : T (4 + w) ≤ 40 ∧ T (8 + w) ≤ 5 ∧ S (4 + w) ≤ 20 := ⟨(h.1.2.2.2.1 w hw).1, (h.1.2.2.2.1 w hw).2, h.2.2.1.2.1 w hw⟩
theorem RI.db (h : RI T g S) (hd : d < T 2) : T (47 + d) ≤ 20 ∧ T (55 + d) ≤ 1 ∧ T (63 + d) ≤ 1 := h.1.2.2.2.2.2 d hd
theorem RI.ld (h : RI T g S) (w : Nat) : lod T S w ≤ 203 := lod_le h.1 h.2.2.1 w
theorem mo_weighs (h : RI T g S) (ht : t < T 1) : Mo_weighs g (nI t) = some (nI (wgh T S t)) := by
  have hb := h.bb
  have h4 := h.tb ht
  unfold Mo_weighs wgh
  by_cases q : S (22 + t) = 1
  · by_cases q0 : S (15 + t) ≤ 0
    · rw [if_neg (show ¬ (S (22 + t) = 1 ∧ 0 < S (15 + t)) by omega)]
      simp (disch := omega) only [z_lt, z_le, z_eq, z_in, z_cl, z_add, z_mul, z_mx, z_mn, zl12, zl18, zl19, zl30, zl115, zl116, zl119, zl291, zl640, zl999, zl9999, zl0, zl1, zl2, zl3, zl4, zl5, zl6, zl7, zl8, zl9, zl10, zl15, zl20, zl22, zl26, zl29, zl32, zl33, zl40, zl47, zl48, zl55, zl57, zl59, zl60, zl63, zl71, zl97, zl99, zl100, zl122, zl200, zl255, zl320, zl1000, zl1024, zl5040, zl1000000000, h.r, h.u, q0, q, ↓reduceIte]
    · rw [if_pos (show (S (22 + t) = 1 ∧ 0 < S (15 + t)) by omega)]
      simp (disch := omega) only [z_lt, z_le, z_eq, z_in, z_cl, z_add, z_mul, z_mx, z_mn, zl12, zl18, zl19, zl30, zl115, zl116, zl119, zl291, zl640, zl999, zl9999, zl0, zl1, zl2, zl3, zl4, zl5, zl6, zl7, zl8, zl9, zl10, zl15, zl20, zl22, zl26, zl29, zl32, zl33, zl40, zl47, zl48, zl55, zl57, zl59, zl60, zl63, zl71, zl97, zl99, zl100, zl122, zl200, zl255, zl320, zl1000, zl1024, zl5040, zl1000000000, h.r, h.u, q0, q, ↓reduceIte]
  · rw [if_neg (show ¬ (S (22 + t) = 1 ∧ 0 < S (15 + t)) by omega)]
    simp (disch := omega) only [z_lt, z_le, z_eq, z_in, z_cl, z_add, z_mul, z_mx, z_mn, zl12, zl18, zl19, zl30, zl115, zl116, zl119, zl291, zl640, zl999, zl9999, zl0, zl1, zl2, zl3, zl4, zl5, zl6, zl7, zl8, zl9, zl10, zl15, zl20, zl22, zl26, zl29, zl32, zl33, zl40, zl47, zl48, zl55, zl57, zl59, zl60, zl63, zl71, zl97, zl99, zl100, zl122, zl200, zl255, zl320, zl1000, zl1024, zl5040, zl1000000000, h.r, h.u, q, ↓reduceIte]
theorem mo_load (h : RI T g S) (hw : w < 100) : Mo_load g (nI w) = some (nI (lod T S w)) := by
  have hb := h.bb
  obtain ⟨b, h1, h2⟩ := lp_up (fun n a k => Mo_load_L4 n g (nI w) a (nI k)) (T 1) (fun k a => a = nI (sm (lodf T S w) k)) (fun b => b = nI (lod T S w))
    (fun n a ha => ⟨_, by rw [Mo_load_L4]; simp (disch := omega) only [h.u, z_lt, z_le, z_eq, z_in, z_cl, z_add, z_mul, z_mx, z_mn, zl12, zl18, zl19, zl30, zl115, zl116, zl119, zl291, zl640, zl999, zl9999, zl0, zl1, zl2, zl3, zl4, zl5, zl6, zl7, zl8, zl9, zl10, zl15, zl20, zl22, zl26, zl29, zl32, zl33, zl40, zl47, zl48, zl55, zl57, zl59, zl60, zl63, zl71, zl97, zl99, zl100, zl122, zl200, zl255, zl320, zl1000, zl1024, zl5040, zl1000000000, Nat.le_refl, ↓reduceIte], ha⟩)
    (fun n k a hk ha => by
      have h4 := h.tb hk
      have h5 := smlod_le h.1 h.2.2.1 w (Nat.le_of_lt hk)
      have h6 : ¬ T 1 ≤ k := by omega
      refine ⟨_, ?_, rfl⟩
      rw [Mo_load_L4, ha, sm_s, lodf]
      by_cases q : S (8 + k) = w
      · simp (disch := omega) only [h.u, h.r, h6, z_lt, z_le, z_eq, z_in, z_cl, z_add, z_mul, z_mx, z_mn, zl12, zl18, zl19, zl30, zl115, zl116, zl119, zl291, zl640, zl999, zl9999, zl0, zl1, zl2, zl3, zl4, zl5, zl6, zl7, zl8, zl9, zl10, zl15, zl20, zl22, zl26, zl29, zl32, zl33, zl40, zl47, zl48, zl55, zl57, zl59, zl60, zl63, zl71, zl97, zl99, zl100, zl122, zl200, zl255, zl320, zl1000, zl1024, zl5040, zl1000000000, mo_weighs h hk, q, Option.bind_some, Option.bind_none, ↓reduceIte, Bool.false_eq_true, reduceCtorEq]
      · simp (disch := omega) only [h.u, h.r, h6, z_lt, z_le, z_eq, z_in, z_cl, z_add, z_mul, z_mx, z_mn, zl12, zl18, zl19, zl30, zl115, zl116, zl119, zl291, zl640, zl999, zl9999, zl0, zl1, zl2, zl3, zl4, zl5, zl6, zl7, zl8, zl9, zl10, zl15, zl20, zl22, zl26, zl29, zl32, zl33, zl40, zl47, zl48, zl55, zl57, zl59, zl60, zl63, zl71, zl97, zl99, zl100, zl122, zl200, zl255, zl320, zl1000, zl1024, zl5040, zl1000000000, q, Option.bind_some, Option.bind_none, ↓reduceIte, Bool.false_eq_true, reduceCtorEq])
    am_fuel 0 0 (by omega) (z_fuel (by omega)) rfl
  rw [Mo_load]
  rw [show Mo_load_L4 am_fuel g (nI w) 0 0 = some b from h1, h2]; rfl
theorem mo_force (h : RI T g S) (hw : w < T 0) : Mo_force g (nI w) = some (nI (T (4 + w)) - nI (S (4 + w))) := by
  have hb := h.bb
  unfold Mo_force
  simp (disch := omega) only [z_lt, z_le, z_eq, z_in, z_cl, z_add, z_mul, z_mx, z_mn, zl12, zl18, zl19, zl30, zl115, zl116, zl119, zl291, zl640, zl999, zl9999, zl0, zl1, zl2, zl3, zl4, zl5, zl6, zl7, zl8, zl9, zl10, zl15, zl20, zl22, zl26, zl29, zl32, zl33, zl40, zl47, zl48, zl55, zl57, zl59, zl60, zl63, zl71, zl97, zl99, zl100, zl122, zl200, zl255, zl320, zl1000, zl1024, zl5040, zl1000000000, h.r, h.u, ↓reduceIte]
theorem mo_pace (h : RI T g S) (hw : w < T 0) {l : Nat} (hl : l ≤ 1000) : Mo_pace g (nI w) (nI l) = some (nI (pac T S w l)) := by
  have h3 := h.wb hw
  rw [Mo_pace, mo_force h hw, Option.bind_some, pac, zl1, zl10, zl20]
  simp only [zI_n, zI_sub, zI_add]
  by_cases q : S (4 + w) + l ≤ T (4 + w) + 9
  · by_cases q2 : T (4 + w) ≤ S (4 + w) + l + 10
    · have e1 : (((1 : Nat) : Int) ≤ (T (4 + w) : Int) - S (4 + w) - l + ((10 : Nat) : Int)) := by omega
      have e2 : ((T (4 + w) : Int) - S (4 + w) - l + ((10 : Nat) : Int) ≤ ((20 : Nat) : Int)) := by omega
      simp (disch := omega) only [zI_le, e1, e2, ↓reduceIte]
      congr 2; omega
    · have e1 : (((1 : Nat) : Int) ≤ (T (4 + w) : Int) - S (4 + w) - l + ((10 : Nat) : Int)) := by omega
      have e2 : ¬ ((T (4 + w) : Int) - S (4 + w) - l + ((10 : Nat) : Int) ≤ ((20 : Nat) : Int)) := by omega
      simp (disch := omega) only [zI_le, e1, e2, ↓reduceIte]
      congr 2; omega
  · have e1 : ¬ (((1 : Nat) : Int) ≤ (T (4 + w) : Int) - S (4 + w) - l + ((10 : Nat) : Int)) := by omega
    simp (disch := omega) only [zI_le, e1, ↓reduceIte]
    congr 2; omega
theorem mo_takes {L p : Nat} (hL : L ≤ 20) (h1 : 1 ≤ p) (h2 : p ≤ 20) : Mo_takes g (nI L) (nI p) = some (nI (tks L p)) := by
  have e := z_tks hL h1 h2
  have h3 : ¬ p = 0 := by omega
  unfold Mo_takes
  simp (disch := omega) only [z_lt, z_le, z_eq, z_in, z_cl, z_add, z_mul, z_mx, z_mn, zl12, zl18, zl19, zl30, zl115, zl116, zl119, zl291, zl640, zl999, zl9999, zl0, zl1, zl2, zl3, zl4, zl5, zl6, zl7, zl8, zl9, zl10, zl15, zl20, zl22, zl26, zl29, zl32, zl33, zl40, zl47, zl48, zl55, zl57, zl59, zl60, zl63, zl71, zl97, zl99, zl100, zl122, zl200, zl255, zl320, zl1000, zl1024, zl5040, zl1000000000, h3, not_false_eq_true, ↓reduceIte] at e ⊢
  rw [e]
theorem mo_pl (h : RI T g S) (hw : w < T 0) : Mo_pace g (nI w) (nI (lod T S w)) = some (nI (pac T S w (lod T S w))) := mo_pace h hw (by have := h.ld w; omega)
theorem mo_slowest (h : RI T g S) {L : Nat} (hL : L ≤ 20) : Mo_slowest g (nI L) = some (nI (slo T S L)) := by
  have hb := h.bb
  obtain ⟨b, h1, h2⟩ := lp_up (fun n a k => Mo_slowest_L4 n g (nI L) a (nI k)) (T 0) (fun k a => a = nI (gr (tkw T S L) k)) (fun b => b = nI (slo T S L))
    (fun n a ha => ⟨_, by rw [Mo_slowest_L4]; simp (disch := omega) only [h.u, z_lt, z_le, z_eq, z_in, z_cl, z_add, z_mul, z_mx, z_mn, zl12, zl18, zl19, zl30, zl115, zl116, zl119, zl291, zl640, zl999, zl9999, zl0, zl1, zl2, zl3, zl4, zl5, zl6, zl7, zl8, zl9, zl10, zl15, zl20, zl22, zl26, zl29, zl32, zl33, zl40, zl47, zl48, zl55, zl57, zl59, zl60, zl63, zl71, zl97, zl99, zl100, zl122, zl200, zl255, zl320, zl1000, zl1024, zl5040, zl1000000000, Nat.le_refl, ↓reduceIte], ha⟩)
    (fun n k a hk ha => by
      have h6 : ¬ T 0 ≤ k := by omega
      have h7 := slo_le (T := T) (S := S) hL k
      have h8 := tkw_le (T := T) (S := S) hL k
      have h9 := pac_le T S k (lod T S k)
      refine ⟨_, ?_, rfl⟩
      rw [Mo_slowest_L4, ha, gr_zs, mo_load h (by omega), Option.bind_some, mo_pl h hk, Option.bind_some, mo_takes hL h9.1 h9.2, Option.bind_some]
      rw [show tks L (pac T S k (lod T S k)) = tkw T S L k from rfl]
      by_cases q : tkw T S L k ≤ gr (tkw T S L) k
      · rw [Nat.max_eq_left q]
        simp (disch := omega) only [h.u, h6, z_lt, z_le, z_eq, z_in, z_cl, z_add, z_mul, z_mx, z_mn, zl12, zl18, zl19, zl30, zl115, zl116, zl119, zl291, zl640, zl999, zl9999, zl0, zl1, zl2, zl3, zl4, zl5, zl6, zl7, zl8, zl9, zl10, zl15, zl20, zl22, zl26, zl29, zl32, zl33, zl40, zl47, zl48, zl55, zl57, zl59, zl60, zl63, zl71, zl97, zl99, zl100, zl122, zl200, zl255, zl320, zl1000, zl1024, zl5040, zl1000000000, q, Option.bind_some, Option.bind_none, ↓reduceIte, Bool.false_eq_true, reduceCtorEq]
      · rw [Nat.max_eq_right (by omega)]
        simp (disch := omega) only [h.u, h6, z_lt, z_le, z_eq, z_in, z_cl, z_add, z_mul, z_mx, z_mn, zl12, zl18, zl19, zl30, zl115, zl116, zl119, zl291, zl640, zl999, zl9999, zl0, zl1, zl2, zl3, zl4, zl5, zl6, zl7, zl8, zl9, zl10, zl15, zl20, zl22, zl26, zl29, zl32, zl33, zl40, zl47, zl48, zl55, zl57, zl59, zl60, zl63, zl71, zl97, zl99, zl100, zl122, zl200, zl255, zl320, zl1000, zl1024, zl5040, zl1000000000, q, Option.bind_some, Option.bind_none, ↓reduceIte, Bool.false_eq_true, reduceCtorEq])
    am_fuel 0 0 (by omega) (z_fuel (by omega)) rfl
  rw [Mo_slowest]
  rw [show Mo_slowest_L4 am_fuel g (nI L) 0 0 = some b from h1, h2]; rfl
theorem z_or0 (x : Int32) : x ||| 0 = x := Int32.or_zero
theorem mo_with (h : RI T g S) (hw : w < 100) (y : Int32) : Mo_walker_L24 am_fuel g (nI w) y 0 0 = some (ob (fun t => S (8 + t) = w) (T 1)) := by
  have hb := h.bb
  obtain ⟨b, h1, h2⟩ := lp_up (fun n a k => Mo_walker_L24 n g (nI w) y a (nI k)) (T 1) (fun k a => a = ob (fun t => S (8 + t) = w) k) (fun b => b = ob (fun t => S (8 + t) = w) (T 1))
    (fun n a ha => ⟨_, by rw [Mo_walker_L24]; simp (disch := omega) only [h.u, z_lt, z_le, z_eq, z_in, z_cl, z_add, z_mul, z_mx, z_mn, zl12, zl18, zl19, zl30, zl115, zl116, zl119, zl291, zl640, zl999, zl9999, zl0, zl1, zl2, zl3, zl4, zl5, zl6, zl7, zl8, zl9, zl10, zl15, zl20, zl22, zl26, zl29, zl32, zl33, zl40, zl47, zl48, zl55, zl57, zl59, zl60, zl63, zl71, zl97, zl99, zl100, zl122, zl200, zl255, zl320, zl1000, zl1024, zl5040, zl1000000000, Nat.le_refl, ↓reduceIte], ha⟩)
    (fun n k a hk ha => by
      have h4 := h.tb hk
      have h6 : ¬ T 1 ≤ k := by omega
      refine ⟨_, ?_, rfl⟩
      rw [Mo_walker_L24, ha, ob]
      by_cases q : S (8 + k) = w
      · simp (disch := omega) only [h.u, h.r, h6, z_lt, z_le, z_eq, z_in, z_cl, z_add, z_mul, z_mx, z_mn, zl12, zl18, zl19, zl30, zl115, zl116, zl119, zl291, zl640, zl999, zl9999, zl0, zl1, zl2, zl3, zl4, zl5, zl6, zl7, zl8, zl9, zl10, zl15, zl20, zl22, zl26, zl29, zl32, zl33, zl40, zl47, zl48, zl55, zl57, zl59, zl60, zl63, zl71, zl97, zl99, zl100, zl122, zl200, zl255, zl320, zl1000, zl1024, zl5040, zl1000000000, q, Option.bind_some, Option.bind_none, ↓reduceIte, Bool.false_eq_true, reduceCtorEq]
      · rw [if_neg q, ← z_or0 (ob (fun t => S (8 + t) = w) k)]
        simp (disch := omega) only [h.u, h.r, h6, z_or0, z_lt, z_le, z_eq, z_in, z_cl, z_add, z_mul, z_mx, z_mn, zl12, zl18, zl19, zl30, zl115, zl116, zl119, zl291, zl640, zl999, zl9999, zl0, zl1, zl2, zl3, zl4, zl5, zl6, zl7, zl8, zl9, zl10, zl15, zl20, zl22, zl26, zl29, zl32, zl33, zl40, zl47, zl48, zl55, zl57, zl59, zl60, zl63, zl71, zl97, zl99, zl100, zl122, zl200, zl255, zl320, zl1000, zl1024, zl5040, zl1000000000, q, Option.bind_some, Option.bind_none, ↓reduceIte, Bool.false_eq_true, reduceCtorEq]
        rw [show nI 0 = 0 from rfl, z_or0])
    am_fuel 0 0 (by omega) (z_fuel (by omega)) rfl
  exact h1.trans (by rw [h2])
theorem mo_isHut (h : RI T g S) : Mo_isHut g = some (decide (S 0 = 0 ∨ T (62 + S 0) = 1)) := by
  have hb := h.bb
  unfold Mo_isHut
  by_cases q : S 0 = 0
  · simp (disch := omega) only [h.r, q, z_lt, z_le, z_eq, z_in, z_cl, z_add, z_mul, z_mx, z_mn, zl12, zl18, zl19, zl30, zl115, zl116, zl119, zl291, zl640, zl999, zl9999, zl0, zl1, zl2, zl3, zl4, zl5, zl6, zl7, zl8, zl9, zl10, zl15, zl20, zl22, zl26, zl29, zl32, zl33, zl40, zl47, zl48, zl55, zl57, zl59, zl60, zl63, zl71, zl97, zl99, zl100, zl122, zl200, zl255, zl320, zl1000, zl1024, zl5040, zl1000000000, ↓reduceIte, true_or, decide_true]
  · have e : 63 + S 0 - 1 = 62 + S 0 := by omega
    have h3 := h.db (d := S 0 - 1) (by omega)
    rw [show 63 + (S 0 - 1) = 62 + S 0 by omega] at h3
    by_cases q3 : T (62 + S 0) = 1
    · simp (disch := omega) only [h.r, h.u, z_lt, z_le, z_eq, z_in, z_cl, z_add, z_mul, z_mx, z_mn, zl12, zl18, zl19, zl30, zl115, zl116, zl119, zl291, zl640, zl999, zl9999, zl0, zl1, zl2, zl3, zl4, zl5, zl6, zl7, zl8, zl9, zl10, zl15, zl20, zl22, zl26, zl29, zl32, zl33, zl40, zl47, zl48, zl55, zl57, zl59, zl60, zl63, zl71, zl97, zl99, zl100, zl122, zl200, zl255, zl320, zl1000, zl1024, zl5040, zl1000000000, z_sub, e, q, q3, ↓reduceIte, or_true, decide_true]
    · simp (disch := omega) only [h.r, h.u, z_lt, z_le, z_eq, z_in, z_cl, z_add, z_mul, z_mx, z_mn, zl12, zl18, zl19, zl30, zl115, zl116, zl119, zl291, zl640, zl999, zl9999, zl0, zl1, zl2, zl3, zl4, zl5, zl6, zl7, zl8, zl9, zl10, zl15, zl20, zl22, zl26, zl29, zl32, zl33, zl40, zl47, zl48, zl55, zl57, zl59, zl60, zl63, zl71, zl97, zl99, zl100, zl122, zl200, zl255, zl320, zl1000, zl1024, zl5040, zl1000000000, z_sub, e, q3, q, ↓reduceIte, or_self, decide_false]
theorem mo_isStage (h : RI T g S) : Mo_isStage g = some (decide (S 0 < T 2)) := by
  have hb := h.bb
  unfold Mo_isStage
  by_cases q : T 2 ≤ S 0
  · have q1 : ¬ S 0 < T 2 := by omega
    simp (disch := omega) only [h.r, h.u, q, q1, z_lt, z_le, z_eq, z_in, z_cl, z_add, z_mul, z_mx, z_mn, zl12, zl18, zl19, zl30, zl115, zl116, zl119, zl291, zl640, zl999, zl9999, zl0, zl1, zl2, zl3, zl4, zl5, zl6, zl7, zl8, zl9, zl10, zl15, zl20, zl22, zl26, zl29, zl32, zl33, zl40, zl47, zl48, zl55, zl57, zl59, zl60, zl63, zl71, zl97, zl99, zl100, zl122, zl200, zl255, zl320, zl1000, zl1024, zl5040, zl1000000000, ↓reduceIte, decide_false]
  · have q1 : S 0 < T 2 := by omega
    simp (disch := omega) only [h.r, h.u, q, q1, z_lt, z_le, z_eq, z_in, z_cl, z_add, z_mul, z_mx, z_mn, zl12, zl18, zl19, zl30, zl115, zl116, zl119, zl291, zl640, zl999, zl9999, zl0, zl1, zl2, zl3, zl4, zl5, zl6, zl7, zl8, zl9, zl10, zl15, zl20, zl22, zl26, zl29, zl32, zl33, zl40, zl47, zl48, zl55, zl57, zl59, zl60, zl63, zl71, zl97, zl99, zl100, zl122, zl200, zl255, zl320, zl1000, zl1024, zl5040, zl1000000000, ↓reduceIte, decide_true]
theorem mo_isRain (h : RI T g S) (hd : S 0 < T 2) : Mo_isRain g = some (decide (T (55 + S 0) = 1)) := by
  have hb := h.bb
  have h3 := h.db hd
  unfold Mo_isRain
  by_cases q3 : T (55 + S 0) = 1
  · simp (disch := omega) only [h.r, h.u, z_lt, z_le, z_eq, z_in, z_cl, z_add, z_mul, z_mx, z_mn, zl12, zl18, zl19, zl30, zl115, zl116, zl119, zl291, zl640, zl999, zl9999, zl0, zl1, zl2, zl3, zl4, zl5, zl6, zl7, zl8, zl9, zl10, zl15, zl20, zl22, zl26, zl29, zl32, zl33, zl40, zl47, zl48, zl55, zl57, zl59, zl60, zl63, zl71, zl97, zl99, zl100, zl122, zl200, zl255, zl320, zl1000, zl1024, zl5040, zl1000000000, q3, ↓reduceIte, decide_true]
  · simp (disch := omega) only [h.r, h.u, z_lt, z_le, z_eq, z_in, z_cl, z_add, z_mul, z_mx, z_mn, zl12, zl18, zl19, zl30, zl115, zl116, zl119, zl291, zl640, zl999, zl9999, zl0, zl1, zl2, zl3, zl4, zl5, zl6, zl7, zl8, zl9, zl10, zl15, zl20, zl22, zl26, zl29, zl32, zl33, zl40, zl47, zl48, zl55, zl57, zl59, zl60, zl63, zl71, zl97, zl99, zl100, zl122, zl200, zl255, zl320, zl1000, zl1024, zl5040, zl1000000000, q3, ↓reduceIte, decide_false]
theorem mo_parted (h : RI T g S) : Mo_parted g = some (pts T S (T 1)) := by
  have hb := h.bb
  have inner : ∀ t a, t < T 1 → Mo_parted_L16 am_fuel g a (nI t) 0 = some (pt1 T S t a t) := by
    intro t a ht
    have h4 := h.tb ht
    obtain ⟨r, h1, h2⟩ := lp_up (fun n (x : Int32) k => Mo_parted_L16 n g x (nI t) (nI k)) t (fun k x => x = pt1 T S t a k) (fun r => r = pt1 T S t a t)
      (fun n x hx => ⟨_, by rw [Mo_parted_L16]; simp (disch := omega) only [z_lt, z_le, z_eq, z_in, z_cl, z_add, z_mul, z_mx, z_mn, zl12, zl18, zl19, zl30, zl115, zl116, zl119, zl291, zl640, zl999, zl9999, zl0, zl1, zl2, zl3, zl4, zl5, zl6, zl7, zl8, zl9, zl10, zl15, zl20, zl22, zl26, zl29, zl32, zl33, zl40, zl47, zl48, zl55, zl57, zl59, zl60, zl63, zl71, zl97, zl99, zl100, zl122, zl200, zl255, zl320, zl1000, zl1024, zl5040, zl1000000000, Nat.le_refl, ↓reduceIte], hx⟩)
      (fun n k x hk hx => by
        have h6 := h.tb (t := k) (by omega)
        have h7 : ¬ t ≤ k := by omega
        refine ⟨_, ?_, rfl⟩
        rw [Mo_parted_L16, hx, pt1]
        by_cases q1 : T (33 + t) ≤ 0
        · have q1' : ¬ 0 < T (33 + t) := by omega
          simp (disch := omega) only [h.u, h.r, h7, z_lt, z_le, z_eq, z_in, z_cl, z_add, z_mul, z_mx, z_mn, zl12, zl18, zl19, zl30, zl115, zl116, zl119, zl291, zl640, zl999, zl9999, zl0, zl1, zl2, zl3, zl4, zl5, zl6, zl7, zl8, zl9, zl10, zl15, zl20, zl22, zl26, zl29, zl32, zl33, zl40, zl47, zl48, zl55, zl57, zl59, zl60, zl63, zl71, zl97, zl99, zl100, zl122, zl200, zl255, zl320, zl1000, zl1024, zl5040, zl1000000000, q1, q1', Option.bind_some, Option.bind_none, ↓reduceIte, Bool.false_eq_true, reduceCtorEq, false_and]
          rw [show nI 0 = 0 from rfl, z_or0]
        · have q1' : 0 < T (33 + t) := by omega
          by_cases q2 : T (33 + t) = T (33 + k)
          · have q4 : ¬ T (33 + k) ≤ 0 := by omega
            have q4' : 0 < T (33 + k) := by omega
            by_cases q3 : S (8 + t) = S (8 + k)
            · simp (disch := omega) only [h.u, h.r, h7, z_lt, z_le, z_eq, z_in, z_cl, z_add, z_mul, z_mx, z_mn, zl12, zl18, zl19, zl30, zl115, zl116, zl119, zl291, zl640, zl999, zl9999, zl0, zl1, zl2, zl3, zl4, zl5, zl6, zl7, zl8, zl9, zl10, zl15, zl20, zl22, zl26, zl29, zl32, zl33, zl40, zl47, zl48, zl55, zl57, zl59, zl60, zl63, zl71, zl97, zl99, zl100, zl122, zl200, zl255, zl320, zl1000, zl1024, zl5040, zl1000000000, q4, q1', Option.bind_some, Option.bind_none, ↓reduceIte, Bool.false_eq_true, reduceCtorEq, ne_eq, not_true_eq_false, and_false, q2, q3]
              rw [show nI 0 = 0 from rfl, z_or0]
            · simp (disch := omega) only [h.u, h.r, h7, z_lt, z_le, z_eq, z_in, z_cl, z_add, z_mul, z_mx, z_mn, zl12, zl18, zl19, zl30, zl115, zl116, zl119, zl291, zl640, zl999, zl9999, zl0, zl1, zl2, zl3, zl4, zl5, zl6, zl7, zl8, zl9, zl10, zl15, zl20, zl22, zl26, zl29, zl32, zl33, zl40, zl47, zl48, zl55, zl57, zl59, zl60, zl63, zl71, zl97, zl99, zl100, zl122, zl200, zl255, zl320, zl1000, zl1024, zl5040, zl1000000000, q4, q4', Option.bind_some, Option.bind_none, ↓reduceIte, Bool.false_eq_true, reduceCtorEq, ne_eq, not_false_eq_true, and_self, q2, q3, Nat.one_ne_zero]
          · simp (disch := omega) only [h.u, h.r, h7, z_lt, z_le, z_eq, z_in, z_cl, z_add, z_mul, z_mx, z_mn, zl12, zl18, zl19, zl30, zl115, zl116, zl119, zl291, zl640, zl999, zl9999, zl0, zl1, zl2, zl3, zl4, zl5, zl6, zl7, zl8, zl9, zl10, zl15, zl20, zl22, zl26, zl29, zl32, zl33, zl40, zl47, zl48, zl55, zl57, zl59, zl60, zl63, zl71, zl97, zl99, zl100, zl122, zl200, zl255, zl320, zl1000, zl1024, zl5040, zl1000000000, q1, q1', Option.bind_some, Option.bind_none, ↓reduceIte, Bool.false_eq_true, reduceCtorEq, false_and, and_false, q2]
            rw [show nI 0 = 0 from rfl, z_or0])
      am_fuel 0 a (by omega) (z_fuel (by omega)) rfl
    rw [show Mo_parted_L16 am_fuel g a (nI t) 0 = some r from h1, h2]
  obtain ⟨r, h1, h2⟩ := lp_up (fun n (x : Int32) k => Mo_parted_L4 n g x (nI k)) (T 1) (fun k x => x = pts T S k) (fun r => r = pts T S (T 1))
    (fun n x hx => ⟨_, by rw [Mo_parted_L4]; simp (disch := omega) only [h.u, z_lt, z_le, z_eq, z_in, z_cl, z_add, z_mul, z_mx, z_mn, zl12, zl18, zl19, zl30, zl115, zl116, zl119, zl291, zl640, zl999, zl9999, zl0, zl1, zl2, zl3, zl4, zl5, zl6, zl7, zl8, zl9, zl10, zl15, zl20, zl22, zl26, zl29, zl32, zl33, zl40, zl47, zl48, zl55, zl57, zl59, zl60, zl63, zl71, zl97, zl99, zl100, zl122, zl200, zl255, zl320, zl1000, zl1024, zl5040, zl1000000000, Nat.le_refl, ↓reduceIte], hx⟩)
    (fun n k x hk hx => by
      have h7 : ¬ T 1 ≤ k := by omega
      refine ⟨_, ?_, rfl⟩
      rw [Mo_parted_L4, hx, pts, inner k _ hk]
      simp (disch := omega) only [h.u, h7, z_lt, z_le, z_eq, z_in, z_cl, z_add, z_mul, z_mx, z_mn, zl12, zl18, zl19, zl30, zl115, zl116, zl119, zl291, zl640, zl999, zl9999, zl0, zl1, zl2, zl3, zl4, zl5, zl6, zl7, zl8, zl9, zl10, zl15, zl20, zl22, zl26, zl29, zl32, zl33, zl40, zl47, zl48, zl55, zl57, zl59, zl60, zl63, zl71, zl97, zl99, zl100, zl122, zl200, zl255, zl320, zl1000, zl1024, zl5040, zl1000000000, Option.bind_some, Option.bind_none, ↓reduceIte, Bool.false_eq_true, reduceCtorEq])
    am_fuel 0 0 (by omega) (z_fuel (by omega)) rfl
  rw [Mo_parted]
  rw [show Mo_parted_L4 am_fuel g 0 0 = some r from h1, h2]; rfl
theorem bur_br (h : RI T g S) (b : Bool) (hw : w < T 0) : -1000000 ≤ bur T S b w ∧ bur T S b w ≤ 1000000 := by
  have h1 := h.ld w
  have h2 := h.wb hw
  unfold bur
  split <;> omega
/-- the reference counts breath the other way round -/
def bsg (b : Bool) (x : Int) : Int := if b then -x else x
theorem mo_fair (h : RI T g S) (b : Bool) : Mo_fair g (am_b b) = some (if T 0 = 0 then 0 else zI (gI (bur T S b) (T 0) - lI (bur T S b) (T 0))) := by
  have hb := h.bb
  obtain ⟨r, h1, h2⟩ := lp_up (fun n (a : Int32 × Int32) k => Mo_fair_L7 n g (am_b b) a.1 a.2 (nI k)) (T 0)
    (fun k a => (k = 0 → a = (0, 0)) ∧ (0 < k → a = (zI (bsg b (if b then lI (bur T S b) k else gI (bur T S b) k)), zI (bsg b (if b then gI (bur T S b) k else lI (bur T S b) k)))))
    (fun r => r.1 - r.2 = if T 0 = 0 then 0 else zI (gI (bur T S b) (T 0) - lI (bur T S b) (T 0)))
    (fun n a ha => ⟨a, by rw [Mo_fair_L7]; simp (disch := omega) only [h.u, z_lt, z_le, z_eq, z_in, z_cl, z_add, z_mul, z_mx, z_mn, zl12, zl18, zl19, zl30, zl115, zl116, zl119, zl291, zl640, zl999, zl9999, zl0, zl1, zl2, zl3, zl4, zl5, zl6, zl7, zl8, zl9, zl10, zl15, zl20, zl22, zl26, zl29, zl32, zl33, zl40, zl47, zl48, zl55, zl57, zl59, zl60, zl63, zl71, zl97, zl99, zl100, zl122, zl200, zl255, zl320, zl1000, zl1024, zl5040, zl1000000000, Nat.le_refl, ↓reduceIte], by
      by_cases q : T 0 = 0
      · rw [if_pos q, ha.1 q]; rfl
      · rw [if_neg q, ha.2 (by omega), zI_sub]
        congr 1
        cases b <;> simp only [bsg, ↓reduceIte, Bool.false_eq_true] <;> omega⟩)
    (fun n k a hk ha => by
      have h6 : ¬ T 0 ≤ k := by omega
      have h7 := gI_b (f := bur T S b) (n := k) (fun i hi => bur_br h b (by omega))
      have h8 := lI_b (f := bur T S b) (n := k) (fun i hi => bur_br h b (by omega))
      have h9 := bur_br h b hk
      refine ⟨(zI (bsg b (if b then lI (bur T S b) (k + 1) else gI (bur T S b) (k + 1))), zI (bsg b (if b then gI (bur T S b) (k + 1) else lI (bur T S b) (k + 1)))), ?_, ⟨fun q => by omega, fun _ => rfl⟩⟩
      rw [Mo_fair_L7]
      have e : (if (am_b b) = 0 then (Mo_load g (nI k)).bind fun q3 => some q3 else (Mo_force g (nI k)).bind fun q5 => (Mo_load g (nI k)).bind fun q7 => some (q5 - q7)) = some (zI (bsg b (bur T S b k))) := by
        rw [mo_load h (by omega), mo_force h hk]
        cases b
        · rw [if_pos (show am_b false = 0 from rfl), bur]; simp only [Option.bind_some, Bool.false_eq_true, ↓reduceIte, zI_n, bsg]
        · rw [if_neg (show ¬ am_b true = 0 by decide), bur]; simp only [Option.bind_some, ↓reduceIte, zI_n, zI_sub, bsg]
          congr 2; omega
      rw [e]
      by_cases q : k = 0
      · subst q
        simp (disch := omega) only [h.u, h6, z_lt, z_le, z_eq, z_in, z_cl, z_add, z_mul, z_mx, z_mn, zl12, zl18, zl19, zl30, zl115, zl116, zl119, zl291, zl640, zl999, zl9999, zl0, zl1, zl2, zl3, zl4, zl5, zl6, zl7, zl8, zl9, zl10, zl15, zl20, zl22, zl26, zl29, zl32, zl33, zl40, zl47, zl48, zl55, zl57, zl59, zl60, zl63, zl71, zl97, zl99, zl100, zl122, zl200, zl255, zl320, zl1000, zl1024, zl5040, zl1000000000, Option.bind_some, Option.bind_none, ↓reduceIte, Bool.false_eq_true, reduceCtorEq]
        cases b <;> simp only [bsg, gI, lI, ↓reduceIte, Bool.false_eq_true] <;> (congr 2 <;> omega)
      · rw [ha.2 (by omega)]
        cases b
        · simp only [bsg, Bool.false_eq_true, ↓reduceIte] at h7 h8 h9 ⊢
          simp (disch := omega) only [h.u, h6, z_lt, z_le, z_eq, z_in, z_cl, z_add, z_mul, z_mx, z_mn, zl12, zl18, zl19, zl30, zl115, zl116, zl119, zl291, zl640, zl999, zl9999, zl0, zl1, zl2, zl3, zl4, zl5, zl6, zl7, zl8, zl9, zl10, zl15, zl20, zl22, zl26, zl29, zl32, zl33, zl40, zl47, zl48, zl55, zl57, zl59, zl60, zl63, zl71, zl97, zl99, zl100, zl122, zl200, zl255, zl320, zl1000, zl1024, zl5040, zl1000000000, q, zI_le, Option.bind_some, Option.bind_none, ↓reduceIte, Bool.false_eq_true, reduceCtorEq, gI, lI]
          congr 2 <;> split <;> congr 1 <;> omega
        · simp only [bsg, ↓reduceIte] at h7 h8 h9 ⊢
          simp (disch := omega) only [h.u, h6, z_lt, z_le, z_eq, z_in, z_cl, z_add, z_mul, z_mx, z_mn, zl12, zl18, zl19, zl30, zl115, zl116, zl119, zl291, zl640, zl999, zl9999, zl0, zl1, zl2, zl3, zl4, zl5, zl6, zl7, zl8, zl9, zl10, zl15, zl20, zl22, zl26, zl29, zl32, zl33, zl40, zl47, zl48, zl55, zl57, zl59, zl60, zl63, zl71, zl97, zl99, zl100, zl122, zl200, zl255, zl320, zl1000, zl1024, zl5040, zl1000000000, q, zI_le, Option.bind_some, Option.bind_none, ↓reduceIte, Bool.false_eq_true, reduceCtorEq, gI, lI]
          congr 2 <;> split <;> congr 1 <;> omega)
    am_fuel 0 (0, 0) (by omega) (z_fuel (by omega)) ⟨fun _ => rfl, fun q => by omega⟩
  rw [Mo_fair]
  rw [show Mo_fair_L7 am_fuel g (am_b b) 0 0 0 = some r from h1, Option.bind_some, h2]
end
