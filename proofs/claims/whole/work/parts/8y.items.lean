-- WAY, items: the class's, the reference's
def DC (D : Nat → Nat) (g : am_G) : Prop := g.1 15 0 = nI (D 0) ∧ g.1 15 3 = nI (D 1) ∧ g.1 15 9 = nI (D 2) ∧ (∀ w, w < D 0 → g.1 16 w = nI (D (4 + w)) ∧ g.1 17 w = nI (D (8 + w))) ∧ (∀ t, t < D 1 → g.1 18 t = nI (D (12 + t)) ∧ g.1 19 t = nI (D (19 + t)) ∧ g.1 20 t = nI (D (26 + t)) ∧ g.1 21 t = nI (D (33 + t)) ∧ g.1 22 t = nI (D (40 + t))) ∧ (∀ d, d < D 2 → g.1 23 d = nI (D (47 + d)) ∧ g.1 24 d = nI (D (55 + d)) ∧ g.1 25 d = nI (D (63 + d)))
def DR (D : Nat → Nat) (g : am_G) : Prop := ∀ k, k < 71 → g.1 224 k = nI (D k)
section
variable {B D : Nat → Nat} {L p q lo hb pl : Nat} {g g' : am_G}
theorem lv_le (hB : ∀ k, k < L → B k ≤ 255) : lv B L p ≤ 255 := by
  unfold lv
  split
  · rename_i k
    have hs := kd_n0 (B := B) (L := L) (p := p) (by omega)
    have := hB _ hs
    have hl : isl B (ts B L p) = true := by
      unfold kd at k
      rw [if_neg (by omega)] at k
      split at k
      · rename_i e; exact e
      · split at k
        · split at k <;> omega
        · split at k <;> omega
    unfold vl
    rw [if_pos hl]
    split <;> omega
  · omega
theorem kd_5 (B : Nat → Nat) (L p : Nat) : kd B L p ≤ 5 := by
  unfold kd
  repeat' split
  all_goals omega
theorem cl_letter (h : TkC B L p g) : (if (g.1 1 2) = 1 then g.1 1 5 else 0 : Int32) = nI (lv B L p) := by
  obtain ⟨hp, h3, h4, h2, h5⟩ := h
  have k5 := kd_5 B L p
  unfold lv
  by_cases k : kd B L p = 1
  · rw [if_pos k, h2, k, if_pos (by decide), h5 (Or.inl k)]
  · have : (if kd B L p = 5 then 4 else kd B L p) ≠ 1 := by split <;> omega
    rw [if_neg k, h2, if_neg (show ¬ nI (if kd B L p = 5 then 4 else kd B L p) = 1 by rw [zl1]; exact z_ne (by split <;> omega) (by omega) this)]; rfl
theorem re_item (hX : XB B L g) (hD : DC D g) (hW : TW D) (h : CS B L (.inr p) g) : ∃ g', Re_readItem g = some g' ∧ CS B L (itX B L p D) g' ∧ (∀ q, itX B L p D = .inr q → DC (itD B L p D) g') ∧ Fm pQ g g' := by
  have hlv := lv_le (B := B) (L := L) (p := p) (fun k hk => (hX.2.2 k hk).2)
  have hl := cl_letter h.2
  obtain ⟨d0, d1, d2, dw, dt, ds⟩ := hD
  have b0 := hW.1; have b1 := hW.2.1; have b2 := hW.2.2.1
  have bad : CS B L (.inl p) (am_wr g 14 2 1) ∧ Fm pQ g (am_wr g 14 2 1) := ⟨⟨h.2.1, by rw [m_eq], by rw [m_na (by omega)]; exact h.2.2.1⟩, (Fm.rf _ _).wr (Or.inr ⟨by omega, by omega⟩)⟩
  rw [Re_readItem, hl, d0, d1, d2]
  unfold itX itD
  by_cases a1 : lv B L p = 119
  · rw [a1]
    by_cases c1 : D 0 < 4
    · obtain ⟨g1, e1, e2, e3, e4, e5⟩ := re_walker hX h c1 d0
      have c1' : ¬ 4 ≤ D 0 := by omega
      refine ⟨g1, ?_, by rw [if_pos ⟨rfl, c1⟩]; exact e2, fun q hq => ?_, e3.mo (fun a k q => by unfold pQ; rcases q with (q | q) | q | q <;> omega)⟩
      · rw [e1]
        simp (disch := omega) only [z_lt, z_le, z_eq, z_in, z_cl, z_add, z_mul, z_mx, z_mn, zl12, zl18, zl19, zl30, zl115, zl116, zl119, zl291, zl640, zl999, zl9999, zl0, zl1, zl2, zl3, zl4, zl5, zl6, zl7, zl8, zl9, zl10, zl15, zl20, zl22, zl26, zl29, zl32, zl33, zl40, zl47, zl48, zl55, zl57, zl59, zl60, zl63, zl71, zl97, zl99, zl100, zl122, zl200, zl255, zl320, zl1000, zl1024, zl5040, zl1000000000, c1', Option.bind_some, Option.bind_none, ↓reduceIte, Bool.false_eq_true, reduceCtorEq]
      · rw [if_pos ⟨rfl, c1⟩] at hq
        obtain ⟨w1, w2⟩ := e5 q hq
        have o : ∀ a k, ¬ pN a k → ¬ (a = 15 ∧ k = 0) → ¬ (16 ≤ a ∧ a ≤ 17 ∧ k = D 0) → g1.1 a k = g.1 a k := fun a k x1 x2 x3 => e3.2 a k (fun q => by rcases q with q | q | q; exact x1 q; exact x2 q; exact x3 q)
        rw [if_pos rfl]
        unfold dW
        refine ⟨?_, ?_, ?_, fun w hw => ?_, fun t ht => ?_, fun d hd => ?_⟩
        · rw [e4, up_ne (by omega), up_eq]
        · rw [o _ _ (by unfold pN; omega) (by omega) (by omega), d1]; simp (disch := omega) only [up_ne]
        · rw [o _ _ (by unfold pN; omega) (by omega) (by omega), d2]; simp (disch := omega) only [up_ne]
        · rw [up_ne (by omega), up_eq] at hw
          by_cases e : w = D 0
          · subst e
            rw [w1, w2]
            simp (disch := omega) only [up_ne, up_eq, and_self]
          · rw [o _ _ (by unfold pN; omega) (by omega) (by omega), o _ _ (by unfold pN; omega) (by omega) (by omega)]
            simp (disch := omega) only [up_ne]
            exact dw w (by omega)
        · rw [up_ne (by omega), up_ne (by omega), up_ne (by omega), up_ne (by omega)] at ht
          simp (disch := omega) only [up_ne]
          rw [o _ _ (by unfold pN; omega) (by omega) (by omega), o _ _ (by unfold pN; omega) (by omega) (by omega), o _ _ (by unfold pN; omega) (by omega) (by omega), o _ _ (by unfold pN; omega) (by omega) (by omega), o _ _ (by unfold pN; omega) (by omega) (by omega)]
          exact dt t ht
        · rw [up_ne (by omega), up_ne (by omega), up_ne (by omega), up_ne (by omega)] at hd
          simp (disch := omega) only [up_ne]
          rw [o _ _ (by unfold pN; omega) (by omega) (by omega), o _ _ (by unfold pN; omega) (by omega) (by omega), o _ _ (by unfold pN; omega) (by omega) (by omega)]
          exact ds d hd
    · have c1' : 4 ≤ D 0 := by omega
      refine ⟨am_wr g 14 2 1, ?_, ?_, fun q hq => ?_, bad.2⟩
      · simp (disch := omega) only [z_lt, z_le, z_eq, z_in, z_cl, z_add, z_mul, z_mx, z_mn, zl12, zl18, zl19, zl30, zl115, zl116, zl119, zl291, zl640, zl999, zl9999, zl0, zl1, zl2, zl3, zl4, zl5, zl6, zl7, zl8, zl9, zl10, zl15, zl20, zl22, zl26, zl29, zl32, zl33, zl40, zl47, zl48, zl55, zl57, zl59, zl60, zl63, zl71, zl97, zl99, zl100, zl122, zl200, zl255, zl320, zl1000, zl1024, zl5040, zl1000000000, c1', Option.bind_some, Option.bind_none, ↓reduceIte, Bool.false_eq_true, reduceCtorEq, Nat.reduceEqDiff]
      · rw [if_neg (by omega), if_neg (by omega), if_neg (by omega)]; exact bad.1
      · rw [if_neg (by omega), if_neg (by omega), if_neg (by omega)] at hq; cases hq
  · by_cases a2 : lv B L p = 116
    · rw [a2]
      by_cases c1 : D 1 < 7
      · obtain ⟨g1, e1, e2, e3, e4, e5⟩ := re_thing hX h c1 b0 d1 d0
        have c1' : ¬ 7 ≤ D 1 := by omega
        refine ⟨g1, ?_, by rw [if_neg (by omega), if_pos ⟨rfl, c1⟩]; exact e2, fun q hq => ?_, e3.mo (fun a k q => by unfold pQ; rcases q with (q | q) | q | q <;> omega)⟩
        · rw [e1]
          simp (disch := omega) only [z_lt, z_le, z_eq, z_in, z_cl, z_add, z_mul, z_mx, z_mn, zl12, zl18, zl19, zl30, zl115, zl116, zl119, zl291, zl640, zl999, zl9999, zl0, zl1, zl2, zl3, zl4, zl5, zl6, zl7, zl8, zl9, zl10, zl15, zl20, zl22, zl26, zl29, zl32, zl33, zl40, zl47, zl48, zl55, zl57, zl59, zl60, zl63, zl71, zl97, zl99, zl100, zl122, zl200, zl255, zl320, zl1000, zl1024, zl5040, zl1000000000, c1', Option.bind_some, Option.bind_none, ↓reduceIte, Bool.false_eq_true, reduceCtorEq, Nat.reduceEqDiff]
        · rw [if_neg (by omega), if_pos ⟨rfl, c1⟩] at hq
          obtain ⟨w1, w2, w3, w4, w5⟩ := e5 q hq
          have o : ∀ a k, ¬ pN a k → ¬ (a = 15 ∧ k = 3) → ¬ (18 ≤ a ∧ a ≤ 22 ∧ k = D 1) → g1.1 a k = g.1 a k := fun a k x1 x2 x3 => e3.2 a k (fun q => by rcases q with q | q | q; exact x1 q; exact x2 q; exact x3 q)
          rw [if_neg (by omega), if_pos rfl]
          unfold dT
          refine ⟨?_, ?_, ?_, fun w hw => ?_, fun t ht => ?_, fun d hd => ?_⟩
          · rw [o _ _ (by unfold pN; omega) (by omega) (by omega), d0]; simp (disch := omega) only [up_ne]
          · rw [e4, up_ne (by omega), up_eq]
          · rw [o _ _ (by unfold pN; omega) (by omega) (by omega), d2]; simp (disch := omega) only [up_ne]
          · simp (disch := omega) only [up_ne] at hw
            simp (disch := omega) only [up_ne]
            rw [o _ _ (by unfold pN; omega) (by omega) (by omega), o _ _ (by unfold pN; omega) (by omega) (by omega)]
            exact dw w hw
          · rw [up_ne (by omega), up_eq] at ht
            by_cases e : t = D 1
            · subst e
              rw [w1, w2, w3, w4, w5]
              simp (disch := omega) only [up_ne, up_eq, and_self]
            · rw [o _ _ (by unfold pN; omega) (by omega) (by omega), o _ _ (by unfold pN; omega) (by omega) (by omega), o _ _ (by unfold pN; omega) (by omega) (by omega), o _ _ (by unfold pN; omega) (by omega) (by omega), o _ _ (by unfold pN; omega) (by omega) (by omega)]
              simp (disch := omega) only [up_ne]
              exact dt t (by omega)
          · simp (disch := omega) only [up_ne] at hd
            simp (disch := omega) only [up_ne]
            rw [o _ _ (by unfold pN; omega) (by omega) (by omega), o _ _ (by unfold pN; omega) (by omega) (by omega), o _ _ (by unfold pN; omega) (by omega) (by omega)]
            exact ds d hd
      · have c1' : 7 ≤ D 1 := by omega
        refine ⟨am_wr g 14 2 1, ?_, ?_, fun q hq => ?_, bad.2⟩
        · simp (disch := omega) only [z_lt, z_le, z_eq, z_in, z_cl, z_add, z_mul, z_mx, z_mn, zl12, zl18, zl19, zl30, zl115, zl116, zl119, zl291, zl640, zl999, zl9999, zl0, zl1, zl2, zl3, zl4, zl5, zl6, zl7, zl8, zl9, zl10, zl15, zl20, zl22, zl26, zl29, zl32, zl33, zl40, zl47, zl48, zl55, zl57, zl59, zl60, zl63, zl71, zl97, zl99, zl100, zl122, zl200, zl255, zl320, zl1000, zl1024, zl5040, zl1000000000, c1', Option.bind_some, Option.bind_none, ↓reduceIte, Bool.false_eq_true, reduceCtorEq, Nat.reduceEqDiff]
        · rw [if_neg (by omega), if_neg (by omega), if_neg (by omega)]; exact bad.1
        · rw [if_neg (by omega), if_neg (by omega), if_neg (by omega)] at hq; cases hq
    · by_cases a3 : lv B L p = 115
      · rw [a3]
        by_cases c1 : D 2 < 8
        · obtain ⟨g1, e1, e2, e3, e4, e5⟩ := re_stage hX h c1 d2
          have c1' : ¬ 8 ≤ D 2 := by omega
          refine ⟨g1, ?_, by rw [if_neg (by omega), if_neg (by omega), if_pos ⟨rfl, c1⟩]; exact e2, fun q hq => ?_, e3.mo (fun a k q => by unfold pQ; rcases q with (q | q) | q | q <;> omega)⟩
          · rw [e1]
            simp (disch := omega) only [z_lt, z_le, z_eq, z_in, z_cl, z_add, z_mul, z_mx, z_mn, zl12, zl18, zl19, zl30, zl115, zl116, zl119, zl291, zl640, zl999, zl9999, zl0, zl1, zl2, zl3, zl4, zl5, zl6, zl7, zl8, zl9, zl10, zl15, zl20, zl22, zl26, zl29, zl32, zl33, zl40, zl47, zl48, zl55, zl57, zl59, zl60, zl63, zl71, zl97, zl99, zl100, zl122, zl200, zl255, zl320, zl1000, zl1024, zl5040, zl1000000000, c1', Option.bind_some, Option.bind_none, ↓reduceIte, Bool.false_eq_true, reduceCtorEq, Nat.reduceEqDiff]
          · rw [if_neg (by omega), if_neg (by omega), if_pos ⟨rfl, c1⟩] at hq
            obtain ⟨w1, w2, w3⟩ := e5 q hq
            have o : ∀ a k, ¬ pN a k → ¬ (a = 15 ∧ k = 9) → ¬ (23 ≤ a ∧ a ≤ 25 ∧ k = D 2) → g1.1 a k = g.1 a k := fun a k x1 x2 x3 => e3.2 a k (fun q => by rcases q with q | q | q; exact x1 q; exact x2 q; exact x3 q)
            rw [if_neg (by omega), if_neg (by omega)]
            unfold dS
            refine ⟨?_, ?_, ?_, fun w hw => ?_, fun t ht => ?_, fun d hd => ?_⟩
            · rw [o _ _ (by unfold pN; omega) (by omega) (by omega), d0]; simp (disch := omega) only [up_ne]
            · rw [o _ _ (by unfold pN; omega) (by omega) (by omega), d1]; simp (disch := omega) only [up_ne]
            · rw [e4, up_ne (by omega), up_eq]
            · simp (disch := omega) only [up_ne] at hw
              simp (disch := omega) only [up_ne]
              rw [o _ _ (by unfold pN; omega) (by omega) (by omega), o _ _ (by unfold pN; omega) (by omega) (by omega)]
              exact dw w hw
            · simp (disch := omega) only [up_ne] at ht
              simp (disch := omega) only [up_ne]
              rw [o _ _ (by unfold pN; omega) (by omega) (by omega), o _ _ (by unfold pN; omega) (by omega) (by omega), o _ _ (by unfold pN; omega) (by omega) (by omega), o _ _ (by unfold pN; omega) (by omega) (by omega), o _ _ (by unfold pN; omega) (by omega) (by omega)]
              exact dt t ht
            · rw [up_ne (by omega), up_eq] at hd
              by_cases e : d = D 2
              · subst e
                rw [w1, w2, w3]
                simp (disch := omega) only [up_ne, up_eq, and_self]
              · rw [o _ _ (by unfold pN; omega) (by omega) (by omega), o _ _ (by unfold pN; omega) (by omega) (by omega), o _ _ (by unfold pN; omega) (by omega) (by omega)]
                simp (disch := omega) only [up_ne]
                exact ds d (by omega)
        · have c1' : 8 ≤ D 2 := by omega
          refine ⟨am_wr g 14 2 1, ?_, ?_, fun q hq => ?_, bad.2⟩
          · simp (disch := omega) only [z_lt, z_le, z_eq, z_in, z_cl, z_add, z_mul, z_mx, z_mn, zl12, zl18, zl19, zl30, zl115, zl116, zl119, zl291, zl640, zl999, zl9999, zl0, zl1, zl2, zl3, zl4, zl5, zl6, zl7, zl8, zl9, zl10, zl15, zl20, zl22, zl26, zl29, zl32, zl33, zl40, zl47, zl48, zl55, zl57, zl59, zl60, zl63, zl71, zl97, zl99, zl100, zl122, zl200, zl255, zl320, zl1000, zl1024, zl5040, zl1000000000, c1', Option.bind_some, Option.bind_none, ↓reduceIte, Bool.false_eq_true, reduceCtorEq, Nat.reduceEqDiff]
          · rw [if_neg (by omega), if_neg (by omega), if_neg (by omega)]; exact bad.1
          · rw [if_neg (by omega), if_neg (by omega), if_neg (by omega)] at hq; cases hq
      · refine ⟨am_wr g 14 2 1, ?_, ?_, fun q hq => ?_, bad.2⟩
        · simp (disch := omega) only [z_lt, z_le, z_eq, z_in, z_cl, z_add, z_mul, z_mx, z_mn, zl12, zl18, zl19, zl30, zl115, zl116, zl119, zl291, zl640, zl999, zl9999, zl0, zl1, zl2, zl3, zl4, zl5, zl6, zl7, zl8, zl9, zl10, zl15, zl20, zl22, zl26, zl29, zl32, zl33, zl40, zl47, zl48, zl55, zl57, zl59, zl60, zl63, zl71, zl97, zl99, zl100, zl122, zl200, zl255, zl320, zl1000, zl1024, zl5040, zl1000000000, a1, a2, a3, Option.bind_some, Option.bind_none, ↓reduceIte, Bool.false_eq_true, reduceCtorEq]
        · rw [if_neg (by omega), if_neg (by omega), if_neg (by omega)]; exact bad.1
        · rw [if_neg (by omega), if_neg (by omega), if_neg (by omega)] at hq; cases hq
-- the reference
theorem mo_num (h : YB B L g) (hp : p ≤ L) (h10 : g.1 221 10 = nI p) (hpl : pl < 71) (hhb : hb ≤ 90) (hlo : lo ≤ 90) : ∃ g', Mo_number g (nI pl) (nI lo) (nI hb - 1) = some (g', decide (nok B L lo hb p)) ∧ g'.1 221 12 = nI (ts B L p) ∧ g'.1 221 10 = nI (tn B L p) ∧ (nok B L lo hb p → g'.1 224 pl = nI (vl B L p)) ∧ Fm (fun a k => pV a k ∨ (a = 224 ∧ k = pl)) g g' ∧ YB B L g' := by
  obtain ⟨g1, e1, ⟨-, t1, t2, t3, t4, t5⟩, f1⟩ := mo_tok h hp h10
  have k5 := kd_5 B L p
  have F : ∀ v, Fm (fun a k => pV a k ∨ (a = 224 ∧ k = pl)) g (am_wr g1 224 pl v) := fun v => (f1.mo (fun a k q => Or.inl q)).wr (Or.inr ⟨rfl, rfl⟩)
  have Y : ∀ v, YB B L (am_wr g1 224 pl v) := fun v => h.fm (F v) (by unfold pV; omega) (fun k => by unfold pV; omega)
  have hm : (nI hb - 1).toInt = (hb : Int) - 1 := pk_sub_toInt (a := hb) (b := 1) (by omega) (by omega)
  refine ⟨am_wr g1 224 pl (g1.1 221 13), ?_, by rw [m_na (by omega)]; exact t1, by rw [m_na (by omega)]; exact t2, fun ok => by rw [m_eq]; exact t4 (Or.inr ok.1), F _, Y _⟩
  rw [Mo_number, e1, Option.bind_some, if_pos (z_in hpl (by omega)), z_cl (by omega), m_na (by omega), m_na (by omega), t3]
  have inn : ∀ v : Nat, v ≤ 1000 → g1.1 221 13 = nI v → Mo_in (am_wr g1 224 pl (g1.1 221 13)) (g1.1 221 13) (nI lo) (nI hb - 1) = some (decide (lo ≤ v ∧ v < hb)) := by
    intro v hv e
    rw [wi g, e]
    have hx := nI_toInt (n := v) (by omega)
    by_cases q : lo ≤ v ∧ v < hb
    · rw [decide_eq_true q]
      exact w_t (nI_nlt q.1 (by omega)) (fun e => by rw [Int32.lt_iff_toInt_lt] at e; omega)
    · rw [decide_eq_false q]
      by_cases q2 : v < lo
      · exact w_f (Or.inl (nI_lt q2 (by omega)))
      · exact w_f (Or.inr (by rw [Int32.lt_iff_toInt_lt]; omega))
  have tail : ∀ b : Bool, Mo_in (am_wr g1 224 pl (g1.1 221 13)) (g1.1 221 13) (nI lo) (nI hb - 1) = some b → ((Mo_in (am_wr g1 224 pl (g1.1 221 13)) (g1.1 221 13) (nI lo) (nI hb - 1)).bind fun q5 => if q5 = true then some (am_wr g1 224 pl (g1.1 221 13), true) else some (am_wr g1 224 pl (g1.1 221 13), false)) = some (am_wr g1 224 pl (g1.1 221 13), b) := by
    intro b hb
    rw [hb]
    cases b <;> rfl
  by_cases k2 : kd B L p = 2
  · have hvl : vl B L p ≤ 1000 := by
      have hs := kd_n0 (B := B) (L := L) (p := p) (by omega)
      have k2' := k2
      unfold kd at k2'
      rw [if_neg (by omega)] at k2'
      unfold vl
      split at k2'
      · omega
      · rename_i ql
        rw [if_neg ql]
        split at k2'
        · split at k2'
          · omega
          · omega
        · split at k2' <;> omega
    rw [show (if kd B L p = 5 then 2 else kd B L p) = 2 by rw [k2]; rfl, if_pos (show nI 2 = 2 from rfl), tail _ (inn _ hvl (t4 (Or.inr k2)))]
    congr 3
    simp only [nok, k2, true_and]
  · by_cases k5' : kd B L p = 5
    · obtain ⟨v, v1, v2, v3⟩ := t5 k5'
      rw [show (if kd B L p = 5 then 2 else kd B L p) = 2 by rw [k5']; rfl, if_pos (show nI 2 = 2 from rfl), tail _ (inn v v2 v3)]
      congr 3
      apply propext
      constructor
      · intro e; omega
      · intro e; exact absurd e.1 k2
    · rw [if_neg k5', if_neg (show ¬ nI (kd B L p) = 2 by rw [zl2]; exact z_ne (by omega) (by omega) k2), decide_eq_false (fun e => k2 e.1)]
theorem DR.wr (h : DR D g) (f : Fm (fun a k => pV a k ∨ (a = 224 ∧ k = pl)) g g') {v : Nat} (e : g'.1 224 pl = nI v) : DR (up D pl v) g' := by
  intro k hk
  by_cases q : k = pl
  · subst q; rw [e, up_eq]
  · rw [up_ne q, f.2 _ _ (by unfold pV; omega)]; exact h k hk
theorem DR.set (h : DR D g) (k v : Nat) : DR (up D k v) (am_wr g 224 k (nI v)) := by
  intro j hj
  by_cases q : j = k
  · subst q; rw [m_eq, up_eq]
  · rw [up_ne q, m_nk q]; exact h j hj
def pU (a k : Nat) : Prop := (a = 221 ∧ 10 ≤ k) ∨ a = 224
/-- what an item's numbers leave: a fault, or the place of its end -/
def RQ (B : Nat → Nat) (L : Nat) (X : Nat ⊕ Nat) (D' : Nat → Nat) (pe : Nat) (g g' : am_G) (b : Bool) : Prop := Fm pU g g' ∧ ((b = false ∧ ∃ f, X = .inl f ∧ g'.1 221 12 = nI (ts B L f)) ∨ (b = true ∧ X = stE B L (.inr pe) ∧ pe ≤ L ∧ g'.1 221 10 = nI pe ∧ DR D' g' ∧ YB B L g'))
theorem mo_rwalker (h : YB B L g) (hp : p ≤ L) (h10 : g.1 221 10 = nI (tn B L p)) (hD : DR D g) (hw : D 0 < 4) : ∃ g' b, Mo_readsWalker g = some (g', b) ∧ RQ B L (xW B L p) (up (up (up D (4 + D 0) (vl B L (tj B L p 1))) (8 + D 0) (vl B L (tj B L p 2))) 0 (D 0 + 1)) (tj B L p 3) g g' b := by
  have j := fun i => (tj_b B hp i).2
  obtain ⟨g1, a1, a2, a3, a4, a5, a6⟩ := mo_num h (j 1) h10 (pl := 4 + D 0) (lo := 1) (hb := 41) (by omega) (by omega) (by omega)
  have e0 := hD 0 (by omega)
  have head : Mo_readsWalker g = (if decide (nok B L 1 41 (tj B L p 1)) = true then (Mo_number g1 (nI (8 + D 0)) 0 5).bind fun q5 => if q5.2 = true then some (am_wr q5.1 224 0 ((q5.1.1 224 0) + 1), true) else some (q5.1, false) else some (g1, false)) := by
    rw [Mo_readsWalker, e0, if_neg (show ¬ nI (D 0) = 4 by rw [zl4]; exact z_ne (by omega) (by omega) (by omega)), zl4, z_add, show Mo_number g (nI (4 + D 0)) 1 40 = _ from a1, Option.bind_some, zl8, z_add]
  rw [head]
  by_cases k1 : nok B L 1 41 (tj B L p 1)
  · rw [if_pos (decide_eq_true k1)]
    have s1 : stN B L 1 41 (.inr (tn B L p)) = .inr (tj B L p 2) := by simp only [stN]; rw [if_pos (show nok B L 1 41 (tn B L p) from k1)]; rfl
    have D1 := hD.wr a5 (a4 k1)
    obtain ⟨g2, b1, b2, b3, b4, b5, b6⟩ := mo_num a6 (j 2) a3 (pl := 8 + D 0) (lo := 0) (hb := 6) (by omega) (by omega) (by omega)
    have F2 : Fm pU g g2 := (a5.mo (fun a k q => by rcases q with q | q; exact Or.inl q; exact Or.inr q.1)).tr (b5.mo (fun a k q => by rcases q with q | q; exact Or.inl q; exact Or.inr q.1))
    rw [show Mo_number g1 (nI (8 + D 0)) 0 5 = _ from b1, Option.bind_some]
    by_cases k2 : nok B L 0 6 (tj B L p 2)
    · have D2 := D1.wr b5 (b4 k2)
      have e2 := D2 0 (by omega)
      rw [up_ne (by omega), up_ne (by omega)] at e2
      rw [if_pos (decide_eq_true k2), e2, nI_1]
      refine ⟨_, true, rfl, F2.wr (Or.inr rfl), Or.inr ⟨rfl, ?_, j 3, by rw [m_na (by omega)]; exact b3, D2.set 0 _, b6.fm (P := fun a _ => a = 224) ((Fm.rf _ _).wr rfl) (by omega) (fun k => by omega)⟩⟩
      unfold xW
      rw [s1]
      simp only [stN]
      rw [if_pos k2]; rfl
    · rw [if_neg (by simpa using k2)]
      refine ⟨_, false, rfl, F2, Or.inl ⟨rfl, tj B L p 2, ?_, b2⟩⟩
      unfold xW
      rw [s1]
      simp only [stN]
      rw [if_neg k2]; rfl
  · rw [if_neg (by simpa using k1)]
    refine ⟨_, false, rfl, a5.mo (fun a k q => by rcases q with q | q; exact Or.inl q; exact Or.inr q.1), Or.inl ⟨rfl, tj B L p 1, ?_, a2⟩⟩
    have s1 : stN B L 1 41 (.inr (tn B L p)) = .inl (tj B L p 1) := by simp only [stN]; rw [if_neg (show ¬ nok B L 1 41 (tn B L p) from k1)]; rfl
    unfold xW
    rw [s1]; rfl
theorem mo_rstage (h : YB B L g) (hp : p ≤ L) (h10 : g.1 221 10 = nI (tn B L p)) (hD : DR D g) (hw : D 2 < 8) : ∃ g' b, Mo_readsStage g = some (g', b) ∧ RQ B L (xS B L p) (up (up (up (up D (47 + D 2) (vl B L (tj B L p 1))) (55 + D 2) (vl B L (tj B L p 2))) (63 + D 2) (vl B L (tj B L p 3))) 2 (D 2 + 1)) (tj B L p 4) g g' b := by
  have j := fun i => (tj_b B hp i).2
  have mo1 : ∀ {pl : Nat} {g g' : am_G}, Fm (fun a k => pV a k ∨ (a = 224 ∧ k = pl)) g g' → Fm pU g g' := fun f => f.mo (fun a k q => by rcases q with q | q; exact Or.inl q; exact Or.inr q.1)
  obtain ⟨g1, a1, a2, a3, a4, a5, a6⟩ := mo_num h (j 1) h10 (pl := 47 + D 2) (lo := 1) (hb := 21) (by omega) (by omega) (by omega)
  have e0 := hD 2 (by omega)
  rw [Mo_readsStage, e0, if_neg (show ¬ nI (D 2) = 8 by rw [zl8]; exact z_ne (by omega) (by omega) (by omega)), zl47, z_add, show Mo_number g (nI (47 + D 2)) 1 20 = _ from a1, Option.bind_some, zl55, z_add, zl63, z_add]
  by_cases k1 : nok B L 1 21 (tj B L p 1)
  · rw [if_pos (decide_eq_true k1)]
    have s1 : stN B L 1 21 (.inr (tn B L p)) = .inr (tj B L p 2) := by simp only [stN]; rw [if_pos (show nok B L 1 21 (tn B L p) from k1)]; rfl
    have D1 := hD.wr a5 (a4 k1)
    obtain ⟨g2, b1, b2, b3, b4, b5, b6⟩ := mo_num a6 (j 2) a3 (pl := 55 + D 2) (lo := 0) (hb := 2) (by omega) (by omega) (by omega)
    rw [show Mo_number g1 (nI (55 + D 2)) 0 1 = _ from b1, Option.bind_some]
    by_cases k2 : nok B L 0 2 (tj B L p 2)
    · rw [if_pos (decide_eq_true k2)]
      have s2 : stN B L 0 2 (stN B L 1 21 (.inr (tn B L p))) = .inr (tj B L p 3) := by rw [s1]; simp only [stN]; rw [if_pos k2]; rfl
      have D2 := D1.wr b5 (b4 k2)
      obtain ⟨g3, c1, c2, c3, c4, c5, c6⟩ := mo_num b6 (j 3) b3 (pl := 63 + D 2) (lo := 0) (hb := 2) (by omega) (by omega) (by omega)
      rw [show Mo_number g2 (nI (63 + D 2)) 0 1 = _ from c1, Option.bind_some]
      by_cases k3 : nok B L 0 2 (tj B L p 3)
      · have D3 := D2.wr c5 (c4 k3)
        have e3 := D3 2 (by omega)
        rw [up_ne (by omega), up_ne (by omega), up_ne (by omega)] at e3
        rw [if_pos (decide_eq_true k3), e3, nI_1]
        refine ⟨_, true, rfl, (((mo1 a5).tr (mo1 b5)).tr (mo1 c5)).wr (Or.inr rfl), Or.inr ⟨rfl, ?_, j 4, by rw [m_na (by omega)]; exact c3, D3.set 2 _, c6.fm (P := fun a _ => a = 224) ((Fm.rf _ _).wr rfl) (by omega) (fun k => by omega)⟩⟩
        unfold xS
        rw [s2]
        simp only [stN]
        rw [if_pos k3]; rfl
      · rw [if_neg (by simpa using k3)]
        refine ⟨_, false, rfl, ((mo1 a5).tr (mo1 b5)).tr (mo1 c5), Or.inl ⟨rfl, tj B L p 3, ?_, c2⟩⟩
        unfold xS
        rw [s2]
        simp only [stN]
        rw [if_neg k3]; rfl
    · rw [if_neg (by simpa using k2)]
      refine ⟨_, false, rfl, (mo1 a5).tr (mo1 b5), Or.inl ⟨rfl, tj B L p 2, ?_, b2⟩⟩
      unfold xS
      rw [s1]
      simp only [stN]
      rw [if_neg k2]; rfl
  · rw [if_neg (by simpa using k1)]
    refine ⟨_, false, rfl, mo1 a5, Or.inl ⟨rfl, tj B L p 1, ?_, a2⟩⟩
    have s1 : stN B L 1 21 (.inr (tn B L p)) = .inl (tj B L p 1) := by simp only [stN]; rw [if_neg (show ¬ nok B L 1 21 (tn B L p) from k1)]; rfl
    unfold xS
    rw [s1]; rfl
theorem mo_rthing (h : YB B L g) (hp : p ≤ L) (h10 : g.1 221 10 = nI (tn B L p)) (hD : DR D g) (hw : D 1 < 7) (h04 : D 0 ≤ 4) : ∃ g' b, Mo_readsThing g = some (g', b) ∧ RQ B L (xT B L p (D 0)) (up (up (up (up (up (up D (12 + D 1) (vl B L (tj B L p 1))) (19 + D 1) (vl B L (tj B L p 2))) (26 + D 1) (vl B L (tj B L p 3))) (33 + D 1) (vl B L (tj B L p 4))) (40 + D 1) (vl B L (tj B L p 5))) 1 (D 1 + 1)) (tj B L p 6) g g' b := by
  have j := fun i => (tj_b B hp i).2
  have mo1 : ∀ {pl : Nat} {g g' : am_G}, Fm (fun a k => pV a k ∨ (a = 224 ∧ k = pl)) g g' → Fm pU g g' := fun f => f.mo (fun a k q => by rcases q with q | q; exact Or.inl q; exact Or.inr q.1)
  obtain ⟨g1, a1, a2, a3, a4, a5, a6⟩ := mo_num h (j 1) h10 (pl := 12 + D 1) (lo := 1) (hb := 21) (by omega) (by omega) (by omega)
  have e0 := hD 1 (by omega)
  rw [Mo_readsThing, e0, if_neg (show ¬ nI (D 1) = 7 by rw [zl7]; exact z_ne (by omega) (by omega) (by omega)), zl12, z_add, show Mo_number g (nI (12 + D 1)) 1 20 = _ from a1, Option.bind_some, zl19, z_add, zl26, z_add, zl33, z_add, zl40, z_add]
  by_cases k1 : nok B L 1 21 (tj B L p 1)
  · rw [if_pos (decide_eq_true k1)]
    have s1 : stN B L 1 21 (.inr (tn B L p)) = .inr (tj B L p 2) := by simp only [stN]; rw [if_pos (show nok B L 1 21 (tn B L p) from k1)]; rfl
    have D1 := hD.wr a5 (a4 k1)
    obtain ⟨g2, b1, b2, b3, b4, b5, b6⟩ := mo_num a6 (j 2) a3 (pl := 19 + D 1) (lo := 0) (hb := 10) (by omega) (by omega) (by omega)
    rw [show Mo_number g1 (nI (19 + D 1)) 0 9 = _ from b1, Option.bind_some]
    by_cases k2 : nok B L 0 10 (tj B L p 2)
    · rw [if_pos (decide_eq_true k2)]
      have s2 : stN B L 0 10 (stN B L 1 21 (.inr (tn B L p))) = .inr (tj B L p 3) := by rw [s1]; simp only [stN]; rw [if_pos k2]; rfl
      have D2 := D1.wr b5 (b4 k2)
      obtain ⟨g3, c1, c2, c3, c4, c5, c6⟩ := mo_num b6 (j 3) b3 (pl := 26 + D 1) (lo := 0) (hb := 2) (by omega) (by omega) (by omega)
      rw [show Mo_number g2 (nI (26 + D 1)) 0 1 = _ from c1, Option.bind_some]
      by_cases k3 : nok B L 0 2 (tj B L p 3)
      · rw [if_pos (decide_eq_true k3)]
        have s3 : stN B L 0 2 (stN B L 0 10 (stN B L 1 21 (.inr (tn B L p)))) = .inr (tj B L p 4) := by rw [s2]; simp only [stN]; rw [if_pos k3]; rfl
        have D3 := D2.wr c5 (c4 k3)
        obtain ⟨g4, i1, i2, i3, i4, i5, i6⟩ := mo_num c6 (j 4) c3 (pl := 33 + D 1) (lo := 0) (hb := 4) (by omega) (by omega) (by omega)
        rw [show Mo_number g3 (nI (33 + D 1)) 0 3 = _ from i1, Option.bind_some]
        by_cases k4 : nok B L 0 4 (tj B L p 4)
        · rw [if_pos (decide_eq_true k4)]
          have s4 : stN B L 0 4 (stN B L 0 2 (stN B L 0 10 (stN B L 1 21 (.inr (tn B L p))))) = .inr (tj B L p 5) := by rw [s3]; simp only [stN]; rw [if_pos k4]; rfl
          have D4 := D3.wr i5 (i4 k4)
          have e4 := D4 0 (by omega)
          rw [up_ne (by omega), up_ne (by omega), up_ne (by omega), up_ne (by omega)] at e4
          obtain ⟨g5, m1, m2, m3, m4, m5, m6⟩ := mo_num i6 (j 5) i3 (pl := 40 + D 1) (lo := 0) (hb := D 0) (by omega) (by omega) (by omega)
          rw [e4, show Mo_number g4 (nI (40 + D 1)) 0 (nI (D 0) - 1) = _ from m1, Option.bind_some]
          by_cases k5 : nok B L 0 (D 0) (tj B L p 5)
          · have D5 := D4.wr m5 (m4 k5)
            have e5 := D5 1 (by omega)
            rw [up_ne (by omega), up_ne (by omega), up_ne (by omega), up_ne (by omega), up_ne (by omega)] at e5
            rw [if_pos (decide_eq_true k5), e5, nI_1]
            refine ⟨_, true, rfl, (((((mo1 a5).tr (mo1 b5)).tr (mo1 c5)).tr (mo1 i5)).tr (mo1 m5)).wr (Or.inr rfl), Or.inr ⟨rfl, ?_, j 6, by rw [m_na (by omega)]; exact m3, D5.set 1 _, m6.fm (P := fun a _ => a = 224) ((Fm.rf _ _).wr rfl) (by omega) (fun k => by omega)⟩⟩
            unfold xT
            rw [s4]
            simp only [stN]
            rw [if_pos k5]; rfl
          · rw [if_neg (by simpa using k5)]
            refine ⟨_, false, rfl, ((((mo1 a5).tr (mo1 b5)).tr (mo1 c5)).tr (mo1 i5)).tr (mo1 m5), Or.inl ⟨rfl, tj B L p 5, ?_, m2⟩⟩
            unfold xT
            rw [s4]
            simp only [stN]
            rw [if_neg k5]; rfl
        · rw [if_neg (by simpa using k4)]
          refine ⟨_, false, rfl, (((mo1 a5).tr (mo1 b5)).tr (mo1 c5)).tr (mo1 i5), Or.inl ⟨rfl, tj B L p 4, ?_, i2⟩⟩
          unfold xT
          rw [s3]
          simp only [stN]
          rw [if_neg k4]; rfl
      · rw [if_neg (by simpa using k3)]
        refine ⟨_, false, rfl, ((mo1 a5).tr (mo1 b5)).tr (mo1 c5), Or.inl ⟨rfl, tj B L p 3, ?_, c2⟩⟩
        unfold xT
        rw [s2]
        simp only [stN]
        rw [if_neg k3]; rfl
    · rw [if_neg (by simpa using k2)]
      refine ⟨_, false, rfl, (mo1 a5).tr (mo1 b5), Or.inl ⟨rfl, tj B L p 2, ?_, b2⟩⟩
      unfold xT
      rw [s1]
      simp only [stN]
      rw [if_neg k2]; rfl
  · rw [if_neg (by simpa using k1)]
    refine ⟨_, false, rfl, mo1 a5, Or.inl ⟨rfl, tj B L p 1, ?_, a2⟩⟩
    have s1 : stN B L 1 21 (.inr (tn B L p)) = .inl (tj B L p 1) := by simp only [stN]; rw [if_neg (show ¬ nok B L 1 21 (tn B L p) from k1)]; rfl
    unfold xT
    rw [s1]; rfl
end
