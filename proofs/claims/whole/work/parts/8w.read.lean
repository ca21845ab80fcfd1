-- WAY: what a text tells
abbrev nok (B : Nat → Nat) (L lo hb p : Nat) : Prop := kd B L p = 2 ∧ lo ≤ vl B L p ∧ vl B L p < hb
def stN (B : Nat → Nat) (L lo hb : Nat) (x : Nat ⊕ Nat) : Nat ⊕ Nat := match x with | .inl f => .inl f | .inr p => if nok B L lo hb p then .inr (tn B L p) else .inl p
def stE (B : Nat → Nat) (L : Nat) (x : Nat ⊕ Nat) : Nat ⊕ Nat := match x with | .inl f => .inl f | .inr p => if kd B L p = 3 then .inr (tn B L p) else .inl p
def lv (B : Nat → Nat) (L p : Nat) : Nat := if kd B L p = 1 then vl B L p else 0
def xW (B : Nat → Nat) (L p : Nat) : Nat ⊕ Nat := stE B L (stN B L 0 6 (stN B L 1 41 (.inr (tn B L p))))
def xT (B : Nat → Nat) (L p w : Nat) : Nat ⊕ Nat := stE B L (stN B L 0 w (stN B L 0 4 (stN B L 0 2 (stN B L 0 10 (stN B L 1 21 (.inr (tn B L p)))))))
def xS (B : Nat → Nat) (L p : Nat) : Nat ⊕ Nat := stE B L (stN B L 0 2 (stN B L 0 2 (stN B L 1 21 (.inr (tn B L p)))))
def itX (B : Nat → Nat) (L p : Nat) (D : Nat → Nat) : Nat ⊕ Nat := if lv B L p = 119 ∧ D 0 < 4 then xW B L p else if lv B L p = 116 ∧ D 1 < 7 then xT B L p (D 0) else if lv B L p = 115 ∧ D 2 < 8 then xS B L p else .inl p
/-- the j-th token behind the one at p -/
def tj (B : Nat → Nat) (L p : Nat) : Nat → Nat
  | 0 => p
  | j + 1 => tn B L (tj B L p j)
def dW (B : Nat → Nat) (L p : Nat) (D : Nat → Nat) : Nat → Nat := up (up (up (up D (4 + D 0) (vl B L (tj B L p 1))) (8 + D 0) (vl B L (tj B L p 2))) 0 (D 0 + 1)) 3 (D 3 + 1)
def dT (B : Nat → Nat) (L p : Nat) (D : Nat → Nat) : Nat → Nat := up (up (up (up (up (up (up D (12 + D 1) (vl B L (tj B L p 1))) (19 + D 1) (vl B L (tj B L p 2))) (26 + D 1) (vl B L (tj B L p 3))) (33 + D 1) (vl B L (tj B L p 4))) (40 + D 1) (vl B L (tj B L p 5))) 1 (D 1 + 1)) 3 (D 3 + 1)
def dS (B : Nat → Nat) (L p : Nat) (D : Nat → Nat) : Nat → Nat := up (up (up (up (up D (47 + D 2) (vl B L (tj B L p 1))) (55 + D 2) (vl B L (tj B L p 2))) (63 + D 2) (vl B L (tj B L p 3))) 2 (D 2 + 1)) 3 (D 3 + 1)
def itD (B : Nat → Nat) (L p : Nat) (D : Nat → Nat) : Nat → Nat := if lv B L p = 119 then dW B L p D else if lv B L p = 116 then dT B L p D else dS B L p D
section
variable {B D : Nat → Nat} {L p q lo hb : Nat} {x : Nat ⊕ Nat} {g g' : am_G}
theorem stN_r (h : stN B L lo hb x = .inr q) : ∃ p, x = .inr p ∧ nok B L lo hb p ∧ q = tn B L p := by
  cases x with
  | inl f => simp [stN] at h
  | inr p =>
    simp only [stN] at h
    split at h
    · rename_i k; cases h; exact ⟨p, rfl, k, rfl⟩
    · cases h
theorem stE_r (h : stE B L x = .inr q) : ∃ p, x = .inr p ∧ kd B L p = 3 ∧ q = tn B L p := by
  cases x with
  | inl f => simp [stE] at h
  | inr p =>
    simp only [stE] at h
    split at h
    · rename_i k; cases h; exact ⟨p, rfl, k, rfl⟩
    · cases h
theorem xW_r (h : xW B L p = .inr q) : nok B L 1 41 (tj B L p 1) ∧ nok B L 0 6 (tj B L p 2) ∧ kd B L (tj B L p 3) = 3 ∧ q = tj B L p 4 := by
  obtain ⟨p3, e3, k3, rfl⟩ := stE_r h
  obtain ⟨p2, e2, k2, rfl⟩ := stN_r e3
  obtain ⟨p1, e1, k1, rfl⟩ := stN_r e2
  cases e1
  exact ⟨k1, k2, k3, rfl⟩
theorem xS_r (h : xS B L p = .inr q) : nok B L 1 21 (tj B L p 1) ∧ nok B L 0 2 (tj B L p 2) ∧ nok B L 0 2 (tj B L p 3) ∧ kd B L (tj B L p 4) = 3 ∧ q = tj B L p 5 := by
  obtain ⟨p4, e4, k4, rfl⟩ := stE_r h
  obtain ⟨p3, e3, k3, rfl⟩ := stN_r e4
  obtain ⟨p2, e2, k2, rfl⟩ := stN_r e3
  obtain ⟨p1, e1, k1, rfl⟩ := stN_r e2
  cases e1
  exact ⟨k1, k2, k3, k4, rfl⟩
theorem xT_r {w : Nat} (h : xT B L p w = .inr q) : nok B L 1 21 (tj B L p 1) ∧ nok B L 0 10 (tj B L p 2) ∧ nok B L 0 2 (tj B L p 3) ∧ nok B L 0 4 (tj B L p 4) ∧ nok B L 0 w (tj B L p 5) ∧ kd B L (tj B L p 6) = 3 ∧ q = tj B L p 7 := by
  obtain ⟨p6, e6, k6, rfl⟩ := stE_r h
  obtain ⟨p5, e5, k5, rfl⟩ := stN_r e6
  obtain ⟨p4, e4, k4, rfl⟩ := stN_r e5
  obtain ⟨p3, e3, k3, rfl⟩ := stN_r e4
  obtain ⟨p2, e2, k2, rfl⟩ := stN_r e3
  obtain ⟨p1, e1, k1, rfl⟩ := stN_r e2
  cases e1
  exact ⟨k1, k2, k3, k4, k5, k6, rfl⟩
theorem tj_b (B : Nat → Nat) (h : p ≤ L) (j : Nat) : p ≤ tj B L p j ∧ tj B L p j ≤ L := by
  induction j with
  | zero => exact ⟨Nat.le_refl _, h⟩
  | succ j ih =>
    have h1 := tn_b B ih.2
    have h2 := ts_ge B L (tj B L p j)
    simp only [tj]
    omega
-- the class
def CS (B : Nat → Nat) (L : Nat) (x : Nat ⊕ Nat) (g : am_G) : Prop := match x with | .inl f => f ≤ L ∧ g.1 14 2 = 1 ∧ g.1 1 3 = nI (ts B L f) | .inr p => g.1 14 2 = 0 ∧ TkC B L p g
def pN (a k : Nat) : Prop := (a = 1 ∧ 2 ≤ k) ∨ (a = 14 ∧ k = 2)
def pQ (a k : Nat) : Prop := (a = 1 ∧ 2 ≤ k) ∨ (14 ≤ a ∧ a ≤ 25)
theorem CS.fm {P : Nat → Nat → Prop} (h : CS B L x g) (f : Fm P g g') (h1 : ∀ k, ¬ P 1 k) (h2 : ¬ P 14 2) : CS B L x g' := by
  cases x with
  | inl e => exact ⟨h.1, by rw [f.2 _ _ h2]; exact h.2.1, by rw [f.2 _ _ (h1 3)]; exact h.2.2⟩
  | inr p => exact ⟨by rw [f.2 _ _ h2]; exact h.1, h.2.1, by rw [f.2 _ _ (h1 3)]; exact h.2.2.1, by rw [f.2 _ _ (h1 4)]; exact h.2.2.2.1, by rw [f.2 _ _ (h1 2)]; exact h.2.2.2.2.1, fun k => by rw [f.2 _ _ (h1 5)]; exact h.2.2.2.2.2 k⟩
theorem re_number (hX : XB B L g) (h : CS B L x g) (hhb : hb ≤ 100) (hlo : lo ≤ 100) : ∃ g' v, Re_number g (nI lo) (nI hb - 1) = some (g', nI v) ∧ CS B L (stN B L lo hb x) g' ∧ (∀ p, x = .inr p → nok B L lo hb p → v = vl B L p) ∧ Fm pN g g' ∧ XB B L g' := by
  have fl : Fm pN g (am_wr g 14 2 1) := (Fm.rf _ _).wr (Or.inr ⟨rfl, rfl⟩)
  have XF : XB B L (am_wr g 14 2 1) := hX.fm fl (by unfold pN; omega) (fun k => by unfold pN; omega)
  cases x with
  | inl f =>
    refine ⟨am_wr g 14 2 1, 0, ?_, ⟨h.1, by rw [m_eq], by rw [m_na (by omega)]; exact h.2.2⟩, (fun p e => by cases e), fl, XF⟩
    rw [Re_number, h.2.1, if_neg (by decide)]; rfl
  | inr p =>
    obtain ⟨h0, hp, h3, h4, h2, h5⟩ := h
    have bad : ¬ nok B L lo hb p → Re_number g (nI lo) (nI hb - 1) = some (am_wr g 14 2 1, nI 0) → ∃ g' v, Re_number g (nI lo) (nI hb - 1) = some (g', nI v) ∧ CS B L (stN B L lo hb (.inr p)) g' ∧ (∀ p', (.inr p : Nat ⊕ Nat) = .inr p' → nok B L lo hb p' → v = vl B L p') ∧ Fm pN g g' ∧ XB B L g' := by
      intro hn he
      refine ⟨_, 0, he, ?_, fun p' e hk => by cases e; exact absurd hk hn, fl, XF⟩
      simp only [stN]
      rw [if_neg hn]
      exact ⟨hp, by rw [m_eq], by rw [m_na (by omega)]; exact h3⟩
    by_cases k2 : kd B L p = 2
    · have hv5 := h5 (Or.inr k2)
      have ht2 : g.1 1 2 = 2 := by rw [h2, k2]; rfl
      have hvl : vl B L p ≤ 99 := by
        have hs := kd_n0 (B := B) (L := L) (p := p) (by omega)
        have k2' := k2
        unfold kd at k2'
        rw [if_neg (by omega)] at k2'
        unfold vl
        split at k2'
        · omega
        · rename_i ql
          rw [if_neg ql]
          split at k2'
          · split at k2'
            · omega
            · omega
          · split at k2' <;> omega
      have hm : (nI hb - 1).toInt = (hb : Int) - 1 := pk_sub_toInt (a := hb) (b := 1) (by omega) (by omega)
      have hx := nI_toInt (n := vl B L p) (by omega)
      by_cases ok : nok B L lo hb p
      · have hw : Tb_isWithin g (nI (vl B L p)) (nI lo) (nI hb - 1) = some true := w_t (nI_nlt ok.2.1 (by omega)) (fun e => by rw [Int32.lt_iff_toInt_lt] at e; have := ok.2.2; omega)
        obtain ⟨g2, c1, c2, c3⟩ := tx_next hX (tn_b B hp).2.1 h4
        refine ⟨g2, vl B L p, ?_, ?_, fun p' e _ => by cases e; rfl, c3.mo (fun a k q => Or.inl q), hX.fm c3 (by unfold pK; omega) (fun k => by unfold pK; omega)⟩
        · rw [Re_number, h0, if_pos rfl, ht2, if_pos rfl, hv5, hw, Option.bind_some, if_pos rfl, c1]; rfl
        · simp only [stN]
          rw [if_pos ok]
          exact ⟨by rw [c3.2 _ _ (by unfold pK; omega)]; exact h0, c2⟩
      · refine bad ok ?_
        have hw : Tb_isWithin g (nI (vl B L p)) (nI lo) (nI hb - 1) = some false := by
          by_cases ql : vl B L p < lo
          · exact w_f (Or.inl (nI_lt ql (by omega)))
          · refine w_f (Or.inr ?_)
            rw [Int32.lt_iff_toInt_lt]
            have : ¬ vl B L p < hb := fun e => ok ⟨k2, by omega, e⟩
            omega
        rw [Re_number, h0, if_pos rfl, ht2, if_pos rfl, hv5, hw]; rfl
    · refine bad (fun e => k2 e.1) ?_
      have hk5 : kd B L p ≤ 5 := by
        unfold kd
        repeat' split
        all_goals omega
      have ht2 : ¬ g.1 1 2 = 2 := by
        rw [h2]
        have : (if kd B L p = 5 then 4 else kd B L p) ≠ 2 := by split <;> omega
        rw [zl2]; exact z_ne (by split <;> omega) (by omega) this
      rw [Re_number, h0, if_pos rfl, if_neg ht2]; rfl
theorem re_endItem (hX : XB B L g) (h : CS B L x g) : ∃ g', Re_endItem g = some g' ∧ CS B L (stE B L x) g' ∧ Fm pN g g' := by
  have fl : Fm pN g (am_wr g 14 2 1) := (Fm.rf _ _).wr (Or.inr ⟨rfl, rfl⟩)
  cases x with
  | inl f =>
    refine ⟨am_wr g 14 2 1, ?_, ⟨h.1, by rw [m_eq], by rw [m_na (by omega)]; exact h.2.2⟩, fl⟩
    rw [Re_endItem, h.2.1, if_neg (by decide)]
  | inr p =>
    obtain ⟨h0, hp, h3, h4, h2, h5⟩ := h
    have hk5 : kd B L p ≤ 5 := by
      unfold kd
      repeat' split
      all_goals omega
    by_cases k3 : kd B L p = 3
    · obtain ⟨g2, c1, c2, c3⟩ := tx_next hX (tn_b B hp).2.1 h4
      refine ⟨g2, ?_, ?_, c3.mo (fun a k q => Or.inl q)⟩
      · rw [Re_endItem, h0, if_pos rfl, h2, k3, if_pos (by decide), c1]; rfl
      · simp only [stE]
        rw [if_pos k3]
        exact ⟨by rw [c3.2 _ _ (by unfold pK; omega)]; exact h0, c2⟩
    · refine ⟨am_wr g 14 2 1, ?_, ?_, fl⟩
      · have ht : ¬ g.1 1 2 = 3 := by
          rw [h2]
          have : (if kd B L p = 5 then 4 else kd B L p) ≠ 3 := by split <;> omega
          rw [zl3]; exact z_ne (by split <;> omega) (by omega) this
        rw [Re_endItem, h0, if_pos rfl, if_neg ht]
      · simp only [stE]
        rw [if_neg k3]
        exact ⟨hp, by rw [m_eq], by rw [m_na (by omega)]; exact h3⟩
/-- a cell of the draft is written -/
theorem CS.wr (h : CS B L x g) {a k : Nat} (v : Int32) (ha : 15 ≤ a) : CS B L x (am_wr g a k v) := h.fm (P := fun b _ => b = a) ((Fm.rf _ _).wr rfl) (fun k e => by omega) (by omega)
theorem XB.wr (h : XB B L g) {a k : Nat} (v : Int32) (ha : 3 ≤ a) : XB B L (am_wr g a k v) := h.fm (P := fun b _ => b = a) ((Fm.rf _ _).wr rfl) (by omega) (fun k e => by omega)
theorem re_walker (hX : XB B L g) (h : CS B L (.inr p) g) {w : Nat} (hw : w < 4) (h15 : g.1 15 0 = nI w) : ∃ g', Re_readWalker g (nI w) = some g' ∧ CS B L (xW B L p) g' ∧ Fm (fun a k => pN a k ∨ (a = 15 ∧ k = 0) ∨ (16 ≤ a ∧ a ≤ 17 ∧ k = w)) g g' ∧ g'.1 15 0 = nI (w + 1) ∧ ∀ q, xW B L p = .inr q → g'.1 16 w = nI (vl B L (tj B L p 1)) ∧ g'.1 17 w = nI (vl B L (tj B L p 2)) := by
  obtain ⟨h0, hp, h3, h4, h2, h5⟩ := id h
  obtain ⟨g1, a1, a2, a3⟩ := tx_next hX (tn_b B hp).2.1 h4
  have X1 := hX.fm a3 (by unfold pK; omega) (fun k => by unfold pK; omega)
  have C1 : CS B L (.inr (tn B L p)) g1 := ⟨by rw [a3.2 _ _ (by unfold pK; omega)]; exact h0, a2⟩
  obtain ⟨g2, v1, b1, b2, b3, b4, b5⟩ := re_number X1 C1 (lo := 1) (hb := 41) (by omega) (by omega)
  obtain ⟨g3, v2, c1, c2, c3, c4, c5⟩ := re_number (b5.wr (a := 16) (k := w) (nI v1) (by omega)) (b2.wr (a := 16) (k := w) (nI v1) (by omega)) (lo := 0) (hb := 6) (by omega) (by omega)
  have X3 := (c5.wr (a := 17) (k := w) (nI v2) (by omega)).wr (a := 15) (k := 0) (nI (w + 1)) (by omega)
  have C3 := (c2.wr (a := 17) (k := w) (nI v2) (by omega)).wr (a := 15) (k := 0) (nI (w + 1)) (by omega)
  obtain ⟨g4, d1, d2, d3⟩ := re_endItem X3 C3
  have w15 : (am_wr g3 17 w (nI v2)).1 15 0 = nI w := by
    rw [m_na (by omega), c4.2 _ _ (by unfold pN; omega), m_na (by omega), b4.2 _ _ (by unfold pN; omega), a3.2 _ _ (by unfold pK; omega)]; exact h15
  refine ⟨g4, ?_, d2, ?_, ?_, fun q hq => ?_⟩
  · rw [Re_readWalker, a1, Option.bind_some, show (40 : Int32) = nI 41 - 1 by decide, show (1 : Int32) = nI 1 from rfl, show nI 41 - nI 1 = nI 41 - 1 from rfl, b1, Option.bind_some, if_pos (z_in (by omega) (by omega)), z_cl (by omega), show (5 : Int32) = nI 6 - 1 by decide, show (0 : Int32) = nI 0 from rfl, c1, Option.bind_some, w15, z_add, d1]; rfl
  · exact ((((a3.mo (Q := fun a k => pN a k ∨ (a = 15 ∧ k = 0) ∨ (16 ≤ a ∧ a ≤ 17 ∧ k = w)) (fun a k q => Or.inl (Or.inl q))).tr (b4.mo (fun a k q => Or.inl q))).wr (Or.inr (Or.inr ⟨by omega, by omega, rfl⟩))).tr (c4.mo (fun a k q => Or.inl q))).wr (Or.inr (Or.inr ⟨by omega, by omega, rfl⟩)) |>.wr (Or.inr (Or.inl ⟨rfl, rfl⟩)) |>.tr (d3.mo (fun a k q => Or.inl q))
  · rw [d3.2 _ _ (by unfold pN; omega), m_eq]
  · obtain ⟨k1, k2, k3, -⟩ := xW_r hq
    have e1 : v1 = vl B L (tj B L p 1) := b3 _ rfl k1
    have s1 : stN B L 1 41 (.inr (tn B L p)) = .inr (tj B L p 2) := by simp only [stN]; rw [if_pos (show nok B L 1 41 (tn B L p) from k1)]; rfl
    have e2 : v2 = vl B L (tj B L p 2) := c3 _ s1 k2
    constructor
    · rw [d3.2 _ _ (by unfold pN; omega), m_na (by omega), m_na (by omega), c4.2 _ _ (by unfold pN; omega), m_eq, e1]
    · rw [d3.2 _ _ (by unfold pN; omega), m_na (by omega), m_eq, e2]
theorem re_stage (hX : XB B L g) (h : CS B L (.inr p) g) {w : Nat} (hw : w < 8) (h15 : g.1 15 9 = nI w) : ∃ g', Re_readStage g (nI w) = some g' ∧ CS B L (xS B L p) g' ∧ Fm (fun a k => pN a k ∨ (a = 15 ∧ k = 9) ∨ (23 ≤ a ∧ a ≤ 25 ∧ k = w)) g g' ∧ g'.1 15 9 = nI (w + 1) ∧ ∀ q, xS B L p = .inr q → g'.1 23 w = nI (vl B L (tj B L p 1)) ∧ g'.1 24 w = nI (vl B L (tj B L p 2)) ∧ g'.1 25 w = nI (vl B L (tj B L p 3)) := by
  obtain ⟨h0, hp, h3, h4, h2, h5⟩ := id h
  obtain ⟨g1, a1, a2, a3⟩ := tx_next hX (tn_b B hp).2.1 h4
  have X1 := hX.fm a3 (by unfold pK; omega) (fun k => by unfold pK; omega)
  have C1 : CS B L (.inr (tn B L p)) g1 := ⟨by rw [a3.2 _ _ (by unfold pK; omega)]; exact h0, a2⟩
  obtain ⟨g2, v1, b1, b2, b3, b4, b5⟩ := re_number X1 C1 (lo := 1) (hb := 21) (by omega) (by omega)
  obtain ⟨g3, v2, c1, c2, c3, c4, c5⟩ := re_number (b5.wr (a := 23) (k := w) (nI v1) (by omega)) (b2.wr (a := 23) (k := w) (nI v1) (by omega)) (lo := 0) (hb := 2) (by omega) (by omega)
  obtain ⟨g4, v3, d1, d2, d3, d4, d5⟩ := re_number (c5.wr (a := 24) (k := w) (nI v2) (by omega)) (c2.wr (a := 24) (k := w) (nI v2) (by omega)) (lo := 0) (hb := 2) (by omega) (by omega)
  have X3 := (d5.wr (a := 25) (k := w) (nI v3) (by omega)).wr (a := 15) (k := 9) (nI (w + 1)) (by omega)
  have C3 := (d2.wr (a := 25) (k := w) (nI v3) (by omega)).wr (a := 15) (k := 9) (nI (w + 1)) (by omega)
  obtain ⟨g5, f1, f2, f3⟩ := re_endItem X3 C3
  have w15 : (am_wr g4 25 w (nI v3)).1 15 9 = nI w := by
    rw [m_na (by omega), d4.2 _ _ (by unfold pN; omega), m_na (by omega), c4.2 _ _ (by unfold pN; omega), m_na (by omega), b4.2 _ _ (by unfold pN; omega), a3.2 _ _ (by unfold pK; omega)]; exact h15
  refine ⟨g5, ?_, f2, ?_, ?_, fun q hq => ?_⟩
  · rw [Re_readStage, a1, Option.bind_some, show Re_number g1 1 20 = some (g2, nI v1) from b1, Option.bind_some, if_pos (z_in (by omega) (by omega)), z_cl (by omega), show Re_number (am_wr g2 23 w (nI v1)) 0 1 = some (g3, nI v2) from c1, Option.bind_some, show Re_number (am_wr g3 24 w (nI v2)) 0 1 = some (g4, nI v3) from d1, Option.bind_some, w15, nI_1, f1]; rfl
  · exact (((((a3.mo (Q := fun a k => pN a k ∨ (a = 15 ∧ k = 9) ∨ (23 ≤ a ∧ a ≤ 25 ∧ k = w)) (fun a k q => Or.inl (Or.inl q))).tr (b4.mo (fun a k q => Or.inl q))).wr (Or.inr (Or.inr ⟨by omega, by omega, rfl⟩))).tr (c4.mo (fun a k q => Or.inl q))).wr (Or.inr (Or.inr ⟨by omega, by omega, rfl⟩)) |>.tr (d4.mo (fun a k q => Or.inl q))).wr (Or.inr (Or.inr ⟨by omega, by omega, rfl⟩)) |>.wr (Or.inr (Or.inl ⟨rfl, rfl⟩)) |>.tr (f3.mo (fun a k q => Or.inl q))
  · rw [f3.2 _ _ (by unfold pN; omega), m_eq]
  · obtain ⟨k1, k2, k3, -, -⟩ := xS_r hq
    have s1 : stN B L 1 21 (.inr (tn B L p)) = .inr (tj B L p 2) := by simp only [stN]; rw [if_pos (show nok B L 1 21 (tn B L p) from k1)]; rfl
    have s2 : stN B L 0 2 (stN B L 1 21 (.inr (tn B L p))) = .inr (tj B L p 3) := by rw [s1]; simp only [stN]; rw [if_pos k2]; rfl
    have e1 : v1 = vl B L (tj B L p 1) := b3 _ rfl k1
    have e2 : v2 = vl B L (tj B L p 2) := c3 _ s1 k2
    have e3 : v3 = vl B L (tj B L p 3) := d3 _ s2 k3
    refine ⟨?_, ?_, ?_⟩
    · rw [f3.2 _ _ (by unfold pN; omega), m_na (by omega), m_na (by omega), d4.2 _ _ (by unfold pN; omega), m_na (by omega), c4.2 _ _ (by unfold pN; omega), m_eq, e1]
    · rw [f3.2 _ _ (by unfold pN; omega), m_na (by omega), m_na (by omega), d4.2 _ _ (by unfold pN; omega), m_eq, e2]
    · rw [f3.2 _ _ (by unfold pN; omega), m_na (by omega), m_eq, e3]
theorem re_thing (hX : XB B L g) (h : CS B L (.inr p) g) {w d : Nat} (hw : w < 7) (hd : d ≤ 4) (h15 : g.1 15 3 = nI w) (h0' : g.1 15 0 = nI d) : ∃ g', Re_readThing g (nI w) = some g' ∧ CS B L (xT B L p d) g' ∧ Fm (fun a k => pN a k ∨ (a = 15 ∧ k = 3) ∨ (18 ≤ a ∧ a ≤ 22 ∧ k = w)) g g' ∧ g'.1 15 3 = nI (w + 1) ∧ ∀ q, xT B L p d = .inr q → g'.1 18 w = nI (vl B L (tj B L p 1)) ∧ g'.1 19 w = nI (vl B L (tj B L p 2)) ∧ g'.1 20 w = nI (vl B L (tj B L p 3)) ∧ g'.1 21 w = nI (vl B L (tj B L p 4)) ∧ g'.1 22 w = nI (vl B L (tj B L p 5)) := by
  obtain ⟨h0, hp, h3, h4, h2, h5⟩ := id h
  obtain ⟨g1, a1, a2, a3⟩ := tx_next hX (tn_b B hp).2.1 h4
  have X1 := hX.fm a3 (by unfold pK; omega) (fun k => by unfold pK; omega)
  have C1 : CS B L (.inr (tn B L p)) g1 := ⟨by rw [a3.2 _ _ (by unfold pK; omega)]; exact h0, a2⟩
  obtain ⟨g2, v1, b1, b2, b3, b4, b5⟩ := re_number X1 C1 (lo := 1) (hb := 21) (by omega) (by omega)
  obtain ⟨g3, v2, c1, c2, c3, c4, c5⟩ := re_number (b5.wr (a := 18) (k := w) (nI v1) (by omega)) (b2.wr (a := 18) (k := w) (nI v1) (by omega)) (lo := 0) (hb := 10) (by omega) (by omega)
  obtain ⟨g4, v3, d1, d2, d3, d4, d5⟩ := re_number (c5.wr (a := 19) (k := w) (nI v2) (by omega)) (c2.wr (a := 19) (k := w) (nI v2) (by omega)) (lo := 0) (hb := 2) (by omega) (by omega)
  obtain ⟨g5, v4, i1, i2, i3, i4, i5⟩ := re_number (d5.wr (a := 20) (k := w) (nI v3) (by omega)) (d2.wr (a := 20) (k := w) (nI v3) (by omega)) (lo := 0) (hb := 4) (by omega) (by omega)
  obtain ⟨g6, v5, j1, j2, j3, j4, j5⟩ := re_number (i5.wr (a := 21) (k := w) (nI v4) (by omega)) (i2.wr (a := 21) (k := w) (nI v4) (by omega)) (lo := 0) (hb := d) (by omega) (by omega)
  have X3 := (j5.wr (a := 22) (k := w) (nI v5) (by omega)).wr (a := 15) (k := 3) (nI (w + 1)) (by omega)
  have C3 := (j2.wr (a := 22) (k := w) (nI v5) (by omega)).wr (a := 15) (k := 3) (nI (w + 1)) (by omega)
  obtain ⟨g7, f1, f2, f3⟩ := re_endItem X3 C3
  have F5 : Fm (fun a k => pN a k ∨ (18 ≤ a ∧ a ≤ 21 ∧ k = w)) g (am_wr g5 21 w (nI v4)) := ((((((((a3.mo (Q := fun a k => pN a k ∨ (18 ≤ a ∧ a ≤ 21 ∧ k = w)) (fun a k q => Or.inl (Or.inl q))).tr (b4.mo (fun a k q => Or.inl q))).wr (Or.inr ⟨by omega, by omega, rfl⟩)).tr (c4.mo (fun a k q => Or.inl q))).wr (Or.inr ⟨by omega, by omega, rfl⟩)).tr (d4.mo (fun a k q => Or.inl q))).wr (Or.inr ⟨by omega, by omega, rfl⟩)).tr (i4.mo (fun a k q => Or.inl q))).wr (Or.inr ⟨by omega, by omega, rfl⟩)
  have w0 : (am_wr g5 21 w (nI v4)).1 15 0 = nI d := by rw [F5.2 _ _ (by unfold pN; omega)]; exact h0'
  have w15 : (am_wr g6 22 w (nI v5)).1 15 3 = nI w := by
    rw [m_na (by omega), j4.2 _ _ (by unfold pN; omega), F5.2 _ _ (by unfold pN; omega)]; exact h15
  refine ⟨g7, ?_, f2, ?_, ?_, fun q hq => ?_⟩
  · rw [Re_readThing, a1, Option.bind_some, show Re_number g1 1 20 = some (g2, nI v1) from b1, Option.bind_some, if_pos (z_in (by omega) (by omega)), z_cl (by omega), show Re_number (am_wr g2 18 w (nI v1)) 0 9 = some (g3, nI v2) from c1, Option.bind_some, show Re_number (am_wr g3 19 w (nI v2)) 0 1 = some (g4, nI v3) from d1, Option.bind_some, show Re_number (am_wr g4 20 w (nI v3)) 0 3 = some (g5, nI v4) from i1, Option.bind_some, w0, show Re_number (am_wr g5 21 w (nI v4)) 0 (nI d - 1) = some (g6, nI v5) from j1, Option.bind_some, w15, nI_1, f1]; rfl
  · exact (((F5.mo (Q := fun a k => pN a k ∨ (a = 15 ∧ k = 3) ∨ (18 ≤ a ∧ a ≤ 22 ∧ k = w)) (fun a k q => by rcases q with q | q; exact Or.inl q; exact Or.inr (Or.inr ⟨q.1, by omega, q.2.2⟩))).tr (j4.mo (fun a k q => Or.inl q))).wr (Or.inr (Or.inr ⟨by omega, by omega, rfl⟩))).wr (Or.inr (Or.inl ⟨rfl, rfl⟩)) |>.tr (f3.mo (fun a k q => Or.inl q))
  · rw [f3.2 _ _ (by unfold pN; omega), m_eq]
  · obtain ⟨k1, k2, k3, k4, k5, -, -⟩ := xT_r hq
    have s1 : stN B L 1 21 (.inr (tn B L p)) = .inr (tj B L p 2) := by simp only [stN]; rw [if_pos (show nok B L 1 21 (tn B L p) from k1)]; rfl
    have s2 : stN B L 0 10 (stN B L 1 21 (.inr (tn B L p))) = .inr (tj B L p 3) := by rw [s1]; simp only [stN]; rw [if_pos k2]; rfl
    have s3 : stN B L 0 2 (stN B L 0 10 (stN B L 1 21 (.inr (tn B L p)))) = .inr (tj B L p 4) := by rw [s2]; simp only [stN]; rw [if_pos k3]; rfl
    have s4 : stN B L 0 4 (stN B L 0 2 (stN B L 0 10 (stN B L 1 21 (.inr (tn B L p))))) = .inr (tj B L p 5) := by rw [s3]; simp only [stN]; rw [if_pos k4]; rfl
    have e1 : v1 = vl B L (tj B L p 1) := b3 _ rfl k1
    have e2 : v2 = vl B L (tj B L p 2) := c3 _ s1 k2
    have e3 : v3 = vl B L (tj B L p 3) := d3 _ s2 k3
    have e4 : v4 = vl B L (tj B L p 4) := i3 _ s3 k4
    have e5 : v5 = vl B L (tj B L p 5) := j3 _ s4 k5
    have o : ∀ a, 18 ≤ a → a ≤ 21 → g7.1 a w = (am_wr g5 21 w (nI v4)).1 a w := fun a h1 h2 => by rw [f3.2 _ _ (by unfold pN; omega), m_na (by omega), m_na (by omega), j4.2 _ _ (by unfold pN; omega)]
    refine ⟨?_, ?_, ?_, ?_, ?_⟩
    · rw [o 18 (by omega) (by omega), m_na (by omega), i4.2 _ _ (by unfold pN; omega), m_na (by omega), d4.2 _ _ (by unfold pN; omega), m_na (by omega), c4.2 _ _ (by unfold pN; omega), m_eq, e1]
    · rw [o 19 (by omega) (by omega), m_na (by omega), i4.2 _ _ (by unfold pN; omega), m_na (by omega), d4.2 _ _ (by unfold pN; omega), m_eq, e2]
    · rw [o 20 (by omega) (by omega), m_na (by omega), i4.2 _ _ (by unfold pN; omega), m_eq, e3]
    · rw [o 21 (by omega) (by omega), m_eq, e4]
    · rw [f3.2 _ _ (by unfold pN; omega), m_na (by omega), m_eq, e5]
end
