-- WAY: tokens
def scF (c : Nat → Bool) (L : Nat) : Nat → Nat → Nat
  | 0, p => p
  | n + 1, p => if p < L ∧ c p = true then scF c L n (p + 1) else p
def sc (c : Nat → Bool) (L p : Nat) : Nat := scF c L (L - p) p
abbrev isb (B : Nat → Nat) (k : Nat) : Bool := decide (B k = 32)
abbrev isl (B : Nat → Nat) (k : Nat) : Bool := decide (97 ≤ B k ∧ B k ≤ 122)
abbrev isd (B : Nat → Nat) (k : Nat) : Bool := decide (48 ≤ B k ∧ B k ≤ 57)
def ts (B : Nat → Nat) (L p : Nat) : Nat := sc (isb B) L p
def tn (B : Nat → Nat) (L p : Nat) : Nat := if L ≤ ts B L p then ts B L p else if isl B (ts B L p) = true then sc (isl B) L (ts B L p) else if isd B (ts B L p) = true then sc (isd B) L (ts B L p) else ts B L p + 1
def cv (B : Nat → Nat) (s : Nat) : Nat → Nat
  | 0 => 0
  | j + 1 => if 99 < cv B s j then cv B s j else 10 * cv B s j + (B (s + j) - 48)
def rv (B : Nat → Nat) (s : Nat) : Nat → Nat
  | 0 => 0
  | 1 => B s - 48
  | j + 2 => if B s = 48 ∨ 99 < rv B s (j + 1) then 1000 else 10 * rv B s (j + 1) + (B (s + (j + 1)) - 48)
def kd (B : Nat → Nat) (L p : Nat) : Nat := if L ≤ ts B L p then 0 else if isl B (ts B L p) = true then 1 else if isd B (ts B L p) = true then (if 99 < cv B (ts B L p) (tn B L p - ts B L p) ∨ (B (ts B L p) = 48 ∧ 1 < tn B L p - ts B L p) then 5 else 2) else if B (ts B L p) = 59 then 3 else 4
def vl (B : Nat → Nat) (L p : Nat) : Nat := if isl B (ts B L p) = true then (if tn B L p = ts B L p + 1 then B (ts B L p) else 0) else cv B (ts B L p) (tn B L p - ts B L p)
section
variable {B : Nat → Nat} {L p s e j : Nat} {c : Nat → Bool} {g g' : am_G}
theorem sc_y (h1 : p < L) (h2 : c p = true) : sc c L p = sc c L (p + 1) := by
  unfold sc
  rw [show L - p = (L - (p + 1)) + 1 by omega, scF, if_pos ⟨h1, h2⟩]
theorem sc_n (h : ¬ (p < L ∧ c p = true)) : sc c L p = p := by
  unfold sc
  cases L - p with
  | zero => rfl
  | succ n => rw [scF, if_neg h]
theorem scF_ge (n p : Nat) : p ≤ scF c L n p := by
  induction n generalizing p with
  | zero => exact Nat.le_refl _
  | succ n ih =>
    rw [scF]
    split
    · have := ih (p + 1); omega
    · exact Nat.le_refl _
theorem sc_ge (c : Nat → Bool) (L p : Nat) : p ≤ sc c L p := scF_ge _ _
theorem scF_le (n p : Nat) (h : p ≤ L) : scF c L n p ≤ L := by
  induction n generalizing p with
  | zero => exact h
  | succ n ih =>
    rw [scF]
    split
    · exact ih (p + 1) (by omega)
    · exact h
theorem sc_le (c : Nat → Bool) (h : p ≤ L) : sc c L p ≤ L := scF_le _ _ h
theorem ts_ge (B : Nat → Nat) (L p : Nat) : p ≤ ts B L p := sc_ge _ _ _
theorem ts_le (B : Nat → Nat) (h : p ≤ L) : ts B L p ≤ L := sc_le _ h
theorem tn_b (B : Nat → Nat) (h : p ≤ L) : ts B L p ≤ tn B L p ∧ tn B L p ≤ L ∧ (ts B L p < L → ts B L p < tn B L p) := by
  have h1 := ts_le B h
  unfold tn
  by_cases q : L ≤ ts B L p
  · rw [if_pos q]; omega
  · rw [if_neg q]
    split
    · rename_i q2
      have := sc_le (isl B) (show ts B L p + 1 ≤ L by omega)
      have := sc_ge (isl B) L (ts B L p + 1)
      rw [sc_y (by omega) q2]; omega
    · split
      · rename_i q2
        have := sc_le (isd B) (show ts B L p + 1 ≤ L by omega)
        have := sc_ge (isd B) L (ts B L p + 1)
        rw [sc_y (by omega) q2]; omega
      · omega
theorem kd_0 (h : L ≤ p) : kd B L p = 0 := by
  have := ts_ge B L p
  unfold kd
  rw [if_pos (by omega)]
theorem kd_n0 (h : kd B L p ≠ 0) : ts B L p < L := by
  refine Nat.lt_of_not_le (fun q => h ?_)
  unfold kd
  rw [if_pos q]
theorem cv_b (hd : ∀ i, i < j → B (s + i) ≤ 57) : cv B s j ≤ 999 := by
  induction j with
  | zero => simp [cv]
  | succ j ih =>
    have := ih (fun i hi => hd i (by omega))
    have := hd j (by omega)
    simp only [cv]
    split <;> omega
theorem rv_b (hd : ∀ i, i < j → B (s + i) ≤ 57) : rv B s j ≤ 1000 := by
  match j with
  | 0 => simp [rv]
  | 1 => have := hd 0 (by omega); rw [Nat.add_zero] at this; simp only [rv]; omega
  | j + 2 =>
    have := hd (j + 1) (by omega)
    simp only [rv]
    split <;> omega
theorem cr1 (j : Nat) (hd : ∀ i, i < j + 1 → 48 ≤ B (s + i) ∧ B (s + i) ≤ 57) : ((99 < cv B s (j + 1) ∨ (B s = 48 ∧ 1 < j + 1)) → 99 < rv B s (j + 1)) ∧ (¬ (99 < cv B s (j + 1) ∨ (B s = 48 ∧ 1 < j + 1)) → rv B s (j + 1) = cv B s (j + 1)) := by
  induction j with
  | zero =>
    have h0 := hd 0 (by omega)
    rw [Nat.add_zero] at h0
    have e1 : rv B s (0 + 1) = B s - 48 := rfl
    have e2 : cv B s (0 + 1) = B s - 48 := by simp [cv]
    rw [e1, e2]
    constructor
    · intro q; omega
    · intro q; rfl
  | succ j ih =>
    have ih := ih (fun i hi => hd i (by omega))
    have hdj := hd (j + 1) (by omega)
    have e1 : rv B s (j + 1 + 1) = if B s = 48 ∨ 99 < rv B s (j + 1) then 1000 else 10 * rv B s (j + 1) + (B (s + (j + 1)) - 48) := rfl
    have e2 : cv B s (j + 1 + 1) = if 99 < cv B s (j + 1) then cv B s (j + 1) else 10 * cv B s (j + 1) + (B (s + (j + 1)) - 48) := rfl
    rw [e1, e2]
    by_cases q : B s = 48
    · rw [if_pos (Or.inl q)]
      constructor
      · intro _; omega
      · intro h; exact absurd (Or.inr ⟨q, by omega⟩) h
    · by_cases q2 : 99 < cv B s (j + 1)
      · have := ih.1 (Or.inl q2)
        rw [if_pos (Or.inr this), if_pos q2]
        constructor
        · intro _; omega
        · intro h; exact absurd (Or.inl q2) h
      · have := ih.2 (by omega)
        rw [if_neg (show ¬ (B s = 48 ∨ 99 < rv B s (j + 1)) by omega), if_neg q2, this]
        constructor
        · intro h; omega
        · intro _; rfl
theorem cr (h1 : 1 ≤ j) (hd : ∀ i, i < j → 48 ≤ B (s + i) ∧ B (s + i) ≤ 57) : ((99 < cv B s j ∨ (B s = 48 ∧ 1 < j)) → 99 < rv B s j) ∧ (¬ (99 < cv B s j ∨ (B s = 48 ∧ 1 < j)) → rv B s j = cv B s j) := by
  have := cr1 (B := B) (s := s) (j - 1) (fun i hi => hd i (by omega))
  rw [show j - 1 + 1 = j by omega] at this
  exact this
-- the class's text
def XB (B : Nat → Nat) (L : Nat) (g : am_G) : Prop := L ≤ 200 ∧ g.1 1 1 = nI L ∧ ∀ k, k < L → g.1 2 k = nI (B k) ∧ B k ≤ 255
/-- its token is the one at p -/
def TkC (B : Nat → Nat) (L p : Nat) (g : am_G) : Prop := p ≤ L ∧ g.1 1 3 = nI (ts B L p) ∧ g.1 1 4 = nI (tn B L p) ∧ g.1 1 2 = nI (if kd B L p = 5 then 4 else kd B L p) ∧ (kd B L p = 1 ∨ kd B L p = 2 → g.1 1 5 = nI (vl B L p))
def pK (a k : Nat) : Prop := a = 1 ∧ 2 ≤ k
theorem XB.fm {P : Nat → Nat → Prop} (h : XB B L g) (f : Fm P g g') (h1 : ¬ P 1 1) (h2 : ∀ k, ¬ P 2 k) : XB B L g' := ⟨h.1, by rw [f.2 _ _ h1]; exact h.2.1, fun k hk => by rw [f.2 _ _ (h2 k)]; exact h.2.2 k hk⟩
theorem tx_isl (g : am_G) {v : Nat} (hv : v ≤ 255) : Tx_isLetter g (nI v) = some (decide (97 ≤ v ∧ v ≤ 122)) := by
  unfold Tx_isLetter
  have z97 : (97 : Int32) = nI 97 := rfl
  have z122 : (122 : Int32) = nI 122 := rfl
  by_cases q : v < 97
  · rw [z97, if_pos (nI_lt q (by omega)), decide_eq_false (by omega)]
  · rw [z97, if_neg (nI_nlt (by omega) (by omega)), z122]
    by_cases q2 : 122 < v
    · rw [if_pos (nI_lt q2 (by omega)), decide_eq_false (by omega)]
    · rw [if_neg (nI_nlt (by omega) (by omega)), decide_eq_true (by omega)]
theorem tx_isd (g : am_G) {v : Nat} (hv : v ≤ 255) : Tx_isDigit g (nI v) = some (decide (48 ≤ v ∧ v ≤ 57)) := by
  unfold Tx_isDigit
  have z97 : (48 : Int32) = nI 48 := rfl
  have z122 : (57 : Int32) = nI 57 := rfl
  by_cases q : v < 48
  · rw [z97, if_pos (nI_lt q (by omega)), decide_eq_false (by omega)]
  · rw [z97, if_neg (nI_nlt (by omega) (by omega)), z122]
    by_cases q2 : 57 < v
    · rw [if_pos (nI_lt q2 (by omega)), decide_eq_false (by omega)]
    · rw [if_neg (nI_nlt (by omega) (by omega)), decide_eq_true (by omega)]
theorem scF_all (n p : Nat) : ∀ i, p ≤ i → i < scF c L n p → i < L ∧ c i = true := by
  induction n generalizing p with
  | zero => intro i h1 h2; simp only [scF] at h2; omega
  | succ n ih =>
    intro i h1 h2
    rw [scF] at h2
    split at h2
    · rename_i q
      by_cases e : i = p
      · subst e; exact q
      · exact ih (p + 1) i (by omega) h2
    · omega
theorem tx_blank (h : XB B L g) (hp : p ≤ L) (h3 : g.1 1 3 = nI p) : ∃ g', Tx_toNextToken_L8 am_fuel g = some g' ∧ g'.1 1 3 = nI (ts B L p) ∧ Fm (fun a k => a = 1 ∧ k = 3) g g' := by
  obtain ⟨hL, hl, hB⟩ := h
  have main : ∀ n q g1, q ≤ L → L - q < n → g1.1 1 3 = nI q → Fm (fun a k => a = 1 ∧ k = 3) g g1 → ∃ g', Tx_toNextToken_L8 n g1 = some g' ∧ g'.1 1 3 = nI (ts B L q) ∧ Fm (fun a k => a = 1 ∧ k = 3) g g' := by
    intro n
    induction n with
    | zero => intro q g1 _ h; omega
    | succ n ih =>
      intro q g1 hq hn h1 f1
      have w1 : g1.1 1 1 = nI L := by rw [f1.2 _ _ (by omega)]; exact hl
      by_cases qL : q < L
      · have wB : g1.1 2 q = nI (B q) := by rw [f1.2 _ _ (by omega)]; exact (hB q qL).1
        have hb := (hB q qL).2
        by_cases qb : B q = 32
        · obtain ⟨g2, c1, c2, c3⟩ := ih (q + 1) (am_wr g1 1 3 (nI (q + 1))) (by omega) (by omega) (by rw [m_eq]) (f1.wr ⟨rfl, rfl⟩)
          refine ⟨g2, ?_, ?_, c3⟩
          · rw [Tx_toNextToken_L8, w1, h1, if_neg (nI_ge qL (by omega)), if_pos (z_in (by omega) (by omega)), z_cl (by omega), wB, qb, if_pos (show nI 32 = 32 from rfl), nI_1]; exact c1
          · rw [c2]; unfold ts; rw [sc_y (c := isb B) qL (by unfold isb; simp [qb])]
        · refine ⟨g1, ?_, ?_, f1⟩
          · rw [Tx_toNextToken_L8, w1, h1, if_neg (nI_ge qL (by omega)), if_pos (z_in (by omega) (by omega)), z_cl (by omega), wB, if_neg (show ¬ nI (B q) = 32 by rw [zl32]; exact z_ne (by omega) (by omega) qb)]
          · rw [h1]; unfold ts; rw [sc_n (c := isb B) (fun e => qb (by have := e.2; unfold isb at this; simpa using this))]
      · refine ⟨g1, ?_, ?_, f1⟩
        · rw [Tx_toNextToken_L8, w1, h1, if_pos (nI_le (by omega) (by omega))]
        · rw [h1]; unfold ts; rw [sc_n (c := isb B) (fun e => qL e.1)]
  exact main am_fuel p g hp (z_fuel (by omega)) h3 (Fm.rf _ _)
theorem tx_letters (h : XB B L g) (hs : s ≤ L) (h4 : g.1 1 4 = nI s) : ∃ g', Tx_readLetters_L0 am_fuel g = some g' ∧ g'.1 1 4 = nI (sc (isl B) L s) ∧ Fm (fun a k => a = 1 ∧ k = 4) g g' := by
  obtain ⟨hL, hl, hB⟩ := h
  have main : ∀ n q g1, q ≤ L → L - q < n → g1.1 1 4 = nI q → Fm (fun a k => a = 1 ∧ k = 4) g g1 → ∃ g', Tx_readLetters_L0 n g1 = some g' ∧ g'.1 1 4 = nI (sc (isl B) L q) ∧ Fm (fun a k => a = 1 ∧ k = 4) g g' := by
    intro n
    induction n with
    | zero => intro q g1 _ h; omega
    | succ n ih =>
      intro q g1 hq hn h1 f1
      have w1 : g1.1 1 1 = nI L := by rw [f1.2 _ _ (by omega)]; exact hl
      by_cases qL : q < L
      · have wB : g1.1 2 q = nI (B q) := by rw [f1.2 _ _ (by omega)]; exact (hB q qL).1
        have hb := (hB q qL).2
        by_cases qb : isl B q = true
        · obtain ⟨g2, c1, c2, c3⟩ := ih (q + 1) (am_wr g1 1 4 (nI (q + 1))) (by omega) (by omega) (by rw [m_eq]) (f1.wr ⟨rfl, rfl⟩)
          refine ⟨g2, ?_, ?_, c3⟩
          · rw [Tx_readLetters_L0, w1, h1, if_neg (nI_ge qL (by omega)), if_pos (z_in (by omega) (by omega)), z_cl (by omega), wB, tx_isl _ hb, Option.bind_some, if_pos qb, nI_1]; exact c1
          · rw [c2, sc_y (c := isl B) qL qb]
        · refine ⟨g1, ?_, ?_, f1⟩
          · rw [Tx_readLetters_L0, w1, h1, if_neg (nI_ge qL (by omega)), if_pos (z_in (by omega) (by omega)), z_cl (by omega), wB, tx_isl _ hb, Option.bind_some, if_neg qb]
          · rw [h1, sc_n (c := isl B) (fun e => qb e.2)]
      · refine ⟨g1, ?_, ?_, f1⟩
        · rw [Tx_readLetters_L0, w1, h1, if_pos (nI_le (by omega) (by omega))]
        · rw [h1, sc_n (c := isl B) (fun e => qL e.1)]
  exact main am_fuel s g hs (z_fuel (by omega)) h4 (Fm.rf _ _)
theorem tx_digits (h : XB B L g) (hs : s ≤ L) (h4 : g.1 1 4 = nI s) (h5 : g.1 1 5 = 0) : ∃ g', Tx_readNumber_L0 am_fuel g = some g' ∧ g'.1 1 4 = nI (sc (isd B) L s) ∧ g'.1 1 5 = nI (cv B s (sc (isd B) L s - s)) ∧ Fm (fun a k => a = 1 ∧ (k = 4 ∨ k = 5)) g g' := by
  obtain ⟨hL, hl, hB⟩ := h
  have main : ∀ n q g1, s ≤ q → q ≤ L → L - q < n → (∀ i, s ≤ i → i < q → isd B i = true) → g1.1 1 4 = nI q → g1.1 1 5 = nI (cv B s (q - s)) → Fm (fun a k => a = 1 ∧ (k = 4 ∨ k = 5)) g g1 → ∃ g', Tx_readNumber_L0 n g1 = some g' ∧ g'.1 1 4 = nI (sc (isd B) L q) ∧ g'.1 1 5 = nI (cv B s (sc (isd B) L q - s)) ∧ Fm (fun a k => a = 1 ∧ (k = 4 ∨ k = 5)) g g' := by
    intro n
    induction n with
    | zero => intro q g1 _ _ h; omega
    | succ n ih =>
      intro q g1 hsq hq hn hall h1 h2 f1
      have w1 : g1.1 1 1 = nI L := by rw [f1.2 _ _ (by omega)]; exact hl
      have hcv : cv B s (q - s) ≤ 999 := cv_b (fun i hi => by have := hall (s + i) (by omega) (by omega); unfold isd at this; simp at this; exact this.2)
      by_cases qL : q < L
      · have wB : g1.1 2 q = nI (B q) := by rw [f1.2 _ _ (by omega)]; exact (hB q qL).1
        have hb := (hB q qL).2
        by_cases qb : isd B q = true
        · have hdq : 48 ≤ B q ∧ B q ≤ 57 := by unfold isd at qb; simpa using qb
          have ev : (if (g1.1 1 5) ≤ 99 then ((10 * (g1.1 1 5)) + (g1.1 2 (nI q).toNatClampNeg)) - 48 else g1.1 1 5 : Int32) = nI (cv B s (q + 1 - s)) := by
            rw [z_cl (by omega), wB, h2, show q + 1 - s = (q - s) + 1 by omega, cv, show s + (q - s) = q by omega]
            have z99 : (99 : Int32) = nI 99 := rfl
            have z48 : (48 : Int32) = nI 48 := rfl
            by_cases q9 : 99 < cv B s (q - s)
            · rw [z99, if_neg (nI_ge q9 (by omega)), if_pos q9]
            · rw [z99, if_pos (nI_le (by omega) (by omega)), if_neg q9, zl10, z_mul, z_add, z48, z_sub (by omega)]
              congr 1; omega
          obtain ⟨g2, c1, c2, c3, c4⟩ := ih (q + 1) (am_wr (am_wr g1 1 5 (nI (cv B s (q + 1 - s)))) 1 4 (nI (q + 1))) (by omega) (by omega) (by omega) (fun i i1 i2 => by
            by_cases e : i = q
            · subst e; exact qb
            · exact hall i i1 (by omega)) (by rw [m_eq]) (by rw [m_nk (by omega), m_eq]) ((f1.wr ⟨rfl, Or.inr rfl⟩).wr ⟨rfl, Or.inl rfl⟩)
          refine ⟨g2, ?_, ?_, ?_, c4⟩
          · rw [Tx_readNumber_L0, w1, h1, if_neg (nI_ge qL (by omega)), if_pos (z_in (by omega) (by omega))]
            rw [show g1.1 2 (nI q).toNatClampNeg = nI (B q) by rw [z_cl (by omega)]; exact wB] at ev ⊢
            rw [tx_isd _ hb, Option.bind_some, if_pos qb, ev, m_nk (by omega), h1, nI_1]; exact c1
          · rw [c2, sc_y (c := isd B) qL qb]
          · rw [c3, sc_y (c := isd B) qL qb]
        · refine ⟨g1, ?_, ?_, ?_, f1⟩
          · rw [Tx_readNumber_L0, w1, h1, if_neg (nI_ge qL (by omega)), if_pos (z_in (by omega) (by omega)), z_cl (by omega), wB, tx_isd _ hb, Option.bind_some, if_neg qb]
          · rw [h1, sc_n (c := isd B) (fun e => qb e.2)]
          · rw [h2, sc_n (c := isd B) (fun e => qb e.2)]
      · refine ⟨g1, ?_, ?_, ?_, f1⟩
        · rw [Tx_readNumber_L0, w1, h1, if_pos (nI_le (by omega) (by omega))]
        · rw [h1, sc_n (c := isd B) (fun e => qL e.1)]
        · rw [h2, sc_n (c := isd B) (fun e => qL e.1)]
  exact main am_fuel s g (Nat.le_refl _) hs (z_fuel (by omega)) (fun i i1 i2 => by omega) h4 (by rw [h5, Nat.sub_self]; rfl) (Fm.rf _ _)
theorem tx_next (h : XB B L g) (hp : p ≤ L) (h4 : g.1 1 4 = nI p) : ∃ g', Tx_toNextToken g = some g' ∧ TkC B L p g' ∧ Fm pK g g' := by
  have h' := h
  obtain ⟨hL, hl, hB⟩ := h
  have f0 : Fm pK g (am_wr g 1 3 (nI p)) := (Fm.rf _ _).wr ⟨rfl, by omega⟩
  obtain ⟨g1, e1, k1, f1⟩ := tx_blank (g := am_wr g 1 3 (nI p)) (h'.fm f0 (by unfold pK; omega) (fun k => by unfold pK; omega)) hp (by rw [m_eq])
  have hts := ts_le B hp
  have htn := tn_b B hp
  have f01 : Fm pK g g1 := f0.tr (f1.mo (fun a k q => ⟨q.1, by omega⟩))
  have f2 : Fm pK g (am_wr (am_wr g1 1 4 (nI (ts B L p))) 1 5 0) := (f01.wr ⟨rfl, by omega⟩).wr ⟨rfl, by omega⟩
  have X2 : XB B L (am_wr (am_wr g1 1 4 (nI (ts B L p))) 1 5 0) := h'.fm f2 (by unfold pK; omega) (fun k => by unfold pK; omega)
  have w3 : (am_wr (am_wr g1 1 4 (nI (ts B L p))) 1 5 0).1 1 3 = nI (ts B L p) := by rw [m_nk (by omega), m_nk (by omega)]; exact k1
  have w4 : (am_wr (am_wr g1 1 4 (nI (ts B L p))) 1 5 0).1 1 4 = nI (ts B L p) := by rw [m_nk (by omega), m_eq]
  have w5 : (am_wr (am_wr g1 1 4 (nI (ts B L p))) 1 5 0).1 1 5 = 0 := by rw [m_eq]
  generalize hG : am_wr (am_wr g1 1 4 (nI (ts B L p))) 1 5 0 = G at f2 X2 w3 w4 w5
  have head : Tx_toNextToken g = (if nI (ts B L p) < nI L then if am_in (nI (ts B L p)) 200 = true then (Tx_isLetter G (G.1 2 (ts B L p))).bind fun q7 => if q7 = true then (Tx_readLetters G).bind fun q10 => some q10 else (Tx_isDigit G (G.1 2 (ts B L p))).bind fun q12 => if q12 = true then (Tx_readNumber G).bind fun q15 => some q15 else some (am_wr (am_wr G 1 2 (if (G.1 2 (ts B L p)) = 59 then 3 else 4 : Int32)) 1 4 ((G.1 1 3) + 1)) else none else some (am_wr G 1 2 0)) := by
    rw [Tx_toNextToken, h4, e1, Option.bind_some, k1, hG, w3, X2.2.1]
    rw [m_nk (show 3 ≠ 2 by omega), w3]
    by_cases q : ts B L p < L
    · rw [z_cl (by omega)]
    · rw [if_neg (nI_nlt (by omega) (by omega)), if_neg (nI_nlt (by omega) (by omega))]
  rw [head]
  by_cases q : ts B L p < L
  · have hb := (hB _ q).2
    have wB := (X2.2.2 _ q).1
    rw [if_pos (nI_lt q (by omega)), if_pos (z_in (by omega) (by omega)), wB, tx_isl _ hb, Option.bind_some]
    by_cases ql : isl B (ts B L p) = true
    · rw [if_pos ql]
      have etn : tn B L p = sc (isl B) L (ts B L p) := by unfold tn; rw [if_neg (by omega), if_pos ql]
      have ekd : kd B L p = 1 := by unfold kd; rw [if_neg (by omega), if_pos ql]
      have evl : vl B L p = if tn B L p = ts B L p + 1 then B (ts B L p) else 0 := by unfold vl; rw [if_pos ql]
      obtain ⟨g3, c1, c2, c3⟩ := tx_letters X2 hts w4
      rw [← etn] at c2
      have v3 : g3.1 1 3 = nI (ts B L p) := by rw [c3.2 _ _ (by omega)]; exact w3
      have vB : g3.1 2 (ts B L p) = nI (B (ts B L p)) := by rw [c3.2 _ _ (by omega)]; exact wB
      refine ⟨am_wr (am_wr g3 1 2 1) 1 5 (nI (vl B L p)), ?_, ⟨hp, by rw [m_nk (by omega), m_nk (by omega)]; exact v3, by rw [m_nk (by omega), m_nk (by omega)]; exact c2, by rw [m_nk (by omega), m_eq, ekd]; rfl, fun _ => by rw [m_eq]⟩, ((f2.tr (c3.mo (fun a k q => ⟨q.1, by omega⟩))).wr ⟨rfl, by omega⟩).wr ⟨rfl, by omega⟩⟩
      rw [Tx_readLetters, c1, Option.bind_some, m_nk (by omega), m_nk (by omega), c2, v3, z_sub (by omega), z_cl (by omega), m_na (by omega), vB, evl]
      by_cases e : tn B L p = ts B L p + 1
      · rw [if_pos (by rw [e, show ts B L p + 1 - ts B L p = 1 by omega]; rfl), if_pos (z_in (by omega) (by omega)), if_pos e]; rfl
      · rw [if_neg (by rw [zl1]; exact z_ne (by omega) (by omega) (by omega)), if_neg e]; rfl
    · rw [if_neg ql, tx_isd _ hb, Option.bind_some]
      by_cases qd : isd B (ts B L p) = true
      · rw [if_pos qd]
        have etn : tn B L p = sc (isd B) L (ts B L p) := by unfold tn; rw [if_neg (by omega), if_neg ql, if_pos qd]
        have evl : vl B L p = cv B (ts B L p) (tn B L p - ts B L p) := by unfold vl; rw [if_neg ql]
        have ekd : kd B L p = if 99 < cv B (ts B L p) (tn B L p - ts B L p) ∨ (B (ts B L p) = 48 ∧ 1 < tn B L p - ts B L p) then 5 else 2 := by unfold kd; rw [if_neg (by omega), if_neg ql, if_pos qd]
        obtain ⟨g3, c1, c2, c3, c4⟩ := tx_digits X2 hts w4 w5
        rw [← etn] at c2 c3
        have v3 : g3.1 1 3 = nI (ts B L p) := by rw [c4.2 _ _ (by omega)]; exact w3
        have vB : g3.1 2 (ts B L p) = nI (B (ts B L p)) := by rw [c4.2 _ _ (by omega)]; exact wB
        have hcv : cv B (ts B L p) (tn B L p - ts B L p) ≤ 999 := cv_b (fun i hi => by
          have := (scF_all (c := isd B) (L := L) (L - ts B L p) (ts B L p) (ts B L p + i) (by omega) (by rw [etn] at hi; unfold sc at hi; omega)).2
          unfold isd at this; simp at this; exact this.2)
        have z99 : (99 : Int32) = nI 99 := rfl
        have z48 : (48 : Int32) = nI 48 := rfl
        have fin : ∀ w : Nat, w = (if kd B L p = 5 then 4 else kd B L p) → TkC B L p (am_wr g3 1 2 (nI w)) ∧ Fm pK g (am_wr g3 1 2 (nI w)) := fun w hw => ⟨⟨hp, by rw [m_nk (by omega)]; exact v3, by rw [m_nk (by omega)]; exact c2, by rw [m_eq, hw], fun _ => by rw [m_nk (by omega), c3, evl]⟩, (f2.tr (c4.mo (fun a k q => ⟨q.1, by omega⟩))).wr ⟨rfl, by omega⟩⟩
        rw [Tx_readNumber, c1, Option.bind_some, v3, if_pos (z_in (by omega) (by omega)), c3, z_cl (by omega), vB, c2, z99, z48, z_sub (by omega), zl1]
        by_cases q9 : 99 < cv B (ts B L p) (tn B L p - ts B L p)
        · have e5 : kd B L p = 5 := by rw [ekd, if_pos (Or.inl q9)]
          obtain ⟨x1, x2⟩ := fin 4 (by rw [if_pos e5])
          exact ⟨am_wr g3 1 2 (nI 4), by rw [if_pos (nI_lt q9 (by omega))]; rfl, x1, x2⟩
        · rw [if_neg (nI_nlt (by omega) (by omega))]
          by_cases q0 : B (ts B L p) = 48 ∧ 1 < tn B L p - ts B L p
          · have e5 : kd B L p = 5 := by rw [ekd, if_pos (Or.inr q0)]
            obtain ⟨x1, x2⟩ := fin 4 (by rw [if_pos e5])
            refine ⟨am_wr g3 1 2 (nI 4), ?_, x1, x2⟩
            rw [q0.1, if_pos rfl, if_neg (nI_ge q0.2 (by omega)), if_neg (by decide)]; rfl
          · have e2 : kd B L p = 2 := by rw [ekd, if_neg (by omega)]
            obtain ⟨x1, x2⟩ := fin 2 (by rw [if_neg (by omega), e2])
            refine ⟨am_wr g3 1 2 (nI 2), ?_, x1, x2⟩
            by_cases q4 : B (ts B L p) = 48
            · rw [q4, if_pos rfl, if_pos (nI_le (by omega) (by omega)), if_pos rfl]; rfl
            · rw [if_neg (z_ne (by omega) (by omega) q4), if_pos rfl]; rfl
      · rw [if_neg qd]
        have etn : tn B L p = ts B L p + 1 := by unfold tn; rw [if_neg (by omega), if_neg ql, if_neg qd]
        have ekd : kd B L p = if B (ts B L p) = 59 then 3 else 4 := by unfold kd; rw [if_neg (by omega), if_neg ql, if_neg qd]
        have z59 : (59 : Int32) = nI 59 := rfl
        have ew : (if nI (B (ts B L p)) = 59 then 3 else 4 : Int32) = nI (if kd B L p = 5 then 4 else kd B L p) := by
          rw [ekd]
          by_cases e : B (ts B L p) = 59
          · rw [e, if_pos (show nI 59 = 59 from rfl)]; rfl
          · rw [if_neg (show ¬ nI (B (ts B L p)) = 59 by rw [z59]; exact z_ne (by omega) (by omega) e), if_neg e]; rfl
        refine ⟨_, rfl, ⟨hp, ?_, ?_, ?_, fun hk => ?_⟩, (f2.wr ⟨rfl, by omega⟩).wr ⟨rfl, by omega⟩⟩
        · rw [m_nk (by omega), m_nk (by omega)]; exact w3
        · rw [m_eq, w3, nI_1, etn]
        · rw [m_nk (by omega), m_eq, ew]
        · exfalso
          rw [ekd] at hk
          split at hk <;> omega
  · have etn : tn B L p = ts B L p := by unfold tn; rw [if_pos (by omega)]
    have ekd : kd B L p = 0 := by unfold kd; rw [if_pos (by omega)]
    rw [if_neg (nI_nlt (by omega) (by omega))]
    refine ⟨_, rfl, ⟨hp, by rw [m_nk (by omega)]; exact w3, by rw [m_nk (by omega), etn]; exact w4, by rw [m_eq, ekd]; rfl, fun hk => by omega⟩, f2.wr ⟨rfl, by omega⟩⟩
end
