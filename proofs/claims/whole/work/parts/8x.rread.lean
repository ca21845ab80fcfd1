-- WAY, the reference's reading
section
variable {B D : Nat → Nat} {L p q lo hb s : Nat} {g g' : am_G}
def YB (B : Nat → Nat) (L : Nat) (g : am_G) : Prop := L ≤ 200 ∧ g.1 221 2 = nI L ∧ ∀ k, k < L → g.1 222 k = nI (B k) ∧ B k ≤ 255
def TkR (B : Nat → Nat) (L p : Nat) (g : am_G) : Prop := p ≤ L ∧ g.1 221 12 = nI (ts B L p) ∧ g.1 221 10 = nI (tn B L p) ∧ g.1 221 11 = nI (if kd B L p = 5 then 2 else kd B L p) ∧ (kd B L p = 1 ∨ kd B L p = 2 → g.1 221 13 = nI (vl B L p)) ∧ (kd B L p = 5 → ∃ v, 99 < v ∧ v ≤ 1000 ∧ g.1 221 13 = nI v)
def pV (a k : Nat) : Prop := a = 221 ∧ 10 ≤ k
theorem YB.fm {P : Nat → Nat → Prop} (h : YB B L g) (f : Fm P g g') (h1 : ¬ P 221 2) (h2 : ∀ k, ¬ P 222 k) : YB B L g' := ⟨h.1, by rw [f.2 _ _ h1]; exact h.2.1, fun k hk => by rw [f.2 _ _ (h2 k)]; exact h.2.2 k hk⟩
theorem mo_byteL (h : YB B L g) (hp : p < L) : Mo_byteAt g (nI p) = some (nI (B p)) := by
  obtain ⟨h1, h2, h3⟩ := h
  rw [Mo_byteAt, h2, if_neg (nI_ge hp (by omega)), if_pos (z_in (by omega) (by omega)), z_cl (by omega), (h3 p hp).1]
theorem mo_byteE (h : YB B L g) (hp : p = L) : Mo_byteAt g (nI p) = some (-1) := by
  obtain ⟨h1, h2, h3⟩ := h
  rw [Mo_byteAt, h2, if_pos (nI_le (by omega) (by omega))]
theorem mo_isl (g : am_G) {v : Nat} (hv : v ≤ 255) : Mo_isLetter g (nI v) = some (decide (97 ≤ v ∧ v ≤ 122)) := by
  have := tx_isl g hv
  unfold Tx_isLetter at this
  unfold Mo_isLetter Mo_in
  rw [this]; rfl
theorem mo_isd (g : am_G) {v : Nat} (hv : v ≤ 255) : Mo_isDigit g (nI v) = some (decide (48 ≤ v ∧ v ≤ 57)) := by
  have := tx_isd g hv
  unfold Tx_isDigit at this
  unfold Mo_isDigit Mo_in
  rw [this]; rfl
theorem mo_blank (h : YB B L g) (hp : p ≤ L) (h3 : g.1 221 10 = nI p) : ∃ g', Mo_token_L0 am_fuel g = some g' ∧ g'.1 221 10 = nI (ts B L p) ∧ Fm (fun a k => a = 221 ∧ k = 10) g g' := by
  have main : ∀ n q g1, q ≤ L → L - q < n → g1.1 221 10 = nI q → Fm (fun a k => a = 221 ∧ k = 10) g g1 → ∃ g', Mo_token_L0 n g1 = some g' ∧ g'.1 221 10 = nI (ts B L q) ∧ Fm (fun a k => a = 221 ∧ k = 10) g g' := by
    intro n
    induction n with
    | zero => intro q g1 _ h; omega
    | succ n ih =>
      intro q g1 hq hn h1 f1
      have Y1 := h.fm f1 (by omega) (fun k => by omega)
      by_cases qL : q < L
      · have hb := (h.2.2 q qL).2
        by_cases qb : B q = 32
        · obtain ⟨g2, c1, c2, c3⟩ := ih (q + 1) (am_wr g1 221 10 (nI (q + 1))) (by omega) (by omega) (by rw [m_eq]) (f1.wr ⟨rfl, rfl⟩)
          refine ⟨g2, ?_, ?_, c3⟩
          · rw [Mo_token_L0, h1, mo_byteL Y1 qL, Option.bind_some, qb, if_pos (show nI 32 = 32 from rfl), nI_1]; exact c1
          · rw [c2]; unfold ts; rw [sc_y (c := isb B) qL (by simp [qb])]
        · refine ⟨g1, ?_, ?_, f1⟩
          · rw [Mo_token_L0, h1, mo_byteL Y1 qL, Option.bind_some, if_neg (show ¬ nI (B q) = 32 by rw [zl32]; exact z_ne (by omega) (by omega) qb)]
          · rw [h1]; unfold ts; rw [sc_n (c := isb B) (fun e => qb (by simpa using e.2))]
      · refine ⟨g1, ?_, ?_, f1⟩
        · rw [Mo_token_L0, h1, mo_byteE Y1 (by omega), Option.bind_some, if_neg (by decide)]
        · rw [h1]; unfold ts; rw [sc_n (c := isb B) (fun e => qL e.1)]
  exact main am_fuel p g hp (z_fuel (by have := h.1; omega)) h3 (Fm.rf _ _)
theorem mo_letters (h : YB B L g) (hs : s < L) (hl : isl B s = true) (h11 : g.1 221 11 = 1) (h10 : g.1 221 10 = nI (s + 1)) (h13 : g.1 221 13 = nI (B s)) (y : Int32) : ∃ g', Mo_token_L110 am_fuel g y = some g' ∧ g'.1 221 10 = nI (sc (isl B) L s) ∧ g'.1 221 13 = nI (if sc (isl B) L s = s + 1 then B s else 0) ∧ Fm (fun a k => a = 221 ∧ (k = 10 ∨ k = 13)) g g' := by
  have main : ∀ n q g1, s + 1 ≤ q → q ≤ L → L - q < n → g1.1 221 10 = nI q → g1.1 221 13 = nI (if q = s + 1 then B s else 0) → Fm (fun a k => a = 221 ∧ (k = 10 ∨ k = 13)) g g1 → ∃ g', Mo_token_L110 n g1 y = some g' ∧ g'.1 221 10 = nI (sc (isl B) L q) ∧ g'.1 221 13 = nI (if sc (isl B) L q = s + 1 then B s else 0) ∧ Fm (fun a k => a = 221 ∧ (k = 10 ∨ k = 13)) g g' := by
    intro n
    induction n with
    | zero => intro q g1 _ _ h; omega
    | succ n ih =>
      intro q g1 hsq hq hn h1 h2 f1
      have Y1 := h.fm f1 (by omega) (fun k => by omega)
      have w11 : g1.1 221 11 = 1 := by rw [f1.2 _ _ (by omega)]; exact h11
      by_cases qL : q < L
      · have hb := (h.2.2 q qL).2
        by_cases qb : isl B q = true
        · obtain ⟨g2, c1, c2, c3, c4⟩ := ih (q + 1) (am_wr (am_wr g1 221 13 0) 221 10 (nI (q + 1))) (by omega) (by omega) (by omega) (by rw [m_eq]) (by rw [m_nk (by omega), m_eq, if_neg (by omega)]; rfl) ((f1.wr ⟨rfl, Or.inr rfl⟩).wr ⟨rfl, Or.inl rfl⟩)
          refine ⟨g2, ?_, ?_, ?_, c4⟩
          · rw [Mo_token_L110, w11, if_pos rfl, h1, mo_byteL Y1 qL, Option.bind_some, mo_isl _ hb, Option.bind_some, if_pos qb, m_nk (by omega), h1, nI_1]; exact c1
          · rw [c2, sc_y (c := isl B) qL qb]
          · rw [c3, sc_y (c := isl B) qL qb]
        · refine ⟨g1, ?_, ?_, ?_, f1⟩
          · rw [Mo_token_L110, w11, if_pos rfl, h1, mo_byteL Y1 qL, Option.bind_some, mo_isl _ hb, Option.bind_some, if_neg qb]
          · rw [h1, sc_n (c := isl B) (fun e => qb e.2)]
          · rw [h2, sc_n (c := isl B) (fun e => qb e.2)]
      · have nl : Mo_isLetter g1 (-1) = some false := by unfold Mo_isLetter Mo_in; rw [if_pos (by decide)]; rfl
        refine ⟨g1, ?_, ?_, ?_, f1⟩
        · rw [Mo_token_L110, w11, if_pos rfl, h1, mo_byteE Y1 (by omega), Option.bind_some, nl, Option.bind_some, if_neg (by decide)]
        · rw [h1, sc_n (c := isl B) (fun e => qL e.1)]
        · rw [h2, sc_n (c := isl B) (fun e => qL e.1)]
  have := main am_fuel (s + 1) g (Nat.le_refl _) (by omega) (z_fuel (by have := h.1; omega)) h10 (by rw [if_pos rfl]; exact h13) (Fm.rf _ _)
  rw [← sc_y (c := isl B) hs hl] at this
  exact this
theorem mo_digits (h : YB B L g) (hs : s < L) (hd : isd B s = true) (h10 : g.1 221 10 = nI (s + 1)) (h13 : g.1 221 13 = nI (B s) - 48) : ∃ g', Mo_token_L166 am_fuel g (nI (B s)) = some g' ∧ g'.1 221 10 = nI (sc (isd B) L s) ∧ g'.1 221 13 = nI (rv B s (sc (isd B) L s - s)) ∧ Fm (fun a k => a = 221 ∧ (k = 10 ∨ k = 13)) g g' := by
  have hds : 48 ≤ B s ∧ B s ≤ 57 := by simpa using hd
  have z48 : (48 : Int32) = nI 48 := rfl
  have z99 : (99 : Int32) = nI 99 := rfl
  have main : ∀ n q g1, s + 1 ≤ q → q ≤ L → L - q < n → (∀ i, s ≤ i → i < q → isd B i = true) → g1.1 221 10 = nI q → g1.1 221 13 = nI (rv B s (q - s)) → Fm (fun a k => a = 221 ∧ (k = 10 ∨ k = 13)) g g1 → ∃ g', Mo_token_L166 n g1 (nI (B s)) = some g' ∧ g'.1 221 10 = nI (sc (isd B) L q) ∧ g'.1 221 13 = nI (rv B s (sc (isd B) L q - s)) ∧ Fm (fun a k => a = 221 ∧ (k = 10 ∨ k = 13)) g g' := by
    intro n
    induction n with
    | zero => intro q g1 _ _ h; omega
    | succ n ih =>
      intro q g1 hsq hq hn hall h1 h2 f1
      have Y1 := h.fm f1 (by omega) (fun k => by omega)
      have hrv : rv B s (q - s) ≤ 1000 := rv_b (fun i hi => by have := hall (s + i) (by omega) (by omega); simp at this; exact this.2)
      by_cases qL : q < L
      · have hb := (h.2.2 q qL).2
        have wB := (Y1.2.2 q qL).1
        have hL := h.1
        by_cases qb : isd B q = true
        · have hdq : 48 ≤ B q ∧ B q ≤ 57 := by simpa using qb
          have ev : (if nI (B s) = 48 then some 1000 else if (g1.1 221 13) ≤ 99 then if am_in (g1.1 221 10) 200 = true then some (((10 * (g1.1 221 13)) + (g1.1 222 (g1.1 221 10).toNatClampNeg)) - 48) else none else some 1000) = some (nI (rv B s (q + 1 - s))) := by
            have e1 : rv B s (q + 1 - s) = if B s = 48 ∨ 99 < rv B s (q - s) then 1000 else 10 * rv B s (q - s) + (B q - 48) := by
              obtain ⟨m, hm⟩ : ∃ m, q = s + 1 + m := ⟨q - (s + 1), by omega⟩
              subst hm
              rw [show s + 1 + m + 1 - s = m + 2 by omega, show s + 1 + m - s = m + 1 by omega, show s + 1 + m = s + (m + 1) by omega]
              rfl
            rw [e1, h1, z_cl (by omega), wB, h2, z48]
            by_cases q0 : B s = 48
            · rw [q0, if_pos rfl, if_pos (Or.inl rfl)]; rfl
            · rw [if_neg (z_ne (by omega) (by omega) q0), z99]
              by_cases q9 : 99 < rv B s (q - s)
              · rw [if_neg (nI_ge q9 (by omega)), if_pos (Or.inr q9)]; rfl
              · rw [if_pos (nI_le (by omega) (by omega)), if_pos (z_in (by omega) (by omega)), if_neg (by omega), zl10, z_mul, z_add, z_sub (by omega)]
                congr 2; omega
          obtain ⟨g2, c1, c2, c3, c4⟩ := ih (q + 1) (am_wr (am_wr g1 221 13 (nI (rv B s (q + 1 - s)))) 221 10 (nI (q + 1))) (by omega) (by omega) (by omega) (fun i i1 i2 => by
            by_cases e : i = q
            · subst e; exact qb
            · exact hall i i1 (by omega)) (by rw [m_eq]) (by rw [m_nk (by omega), m_eq]) ((f1.wr ⟨rfl, Or.inr rfl⟩).wr ⟨rfl, Or.inl rfl⟩)
          refine ⟨g2, ?_, ?_, ?_, c4⟩
          · have eb : Mo_byteAt g1 (g1.1 221 10) = some (nI (B q)) := by rw [h1]; exact mo_byteL Y1 qL
            rw [Mo_token_L166, eb, Option.bind_some, mo_isd _ hb, Option.bind_some, if_pos qb, ev, Option.bind_some, m_nk (by omega), h1, nI_1]; exact c1
          · rw [c2, sc_y (c := isd B) qL qb]
          · rw [c3, sc_y (c := isd B) qL qb]
        · refine ⟨g1, ?_, ?_, ?_, f1⟩
          · rw [Mo_token_L166, h1, mo_byteL Y1 qL, Option.bind_some, mo_isd _ hb, Option.bind_some, if_neg qb]
          · rw [h1, sc_n (c := isd B) (fun e => qb e.2)]
          · rw [h2, sc_n (c := isd B) (fun e => qb e.2)]
      · have nl : Mo_isDigit g1 (-1) = some false := by unfold Mo_isDigit Mo_in; rw [if_pos (by decide)]; rfl
        refine ⟨g1, ?_, ?_, ?_, f1⟩
        · rw [Mo_token_L166, h1, mo_byteE Y1 (by omega), Option.bind_some, nl, Option.bind_some, if_neg (by decide)]
        · rw [h1, sc_n (c := isd B) (fun e => qL e.1)]
        · rw [h2, sc_n (c := isd B) (fun e => qL e.1)]
  have := main am_fuel (s + 1) g (Nat.le_refl _) (by omega) (z_fuel (by have := h.1; omega)) (fun i i1 i2 => by rw [show i = s by omega]; exact hd) h10 (by rw [h13, z48, z_sub (by omega), show s + 1 - s = 1 by omega]; rfl) (Fm.rf _ _)
  rw [← sc_y (c := isd B) hs hd] at this
  exact this
theorem mo_tok (h : YB B L g) (hp : p ≤ L) (h10 : g.1 221 10 = nI p) : ∃ g', Mo_token g = some g' ∧ TkR B L p g' ∧ Fm pV g g' := by
  have hL := h.1
  obtain ⟨g1, e1, k1, f1⟩ := mo_blank h hp h10
  have hts := ts_le B hp
  have htn := tn_b B hp
  have fA : Fm pV g (am_wr g1 221 12 (nI (ts B L p))) := (f1.mo (fun a k q => ⟨q.1, by omega⟩)).wr ⟨rfl, by omega⟩
  have YA := h.fm fA (by unfold pV; omega) (fun k => by unfold pV; omega)
  have wA : (am_wr g1 221 12 (nI (ts B L p))).1 221 10 = nI (ts B L p) := by rw [m_nk (by omega)]; exact k1
  have w12 : (am_wr g1 221 12 (nI (ts B L p))).1 221 12 = nI (ts B L p) := by rw [m_eq]
  generalize hA : am_wr g1 221 12 (nI (ts B L p)) = A at fA YA wA w12
  have head : Mo_token g = (Mo_byteAt A (nI (ts B L p))).bind fun q5 => (if 0 ≤ q5 then (Mo_isLetter A q5).bind fun q8 => if q8 = true then some 1 else (Mo_isDigit A q5).bind fun q11 => if q11 = true then some 2 else if q5 = 59 then some 3 else some 4 else some 0).bind fun (q15 : Int32) => (Mo_token_L110 am_fuel (if ((am_wr (am_wr A 221 11 q15) 221 13 q5).1 221 11) = 0 then am_wr (am_wr A 221 11 q15) 221 13 q5 else am_wr (am_wr (am_wr A 221 11 q15) 221 13 q5) 221 10 (((am_wr (am_wr A 221 11 q15) 221 13 q5).1 221 10) + 1)) q5).bind fun q24 => if (q24.1 221 11) = 2 then (Mo_token_L166 am_fuel (am_wr q24 221 13 (q5 - 48)) q5).bind fun q35 => some q35 else some q24 := by
    rw [Mo_token, e1, Option.bind_some, k1, hA, wA]
  rw [head]
  by_cases q : ts B L p < L
  · have hb := (h.2.2 _ q).2
    rw [mo_byteL YA q, Option.bind_some, if_pos (nI_pos' (by omega)), mo_isl _ hb, Option.bind_some]
    have st : ∀ K : Nat, K ≠ 0 → K ≤ 4 → (if ((am_wr (am_wr A 221 11 (nI K)) 221 13 (nI (B (ts B L p)))).1 221 11) = 0 then am_wr (am_wr A 221 11 (nI K)) 221 13 (nI (B (ts B L p))) else am_wr (am_wr (am_wr A 221 11 (nI K)) 221 13 (nI (B (ts B L p)))) 221 10 (((am_wr (am_wr A 221 11 (nI K)) 221 13 (nI (B (ts B L p)))).1 221 10) + 1)) = am_wr (am_wr (am_wr A 221 11 (nI K)) 221 13 (nI (B (ts B L p)))) 221 10 (nI (ts B L p + 1)) := by
      intro K hK hK4
      rw [m_nk (by omega), m_eq, if_neg (show ¬ nI K = 0 by rw [zl0]; exact z_ne (by omega) (by omega) hK), m_nk (by omega), m_nk (by omega), wA, nI_1]
    have F3 : ∀ K : Nat, Fm pV g (am_wr (am_wr (am_wr A 221 11 (nI K)) 221 13 (nI (B (ts B L p)))) 221 10 (nI (ts B L p + 1))) := fun K => ((fA.wr ⟨rfl, by omega⟩).wr ⟨rfl, by omega⟩).wr ⟨rfl, by omega⟩
    have Y3 : ∀ K : Nat, YB B L (am_wr (am_wr (am_wr A 221 11 (nI K)) 221 13 (nI (B (ts B L p)))) 221 10 (nI (ts B L p + 1))) := fun K => h.fm (F3 K) (by unfold pV; omega) (fun k => by unfold pV; omega)
    have a12 : ∀ K : Nat, (am_wr (am_wr (am_wr A 221 11 (nI K)) 221 13 (nI (B (ts B L p)))) 221 10 (nI (ts B L p + 1))).1 221 12 = nI (ts B L p) := fun K => by rw [m_nk (by omega), m_nk (by omega), m_nk (by omega)]; exact w12
    have a11 : ∀ K : Nat, (am_wr (am_wr (am_wr A 221 11 (nI K)) 221 13 (nI (B (ts B L p)))) 221 10 (nI (ts B L p + 1))).1 221 11 = nI K := fun K => by rw [m_nk (by omega), m_nk (by omega), m_eq]
    have skip : ∀ K : Nat, K ≠ 1 → K ≤ 4 → Mo_token_L110 am_fuel (am_wr (am_wr (am_wr A 221 11 (nI K)) 221 13 (nI (B (ts B L p)))) 221 10 (nI (ts B L p + 1))) (nI (B (ts B L p))) = some (am_wr (am_wr (am_wr A 221 11 (nI K)) 221 13 (nI (B (ts B L p)))) 221 10 (nI (ts B L p + 1))) := by
      intro K hK hK4
      rw [show am_fuel = 999999 + 1 from rfl, Mo_token_L110, a11, if_neg (show ¬ nI K = 1 by rw [zl1]; exact z_ne (by omega) (by omega) hK)]
    by_cases ql : isl B (ts B L p) = true
    · have s1 := st 1 (by omega) (by omega)
      rw [show nI 1 = (1 : Int32) from rfl] at s1
      rw [if_pos ql, Option.bind_some, s1, show (1 : Int32) = nI 1 from rfl]
      have etn : tn B L p = sc (isl B) L (ts B L p) := by unfold tn; rw [if_neg (by omega), if_pos ql]
      have ekd : kd B L p = 1 := by unfold kd; rw [if_neg (by omega), if_pos ql]
      have evl : vl B L p = if tn B L p = ts B L p + 1 then B (ts B L p) else 0 := by unfold vl; rw [if_pos ql]
      obtain ⟨g3, c1, c2, c3, c4⟩ := mo_letters (Y3 1) q ql (a11 1) (by rw [m_eq]) (by rw [m_nk (by omega), m_eq]) (nI (B (ts B L p)))
      rw [← etn] at c2 c3
      have w11 : g3.1 221 11 = nI 1 := by rw [c4.2 _ _ (by omega)]; exact a11 1
      refine ⟨g3, ?_, ⟨hp, by rw [c4.2 _ _ (by omega)]; exact a12 1, c2, by rw [w11, ekd]; rfl, fun _ => by rw [c3, evl], fun e => by omega⟩, (F3 1).tr (c4.mo (fun a k q => ⟨q.1, by omega⟩))⟩
      rw [c1, Option.bind_some, w11, if_neg (by decide)]
    · rw [if_neg ql, mo_isd _ hb, Option.bind_some]
      by_cases qd : isd B (ts B L p) = true
      · rw [if_pos qd, Option.bind_some, show (2 : Int32) = nI 2 from rfl, st 2 (by omega) (by omega), skip 2 (by omega) (by omega), Option.bind_some, a11, if_pos rfl]
        have etn : tn B L p = sc (isd B) L (ts B L p) := by unfold tn; rw [if_neg (by omega), if_neg ql, if_pos qd]
        have evl : vl B L p = cv B (ts B L p) (tn B L p - ts B L p) := by unfold vl; rw [if_neg ql]
        have ekd : kd B L p = if 99 < cv B (ts B L p) (tn B L p - ts B L p) ∨ (B (ts B L p) = 48 ∧ 1 < tn B L p - ts B L p) then 5 else 2 := by unfold kd; rw [if_neg (by omega), if_neg ql, if_pos qd]
        have F4 : Fm pV g (am_wr (am_wr (am_wr (am_wr A 221 11 (nI 2)) 221 13 (nI (B (ts B L p)))) 221 10 (nI (ts B L p + 1))) 221 13 (nI (B (ts B L p)) - 48)) := (F3 2).wr ⟨rfl, by omega⟩
        obtain ⟨g3, c1, c2, c3, c4⟩ := mo_digits (g := am_wr (am_wr (am_wr (am_wr A 221 11 (nI 2)) 221 13 (nI (B (ts B L p)))) 221 10 (nI (ts B L p + 1))) 221 13 (nI (B (ts B L p)) - 48)) (h.fm F4 (by unfold pV; omega) (fun k => by unfold pV; omega)) q qd (by rw [m_nk (by omega), m_eq]) (by rw [m_eq])
        rw [← etn] at c2 c3
        have hall : ∀ i, i < tn B L p - ts B L p → 48 ≤ B (ts B L p + i) ∧ B (ts B L p + i) ≤ 57 := fun i hi => by
          have := (scF_all (c := isd B) (L := L) (L - ts B L p) (ts B L p) (ts B L p + i) (by omega) (by rw [etn] at hi; unfold sc at hi; omega)).2
          simpa using this
        have hcr := cr (B := B) (s := ts B L p) (j := tn B L p - ts B L p) (by omega) hall
        have hrb := rv_b (B := B) (s := ts B L p) (j := tn B L p - ts B L p) (fun i hi => (hall i hi).2)
        refine ⟨g3, by rw [c1]; rfl, ⟨hp, by rw [c4.2 _ _ (by omega), m_nk (by omega)]; exact a12 2, c2, ?_, fun hk => ?_, fun hk => ?_⟩, F4.tr (c4.mo (fun a k q => ⟨q.1, by omega⟩))⟩
        · rw [c4.2 _ _ (by omega), m_nk (by omega), a11, ekd]
          split <;> rfl
        · have nb : ¬ (99 < cv B (ts B L p) (tn B L p - ts B L p) ∨ (B (ts B L p) = 48 ∧ 1 < tn B L p - ts B L p)) := fun e => by rw [ekd, if_pos e] at hk; omega
          rw [c3, hcr.2 nb, evl]
        · have nb : (99 < cv B (ts B L p) (tn B L p - ts B L p) ∨ (B (ts B L p) = 48 ∧ 1 < tn B L p - ts B L p)) := Classical.byContradiction (fun e => by rw [ekd, if_neg e] at hk; omega)
          exact ⟨_, hcr.1 nb, hrb, c3⟩
      · rw [if_neg qd]
        have etn : tn B L p = ts B L p + 1 := by unfold tn; rw [if_neg (by omega), if_neg ql, if_neg qd]
        have ekd : kd B L p = if B (ts B L p) = 59 then 3 else 4 := by unfold kd; rw [if_neg (by omega), if_neg ql, if_neg qd]
        have z59 : (59 : Int32) = nI 59 := rfl
        have go : ∀ K : Nat, K = kd B L p → K = 3 ∨ K = 4 → ∃ g', ((some (nI K)).bind fun (q15 : Int32) => (Mo_token_L110 am_fuel (if ((am_wr (am_wr A 221 11 q15) 221 13 (nI (B (ts B L p)))).1 221 11) = 0 then am_wr (am_wr A 221 11 q15) 221 13 (nI (B (ts B L p))) else am_wr (am_wr (am_wr A 221 11 q15) 221 13 (nI (B (ts B L p)))) 221 10 (((am_wr (am_wr A 221 11 q15) 221 13 (nI (B (ts B L p)))).1 221 10) + 1)) (nI (B (ts B L p)))).bind fun q24 => if (q24.1 221 11) = 2 then (Mo_token_L166 am_fuel (am_wr q24 221 13 (nI (B (ts B L p)) - 48)) (nI (B (ts B L p)))).bind fun q35 => some q35 else some q24) = some g' ∧ TkR B L p g' ∧ Fm pV g g' := by
          intro K hK hK2
          refine ⟨_, ?_, ⟨hp, a12 K, by rw [m_eq, etn], by rw [a11, hK]; congr 1; rw [if_neg (by omega)], fun e => by omega, fun e => by omega⟩, F3 K⟩
          rw [Option.bind_some, st K (by omega) (by omega), skip K (by omega) (by omega), Option.bind_some, a11, if_neg (show ¬ nI K = 2 by rw [zl2]; exact z_ne (by omega) (by omega) (by omega))]
        by_cases e : B (ts B L p) = 59
        · rw [if_pos (show nI (B (ts B L p)) = 59 by rw [e]; rfl)]
          exact go 3 (by rw [ekd, if_pos e]) (Or.inl rfl)
        · rw [if_neg (show ¬ nI (B (ts B L p)) = 59 by rw [z59]; exact z_ne (by omega) (by omega) e)]
          exact go 4 (by rw [ekd, if_neg e]) (Or.inr rfl)
  · have etn : tn B L p = ts B L p := by unfold tn; rw [if_pos (by omega)]
    have ekd : kd B L p = 0 := by unfold kd; rw [if_pos (by omega)]
    rw [mo_byteE YA (by omega), Option.bind_some, if_neg (by decide), Option.bind_some, m_nk (by omega), m_eq, if_pos rfl]
    have w11 : (am_wr (am_wr A 221 11 0) 221 13 (-1)).1 221 11 = 0 := by rw [m_nk (by omega), m_eq]
    have l110 : Mo_token_L110 am_fuel (am_wr (am_wr A 221 11 0) 221 13 (-1)) (-1) = some (am_wr (am_wr A 221 11 0) 221 13 (-1)) := by
      rw [show am_fuel = 999999 + 1 from rfl, Mo_token_L110, w11, if_neg (by decide)]
    refine ⟨_, by rw [l110, Option.bind_some, w11, if_neg (by decide)], ⟨hp, by rw [m_nk (by omega), m_nk (by omega)]; exact w12, by rw [m_nk (by omega), m_nk (by omega), wA, etn], by rw [w11, ekd]; rfl, fun e => by omega, fun e => by omega⟩, (fA.wr ⟨rfl, by omega⟩).wr ⟨rfl, by omega⟩⟩
end
