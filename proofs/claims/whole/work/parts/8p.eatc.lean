-- EAT, the class: rows
def rcd (r : Nat → Nat) : Nat → Nat
  | 0 => 0
  | k + 1 => 10 * rcd r k + r k + 1
def Mr (T U r : Nat → Nat) : Nat := ru T r (nf T) U (T 2 - U 0) 1
def FE (T U : Nat → Nat) (N : Nat) (o : Option (Nat → Nat)) : Prop := (o = none ∧ ∀ y, PR T y (nf T) → ¬ cn T y (nf T) < N) ∨ ∃ z, o = some z ∧ PR T z (nf T) ∧ cn T z (nf T) < N ∧ (∀ y, PR T y (nf T) → cn T y (nf T) < N → Mr T U z ≤ Mr T U y) ∧ (∀ y, PR T y (nf T) → cn T y (nf T) < cn T z (nf T) → Mr T U z < Mr T U y)
/-- the best row yet, as the class knows it -/
def BE (T U : Nat → Nat) (N : Nat) (g : am_G) : Prop := ∃ o, FE T U N o ∧ (o = none → g.1 81 7 = nI 1000000000 ∧ g.1 81 6 = 0) ∧ (∀ z, o = some z → g.1 81 7 = nI (Mr T U z) ∧ g.1 81 6 = nI (rcd z (nf T)))
/-- the row that is tried -/
def GA (T r : Nat → Nat) (g : am_G) : Prop := PR T r (nf T) ∧ g.1 81 9 = nI (nf T) ∧ ∀ i, i < nf T → g.1 83 i = nI (r i)
/-- the steps that stand -/
def CA (T r U : Nat → Nat) (j : Nat) (g : am_G) : Prop := ∃ p : Nat → Nat, p 0 = 0 ∧ ∀ i, i ≤ j → CI T g (85 + 4 * i) (ru T r (nf T) U i) ∧ g.1 84 i = nI (p i) ∧ p i ≤ nf T ∧ DP T r U i (p i)
section
variable {T r U : Nat → Nat} {g g' : am_G} {c : Nat}
theorem ah_lowest (h : CI T g c U) (hc : 85 ≤ c ∨ c + 3 < 81) (hc2 : 14 ≤ c) : ∃ g' r, Ah_lowestRow g = some g' ∧ GA T r g' ∧ (∀ a b, a < b → b < nf T → r a < r b) ∧ Fm (fun a k => a = 83 ∨ (a = 81 ∧ k = 9)) g g' := by
  have hb := h.bb
  obtain ⟨g1, e1, r, k1, k2, k3, k4, k5⟩ := lp_up (fun n (a : am_G) k => Ah_lowestRow_L7 n a (nI k)) (T 1)
    (fun k a => ∃ r : Nat → Nat, a.1 81 9 = nI (sm (fun t => bn (fdb T t)) k) ∧ (∀ i, i < sm (fun t => bn (fdb T t)) k → a.1 83 i = nI (r i) ∧ fdb T (r i) = true ∧ r i < k) ∧ (∀ x y, x < y → y < sm (fun t => bn (fdb T t)) k → r x < r y) ∧ Fm (fun a k => a = 83 ∨ (a = 81 ∧ k = 9)) g a ∧ True)
    (fun a => ∃ r : Nat → Nat, a.1 81 9 = nI (nf T) ∧ (∀ i, i < nf T → a.1 83 i = nI (r i) ∧ fdb T (r i) = true ∧ r i < T 1) ∧ (∀ x y, x < y → y < nf T → r x < r y) ∧ Fm (fun a k => a = 83 ∨ (a = 81 ∧ k = 9)) g a ∧ True)
    (fun n a ha => by
      obtain ⟨r, a1, a2, a3, a4, a5⟩ := id ha
      have c1 := h.fm a4 (fun a k q1 q2 q => by omega) (fun a k q1 q2 q => by omega)
      exact ⟨a, by rw [Ah_lowestRow_L7]; simp (disch := omega) only [c1.n, z_lt, z_le, z_eq, z_in, z_cl, z_add, z_mul, z_mx, z_mn, zl12, zl18, zl19, zl30, zl115, zl116, zl119, zl291, zl640, zl999, zl9999, zl0, zl1, zl2, zl3, zl4, zl5, zl6, zl7, zl8, zl9, zl10, zl15, zl20, zl22, zl26, zl29, zl32, zl33, zl40, zl47, zl48, zl55, zl57, zl59, zl60, zl63, zl71, zl97, zl99, zl100, zl122, zl200, zl255, zl320, zl1000, zl1024, zl5040, zl1000000000, Nat.le_refl, ↓reduceIte], ha⟩)
    (fun n k a hk ha => by
      obtain ⟨r, a1, a2, a3, a4, a5⟩ := ha
      have h6 : ¬ T 1 ≤ k := by omega
      have c1 := h.fm a4 (fun a k q1 q2 q => by omega) (fun a k q1 q2 q => by omega)
      have w1 := c1.tt hk
      have w2 := c1.tb hk
      have hn : sm (fun t => bn (fdb T t)) k ≤ k := by
        have := sm_le (n := k) (f := fun t => bn (fdb T t)) (c := 1) (fun i _ => by cases fdb T i <;> decide)
        omega
      by_cases q : T (26 + k) = 1
      · have fk : fdb T k = true := by unfold fdb; simp [hk, q]
        have es : sm (fun t => bn (fdb T t)) (k + 1) = sm (fun t => bn (fdb T t)) k + 1 := by rw [sm_s, fk]; rfl
        refine ⟨am_wr (am_wr a 83 (sm (fun t => bn (fdb T t)) k) (nI k)) 81 9 (nI (sm (fun t => bn (fdb T t)) k + 1)), ?_, up r (sm (fun t => bn (fdb T t)) k) k, by rw [m_eq, es], fun i hi => ?_, fun x y hxy hy => ?_, (a4.wr (Or.inl rfl)).wr (Or.inr ⟨rfl, rfl⟩), trivial⟩
        · show Ah_lowestRow_L7 (n + 1) a (nI k) = _
          have w5 : (am_wr a 83 (sm (fun t => bn (fdb T t)) k) (nI k)).1 81 9 = nI (sm (fun t => bn (fdb T t)) k) := by rw [m_na (by omega)]; exact a1
          rw [Ah_lowestRow_L7, a1, z_cl (show sm (fun t => bn (fdb T t)) k < 2 ^ 31 by omega), w5]
          simp (disch := omega) only [c1.n, z_lt, z_le, z_eq, z_in, z_cl, z_add, z_mul, z_mx, z_mn, zl12, zl18, zl19, zl30, zl115, zl116, zl119, zl291, zl640, zl999, zl9999, zl0, zl1, zl2, zl3, zl4, zl5, zl6, zl7, zl8, zl9, zl10, zl15, zl20, zl22, zl26, zl29, zl32, zl33, zl40, zl47, zl48, zl55, zl57, zl59, zl60, zl63, zl71, zl97, zl99, zl100, zl122, zl200, zl255, zl320, zl1000, zl1024, zl5040, zl1000000000, h6, w1, q, Option.bind_some, Option.bind_none, ↓reduceIte, Bool.false_eq_true, reduceCtorEq]
        · rw [es] at hi
          rw [m_na (by omega)]
          by_cases e : i = sm (fun t => bn (fdb T t)) k
          · subst e; rw [m_eq, up_eq]; exact ⟨rfl, fk, by omega⟩
          · rw [m_nk e, up_ne e]
            obtain ⟨z1, z2, z3⟩ := a2 i (by omega)
            exact ⟨z1, z2, by omega⟩
        · rw [es] at hy
          by_cases e : y = sm (fun t => bn (fdb T t)) k
          · subst e; rw [up_eq, up_ne (by omega)]; exact (a2 x hxy).2.2
          · rw [up_ne e, up_ne (by omega)]; exact a3 x y hxy (by omega)
      · have fk : fdb T k = false := by unfold fdb; simp [q]
        have es : sm (fun t => bn (fdb T t)) (k + 1) = sm (fun t => bn (fdb T t)) k := by rw [sm_s, fk]; rfl
        refine ⟨a, ?_, r, by rw [es]; exact a1, fun i hi => ?_, fun x y hxy hy => ?_, a4, trivial⟩
        · rw [Ah_lowestRow_L7]
          simp (disch := omega) only [c1.n, z_lt, z_le, z_eq, z_in, z_cl, z_add, z_mul, z_mx, z_mn, zl12, zl18, zl19, zl30, zl115, zl116, zl119, zl291, zl640, zl999, zl9999, zl0, zl1, zl2, zl3, zl4, zl5, zl6, zl7, zl8, zl9, zl10, zl15, zl20, zl22, zl26, zl29, zl32, zl33, zl40, zl47, zl48, zl55, zl57, zl59, zl60, zl63, zl71, zl97, zl99, zl100, zl122, zl200, zl255, zl320, zl1000, zl1024, zl5040, zl1000000000, h6, w1, q, Option.bind_some, Option.bind_none, ↓reduceIte, Bool.false_eq_true, reduceCtorEq]
        · rw [es] at hi
          obtain ⟨z1, z2, z3⟩ := a2 i hi
          exact ⟨z1, z2, by omega⟩
        · rw [es] at hy; exact a3 x y hxy hy)
    am_fuel 0 (am_wr g 81 9 0) (by omega) (z_fuel (by omega)) ⟨fun _ => 0, by rw [m_eq]; rfl, fun i hi => absurd hi (Nat.not_lt_zero _), fun x y _ hy => absurd hy (Nat.not_lt_zero _), (Fm.rf _ _).wr (Or.inr ⟨rfl, rfl⟩), trivial⟩
  refine ⟨g1, r, ?_, ⟨PR_mk (fun i hi => (k2 i hi).2.1) (fun i j hij hj => ?_), k1, fun i hi => (k2 i hi).1⟩, k3, k4⟩
  · rw [Ah_lowestRow, show Ah_lowestRow_L7 am_fuel (am_wr g 81 9 0) 0 = some g1 from e1]; rfl
  · have := k3 i j hij hj; omega
theorem ah_judge (hG : GA T r g) (hT : TW T) {fw m : Nat} (hf : g.1 81 7 = nI fw) (hfw : fw ≤ 1000000000) (hm : m ≤ 1000000) : ∃ g', Ah_judge g (nI m) = some g' ∧ ((fw ≤ m ∧ g' = g) ∨ (m < fw ∧ g'.1 81 7 = nI m ∧ g'.1 81 6 = nI (rcd r (nf T)) ∧ Fm (fun a k => a = 81 ∧ (k = 6 ∨ k = 7)) g g')) := by
  have hn := nf_le hT
  by_cases q : fw ≤ m
  · exact ⟨g, by rw [Ah_judge, hf, if_pos (nI_le q (by omega))], Or.inl ⟨q, rfl⟩⟩
  · obtain ⟨g1, e1, k1, k2⟩ := lp_up (fun n (a : am_G) k => Ah_judge_L20 n a (nI k)) (nf T) (fun k a => a.1 81 6 = nI (rcd r k) ∧ Fm (fun a k => a = 81 ∧ k = 6) (am_wr (am_wr g 81 7 (nI m)) 81 6 0) a) (fun a => a.1 81 6 = nI (rcd r (nf T)) ∧ Fm (fun a k => a = 81 ∧ k = 6) (am_wr (am_wr g 81 7 (nI m)) 81 6 0) a)
      (fun n a ha => ⟨a, by
        have w9 : a.1 81 9 = nI (nf T) := by rw [ha.2.2 _ _ (by omega), m_nk (by omega), m_nk (by omega)]; exact hG.2.1
        rw [Ah_judge_L20, w9, if_pos (nI_le (Nat.le_refl _) (by omega))], ha⟩)
      (fun n k a hk ha => by
        obtain ⟨a1, a2⟩ := ha
        have w9 : a.1 81 9 = nI (nf T) := by rw [a2.2 _ _ (by omega), m_nk (by omega), m_nk (by omega)]; exact hG.2.1
        have w83 : a.1 83 k = nI (r k) := by rw [a2.2 _ _ (by omega), m_na (by omega), m_na (by omega)]; exact hG.2.2 k hk
        refine ⟨am_wr a 81 6 (nI (rcd r (k + 1))), ?_, by rw [m_eq], a2.wr ⟨rfl, rfl⟩⟩
        show Ah_judge_L20 (n + 1) a (nI k) = _
        rw [Ah_judge_L20, w9, if_neg (nI_ge hk (by omega)), if_pos (z_in (by omega) (by omega)), z_cl (by omega), w83, a1, zl10, z_mul, z_add, nI_1, nI_1]
        rfl)
      am_fuel 0 (am_wr (am_wr g 81 7 (nI m)) 81 6 0) (by omega) (z_fuel (by omega)) ⟨by rw [m_eq]; rfl, Fm.rf _ _⟩
    refine ⟨g1, ?_, Or.inr ⟨by omega, ?_, k1, (((Fm.rf _ _).wr ⟨rfl, Or.inr rfl⟩).wr ⟨rfl, Or.inl rfl⟩).tr (k2.mo (fun a k q => ⟨q.1, Or.inl q.2⟩))⟩⟩
    · rw [Ah_judge, hf, if_neg (nI_ge (by omega) (by omega)), show Ah_judge_L20 am_fuel (am_wr (am_wr g 81 7 (nI m)) 81 6 0) 0 = some g1 from e1]; rfl
    · rw [k2.2 _ _ (by omega), m_nk (by omega), m_eq]
theorem ah_turned (hG : GA T r g) (hT : TW T) {j p b : Nat} {Q : Nat → Nat} (hj : j < 8) (hp : g.1 84 j = nI p) (hb : g.1 84 (j + 1) = nI b) (hpn : p ≤ nf T) (hbn : b ≤ nf T) (hC : CI T g (85 + 4 * (j + 1)) Q) : ∃ tl, Ah_toldAsTurned g (nI j) = some (nI tl) ∧ (tl = 0 ∨ ∃ i, tl = i + 1 ∧ p + 1 ≤ i ∧ i < b ∧ (i < b - 1 ∨ Q (15 + r i) = 0) ∧ r i < r (i - 1)) := by
  have hn := nf_le hT
  have a2 := hT.2.1
  have head : Ah_toldAsTurned g (nI j) = (Ah_toldAsTurned_L18 am_fuel g (nI j) (nI b) (nI (p + 1))).bind fun q14 => match q14 with | .inr w => some w | .inl w15 => some 0 := by
    rw [Ah_toldAsTurned, zl1, z_add, if_pos (z_in (by omega) (by omega)), if_pos (z_in (by omega) (by omega)), z_cl (by omega), z_cl (by omega), hb, hp, z_add]; rfl
  by_cases q : b ≤ p + 1
  · refine ⟨0, ?_, Or.inl rfl⟩
    rw [head, show am_fuel = 999999 + 1 from rfl, Ah_toldAsTurned_L18, if_pos (nI_le q (by omega))]; rfl
  · obtain ⟨o, e1, e2⟩ := lp_ex (fun n (_ : Unit) k => Ah_toldAsTurned_L18 n g (nI j) (nI b) (nI k)) b (fun k _ => p + 1 ≤ k) (fun o => o = .inl () ∨ ∃ i, o = .inr (nI (i + 1)) ∧ p + 1 ≤ i ∧ i < b ∧ (i < b - 1 ∨ Q (15 + r i) = 0) ∧ r i < r (i - 1))
      (fun n a ha => ⟨.inl (), by rw [Ah_toldAsTurned_L18, if_pos (nI_le (Nat.le_refl _) (by omega))], Or.inl rfl⟩)
      (fun n k a hk ha => by
        have l1 := (fdb_lt (hG.1 k (by omega)).1).1
        have l2 := (fdb_lt (hG.1 (k - 1) (by omega)).1).1
        have w1 := hG.2.2 k (by omega)
        have w2 := hG.2.2 (k - 1) (by omega)
        have w3 := (hC.tt l1).2.2.2.2.2
        have w4 := (hC.tb l1).2.2.2.2.2.1
        have em : (if nI k < (nI b - 1) then some 1 else if am_in (nI j + 1) 9 = true then if am_in (nI k) 7 = true then if am_in (g.1 83 (nI k).toNatClampNeg) 7 = true then if (g.1 (85 + 4 * (nI j + 1).toNatClampNeg + 2) (g.1 83 (nI k).toNatClampNeg).toNatClampNeg) = 0 then some 1 else some 0 else none else none else none) = some (if k < b - 1 ∨ Q (15 + r k) = 0 then (1 : Int32) else 0) := by
          by_cases q1 : k < b - 1
          · rw [zl1, z_sub (by omega), if_pos (nI_lt q1 (by omega)), if_pos (Or.inl q1)]
          · rw [nI_1, if_neg (by rw [zl1, z_sub (by omega)]; exact nI_nlt (by omega) (by omega)), if_pos (z_in (by omega) (by omega)), if_pos (z_in (by omega) (by omega)), z_cl (by omega), z_cl (by omega), w1, if_pos (z_in (by omega) (by omega)), z_cl (by omega), w3]
            by_cases q2 : Q (15 + r k) = 0
            · rw [if_pos (Or.inr q2), q2, if_pos (show nI 0 = 0 from rfl)]
            · rw [if_neg (show ¬ nI (Q (15 + r k)) = 0 by rw [zl0]; exact z_ne (by omega) (by omega) q2), if_neg (show ¬ (k < b - 1 ∨ Q (15 + r k) = 0) by omega)]
        rw [Ah_toldAsTurned_L18, em, if_neg (nI_ge hk (by omega)), Option.bind_some]
        by_cases q1 : k < b - 1 ∨ Q (15 + r k) = 0
        · rw [if_pos q1, if_neg (by decide), if_pos (z_in (by omega) (by omega)), show nI k - 1 = nI (k - 1) by rw [zl1, z_sub (by omega)], if_pos (z_in (by omega) (by omega)), z_cl (by omega), z_cl (by omega), w1, w2]
          by_cases q2 : r (k - 1) ≤ r k
          · exact Or.inl ⟨(), by rw [if_pos (nI_le q2 (by omega)), nI_1], by omega⟩
          · exact Or.inr ⟨_, by rw [if_neg (nI_ge (by omega) (by omega)), nI_1], Or.inr ⟨k, rfl, ha, hk, q1, by omega⟩⟩
        · exact Or.inl ⟨(), by rw [if_neg q1, if_pos rfl, nI_1], by omega⟩)
      am_fuel (p + 1) () (by omega) (z_fuel (by omega)) (Nat.le_refl _)
    rw [head, e1]
    rcases e2 with rfl | ⟨i, rfl, k1, k2, k3, k4⟩
    · exact ⟨0, rfl, Or.inl rfl⟩
    · exact ⟨i + 1, rfl, Or.inr ⟨i, rfl, k1, k2, k3, k4⟩⟩
end
