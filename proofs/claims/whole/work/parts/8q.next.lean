-- EAT, the class: the next row
section
variable {T r U : Nat → Nat} {g g' : am_G} {c p : Nat}
theorem GA.v (h : GA T r g) (hT : TW T) {i : Nat} (hi : i < nf T) : r i < 7 := by
  have := (fdb_lt (h.1 i hi).1).1
  have := hT.2.1
  omega
theorem ah_above (hG : GA T r g) (hT : TW T) (hp : p < nf T) : (∃ q, p < q ∧ q < nf T ∧ r p < r q ∧ (∀ j, p < j → j < nf T → r p < r j → r q ≤ r j) ∧ Ah_placeOfNextAbove g (nI p) = some (nI q)) ∨ ((∀ j, p < j → j < nf T → r j ≤ r p) ∧ Ah_placeOfNextAbove g (nI p) = some (-1)) := by
  have hn := nf_le hT
  obtain ⟨o, e1, e2⟩ := lp_up (fun n (a : Int32) k => Ah_placeOfNextAbove_L6 n g (nI p) a (nI k)) (nf T)
    (fun k a => p < k ∧ ((∃ q, p < q ∧ q < k ∧ r p < r q ∧ (∀ j, p < j → j < k → r p < r j → r q ≤ r j) ∧ a = nI q) ∨ ((∀ j, p < j → j < k → r j ≤ r p) ∧ a = -1)))
    (fun a => (∃ q, p < q ∧ q < nf T ∧ r p < r q ∧ (∀ j, p < j → j < nf T → r p < r j → r q ≤ r j) ∧ a = nI q) ∨ ((∀ j, p < j → j < nf T → r j ≤ r p) ∧ a = -1))
    (fun n a ha => ⟨a, by rw [Ah_placeOfNextAbove_L6, hG.2.1, if_pos (nI_le (Nat.le_refl _) (by omega))], ha.2⟩)
    (fun n k a hk ha => by
      obtain ⟨a0, a1⟩ := ha
      have v1 := hG.v hT hk
      have v2 := hG.v hT hp
      have w1 := hG.2.2 k hk
      have w2 := hG.2.2 p hp
      have st : ∀ x : Int32, (if (g.1 83 (nI k).toNatClampNeg) ≤ (g.1 83 (nI p).toNatClampNeg) then some a else if a < 0 then some (nI k) else if am_in a 7 = true then if (g.1 83 a.toNatClampNeg) ≤ (g.1 83 (nI k).toNatClampNeg) then some a else some (nI k) else none) = some x → Ah_placeOfNextAbove_L6 (n + 1) g (nI p) a (nI k) = Ah_placeOfNextAbove_L6 n g (nI p) x (nI (k + 1)) := by
        intro x hx
        rw [Ah_placeOfNextAbove_L6, hG.2.1, if_neg (nI_ge hk (by omega)), if_pos (z_in (by omega) (by omega)), if_pos (z_in (by omega) (by omega)), hx, Option.bind_some, nI_1]
      rw [z_cl (show k < 2 ^ 31 by omega), z_cl (show p < 2 ^ 31 by omega), w1, w2] at st
      by_cases q : r k ≤ r p
      · refine ⟨a, st a (by rw [if_pos (nI_le q (by omega))]), by omega, ?_⟩
        rcases a1 with ⟨u, u1, u2, u3, u4, u5⟩ | ⟨u1, u2⟩
        · refine Or.inl ⟨u, u1, by omega, u3, fun j j1 j2 j3 => ?_, u5⟩
          by_cases e : j = k
          · subst e; omega
          · exact u4 j j1 (by omega) j3
        · refine Or.inr ⟨fun j j1 j2 => ?_, u2⟩
          by_cases e : j = k
          · subst e; exact q
          · exact u1 j j1 (by omega)
      · rcases a1 with ⟨u, u1, u2, u3, u4, u5⟩ | ⟨u1, u2⟩
        · have v3 := hG.v hT (show u < nf T by omega)
          have w3 := hG.2.2 u (by omega)
          by_cases q2 : r u ≤ r k
          · refine ⟨a, st a ?_, by omega, Or.inl ⟨u, u1, by omega, u3, fun j j1 j2 j3 => ?_, u5⟩⟩
            · rw [if_neg (nI_ge (by omega) (by omega)), u5, if_neg (nI_pos (by omega)), if_pos (z_in (by omega) (by omega)), z_cl (by omega), w3, if_pos (nI_le q2 (by omega))]
            · by_cases e : j = k
              · subst e; exact q2
              · exact u4 j j1 (by omega) j3
          · refine ⟨nI k, st _ ?_, by omega, Or.inl ⟨k, by omega, by omega, by omega, fun j j1 j2 j3 => ?_, rfl⟩⟩
            · rw [if_neg (nI_ge (by omega) (by omega)), u5, if_neg (nI_pos (by omega)), if_pos (z_in (by omega) (by omega)), z_cl (by omega), w3, if_neg (nI_ge (by omega) (by omega))]
            · by_cases e : j = k
              · subst e; exact Nat.le_refl _
              · have := u4 j j1 (by omega) j3; omega
        · refine ⟨nI k, st _ ?_, by omega, Or.inl ⟨k, by omega, by omega, by omega, fun j j1 j2 j3 => ?_, rfl⟩⟩
          · rw [if_neg (nI_ge (by omega) (by omega)), u2, if_pos (by decide)]
          · by_cases e : j = k
            · subst e; exact Nat.le_refl _
            · have := u1 j j1 (by omega); omega)
    am_fuel (p + 1) (-1) (by omega) (z_fuel (by omega)) ⟨by omega, Or.inr ⟨fun j j1 j2 => by omega, rfl⟩⟩
  have e3 : Ah_placeOfNextAbove g (nI p) = some o := by rw [Ah_placeOfNextAbove, nI_1, e1]; rfl
  rcases e2 with ⟨q, q1, q2, q3, q4, rfl⟩ | ⟨q1, rfl⟩
  · exact Or.inl ⟨q, q1, q2, q3, q4, e3⟩
  · exact Or.inr ⟨q1, e3⟩
theorem ah_swap (hG : GA T r g) (hT : TW T) {i j : Nat} (hi : i < nf T) (hj : j < nf T) : ∃ g', Ah_swap g (nI i) (nI j) = some g' ∧ GA T (up (up r i (r j)) j (r i)) g' ∧ Fm (fun a _ => a = 83) g g' := by
  have hn := nf_le hT
  refine ⟨am_wr (am_wr g 83 i (nI (r j))) 83 j (nI (r i)), ?_, ⟨PR_swap hG.1 hi hj, ?_, fun u hu => ?_⟩, ((Fm.rf (fun a _ => a = 83) _).wr rfl).wr rfl⟩
  · rw [Ah_swap, if_pos (z_in (by omega) (by omega)), if_pos (z_in (by omega) (by omega)), z_cl (by omega), z_cl (by omega), hG.2.2 i hi, hG.2.2 j hj]
  · rw [m_na (by omega), m_na (by omega)]; exact hG.2.1
  · by_cases e : u = j
    · subst e; rw [m_eq, up_eq]
    · rw [m_nk e, up_ne e]
      by_cases e2 : u = i
      · subst e2; rw [m_eq, up_eq]
      · rw [m_nk e2, up_ne e2]; exact hG.2.2 u hu
theorem ah_sort1 (hG : GA T r g) (hT : TW T) {i : Nat} (hi : i < nf T) : ∃ g' r', Ah_sortFrom_L14 am_fuel g (nI i) (nI (i + 1)) = some g' ∧ GA T r' g' ∧ (∀ u, u < i → r u = r' u) ∧ (∀ b, i < b → b < nf T → r' i < r' b) ∧ (∀ v, (∀ u, i ≤ u → u < nf T → v < r u) → ∀ u, i ≤ u → u < nf T → v < r' u) ∧ Fm (fun a _ => a = 83) g g' := by
  have hn := nf_le hT
  obtain ⟨g1, e1, r1, k1, k2, k3, k4, k5⟩ := lp_up (fun n (a : am_G) k => Ah_sortFrom_L14 n a (nI i) (nI k)) (nf T)
    (fun k a => ∃ r', GA T r' a ∧ (∀ u, u < i → r u = r' u) ∧ (i < k ∧ ∀ b, i < b → b < k → r' i < r' b) ∧ (∀ v, (∀ u, i ≤ u → u < nf T → v < r u) → ∀ u, i ≤ u → u < nf T → v < r' u) ∧ Fm (fun a _ => a = 83) g a)
    (fun a => ∃ r', GA T r' a ∧ (∀ u, u < i → r u = r' u) ∧ (∀ b, i < b → b < nf T → r' i < r' b) ∧ (∀ v, (∀ u, i ≤ u → u < nf T → v < r u) → ∀ u, i ≤ u → u < nf T → v < r' u) ∧ Fm (fun a _ => a = 83) g a)
    (fun n a ha => by
      obtain ⟨r', a1, a2, a3, a4⟩ := ha
      exact ⟨a, by rw [Ah_sortFrom_L14, a1.2.1, if_pos (nI_le (Nat.le_refl _) (by omega))], r', a1, a2, a3.2, a4⟩)
    (fun n k a hk ha => by
      obtain ⟨r', a1, a2, a3, a4, a5⟩ := ha
      have v1 := a1.v hT hk
      have v2 := a1.v hT hi
      have w1 := a1.2.2 k hk
      have w2 := a1.2.2 i hi
      by_cases q : r' i ≤ r' k
      · refine ⟨a, ?_, r', a1, a2, ⟨by omega, fun b b1 b2 => ?_⟩, a4, a5⟩
        · rw [Ah_sortFrom_L14, a1.2.1, if_neg (nI_ge hk (by omega)), if_pos (z_in (by omega) (by omega)), if_pos (z_in (by omega) (by omega)), z_cl (show k < 2 ^ 31 by omega), z_cl (show i < 2 ^ 31 by omega), w1, w2, if_pos (nI_le q (by omega)), Option.bind_some, nI_1]
        · by_cases e : b = k
          · subst e
            have := PR_ne a1.1 hi hk (by omega)
            omega
          · exact a3.2 b b1 (by omega)
      · obtain ⟨g2, c1, c2, c3⟩ := ah_swap a1 hT hi hk
        have ev : ∀ u, up (up r' i (r' k)) k (r' i) u = if u = k then r' i else if u = i then r' k else r' u := fun u => rfl
        refine ⟨g2, ?_, _, c2, fun u hu => ?_, ⟨by omega, fun b b1 b2 => ?_⟩, fun v hv u u1 u2 => ?_, a5.tr c3⟩
        · rw [Ah_sortFrom_L14, a1.2.1, if_neg (nI_ge hk (by omega)), if_pos (z_in (by omega) (by omega)), if_pos (z_in (by omega) (by omega)), z_cl (show k < 2 ^ 31 by omega), z_cl (show i < 2 ^ 31 by omega), w1, w2, if_neg (nI_ge (by omega) (by omega)), c1, Option.bind_some, Option.bind_some, nI_1]
        · rw [ev, if_neg (by omega), if_neg (by omega)]; exact a2 u hu
        · rw [ev, ev, if_neg (by omega), if_pos rfl]
          by_cases e : b = k
          · rw [if_pos e]; omega
          · rw [if_neg e, if_neg (by omega)]
            have := a3.2 b b1 (by omega)
            omega
        · rw [ev]
          have x1 := a4 v hv i (Nat.le_refl _) hi
          have x2 := a4 v hv k (by omega) hk
          have x3 := a4 v hv u u1 u2
          split
          · exact x1
          · split
            · exact x2
            · exact x3)
    am_fuel (i + 1) g (by omega) (z_fuel (by omega)) ⟨r, hG, fun u _ => rfl, ⟨by omega, fun b b1 b2 => by omega⟩, fun v hv => hv, Fm.rf _ _⟩
  exact ⟨g1, r1, e1, k1, k2, k3, k4, k5⟩
theorem ah_sort (hG : GA T r g) (hT : TW T) {s : Nat} (hs : s ≤ nf T) : ∃ g' r', Ah_sortFrom g (nI s) = some g' ∧ GA T r' g' ∧ (∀ u, u < s → r u = r' u) ∧ (∀ a b, s ≤ a → a < b → b < nf T → r' a < r' b) ∧ Fm (fun a _ => a = 83) g g' := by
  have hn := nf_le hT
  obtain ⟨g1, e1, r1, k1, k2, k3, k4⟩ := lp_up (fun n (a : am_G) k => Ah_sortFrom_L2 n a (nI k)) (nf T)
    (fun k a => ∃ r', GA T r' a ∧ (∀ u, u < s → r u = r' u) ∧ (s ≤ k ∧ ∀ a b, s ≤ a → a < k → a < b → b < nf T → r' a < r' b) ∧ Fm (fun a _ => a = 83) g a)
    (fun a => ∃ r', GA T r' a ∧ (∀ u, u < s → r u = r' u) ∧ (∀ a b, s ≤ a → a < b → b < nf T → r' a < r' b) ∧ Fm (fun a _ => a = 83) g a)
    (fun n a ha => by
      obtain ⟨r', a1, a2, a3, a4⟩ := ha
      exact ⟨a, by rw [Ah_sortFrom_L2, a1.2.1, if_pos (nI_le (Nat.le_refl _) (by omega))], r', a1, a2, fun x y x1 x2 x3 => a3.2 x y x1 (by omega) x2 x3, a4⟩)
    (fun n k a hk ha => by
      obtain ⟨r', a1, a2, a3, a4⟩ := ha
      obtain ⟨g2, r2, c1, c2, c3, c4, c5, c6⟩ := ah_sort1 a1 hT hk
      refine ⟨g2, ?_, r2, c2, fun u hu => (a2 u hu).trans (c3 u (by omega)), ⟨by omega, fun x y x1 x2 x3 x4 => ?_⟩, a4.tr c6⟩
      · rw [Ah_sortFrom_L2, a1.2.1, if_neg (nI_ge hk (by omega)), nI_1, c1, Option.bind_some]
      · by_cases e : x = k
        · subst e; exact c4 y x3 x4
        · have hx : x < k := by omega
          rw [← c3 x hx]
          by_cases e2 : y < k
          · rw [← c3 y e2]; exact a3.2 x y x1 hx x3 x4
          · exact c5 (r' x) (fun u u1 u2 => a3.2 x u x1 hx (by omega) u2) y (by omega) x4)
    am_fuel s g hs (z_fuel (by omega)) ⟨r, hG, fun u _ => rfl, ⟨Nat.le_refl _, fun a b x1 x2 => by omega⟩, Fm.rf _ _⟩
  exact ⟨g1, r1, by rw [Ah_sortFrom, e1]; rfl, k1, k2, k3, k4⟩
/-- the next row, or none -/
theorem ah_next (hG : GA T r g) (hT : TW T) {tl : Nat} (htl : tl ≤ 100) : (∃ g' r' i, Ah_nextRow g (nI tl) = some (g', nI i) ∧ GA T r' g' ∧ i < nf T ∧ i < tl ∧ (∀ u, u < i → r u = r' u) ∧ lexl (nf T) r r' ∧ (∀ y, PR T y (nf T) → cn T r (nf T) ≤ cn T y (nf T) → cn T y (nf T) < cn T r' (nf T) → ∀ u, u < tl → u < nf T → r u = y u) ∧ Fm (fun a _ => a = 83) g g') ∨ (Ah_nextRow g (nI tl) = some (g, -1) ∧ ∀ y, PR T y (nf T) → cn T r (nf T) ≤ cn T y (nf T) → ∀ u, u < tl → u < nf T → r u = y u) := by
  have hn := nf_le hT
  have neg : (nI 0 - 1 : Int32) < 0 := by decide
  have nolex : ∀ y, PR T y (nf T) → cn T r (nf T) ≤ cn T y (nf T) → ¬ lexl (nf T) y r := fun y hy hc hl => by have := cn_lex hy hG.1 hl; omega
  obtain ⟨o, e1, e2⟩ : ∃ o, Ah_nextRow_L11 am_fuel g (nI (min tl (nf T)) - 1) = some o ∧ ((∃ g' r' i, o = .inr (g', nI i) ∧ GA T r' g' ∧ i < min tl (nf T) ∧ (∀ u, u < i → r u = r' u) ∧ lexl (nf T) r r' ∧ (∀ j, i < j → j < nf T → r i < r j → r' i ≤ r j) ∧ (∀ a b, i < a → a < b → b < nf T → r' a < r' b) ∧ (∀ p, i < p → p < min tl (nf T) → ∀ j, p < j → j < nf T → r j ≤ r p) ∧ Fm (fun a _ => a = 83) g g') ∨ (o = .inl () ∧ ∀ p, p < min tl (nf T) → ∀ j, p < j → j < nf T → r j ≤ r p)) := by
    have main : ∀ n k, k ≤ min tl (nf T) → k < n → (∀ p, k ≤ p → p < min tl (nf T) → ∀ j, p < j → j < nf T → r j ≤ r p) → ∃ o, Ah_nextRow_L11 n g (nI k - 1) = some o ∧ ((∃ g' r' i, o = .inr (g', nI i) ∧ GA T r' g' ∧ i < min tl (nf T) ∧ (∀ u, u < i → r u = r' u) ∧ lexl (nf T) r r' ∧ (∀ j, i < j → j < nf T → r i < r j → r' i ≤ r j) ∧ (∀ a b, i < a → a < b → b < nf T → r' a < r' b) ∧ (∀ p, i < p → p < min tl (nf T) → ∀ j, p < j → j < nf T → r j ≤ r p) ∧ Fm (fun a _ => a = 83) g g') ∨ (o = .inl () ∧ ∀ p, p < min tl (nf T) → ∀ j, p < j → j < nf T → r j ≤ r p)) := by
      intro n
      induction n with
      | zero => intro k _ h; omega
      | succ n ih =>
        intro k hk hkn hmax
        cases k with
        | zero => exact ⟨.inl (), by rw [Ah_nextRow_L11, if_pos neg], Or.inr ⟨rfl, fun p hp => hmax p (by omega) hp⟩⟩
        | succ k =>
          rw [nI_pred, Ah_nextRow_L11, if_neg (nI_pos (by omega))]
          rcases ah_above hG hT (show k < nf T by omega) with ⟨q, q1, q2, q3, q4, q5⟩ | ⟨q1, q2⟩
          · rw [q5, Option.bind_some, if_neg (nI_pos (by omega))]
            obtain ⟨g1, c1, c2, c3⟩ := ah_swap hG hT (show k < nf T by omega) q2
            obtain ⟨g2, r2, d1, d2, d3, d4, d5⟩ := ah_sort c2 hT (show k + 1 ≤ nf T by omega)
            have ev : ∀ u, up (up r k (r q)) q (r k) u = if u = q then r k else if u = k then r q else r u := fun u => rfl
            have ek : r2 k = r q := by rw [← d3 k (by omega), ev, if_neg (by omega), if_pos rfl]
            have eu : ∀ u, u < k → r u = r2 u := fun u hu => by rw [← d3 u (by omega), ev, if_neg (by omega), if_neg (by omega)]
            refine ⟨.inr (g2, nI k), by rw [c1, Option.bind_some, nI_1, d1, Option.bind_some], Or.inl ⟨g2, r2, k, rfl, d2, by omega, eu, ⟨k, by omega, eu, by omega⟩, fun j j1 j2 j3 => ?_, fun a b a1 a2 a3 => d4 a b (by omega) a2 a3, fun p p1 p2 => hmax p (by omega) p2, c3.tr d5⟩⟩
            rw [ek]; exact q4 j j1 j2 j3
          · rw [q2, Option.bind_some, if_pos (by decide), show nI k + (-1) = nI k - 1 from (Int32.sub_eq_add_neg ..).symm]
            refine ih k (by omega) (by omega) (fun p p1 p2 => ?_)
            by_cases e : p = k
            · subst e; exact q1
            · exact hmax p (by omega) p2
    exact main am_fuel (min tl (nf T)) (Nat.le_refl _) (z_fuel (by omega)) (fun p p1 p2 => by omega)
  have head : Ah_nextRow g (nI tl) = (some o).bind fun q9 => match q9 with | .inr w => some w | .inl w10 => some (g, (-1)) := by
    rw [Ah_nextRow, hG.2.1, z_mn (by omega) (by omega), e1]; rfl
  rcases e2 with ⟨g1, r1, i, rfl, k1, k2, k3, k4, k5, k6, k7, k8⟩ | ⟨rfl, k1⟩
  · refine Or.inl ⟨g1, r1, i, head, k1, by omega, by omega, k3, k4, fun y hy h1 h2 => ?_, k8⟩
    exact next_cover hG.1 hy k1.1 (i := i) (told := tl) (by omega) k3 k5 k6 (fun p p1 p2 p3 => k7 p p1 (by omega)) (nolex y hy h1) (lex_of hy k1.1 h2)
  · exact Or.inr ⟨head, fun y hy h1 => next_none hG.1 hy (told := tl) (fun p p1 p2 => k1 p (by omega)) (nolex y hy h1)⟩
/-- the last step that stands -/
theorem ah_before {J i : Nat} {q : Nat → Nat} {b : Nat} (hJ : J ≤ 8) (hJ0 : 0 < J) (h0 : q 0 = 0) (hq : ∀ k, k < J → g.1 84 k = nI (q k) ∧ q k ≤ 7) (hb : g.1 84 J = nI b) (hbi : i < b) (hb7 : b ≤ 7) : ∃ s, Ah_stepBefore g (nI i) = some (nI s) ∧ s < J ∧ ∀ k, k ≤ s → q k ≤ i := by
  obtain ⟨o, e1, s, k1, k2, k3, k4⟩ := lp_up (fun n (a : Int32) k => Ah_stepBefore_L4 n g (nI i) a (nI k)) 9
    (fun k a => ∃ s, a = nI s - 1 ∧ s ≤ J ∧ (∀ u, u < s → q u ≤ i) ∧ (s = k ∨ (s < k ∧ 0 < s ∧ (s = J ∨ i < q s))))
    (fun a => ∃ s, a = nI s - 1 ∧ s ≤ J ∧ (∀ u, u < s → q u ≤ i) ∧ 0 < s)
    (fun n a ha => by
      obtain ⟨s, a1, a2, a3, a4⟩ := ha
      exact ⟨a, by rw [Ah_stepBefore_L4, if_pos (show (8 : Int32) < nI 9 by decide)], s, a1, a2, a3, by omega⟩)
    (fun n k a hk ha => by
      obtain ⟨s, a1, a2, a3, a4⟩ := ha
      have st : Ah_stepBefore_L4 (n + 1) g (nI i) a (nI k) = Ah_stepBefore_L4 n g (nI i) (if nI i < (g.1 84 k) then a else if nI k = nI s then nI k else a) (nI (k + 1)) := by
        rw [Ah_stepBefore_L4, if_neg (show ¬ (8 : Int32) < nI k by rw [zl8]; exact nI_nlt (by omega) (by omega)), if_neg (nI_pos (by omega)), if_pos (z_in (by omega) (by omega)), z_cl (by omega), nI_1, a1, show nI s - 1 + 1 = nI s from Int32.sub_add_cancel _ _]
      by_cases ek : s = k
      · by_cases kj : k = J
        · subst kj
          refine ⟨a, ?_, s, a1, a2, a3, Or.inr ⟨by omega, by omega, Or.inl ek⟩⟩
          rw [st, hb, if_pos (nI_lt hbi (by omega))]
        · obtain ⟨w1, w2⟩ := hq k (by omega)
          by_cases qi : i < q k
          · refine ⟨a, ?_, s, a1, a2, a3, Or.inr ⟨by omega, ?_, Or.inr (by rw [ek]; exact qi)⟩⟩
            · rw [st, w1, if_pos (nI_lt qi (by omega))]
            · refine Nat.pos_of_ne_zero (fun e => ?_)
              rw [← ek, e, h0] at qi; omega
          · refine ⟨nI (s + 1) - 1, ?_, s + 1, rfl, by omega, fun u hu => ?_, Or.inl (by omega)⟩
            · rw [st, w1, if_neg (nI_nlt (by omega) (by omega)), ek, if_pos rfl, nI_pred]
            · by_cases e : u = s
              · rw [e, ek]; omega
              · exact a3 u (by omega)
      · refine ⟨a, ?_, s, a1, a2, a3, Or.inr ⟨by omega, by omega, by omega⟩⟩
        rw [st, if_neg (show ¬ nI k = nI s from z_ne (by omega) (by omega) (by omega))]
        split <;> rfl)
    am_fuel 0 (-1) (by omega) (z_fuel (by omega)) ⟨0, rfl, by omega, fun u hu => by omega, Or.inl rfl⟩
  refine ⟨s - 1, ?_, by omega, fun k hk => k3 k (by omega)⟩
  rw [Ah_stepBefore, show Ah_stepBefore_L4 am_fuel g (nI i) (-1) 0 = some o from e1, Option.bind_some, k1, show s = (s - 1) + 1 by omega, nI_pred, show s - 1 + 1 - 1 = s - 1 by omega]
end
