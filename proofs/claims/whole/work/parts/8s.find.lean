-- EAT, the class: all rows; hunger
section
variable {T S r r' U : Nat → Nat} {g g' : am_G} {N : Nat}
theorem ah_findRow (h : CI T g 28 S) : ∃ g' z, Ah_findRow g = some g' ∧ FE T (up (up S 1 0) 2 0) (fct (nf T)) (some z) ∧ g'.1 81 7 = nI (Mr T (up (up S 1 0) 2 0) z) ∧ g'.1 81 6 = nI (rcd z (nf T)) ∧ Fm (fun a _ => 81 ≤ a ∧ a ≤ 120) g g' := by
  have hb := h.bb
  have hT := h.1
  have hn := nf_le hT
  have hf := fct_le hn
  obtain ⟨g1, r0, e1, k1, k2, k3⟩ := ah_lowest h (Or.inr (by omega)) (by omega)
  have c1 : CI T g1 28 S := h.fm k3 (fun a k q1 q2 q => by omega) (fun a k q1 q2 q => by omega)
  obtain ⟨g2, e2, k4, f2⟩ := ah_setOut c1
  have e0 : (up (up S 1 0) 2 0) 0 = S 0 := by rw [up_ne (by omega), up_ne (by omega)]
  have e1' : (up (up S 1 0) 2 0) 1 = 0 := by rw [up_ne (by omega), up_eq]
  generalize hU : up (up S 1 0) 2 0 = U at *
  have hU0 : U 0 ≤ T 2 := by omega
  have fW : Fm (fun a k => a = 84 ∨ (a = 81 ∧ (k = 6 ∨ k = 7))) g2 (am_wr (am_wr (am_wr g2 84 0 0) 81 6 0) 81 7 1000000000) := (((Fm.rf _ _).wr (Or.inl rfl)).wr (Or.inr ⟨rfl, Or.inl rfl⟩)).wr (Or.inr ⟨rfl, Or.inr rfl⟩)
  have G0 : GA T r0 (am_wr (am_wr (am_wr g2 84 0 0) 81 6 0) 81 7 1000000000) := (k1.fm f2 (fun q => by unfold pC at q; omega) (fun k q => by unfold pC at q; omega)).fm fW (fun q => by omega) (fun k q => by omega)
  have C0 : CA T r0 U 0 (am_wr (am_wr (am_wr g2 84 0 0) 81 6 0) 81 7 1000000000) := by
    refine ⟨fun _ => 0, rfl, fun i hi => ?_⟩
    have : i = 0 := by omega
    subst this
    exact ⟨k4.fm fW (fun a k q1 q2 q => by omega) (fun a k q1 q2 q => by omega), by rw [m_na (by omega), m_na (by omega), m_eq]; rfl, Nat.zero_le _, fun r' _ _ => rfl⟩
  have B0 : BE T U (cn T r0 (nf T)) (am_wr (am_wr (am_wr g2 84 0 0) 81 6 0) 81 7 1000000000) := ⟨none, Or.inl ⟨rfl, fun y hy q => least_row k1.1 hy k2 (lex_of hy k1.1 q)⟩, fun _ => ⟨by rw [m_eq]; rfl, by rw [m_nk (by omega), m_eq]⟩, (fun z e => by cases e)⟩
  obtain ⟨g3, e3, k5, k6⟩ := lp_ex (fun n (a : am_G × Int32) k => Ah_findRow_L32 n a.1 a.2 (nI k)) 5040
    (fun k a => Fm (fun a _ => 81 ≤ a ∧ a ≤ 120) g a.1 ∧ ((∃ r fr, a.2 = nI fr ∧ GA T r a.1 ∧ CA T r U fr a.1 ∧ (fr < T 2 - U 0 ∨ (fr = 0 ∧ T 2 - U 0 = 0)) ∧ BE T U (cn T r (nf T)) a.1 ∧ k ≤ cn T r (nf T)) ∨ (a.2 = -1 ∧ BE T U (fct (nf T)) a.1)))
    (fun b => Fm (fun a _ => 81 ≤ a ∧ a ≤ 120) g b ∧ BE T U (fct (nf T)) b)
    (fun n a ha => ⟨a.1, by rw [Ah_findRow_L32, if_pos (show (5040 : Int32) ≤ nI 5040 by decide)], ha.1, by
      rcases ha.2 with ⟨r, fr, -, a2, -, -, -, a6⟩ | a2
      · exfalso
        have h1 := cn_lt a2.1
        have h2 := hf.1
        have h3 : 5040 < 5040 := Nat.lt_of_le_of_lt a6 (Nat.lt_of_lt_of_le h1 h2)
        exact absurd h3 (Nat.lt_irrefl _)
      · exact a2.2⟩)
    (fun n k a hk ha => by
      have h6 : ¬ (5040 : Int32) ≤ nI k := nI_ge hk (by decide)
      rcases ha.2 with ⟨r, fr, a1, a2, a3, a4, a5, a6⟩ | ⟨a1, a2⟩
      · left
        obtain ⟨g4, tl, d1, t0, t1, t2, t3, t4⟩ := ah_follow hT hU0 e1' a2 a3 a4 a5
        have fa : Fm (fun a _ => 81 ≤ a ∧ a ≤ 120) g g4 := ha.1.tr (t4.mo (fun a k q => by unfold pE at q; omega))
        have frl : fr < 2 ^ 31 := by have := hT.2.2.1; omega
        have st : Ah_findRow_L32 (n + 1) a.1 a.2 (nI k) = (Ah_nextRow g4 (nI tl)).bind fun q9 => (Ah_stepBefore q9.1 q9.2).bind fun q11 => Ah_findRow_L32 n q9.1 q11 (nI (k + 1)) := by
          rw [Ah_findRow_L32, if_neg h6, a1, if_neg (nI_pos frl), d1, Option.bind_some, nI_1]
        rcases ah_next t1 hT (tl := tl) (Nat.le_trans t0 (Nat.le_trans hn (by decide))) with ⟨g5, r', i, n1, n2, n3, n4, n5, n6, n7, n8⟩ | ⟨n1, n2⟩
        · rcases t2 with t2 | ⟨J, b, p, j1, j2, j3, j4, j5, j6, j7⟩
          · omega
          · have hlt := cn_lex a2.1 n2.1 n6
            obtain ⟨s, s1, s2, s3⟩ := ah_before (g := g5) (J := J) (i := i) (q := p) (b := b) (by have := hT.2.2.1; omega) j1 j6 (fun u hu => ⟨by rw [n8.2 _ _ (by omega)]; exact (j7 u hu).2.1, by have := (j7 u hu).2.2.1; omega⟩) (by rw [n8.2 _ _ (by omega)]; exact j3) (by omega) (by omega)
            refine ⟨(g5, nI s), ?_, fa.tr (n8.mo (fun a k q => by omega)), Or.inl ⟨r', s, rfl, n2, ⟨p, j6, fun u hu => ?_⟩, by omega, (t3 _ hlt (fun y hy y1 y2 => n7 y hy y1 y2)).fm n8 (fun q => by omega) (fun q => by omega), by omega⟩⟩
            · show Ah_findRow_L32 (n + 1) a.1 a.2 (nI k) = _
              rw [st, n1, Option.bind_some, s1, Option.bind_some]
            · obtain ⟨z1, z2, z3, z4⟩ := j7 u (by omega)
              have pu := s3 u hu
              have er : ru T r' (nf T) U u = ru T r (nf T) U u := z4 r' n2.1 (fun v hv => n5 v (by omega))
              refine ⟨?_, by rw [n8.2 _ _ (by omega)]; exact z2, z3, fun y hy ag => ?_⟩
              · rw [er]
                exact z1.fm n8 (fun a k q1 q2 q => by omega) (fun a k q1 q2 q => by omega)
              · rw [er]
                exact z4 y hy (fun v hv => (n5 v (by omega)).trans (ag v hv))
        · refine ⟨(g4, -1), ?_, fa, Or.inr ⟨rfl, t3 _ (cn_lt a2.1) (fun y hy y1 _ => n2 y hy y1)⟩⟩
          show Ah_findRow_L32 (n + 1) a.1 a.2 (nI k) = _
          have sb : Ah_stepBefore g4 (-1) = some (-1) := by
            rw [Ah_stepBefore, show am_fuel = 999999 + 1 from rfl, Ah_stepBefore_L4, if_neg (by decide), if_pos (by decide)]; rfl
          rw [st, n1, Option.bind_some, sb, Option.bind_some]
      · right
        exact ⟨a.1, by rw [Ah_findRow_L32, if_neg h6, a1, if_pos (by decide)], ha.1, a2⟩)
    am_fuel 0 (am_wr (am_wr (am_wr g2 84 0 0) 81 6 0) 81 7 1000000000, 0) (Nat.zero_le _) (z_fuel (by decide)) ⟨((k3.mo (fun a k q => by omega)).tr (f2.mo (fun a k q => by unfold pC at q; omega))).tr (fW.mo (fun a k q => by omega)), Or.inl ⟨r0, 0, rfl, G0, C0, by omega, B0, Nat.zero_le _⟩⟩
  obtain ⟨o, b1, b2, b3⟩ := k6
  cases o with
  | none =>
    exfalso
    rcases b1 with ⟨-, b1⟩ | ⟨z, e, -⟩
    · exact b1 r0 k1.1 (cn_lt k1.1)
    · cases e
  | some z =>
    refine ⟨g3, z, ?_, b1, (b3 z rfl).1, (b3 z rfl).2, k5⟩
    rw [Ah_findRow, e1, Option.bind_some, e2, Option.bind_some, show Ah_findRow_L32 am_fuel (am_wr (am_wr (am_wr g2 84 0 0) 81 6 0) 81 7 1000000000) 0 0 = some g3 from e3]; rfl
theorem FE_add {o : Option (Nat → Nat)} (h : FE T U N o) (hf : PR T r (nf T)) (hN : cn T r (nf T) = N) : (∀ z, o = some z → ¬ Mr T U r < Mr T U z → FE T U (N + 1) o) ∧ ((∀ z, o = some z → Mr T U r < Mr T U z) → FE T U (N + 1) (some r)) := by
  have key : ∀ y, PR T y (nf T) → cn T y (nf T) = N → Mr T U y = Mr T U r := fun y hy e => by
    have ag := cn_inj hf hy (by rw [e, hN])
    have st : ∀ k, ru T y (nf T) U k = ru T r (nf T) U k := by
      intro k
      induction k with
      | zero => rfl
      | succ k ih =>
        simp only [ru]
        rw [ih]
        exact gon_e (eD_ag ag).symm
    unfold Mr
    rw [st]
  constructor
  · intro z hz hlt
    subst hz
    refine FE_prune h (by omega) (fun y hy q1 q2 => ?_)
    rw [key y hy (by omega)]; omega
  · intro hlt
    refine Or.inr ⟨r, rfl, hf, by omega, fun y hy q => ?_, fun y hy q => ?_⟩
    · by_cases e : cn T y (nf T) = N
      · rw [key y hy e]; exact Nat.le_refl _
      · rcases h with ⟨-, h2⟩ | ⟨z, h1, h2, h3, h4, h5⟩
        · exact absurd (show cn T y (nf T) < N by omega) (h2 y hy)
        · have := h4 y hy (by omega)
          have := hlt z h1
          omega
    · rcases h with ⟨-, h2⟩ | ⟨z, h1, h2, h3, h4, h5⟩
      · exact absurd (show cn T y (nf T) < N by omega) (h2 y hy)
      · have := h4 y hy (by omega)
        have := hlt z h1
        omega
theorem FE_un {z z' : Nat → Nat} (h : FE T U N (some z)) (h' : FE T U N (some z')) : (∀ i, i < nf T → z i = z' i) ∧ Mr T U z = Mr T U z' := by
  rcases h with ⟨h, -⟩ | ⟨a, h1, h2, h3, h4, h5⟩
  · cases h
  · rcases h' with ⟨h, -⟩ | ⟨b, k1, k2, k3, k4, k5⟩
    · cases h
    · cases h1
      cases k1
      have m1 := h4 z' k2 k3
      have m2 := k4 z h2 h3
      refine ⟨cn_inj h2 k2 ?_, by omega⟩
      rcases Nat.lt_trichotomy (cn T z (nf T)) (cn T z' (nf T)) with e | e | e
      · have := k5 z h2 e; omega
      · exact e
      · have := h5 z' k2 e; omega
theorem rcd_cg {n : Nat} (h : ∀ i, i < n → r i = r' i) : rcd r n = rcd r' n := by
  induction n with
  | zero => rfl
  | succ n ih => rw [rcd, rcd, ih (fun i hi => h i (by omega)), h n (by omega)]
-- hunger is the same for every row
def Av (T S f : Nat → Nat) : Nat := sm (wm T S f) (T 1)
theorem sm_up1 (f h : Nat → Nat) {n t : Nat} (ht : t < n) (e : ∀ u, u ≠ t → f u = h u) : sm f n + h t = sm h n + f t := by
  induction n with
  | zero => omega
  | succ n ih =>
    rw [sm_s, sm_s]
    by_cases q : t = n
    · subst q
      rw [sm_cg (f := f) (f' := h) (fun i hi => e i (by omega))]; omega
    · have := ih (by omega)
      rw [e n (by omega)]; omega
theorem Av_et (a : (Nat → Nat) × Nat) {t : Nat} (ht : t < T 1) : Av T S (et T S a t).1 + a.2 = Av T S a.1 + (et T S a t).2 := by
  by_cases q : may T S t
  · rw [et_up q]
    have h1 := sm_up1 (wm T S (up a.1 t (a.1 t - min a.2 (a.1 t)))) (wm T S a.1) ht (fun u hu => by unfold wm; rw [up_ne hu])
    have w1 : wm T S a.1 t = a.1 t := by unfold wm; rw [if_pos q]
    have w2 : wm T S (up a.1 t (a.1 t - min a.2 (a.1 t))) t = a.1 t - min a.2 (a.1 t) := by unfold wm; rw [if_pos q, up_eq]
    unfold Av
    simp only []
    omega
  · unfold et
    rw [if_neg q]
theorem Av_eD (hr : ∀ i, i < N → r i < T 1) : Av T S (eD T S r N).1 + 2 * T 0 = Av T S (lf S) + (eD T S r N).2 := by
  induction N with
  | zero => rfl
  | succ n ih =>
    have h1 := ih (fun i hi => hr i (by omega))
    have h2 := Av_et (T := T) (S := S) (eD T S r n) (hr n (by omega))
    rw [eD_s]; omega
theorem eD_hun (h : PR T r (nf T)) : (eD T S r (nf T)).2 = 2 * T 0 - Av T S (lf S) ∧ Av T S (eD T S r (nf T)).1 = Av T S (lf S) - 2 * T 0 := by
  have h1 := Av_eD (T := T) (S := S) (r := r) (N := nf T) (fun i hi => (fdb_lt (h i hi).1).1)
  by_cases q : (eD T S r (nf T)).2 = 0
  · omega
  · have z : Av T S (eD T S r (nf T)).1 = 0 := by
      have : ∀ m, m ≤ T 1 → sm (wm T S (eD T S r (nf T)).1) m = 0 := by
        intro m
        induction m with
        | zero => intro _; rfl
        | succ m ih =>
          intro hm
          rw [sm_s, ih (by omega), Nat.zero_add]
          unfold wm
          by_cases q2 : may T S m
          · rw [if_pos q2]
            obtain ⟨i, i1, i2⟩ := PR_all h (t := m) (by unfold fdb; simp [show m < T 1 by omega, q2.1])
            have := eD_empty (T := T) (S := S) (r := r) (m := nf T) (j := i) (by omega) i1 (by rw [i2]; exact q2)
            rw [i2] at this
            exact this
          · rw [if_neg q2]
      exact this _ (Nat.le_refl _)
    omega
theorem ru_hun (hT : TW T) (h : PR T r (nf T)) (h' : PR T r' (nf T)) (k : Nat) : ru T r (nf T) U k 2 = ru T r' (nf T) U k 2 ∧ Av T (ru T r (nf T) U k) (lf (ru T r (nf T) U k)) = Av T (ru T r' (nf T) U k) (lf (ru T r' (nf T) U k)) := by
  have a2 := hT.2.1
  have g2 : ∀ (o : Nat → Nat) (b : Bool) (Q : Nat → Nat), PR T o (nf T) → gon T o (nf T) b Q 2 = Q 2 + (2 * T 0 - Av T Q (lf Q)) ∧ Av T (gon T o (nf T) b Q) (lf (gon T o (nf T) b Q)) = Av T Q (lf Q) - 2 * T 0 := by
    intro o b Q ho
    obtain ⟨e1, e2⟩ := eD_hun (S := Q) ho
    refine ⟨?_, ?_⟩
    · simp [gon, e1]
    · rw [← e2]
      refine sm_cg (fun t ht => ?_)
      unfold wm
      rw [gon_who _ _ _ _ _ hT (by omega), lf_at _ (by omega), gon_left _ _ _ _ _ hT (by omega)]
  induction k with
  | zero => exact ⟨rfl, rfl⟩
  | succ k ih =>
    simp only [ru]
    obtain ⟨x1, x2⟩ := g2 r (decide (T (55 + ru T r (nf T) U k 0) = 1)) (ru T r (nf T) U k) h
    obtain ⟨y1, y2⟩ := g2 r' (decide (T (55 + ru T r' (nf T) U k 0) = 1)) (ru T r' (nf T) U k) h'
    rw [x1, x2, y1, y2, ih.1, ih.2]
    exact ⟨rfl, rfl⟩
end
