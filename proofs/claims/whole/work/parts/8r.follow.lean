-- EAT, the class: the way by a row
def pE (a k : Nat) : Prop := (a = 81 ∧ (k = 6 ∨ k = 7)) ∨ a = 84 ∨ (85 ≤ a ∧ a ≤ 120)
section
variable {T r U : Nat → Nat} {g g' : am_G} {c p N N1 : Nat}
theorem rc_cg {S S' o : Nat → Nat} {n : Nat} (ho : ∀ i, i < n → o i < 7) (h1 : ∀ t, t < 7 → S (8 + t) = S' (8 + t)) (h2 : ∀ t, t < 7 → S (15 + t) = S' (15 + t)) : rc T S o n = rc T S' o n := by
  induction n with
  | zero => rfl
  | succ n ih => rw [rc, rc, ih (fun i hi => ho i (by omega)), eD_cg (S' := S') (fun i hi => ho i (by omega)) h1 h2, h1 _ (ho n (by omega))]
theorem ru_b (hT : TW T) {k n : Nat} (hk : U 0 + k ≤ T 2) : ru T r n U k 1 ≤ U 1 + 1200 * k := by
  induction k with
  | zero => simp [ru]
  | succ k ih =>
    have h1 := ih (by omega)
    simp only [ru]
    rw [gon_1, ru_0]
    have hL := (hT.2.2.2.2.2 (U 0 + k) (by omega)).1
    have : slo T (rnN (ru T r n U k) (decide (T (55 + (U 0 + k)) = 1)) (T 1)) (T (47 + (U 0 + k))) ≤ 1200 := slo_le hL (T 0)
    omega
theorem FE_prune {z : Nat → Nat} (h : FE T U N (some z)) (hN : N ≤ N1) (hp : ∀ y, PR T y (nf T) → N ≤ cn T y (nf T) → cn T y (nf T) < N1 → Mr T U z ≤ Mr T U y) : FE T U N1 (some z) := by
  rcases h with ⟨h, -⟩ | ⟨z', h1, h2, h3, h4, h5⟩
  · cases h
  · cases h1
    refine Or.inr ⟨z, rfl, h2, by omega, fun y hy q => ?_, h5⟩
    by_cases e : cn T y (nf T) < N
    · exact h4 y hy e
    · exact hp y hy (by omega) q
theorem BE.fm {P : Nat → Nat → Prop} (h : BE T U N g) (f : Fm P g g') (h1 : ¬ P 81 7) (h2 : ¬ P 81 6) : BE T U N g' := by
  obtain ⟨o, k1, k2, k3⟩ := h
  refine ⟨o, k1, fun e => ?_, fun z e => ?_⟩
  · rw [f.2 _ _ h1, f.2 _ _ h2]; exact k2 e
  · rw [f.2 _ _ h1, f.2 _ _ h2]; exact k3 z e
theorem GA.fm {P : Nat → Nat → Prop} (h : GA T r g) (f : Fm P g g') (h1 : ¬ P 81 9) (h2 : ∀ k, ¬ P 83 k) : GA T r g' := ⟨h.1, by rw [f.2 _ _ h1]; exact h.2.1, fun i hi => by rw [f.2 _ _ (h2 i)]; exact h.2.2 i hi⟩
/-- a judgement of the row's minutes, when all that begin so take as many -/
theorem ah_judged (hT : TW T) (hU : U 0 ≤ T 2) (hU1 : U 1 = 0) (hG : GA T r g) (hB : BE T U (cn T r (nf T)) g) (hN : cn T r (nf T) < N1) (hall : ∀ y, PR T y (nf T) → cn T r (nf T) ≤ cn T y (nf T) → cn T y (nf T) < N1 → Mr T U y = Mr T U r) {g1 : am_G} (he : Ah_judge g (nI (Mr T U r)) = some g1) : BE T U N1 g1 := by
  have hm : Mr T U r ≤ 9600 := by
    have := ru_b (r := r) (n := nf T) hT (U := U) (k := T 2 - U 0) (by omega)
    have := hT.2.2.1
    unfold Mr
    omega
  obtain ⟨o, k1, k2, k3⟩ := hB
  have new : (∀ z, o = some z → Mr T U r < Mr T U z) → FE T U N1 (some r) := by
    intro hlt
    have old : ∀ y, PR T y (nf T) → cn T y (nf T) < cn T r (nf T) → Mr T U r < Mr T U y := by
      intro y hy q
      rcases k1 with ⟨-, h2⟩ | ⟨z, h1, h2, h3, h4, h5⟩
      · exact absurd q (h2 y hy)
      · have := h4 y hy q; have := hlt z h1; omega
    refine Or.inr ⟨r, rfl, hG.1, hN, fun y hy q => ?_, old⟩
    by_cases e : cn T y (nf T) < cn T r (nf T)
    · have := old y hy e; omega
    · have := hall y hy (by omega) q; omega
  cases o with
  | none =>
    obtain ⟨g2, e1, e2⟩ := ah_judge hG hT (fw := 1000000000) (m := Mr T U r) (k2 rfl).1 (by omega) (by omega)
    rw [e1] at he
    cases he
    rcases e2 with ⟨e2, -⟩ | ⟨-, e3, e4, -⟩
    · omega
    · exact ⟨some r, new (fun z e => by cases e), (fun e => by cases e), fun z e => by cases e; exact ⟨e3, e4⟩⟩
  | some z =>
    have hz : Mr T U z ≤ 9600 := by
      have := ru_b (r := z) (n := nf T) hT (U := U) (k := T 2 - U 0) (by omega)
      have := hT.2.2.1
      unfold Mr
      omega
    obtain ⟨g2, e1, e2⟩ := ah_judge hG hT (fw := Mr T U z) (m := Mr T U r) (k3 z rfl).1 (by omega) (by omega)
    rw [e1] at he
    cases he
    rcases e2 with ⟨e2, rfl⟩ | ⟨e2, e3, e4, -⟩
    · exact ⟨some z, FE_prune k1 (by omega) (fun y hy q1 q2 => by rw [hall y hy q1 q2]; exact e2), k2, k3⟩
    · exact ⟨some r, new (fun z' e => by cases e; exact e2), (fun e => by cases e), fun z' e => by cases e; exact ⟨e3, e4⟩⟩
theorem PR.v' {n i : Nat} (h : PR T r n) (hT : TW T) (hi : i < n) : r i < 7 := by
  have := (fdb_lt (h i hi).1).1
  have := hT.2.1
  omega
/-- a row that is turned fares as another one that came before -/
theorem turned_row (hT : TW T) (h : PR T r (nf T)) {k i m : Nat} {Q : Nat → Nat} (hdp : DP T r U k m) (hQ : ru T r (nf T) U k = Q) (hk : k + 1 ≤ T 2 - U 0) (hm : m + 1 ≤ i) (hi : i < rc T Q r (nf T)) (he : i < rc T Q r (nf T) - 1 ∨ (eD T Q r (nf T)).1 (r i) = 0) (hlt : r i < r (i - 1)) (y : Nat → Nat) (hy : PR T y (nf T)) (ay : ∀ u, u < i + 1 → r u = y u) : PR T (swp y i) (nf T) ∧ cn T (swp y i) (nf T) < cn T r (nf T) ∧ Mr T U (swp y i) = Mr T U y := by
  have hrcn := rc_no T Q r (n := nf T)
  obtain ⟨u1, u2, u3⟩ := turn_due (S := Q) (n := nf T) h (i := i) (by omega) hi he
  have psw : PR T (swp y i) (nf T) := PR_swap hy (show i - 1 < nf T by omega) (show i < nf T by omega)
  have hQy : ru T y (nf T) U k = Q := (hdp y hy (fun u hu => ay u (by omega))).trans hQ
  have hQs : ru T (swp y i) (nf T) U k = Q := (hdp _ psw (fun u hu => by rw [swp_n (by omega) (by omega)]; exact ay u (by omega))).trans hQ
  refine ⟨psw, cn_lex psw h ⟨i - 1, by omega, fun q hq => by rw [swp_n (by omega) (by omega)]; exact (ay q (by omega)).symm, by rw [swp_a (by omega), ← ay i (by omega)]; exact hlt⟩, ?_⟩
  have ey : ∀ m, m ≤ i + 1 → eD T Q y m = eD T Q r m := fun m hm => (eD_ag (fun u hu => ay u (by omega))).symm
  have e1y : ru T y (nf T) U (k + 1) = gon T y (nf T) (decide (T (55 + (U 0 + k)) = 1)) Q := by
    show gon T y (nf T) (decide (T (55 + ru T y (nf T) U k 0) = 1)) (ru T y (nf T) U k) = _
    rw [ru_0, hQy]
  have e1s : ru T (swp y i) (nf T) U (k + 1) = ru T y (nf T) U (k + 1) := by
    have : ru T (swp y i) (nf T) U (k + 1) = gon T (swp y i) (nf T) (decide (T (55 + (U 0 + k)) = 1)) Q := by
      show gon T (swp y i) (nf T) (decide (T (55 + ru T (swp y i) (nf T) U k 0) = 1)) (ru T (swp y i) (nf T) U k) = _
      rw [ru_0, hQs]
    rw [this, e1y]
    refine gon_e (eD_swp (by omega) (by omega) (PR_ne hy (by omega) (by omega) (by omega)) ?_)
    rw [ey (i - 1) (by omega), ← ay (i - 1) (by omega), ← ay i (by omega)]
    exact u1
  have y1 := hy.v' hT (show i - 1 < nf T by omega)
  have y2 := hy.v' hT (show i < nf T by omega)
  have l1 := left_le T Q y (y (i - 1)) (show i + 1 ≤ nf T by omega)
  have l2 := left_le T Q y (y i) (show i + 1 ≤ nf T by omega)
  rw [ey (i + 1) (Nat.le_refl _)] at l1 l2
  rw [ay (i - 1) (by omega)] at u2
  rw [ay i (by omega)] at u3
  have key := ru_swp (T := T) (r := y) (U := U) (i := i) (j := k + 1) hT hy (by omega) (by omega) e1s ⟨fun q => by
      rw [e1y] at q ⊢
      rw [gon_left _ _ _ _ _ hT y1]
      have q' : may T Q (y (i - 1)) := ⟨q.1, by have := q.2; rwa [gon_who _ _ _ _ _ hT y1] at this⟩
      have := u2 q'
      omega, fun q => by
      rw [e1y] at q ⊢
      rw [gon_left _ _ _ _ _ hT y2]
      have q' : may T Q (y i) := ⟨q.1, by have := q.2; rwa [gon_who _ _ _ _ _ hT y2] at this⟩
      have := u3 q'
      omega⟩ (T 2 - U 0 - (k + 1))
  rw [show k + 1 + (T 2 - U 0 - (k + 1)) = T 2 - U 0 by omega] at key
  unfold Mr
  rw [key.1]
def FR (T r U : Nat → Nat) (g g' : am_G) (tl : Nat) : Prop := tl ≤ nf T ∧ GA T r g' ∧ (tl = 0 ∨ ∃ (J b : Nat) (p : Nat → Nat), 0 < J ∧ J ≤ T 2 - U 0 ∧ g'.1 84 J = nI b ∧ tl ≤ b ∧ b ≤ nf T ∧ p 0 = 0 ∧ ∀ i, i < J → CI T g' (85 + 4 * i) (ru T r (nf T) U i) ∧ g'.1 84 i = nI (p i) ∧ p i ≤ nf T ∧ DP T r U i (p i)) ∧ (∀ N1, cn T r (nf T) < N1 → (∀ y, PR T y (nf T) → cn T r (nf T) ≤ cn T y (nf T) → cn T y (nf T) < N1 → ∀ u, u < tl → u < nf T → r u = y u) → BE T U N1 g') ∧ Fm pE g g'
set_option maxHeartbeats 4000000 in
theorem ah_follow (hT : TW T) (hU : U 0 ≤ T 2) (hU1 : U 1 = 0) {fr : Nat} (hG : GA T r g) (hC : CA T r U fr g) (hfr : fr < T 2 - U 0 ∨ (fr = 0 ∧ T 2 - U 0 = 0)) (hB : BE T U (cn T r (nf T)) g) : ∃ g' tl, Ah_followRow g (nI fr) = some (g', nI tl) ∧ FR T r U g g' tl := by
  have hn := nf_le hT
  have a1 := hT.1; have a2 := hT.2.1; have a3 := hT.2.2.1
  have r7 : ∀ i, i < nf T → r i < 7 := fun i hi => hG.v hT hi
  have rT : ∀ i, i < nf T → r i < T 1 := fun i hi => (fdb_lt (hG.1 i hi).1).1
  have hday : g.1 85 1 = nI (U 0) ∧ g.1 3 9 = nI (T 2) := by
    obtain ⟨p, p0, hp⟩ := hC
    have := (hp 0 (by omega)).1
    exact ⟨this.s.1, this.n.2.2⟩
  obtain ⟨o, e1, e2⟩ := lp_ex (fun n (a : am_G) k => Ah_followRow_L25 n a (nI (T 2 - U 0)) (nI k)) (T 2 - U 0)
    (fun k a => GA T r a ∧ CA T r U k a ∧ BE T U (cn T r (nf T)) a ∧ Fm pE g a ∧ (k < T 2 - U 0 ∨ (k = 0 ∧ T 2 - U 0 = 0)))
    (fun o => (∃ g', o = .inl g' ∧ T 2 - U 0 = 0 ∧ GA T r g' ∧ BE T U (cn T r (nf T)) g' ∧ Fm pE g g') ∨ ∃ g' tl, o = .inr (g', nI tl) ∧ FR T r U g g' tl)
    (fun n a ha => ⟨.inl a, by rw [Ah_followRow_L25, if_pos (nI_le (Nat.le_refl _) (by omega))], Or.inl ⟨a, rfl, by omega, ha.1, ha.2.2.1, ha.2.2.2.1⟩⟩)
    (fun n k a hk ha => by
      obtain ⟨b1, ⟨p, p0, hp⟩, b3, b4, b5⟩ := ha
      have hck := (hp k (Nat.le_refl _)).1
      have h84 := (hp k (Nat.le_refl _)).2.1
      have hpk := (hp k (Nat.le_refl _)).2.2.1
      have hdp := (hp k (Nat.le_refl _)).2.2.2
      have q0 : ru T r (nf T) U k 0 = U 0 + k := ru_0 k
      have hqb := ru_b (r := r) (n := nf T) hT (U := U) (k := k) (by omega)
      have hqb1 := ru_b (r := r) (n := nf T) hT (U := U) (k := k + 1) (by omega)
      have hm6 : ru T r (nf T) U (k + 1) 1 ≤ 1000000 := Nat.le_trans hqb1 (by rw [hU1]; omega)
      have e1' : ru T r (nf T) U (k + 1) = gon T r (nf T) (decide (T (55 + (U 0 + k)) = 1)) (ru T r (nf T) U k) := by simp only [ru]; rw [q0]
      have em : ru T r (nf T) U (k + 1) 1 = ru T r (nf T) U k 1 + slo T (rnN (ru T r (nf T) U k) (decide (T (55 + (U 0 + k)) = 1)) (T 1)) (T (47 + ru T r (nf T) U k 0)) := by rw [e1', gon_1]
      have dep1 : ∀ y, PR T y (nf T) → (∀ u, u < p k → r u = y u) → ru T y (nf T) U (k + 1) 1 = ru T r (nf T) U (k + 1) 1 := by
        intro y hy ag
        have e := hdp y hy ag
        simp only [ru]
        rw [e, gon_1, gon_1]
      obtain ⟨g1, c1, ce, f1⟩ := ca_copyFrom a (c := 85 + 4 * (k + 1)) (o := 85 + 4 * k) (by omega)
      have h1 := hck.ce ce f1 (by omega)
      obtain ⟨g2, m1, m2, m3⟩ := ca_march h1 (by omega) (by rw [q0]; omega) (decide (T (55 + (U 0 + k)) = 1))
      have f2 : Fm (pC (85 + 4 * (k + 1))) a g2 := f1.tr m3
      have G2 : GA T r g2 := b1.fm f2 (fun q => by unfold pC at q; omega) (fun k q => by unfold pC at q; omega)
      have B2 : BE T U (cn T r (nf T)) g2 := b3.fm f2 (fun q => by unfold pC at q; omega) (fun q => by unfold pC at q; omega)
      have F2 : Fm pE g g2 := b4.tr (f2.mo (fun a k q => by unfold pC at q; unfold pE; omega))
      have keep : ∀ g3, Fm (fun a' k' => (85 + 4 * (k + 1) ≤ a' ∧ a' ≤ 120) ∨ (a' = 84 ∧ k' = k + 1) ∨ (a' = 81 ∧ (k' = 6 ∨ k' = 7))) a g3 → ∀ i, i ≤ k → CI T g3 (85 + 4 * i) (ru T r (nf T) U i) ∧ g3.1 84 i = nI (p i) ∧ p i ≤ nf T ∧ DP T r U i (p i) := by
        intro g3 f3 i hi
        obtain ⟨z1, z2, z3, z4⟩ := hp i hi
        exact ⟨z1.fm f3 (fun a k q1 q2 q => by omega) (fun a k q1 q2 q => by omega), by rw [f3.2 _ _ (by omega)]; exact z2, z3, z4⟩
      have f2' : Fm (fun a' k' => (85 + 4 * (k + 1) ≤ a' ∧ a' ≤ 120) ∨ (a' = 84 ∧ k' = k + 1) ∨ (a' = 81 ∧ (k' = 6 ∨ k' = 7))) a g2 := f2.mo (fun a k q => by unfold pC at q; omega)
      have hmin : g2.1 (85 + 4 * (k + 1)) 2 = nI (ru T r (nf T) U (k + 1) 1) := by rw [m2.s.2.1, up_eq, em]
      have st : Ah_followRow_L25 (n + 1) a (nI (T 2 - U 0)) (nI k) = (if (g2.1 81 7) ≤ nI (ru T r (nf T) U (k + 1) 1) then (Ah_judge g2 (nI (ru T r (nf T) U (k + 1) 1))).bind fun q11 => some (.inr (q11, q11.1 84 k)) else if nI k = (nI (T 2 - U 0) - 1) then (Ah_judge g2 (nI (ru T r (nf T) U (k + 1) 1))).bind fun q14 => some (.inr (q14, q14.1 84 k)) else (Ca_feed_r g2 (85 + 4 * (k + 1)) (g2.1 81 9)).bind fun q16 => (Ah_toldAsTurned (am_wr q16.1 84 (k + 1) (am_mx (g2.1 84 k) q16.2)) (nI k)).bind fun q18 => if q18 ≤ 0 then (Ca_settle (am_wr q16.1 84 (k + 1) (am_mx (g2.1 84 k) q16.2)) (85 + 4 * (k + 1)) (am_b (decide (T (55 + (U 0 + k)) = 1)))).bind fun q21 => Ah_followRow_L25 n q21 (nI (T 2 - U 0)) (nI (k + 1)) else some (.inr (am_wr q16.1 84 (k + 1) (am_mx (g2.1 84 k) q16.2), q18))) := by
        rw [Ah_followRow_L25, if_neg (nI_ge hk (by omega)), nI_1, if_pos (z_in (by omega) (by omega)), if_pos (z_in (by omega) (by omega)), z_cl (show k + 1 < 2 ^ 31 by omega), z_cl (show k < 2 ^ 31 by omega), c1, Option.bind_some, h1.s.1, q0, ta_rains h1 (show U 0 + k < T 2 by omega), Option.bind_some, m1, Option.bind_some, hmin]
      by_cases qc : g2.1 81 7 ≤ nI (ru T r (nf T) U (k + 1) 1)
      · -- it is no better already
        right
        obtain ⟨o, k1, k2, k3⟩ := id B2
        cases o with
        | none =>
          exfalso
          rw [(k2 rfl).1, z_le (by omega) (by omega)] at qc
          omega
        | some z =>
          have hz : Mr T U z ≤ 9600 := by
            have := ru_b (r := z) (n := nf T) hT (U := U) (k := T 2 - U 0) (by omega)
            unfold Mr
            omega
          have qc' := qc
          rw [(k3 z rfl).1, z_le (by omega) (by omega)] at qc'
          obtain ⟨g3, j1, j2⟩ := ah_judge G2 hT (fw := Mr T U z) (m := ru T r (nf T) U (k + 1) 1) (k3 z rfl).1 (by omega) hm6
          have e3 : g3 = g2 := by
            rcases j2 with ⟨-, j3⟩ | ⟨j3, -⟩
            · exact j3
            · omega
          rw [e3] at j1
          have w84 : g2.1 84 k = nI (p k) := (keep g2 f2' k (Nat.le_refl _)).2.1
          refine ⟨.inr (g2, nI (p k)), ?_, Or.inr ⟨g2, p k, rfl, hpk, G2, ?_, fun N1 hN1 hcov => ?_, F2⟩⟩
          · rw [st, if_pos qc, j1, Option.bind_some, w84]
          · by_cases hk0 : k = 0
            · left; rw [hk0]; exact p0
            · exact Or.inr ⟨k, p k, p, by omega, by omega, w84, Nat.le_refl _, hpk, p0, fun i hi => keep g2 f2' i (by omega)⟩
          · refine ⟨some z, FE_prune k1 (by omega) (fun y hy y1 y2 => ?_), k2, k3⟩
            have := dep1 y hy (fun u hu => hcov y hy y1 y2 u hu (by omega))
            have := ru_mono (T := T) (r := y) (n := nf T) (U := U) (k := k + 1) (m := T 2 - U 0) (by omega)
            unfold Mr at qc' ⊢
            omega
      · rw [if_neg qc] at st
        by_cases ql : k = T 2 - U 0 - 1
        · -- the last stage
          right
          have eN : T 2 - U 0 = k + 1 := by omega
          have eM : Mr T U r = ru T r (nf T) U (k + 1) 1 := by unfold Mr; rw [eN]
          obtain ⟨g3, j1, j2⟩ : ∃ g3, Ah_judge g2 (nI (ru T r (nf T) U (k + 1) 1)) = some g3 ∧ Fm (fun a k => a = 81 ∧ (k = 6 ∨ k = 7)) g2 g3 := by
            obtain ⟨o, k1, k2, k3⟩ := id B2
            have hfw : ∃ fw, fw ≤ 1000000000 ∧ g2.1 81 7 = nI fw := by
              cases o with
              | none => exact ⟨1000000000, by omega, (k2 rfl).1⟩
              | some z =>
                have := ru_b (r := z) (n := nf T) hT (U := U) (k := T 2 - U 0) (by omega)
                exact ⟨Mr T U z, by unfold Mr; omega, (k3 z rfl).1⟩
            obtain ⟨fw, w1, w2⟩ := hfw
            obtain ⟨g3, j1, j2⟩ := ah_judge G2 hT (fw := fw) (m := ru T r (nf T) U (k + 1) 1) w2 w1 hm6
            refine ⟨g3, j1, ?_⟩
            rcases j2 with ⟨-, j3⟩ | ⟨-, -, -, j3⟩
            · rw [j3]; exact Fm.rf _ _
            · exact j3
          have f3' := f2'.tr (j2.mo (fun a k q => Or.inr (Or.inr q)))
          have w84 : g3.1 84 k = nI (p k) := (keep g3 f3' k (Nat.le_refl _)).2.1
          refine ⟨.inr (g3, nI (p k)), ?_, Or.inr ⟨g3, p k, rfl, hpk, G2.fm j2 (fun q => by omega) (fun k q => by omega), ?_, fun N1 hN1 hcov => ?_, F2.tr (j2.mo (fun a k q => Or.inl q))⟩⟩
          · rw [st, if_pos (by rw [zl1, z_sub (by omega), ← ql]), j1, Option.bind_some, w84]
          · by_cases hk0 : k = 0
            · left; rw [hk0]; exact p0
            · exact Or.inr ⟨k, p k, p, by omega, by omega, w84, Nat.le_refl _, hpk, p0, fun i hi => keep g3 f3' i (by omega)⟩
          · refine ah_judged hT hU hU1 G2 B2 hN1 (fun y hy y1 y2 => ?_) (by rw [eM]; exact j1)
            rw [eM]
            unfold Mr
            rw [eN]
            exact dep1 y hy (fun u hu => hcov y hy y1 y2 u hu (by omega))
        · rw [if_neg (show ¬ nI k = nI (T 2 - U 0) - 1 by rw [zl1, z_sub (by omega)]; exact z_ne (by omega) (by omega) ql)] at st
          -- the evening
          obtain ⟨g3, d1, d2, d3⟩ := ca_feed_r m2 (by omega) (o := r) (m := nf T) hn (fun i hi => ⟨G2.2.2 i hi, rT i hi⟩)
          generalize hQ : ru T r (nf T) U k = Q at *
          generalize hb' : decide (T (55 + (U 0 + k)) = 1) = bb at *
          have rR : ∀ k, 8 ≤ k → k < 22 → (up (trN T (rnN Q bb (T 1)) (T 0)) 1 (Q 1 + slo T (rnN Q bb (T 1)) (T (47 + Q 0)))) k = Q k := fun k h1 h2 => by rw [up_ne (by omega), trN_hi _ _ _ (by omega), rnN_lo _ _ _ (by omega)]
          have erc : rc T (up (trN T (rnN Q bb (T 1)) (T 0)) 1 (Q 1 + slo T (rnN Q bb (T 1)) (T (47 + Q 0)))) r (nf T) = rc T Q r (nf T) := rc_cg r7 (fun t ht => rR _ (by omega) (by omega)) (fun t ht => rR _ (by omega) (by omega))
          have eeD : eD T (up (trN T (rnN Q bb (T 1)) (T 0)) 1 (Q 1 + slo T (rnN Q bb (T 1)) (T (47 + Q 0)))) r (nf T) = eD T Q r (nf T) := eD_cg r7 (fun t ht => rR _ (by omega) (by omega)) (fun t ht => rR _ (by omega) (by omega))
          have hrcn := rc_no T Q r (n := nf T)
          have w84 : g2.1 84 k = nI (p k) := (keep g2 f2' k (Nat.le_refl _)).2.1
          have fW : Fm (fun a' k' => (85 + 4 * (k + 1) ≤ a' ∧ a' ≤ 85 + 4 * (k + 1) + 3) ∨ (a' = 84 ∧ k' = k + 1)) g2 (am_wr g3 84 (k + 1) (nI (max (p k) (rc T Q r (nf T))))) := (d3.mo (fun a k q => by unfold pC at q; omega)).wr (Or.inr ⟨rfl, rfl⟩)
          have fA := f2'.tr (fW.mo (fun a k q => by omega))
          have G3 : GA T r (am_wr g3 84 (k + 1) (nI (max (p k) (rc T Q r (nf T))))) := G2.fm fW (fun q => by omega) (fun k q => by omega)
          have B3 : BE T U (cn T r (nf T)) (am_wr g3 84 (k + 1) (nI (max (p k) (rc T Q r (nf T))))) := B2.fm fW (fun q => by omega) (fun q => by omega)
          have F3 : Fm pE g (am_wr g3 84 (k + 1) (nI (max (p k) (rc T Q r (nf T))))) := F2.tr (fW.mo (fun a k q => by unfold pE; omega))
          have C3 : CI T (am_wr g3 84 (k + 1) (nI (max (p k) (rc T Q r (nf T))))) (85 + 4 * (k + 1)) _ := d2.fm (P := fun a _ => a = 84) ((Fm.rf _ _).wr rfl) (fun a k q1 q2 q => by omega) (fun a k q1 q2 q => by omega)
          have w84' := (keep _ fA k (Nat.le_refl _)).2.1
          obtain ⟨tl, t1, t2⟩ := ah_turned G3 hT (j := k) (p := p k) (b := max (p k) (rc T Q r (nf T))) (by omega) w84' (by rw [m_eq]) hpk (by omega) C3
          rw [G2.2.1, d1, Option.bind_some, w84, erc, z_mx (by omega) (by omega), t1, Option.bind_some] at st
          by_cases t0 : tl = 0
          · left
            subst t0
            clear t2
            rw [if_pos (show nI 0 ≤ 0 by decide)] at st
            obtain ⟨g4, s1, s2, s3⟩ := ca_settle C3 (by omega) (by rw [up_ne (by omega), wl_ne (by omega), up_ne (by omega), trN_hi _ _ _ (by omega), rnN_lo _ _ _ (by omega), q0]; omega) bb
            rw [s1, Option.bind_some] at st
            have s2' := s2.cg (ca_night (S := Q) hT hck.2.2.1 bb (o := r) (n := nf T) r7 rfl rfl)
            rw [← e1'] at s2'
            have fS : Fm (fun a' k' => (85 + 4 * (k + 1) ≤ a' ∧ a' ≤ 120) ∨ (a' = 84 ∧ k' = k + 1) ∨ (a' = 81 ∧ (k' = 6 ∨ k' = 7))) a g4 := fA.tr (s3.mo (fun a k q => by unfold pC at q; omega))
            refine ⟨g4, st, G3.fm s3 (fun q => by unfold pC at q; omega) (fun k q => by unfold pC at q; omega), ⟨fun i => if i = k + 1 then max (p k) (rc T Q r (nf T)) else p i, by simp [p0], fun i hi => ?_⟩, B3.fm s3 (fun q => by unfold pC at q; omega) (fun q => by unfold pC at q; omega), F3.tr (s3.mo (fun a k q => by unfold pC at q; unfold pE; omega)), by omega⟩
            by_cases ei : i = k + 1
            · subst ei
              simp only [if_pos]
              refine ⟨s2', ?_, by omega, ?_⟩
              · rw [s3.2 _ _ (fun q => by unfold pC at q; omega), m_eq]
              · have := DP_s hG.1 hdp hpk
                rw [hQ] at this
                exact this
            · simp only [if_neg ei]
              exact keep g4 fS i (by omega)
          · right
            obtain ⟨i, i1, i2, i3, i4, i5⟩ := t2.resolve_left t0
            clear t2
            rw [if_neg (show ¬ nI tl ≤ 0 by rw [zl0]; exact nI_ge (by omega) (by omega))] at st
            have ebm : max (p k) (rc T Q r (nf T)) = rc T Q r (nf T) := by omega
            refine ⟨_, st, Or.inr ⟨_, tl, rfl, by omega, G3, Or.inr ⟨k + 1, max (p k) (rc T Q r (nf T)), p, by omega, by omega, by rw [m_eq], by omega, by omega, p0, fun i hi => keep _ fA i (by omega)⟩, fun N1 hN1 hcov => ?_, F3⟩⟩
            rw [ebm] at i3 i4
            have hli : up (wl (up (trN T (rnN Q bb (T 1)) (T 0)) 1 (Q 1 + slo T (rnN Q bb (T 1)) (T (47 + Q 0)))) (eD T (up (trN T (rnN Q bb (T 1)) (T 0)) 1 (Q 1 + slo T (rnN Q bb (T 1)) (T (47 + Q 0)))) r (nf T)).1) 2 ((up (trN T (rnN Q bb (T 1)) (T 0)) 1 (Q 1 + slo T (rnN Q bb (T 1)) (T (47 + Q 0)))) 2 + (eD T (up (trN T (rnN Q bb (T 1)) (T 0)) 1 (Q 1 + slo T (rnN Q bb (T 1)) (T (47 + Q 0)))) r (nf T)).2) (15 + r i) = (eD T Q r (nf T)).1 (r i) := by
              rw [up_ne (by omega), wl_at (r7 i (by omega)), eeD]
            rw [hli] at i4
            obtain ⟨o, k1, k2, k3⟩ := B3
            have tw := fun y hy (ag : ∀ u, u < tl → u < nf T → r u = y u) => turned_row (U := U) hT hG.1 hdp hQ (by omega) i2 i3 i4 i5 y hy (fun u hu => ag u (by omega) (by omega))
            cases o with
            | none =>
              rcases k1 with ⟨-, k4⟩ | ⟨z, e, -⟩
              · obtain ⟨w1, w2, w3⟩ := tw r hG.1 (fun u _ _ => rfl)
                exact absurd w2 (k4 _ w1)
              · cases e
            | some z =>
              refine ⟨some z, FE_prune k1 (by omega) (fun y hy y1 y2 => ?_), k2, k3⟩
              obtain ⟨w1, w2, w3⟩ := tw y hy (hcov y hy y1 y2)
              rw [← w3]
              rcases k1 with ⟨e, -⟩ | ⟨z', e, x1, x2, x3, x4⟩
              · cases e
              · cases e; exact x3 _ w1 w2)
    am_fuel fr g (by omega) (z_fuel (by omega)) ⟨hG, hC, hB, Fm.rf _ _, hfr⟩
  have head : Ah_followRow g (nI fr) = (some o).bind fun q23 => match q23 with | .inr w => some w | .inl w24 => (Ah_judge w24 0).bind fun q25 => some (q25, 0) := by
    rw [Ah_followRow, hday.1, hday.2, z_sub hU, zl8, z_mn (by omega) (by omega), show min 8 (T 2 - U 0) = T 2 - U 0 by omega, e1]; rfl
  rw [head]
  rcases e2 with ⟨g1, rfl, k0, k1, k2, k3⟩ | ⟨g1, tl, rfl, k1⟩
  · have eM : ∀ y, Mr T U y = 0 := fun y => by unfold Mr; rw [k0]; exact hU1
    obtain ⟨g3, j1, j2⟩ : ∃ g3, Ah_judge g1 (nI 0) = some g3 ∧ Fm (fun a k => a = 81 ∧ (k = 6 ∨ k = 7)) g1 g3 := by
      obtain ⟨o, l1, l2, l3⟩ := id k2
      have hfw : ∃ fw, fw ≤ 1000000000 ∧ g1.1 81 7 = nI fw := by
        cases o with
        | none => exact ⟨1000000000, by omega, (l2 rfl).1⟩
        | some z => exact ⟨Mr T U z, by rw [eM]; omega, (l3 z rfl).1⟩
      obtain ⟨fw, w1, w2⟩ := hfw
      obtain ⟨g3, j1, j2⟩ := ah_judge k1 hT (fw := fw) (m := 0) w2 w1 (by omega)
      refine ⟨g3, j1, ?_⟩
      rcases j2 with ⟨-, j3⟩ | ⟨-, -, -, j3⟩
      · rw [j3]; exact Fm.rf _ _
      · exact j3
    refine ⟨g3, 0, ?_, by omega, k1.fm j2 (fun q => by omega) (fun k q => by omega), Or.inl rfl, fun N1 hN1 _ => ?_, k3.tr (j2.mo (fun a k q => Or.inl q))⟩
    · rw [Option.bind_some]
      simp only []
      rw [show Ah_judge g1 0 = some g3 from j1]; rfl
    · exact ah_judged hT hU hU1 k1 k2 hN1 (fun y _ _ _ => by rw [eM, eM]) (by rw [eM]; exact j1)
  · exact ⟨g1, tl, rfl, k1⟩
end
