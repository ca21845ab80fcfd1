-- WAY, and the start
def rnF (B : Nat → Nat) (L : Nat) : Nat → (Nat ⊕ Nat) × (Nat → Nat)
  | 0 => (.inr 0, fun _ => 0)
  | k + 1 => match (rnF B L k).1 with
    | .inl _ => rnF B L k
    | .inr p => if kd B L p = 0 then rnF B L k else (itX B L p (rnF B L k).2, itD B L p (rnF B L k).2)
section
variable {B D : Nat → Nat} {L p q k m : Nat} {g g' : am_G}
theorem rn_l {f : Nat} (h : (rnF B L k).1 = .inl f) : rnF B L (k + 1) = rnF B L k := by
  rw [rnF, h]
theorem rn_0 (h : (rnF B L k).1 = .inr p) (h0 : kd B L p = 0) : rnF B L (k + 1) = rnF B L k := by
  rw [rnF, h]
  simp only [h0, if_true]
theorem rn_s (h : (rnF B L k).1 = .inr p) (h0 : kd B L p ≠ 0) : rnF B L (k + 1) = (itX B L p (rnF B L k).2, itD B L p (rnF B L k).2) := by
  rw [rnF, h]
  simp only [h0, if_false]
theorem rn_st (h : (∃ f, (rnF B L k).1 = .inl f) ∨ ∃ p, (rnF B L k).1 = .inr p ∧ kd B L p = 0) (hm : k ≤ m) : rnF B L m = rnF B L k := by
  induction m with
  | zero => have : k = 0 := by omega
            subst this; rfl
  | succ m ih =>
    by_cases e : k = m + 1
    · subst e; rfl
    · have := ih (by omega)
      rcases h with ⟨f, h⟩ | ⟨p, h, h0⟩
      · rw [rn_l (f := f) (by rw [this]; exact h), this]
      · rw [rn_0 (p := p) (by rw [this]; exact h) h0, this]
theorem TW_it (hW : TW D) (hx : itX B L p D = .inr q) : TW (itD B L p D) := by
  obtain ⟨b0, b1, b2, bw, bt, bs⟩ := hW
  unfold itX at hx
  unfold itD
  by_cases c1 : lv B L p = 119 ∧ D 0 < 4
  · rw [if_pos c1] at hx
    obtain ⟨k1, k2, -, -⟩ := xW_r hx
    rw [if_pos c1.1]
    unfold dW
    refine ⟨?_, ?_, ?_, fun w hw => ?_, fun t ht => ?_, fun d hd => ?_⟩
    · rw [up_ne (by omega), up_eq]; omega
    · simp (disch := omega) only [up_ne]; exact b1
    · simp (disch := omega) only [up_ne]; exact b2
    · rw [up_ne (by omega), up_eq] at hw
      by_cases e : w = D 0
      · subst e
        have x1 := k1.2.2; have x2 := k2.2.2
        simp (disch := omega) only [up_ne, up_eq]; omega
      · simp (disch := omega) only [up_ne]; exact bw w (by omega)
    · have ht' : t < D 1 := by simp (disch := omega) only [up_ne] at ht; exact ht
      have := bt t ht'
      have e0 : (up (up (up (up D (4 + D 0) (vl B L (tj B L p 1))) (8 + D 0) (vl B L (tj B L p 2))) 0 (D 0 + 1)) 3 (D 3 + 1)) 0 = D 0 + 1 := by rw [up_ne (by omega), up_eq]
      rw [e0]
      simp (disch := omega) only [up_ne]; omega
    · have hd' : d < D 2 := by simp (disch := omega) only [up_ne] at hd; exact hd
      simp (disch := omega) only [up_ne]; exact bs d hd'
  · rw [if_neg c1] at hx
    by_cases c2 : lv B L p = 116 ∧ D 1 < 7
    · rw [if_pos c2] at hx
      obtain ⟨k1, k2, k3, k4, k5, -, -⟩ := xT_r hx
      rw [if_neg (by omega), if_pos c2.1]
      unfold dT
      refine ⟨?_, ?_, ?_, fun w hw => ?_, fun t ht => ?_, fun d hd => ?_⟩
      · simp (disch := omega) only [up_ne]; exact b0
      · rw [up_ne (by omega), up_eq]; omega
      · simp (disch := omega) only [up_ne]; exact b2
      · have hw' : w < D 0 := by simp (disch := omega) only [up_ne] at hw; exact hw
        simp (disch := omega) only [up_ne]; exact bw w hw'
      · rw [up_ne (by omega), up_eq] at ht
        by_cases e : t = D 1
        · subst e
          have x1 := k1.2.2; have x2 := k2.2.2; have x3 := k3.2.2; have x4 := k4.2.2; have x5 := k5.2.2
          simp (disch := omega) only [up_ne, up_eq]; omega
        · simp (disch := omega) only [up_ne]; exact bt t (by omega)
      · have hd' : d < D 2 := by simp (disch := omega) only [up_ne] at hd; exact hd
        simp (disch := omega) only [up_ne]; exact bs d hd'
    · rw [if_neg c2] at hx
      by_cases c3 : lv B L p = 115 ∧ D 2 < 8
      · rw [if_pos c3] at hx
        obtain ⟨k1, k2, k3, -, -⟩ := xS_r hx
        rw [if_neg (by omega), if_neg (by omega)]
        unfold dS
        refine ⟨?_, ?_, ?_, fun w hw => ?_, fun t ht => ?_, fun d hd => ?_⟩
        · simp (disch := omega) only [up_ne]; exact b0
        · simp (disch := omega) only [up_ne]; exact b1
        · rw [up_ne (by omega), up_eq]; omega
        · have hw' : w < D 0 := by simp (disch := omega) only [up_ne] at hw; exact hw
          simp (disch := omega) only [up_ne]; exact bw w hw'
        · have ht' : t < D 1 := by simp (disch := omega) only [up_ne] at ht; exact ht
          simp (disch := omega) only [up_ne]; exact bt t ht'
        · rw [up_ne (by omega), up_eq] at hd
          by_cases e : d = D 2
          · subst e
            have x1 := k1.2.2; have x2 := k2.2.2; have x3 := k3.2.2
            simp (disch := omega) only [up_ne, up_eq]; omega
          · simp (disch := omega) only [up_ne]; exact bs d (by omega)
      · rw [if_neg c3] at hx; cases hx
theorem it_pos (hp : p ≤ L) (h0 : kd B L p ≠ 0) (hx : itX B L p D = .inr q) : p + 1 ≤ q ∧ q ≤ L := by
  have hs := kd_n0 h0
  have h1 := tn_b B hp
  have h2 := ts_ge B L p
  have e1 : tj B L p 1 = tn B L p := rfl
  have ge : ∀ i, tn B L p ≤ tj B L p (i + 1) := by
    intro i
    induction i with
    | zero => exact Nat.le_refl _
    | succ i ih =>
      have h3 := tn_b B (tj_b B hp (i + 1)).2
      have h4 := ts_ge B L (tj B L p (i + 1))
      have e : tj B L p (i + 1 + 1) = tn B L (tj B L p (i + 1)) := rfl
      rw [e]; omega
  unfold itX at hx
  split at hx
  · obtain ⟨-, -, -, rfl⟩ := xW_r hx
    have : tn B L p ≤ tj B L p 4 := ge 3; have := (tj_b B hp 4).2; omega
  · split at hx
    · obtain ⟨-, -, -, -, -, -, rfl⟩ := xT_r hx
      have : tn B L p ≤ tj B L p 7 := ge 6; have := (tj_b B hp 7).2; omega
    · split at hx
      · obtain ⟨-, -, -, -, rfl⟩ := xS_r hx
        have : tn B L p ≤ tj B L p 5 := ge 4; have := (tj_b B hp 5).2; omega
      · cases hx
theorem TW_0 : TW (fun _ => 0) := ⟨Nat.zero_le _, Nat.zero_le _, Nat.zero_le _, fun w hw => absurd hw (Nat.not_lt_zero _), fun t ht => absurd ht (Nat.not_lt_zero _), fun d hd => absurd hd (Nat.not_lt_zero _)⟩
theorem rn_ok (B : Nat → Nat) (L : Nat) : ∀ k p, (rnF B L k).1 = .inr p → p ≤ L ∧ (k ≤ p ∨ kd B L p = 0) ∧ TW (rnF B L k).2 := by
  intro k
  induction k with
  | zero => intro p h; cases h; exact ⟨by omega, Or.inl (by omega), TW_0⟩
  | succ k ih =>
    intro p h
    cases e : (rnF B L k).1 with
    | inl f => rw [rn_l e, e] at h; cases h
    | inr p0 =>
      obtain ⟨i1, i2, i3⟩ := ih p0 e
      by_cases k0 : kd B L p0 = 0
      · rw [rn_0 e k0] at h ⊢
        rw [e] at h; cases h
        exact ⟨i1, Or.inr k0, i3⟩
      · rw [rn_s e k0] at h ⊢
        have hp := it_pos i1 k0 h
        exact ⟨hp.2, Or.inl (by have := i2.resolve_right k0; omega), TW_it i3 h⟩
theorem rn_end (B : Nat → Nat) {L : Nat} (hL : L ≤ 200) : (∃ f, (rnF B L 200).1 = .inl f) ∨ ∃ p, (rnF B L 200).1 = .inr p ∧ kd B L p = 0 := by
  cases e : (rnF B L 200).1 with
  | inl f => exact Or.inl ⟨f, rfl⟩
  | inr p =>
    obtain ⟨i1, i2, -⟩ := rn_ok B L 200 p e
    exact Or.inr ⟨p, rfl, by rcases i2 with i2 | i2; exact kd_0 (by omega); exact i2⟩
set_option maxRecDepth 8000 in
theorem re_all (hX : XB B L g) : ∃ g', Fm pQ g g' ∧ ((∃ f, (rnF B L 200).1 = .inl f ∧ Re_readAll g = some (g', -1) ∧ g'.1 1 3 = nI (ts B L f) ∧ f ≤ L) ∨ (∃ p, (rnF B L 200).1 = .inr p ∧ Re_readAll g = some (g', nI ((rnF B L 200).2 3)) ∧ DC (rnF B L 200).2 g')) := by
  have hL := hX.1
  have F0 : Fm pQ g (am_wr (am_wr (am_wr (am_wr g 15 0 0) 15 3 0) 15 9 0) 14 2 0) := ((((Fm.rf _ _).wr (Or.inr ⟨by omega, by omega⟩)).wr (Or.inr ⟨by omega, by omega⟩)).wr (Or.inr ⟨by omega, by omega⟩)).wr (Or.inr ⟨by omega, by omega⟩)
  have F0' : Fm pQ g (am_wr (am_wr (am_wr (am_wr (am_wr g 15 0 0) 15 3 0) 15 9 0) 14 2 0) 1 4 0) := F0.wr (Or.inl ⟨rfl, by omega⟩)
  obtain ⟨g1, e1, e2, e3⟩ := tx_next (p := 0) (hX.fm F0' (by unfold pQ; omega) (fun k => by unfold pQ; omega)) (by omega) (by rw [m_eq]; rfl)
  have F1 : Fm pQ g g1 := F0'.tr (e3.mo (fun a k q => Or.inl q))
  have c14 : g1.1 14 2 = 0 := by rw [e3.2 _ _ (by unfold pK; omega), m_na (by omega), m_eq]
  have DC1 : DC (fun _ => 0) g1 := by
    refine ⟨?_, ?_, ?_, fun w hw => absurd hw (Nat.not_lt_zero _), fun t ht => absurd ht (Nat.not_lt_zero _), fun d hd => absurd hd (Nat.not_lt_zero _)⟩
    · rw [e3.2 _ _ (by unfold pK; omega), m_na (by omega), m_na (by omega), m_nk (by omega), m_nk (by omega), m_eq]; rfl
    · rw [e3.2 _ _ (by unfold pK; omega), m_na (by omega), m_na (by omega), m_nk (by omega), m_eq]; rfl
    · rw [e3.2 _ _ (by unfold pK; omega), m_na (by omega), m_na (by omega), m_eq]; rfl
  obtain ⟨b, l1, l2, l3, l4⟩ := lp_ex (fun n (a : am_G × Int32) k => Re_readAll_L40 n a.1 a.2 (nI k)) 200
    (fun k a => Fm pQ g a.1 ∧ CS B L (rnF B L k).1 a.1 ∧ (∀ p, (rnF B L k).1 = .inr p → DC (rnF B L k).2 a.1 ∧ a.2 = nI ((rnF B L k).2 3)))
    (fun b => Fm pQ g b.1 ∧ CS B L (rnF B L 200).1 b.1 ∧ (∀ p, (rnF B L 200).1 = .inr p → DC (rnF B L 200).2 b.1 ∧ b.2 = nI ((rnF B L 200).2 3)))
    (fun n a ha => ⟨a, by rw [Re_readAll_L40, if_pos (show (200 : Int32) ≤ nI 200 by decide)], ha⟩)
    (fun n k a hk ha => by
      obtain ⟨a1, a2, a3⟩ := ha
      have h6 : ¬ (200 : Int32) ≤ nI k := by rw [zl200]; exact nI_ge hk (by omega)
      have stop : ((∃ f, (rnF B L k).1 = .inl f) ∨ ∃ p, (rnF B L k).1 = .inr p ∧ kd B L p = 0) → Re_readAll_L40 (n + 1) a.1 a.2 (nI k) = some a → ∃ b, Re_readAll_L40 (n + 1) a.1 a.2 (nI k) = some b ∧ Fm pQ g b.1 ∧ CS B L (rnF B L 200).1 b.1 ∧ (∀ p, (rnF B L 200).1 = .inr p → DC (rnF B L 200).2 b.1 ∧ b.2 = nI ((rnF B L 200).2 3)) := fun h1 h2 => ⟨a, h2, a1, by rw [rn_st h1 (by omega)]; exact a2, by rw [rn_st h1 (by omega)]; exact a3⟩
      cases e : (rnF B L k).1 with
      | inl f =>
        right
        rw [e] at a2
        refine stop (Or.inl ⟨f, e⟩) ?_
        rw [Re_readAll_L40, if_neg h6, a2.2.1]
        by_cases q : a.1.1 1 2 = 0
        · rw [if_pos q]
        · rw [if_neg q, if_neg (by decide)]
      | inr p =>
        rw [e] at a2
        obtain ⟨i1, i2, i3⟩ := rn_ok B L k p e
        obtain ⟨d1, d2⟩ := a3 p e
        by_cases k0 : kd B L p = 0
        · right
          refine stop (Or.inr ⟨p, e, k0⟩) ?_
          rw [Re_readAll_L40, if_neg h6, a2.2.2.2.2.1, k0, if_pos (by decide)]
        · left
          obtain ⟨g2, c1, c2, c3, c4⟩ := re_item (hX.fm a1 (by unfold pQ; omega) (fun k => by unfold pQ; omega)) d1 i3 a2
          have k5 := kd_5 B L p
          refine ⟨(g2, a.2 + 1), ?_, a1.tr c4, by rw [rn_s e k0]; exact c2, fun q hq => ?_⟩
          · show Re_readAll_L40 (n + 1) a.1 a.2 (nI k) = _
            rw [Re_readAll_L40, if_neg h6, a2.2.2.2.2.1, if_neg (show ¬ nI (if kd B L p = 5 then 4 else kd B L p) = 0 by rw [zl0]; exact z_ne (by split <;> omega) (by omega) (by split <;> omega)), a2.1, if_pos rfl, c1, Option.bind_some, nI_1]
          · rw [rn_s e k0] at hq ⊢
            refine ⟨c3 q hq, ?_⟩
            have e3 : (itD B L p (rnF B L k).2) 3 = (rnF B L k).2 3 + 1 := by
              unfold itD
              split
              · unfold dW; rw [up_eq]
              · split
                · unfold dT; rw [up_eq]
                · unfold dS; rw [up_eq]
            show a.2 + 1 = nI ((itD B L p (rnF B L k).2) 3)
            rw [d2, nI_1, e3])
    am_fuel 0 (g1, 0) (by omega) (z_fuel (by omega)) ⟨F1, ⟨c14, e2⟩, fun p hp => ⟨DC1, rfl⟩⟩
  have head : Re_readAll g = if (b.1.1 14 2) = 0 then some (b.1, b.2) else some (b.1, (-1)) := by
    rw [Re_readAll, Tx_toFirstToken, e1, Option.bind_some, Option.bind_some, show Re_readAll_L40 am_fuel g1 0 0 = some b from l1, Option.bind_some]
  refine ⟨b.1, l2, ?_⟩
  cases e : (rnF B L 200).1 with
  | inl f =>
    rw [e] at l3
    exact Or.inl ⟨f, rfl, by rw [head, l3.2.1, if_neg (by decide)], l3.2.2, l3.1⟩
  | inr p =>
    rw [e] at l3
    obtain ⟨x1, x2⟩ := l4 p e
    exact Or.inr ⟨p, rfl, by rw [head, l3.1, if_pos rfl, x2], x1⟩
-- the reference
theorem mo_item (h : YB B L g) (ht : TkR B L p g) (hD : DR D g) (hW : TW D) : ∃ g' b, Mo_readsItem g = some (g', b) ∧ Fm pU g g' ∧ ((b = false ∧ ∃ f, itX B L p D = .inl f ∧ g'.1 221 12 = nI (ts B L f)) ∨ (b = true ∧ ∃ pe D', itX B L p D = stE B L (.inr pe) ∧ pe ≤ L ∧ g'.1 221 10 = nI pe ∧ DR D' g' ∧ YB B L g' ∧ (∀ q, itX B L p D = .inr q → itD B L p D = up D' 3 (D' 3 + 1)))) := by
  have hlv := lv_le (B := B) (L := L) (p := p) (fun k hk => (h.2.2 k hk).2)
  obtain ⟨hp, t1, t2, t3, t4, t5⟩ := ht
  have k5 := kd_5 B L p
  have b0 := hW.1; have b1 := hW.2.1; have b2 := hW.2.2.1
  have hl : (if (g.1 221 11) = 1 then g.1 221 13 else 0 : Int32) = nI (lv B L p) := by
    unfold lv
    by_cases k : kd B L p = 1
    · rw [if_pos k, t3, k, if_pos (by decide), t4 (Or.inl k)]
    · have : (if kd B L p = 5 then 2 else kd B L p) ≠ 1 := by split <;> omega
      rw [if_neg k, t3, if_neg (show ¬ nI (if kd B L p = 5 then 2 else kd B L p) = 1 by rw [zl1]; exact z_ne (by split <;> omega) (by omega) this)]; rfl
  have use : ∀ (X : Nat ⊕ Nat) (D' : Nat → Nat) (pe : Nat) (g' : am_G) (b : Bool), RQ B L X D' pe g g' b → Mo_readsItem g = some (g', b) → itX B L p D = X → (∀ q, X = .inr q → itD B L p D = up D' 3 (D' 3 + 1)) → ∃ g' b, Mo_readsItem g = some (g', b) ∧ Fm pU g g' ∧ ((b = false ∧ ∃ f, itX B L p D = .inl f ∧ g'.1 221 12 = nI (ts B L f)) ∨ (b = true ∧ ∃ pe D', itX B L p D = stE B L (.inr pe) ∧ pe ≤ L ∧ g'.1 221 10 = nI pe ∧ DR D' g' ∧ YB B L g' ∧ (∀ q, itX B L p D = .inr q → itD B L p D = up D' 3 (D' 3 + 1)))) := by
    intro X D' pe g' b hR he hx hd
    refine ⟨g', b, he, hR.1, ?_⟩
    rcases hR.2 with ⟨x1, f, x2, x3⟩ | ⟨x1, x2, x3, x4, x5, x6⟩
    · exact Or.inl ⟨x1, f, by rw [hx, x2], x3⟩
    · exact Or.inr ⟨x1, pe, D', by rw [hx, x2], x3, x4, x5, x6, fun q hq => hd q (by rw [← hx]; exact hq)⟩
  have bad : Mo_readsItem g = some (g, false) → itX B L p D = .inl p → ∃ g' b, Mo_readsItem g = some (g', b) ∧ Fm pU g g' ∧ ((b = false ∧ ∃ f, itX B L p D = .inl f ∧ g'.1 221 12 = nI (ts B L f)) ∨ (b = true ∧ ∃ pe D', itX B L p D = stE B L (.inr pe) ∧ pe ≤ L ∧ g'.1 221 10 = nI pe ∧ DR D' g' ∧ YB B L g' ∧ (∀ q, itX B L p D = .inr q → itD B L p D = up D' 3 (D' 3 + 1)))) := fun h1 h2 => ⟨g, false, h1, Fm.rf _ _, Or.inl ⟨rfl, p, h2, t1⟩⟩
  have u3 : ∀ (f : Nat → Nat) (k v : Nat), k ≠ 3 → up f k v 3 = f 3 := fun f k v hk => up_ne (by omega)
  by_cases a1 : lv B L p = 119
  · by_cases c1 : D 0 < 4
    · obtain ⟨g1, b, e1, e2⟩ := mo_rwalker h hp t2 hD c1
      refine use _ _ _ g1 b e2 ?_ (by unfold itX; rw [if_pos ⟨a1, c1⟩]) (fun q hq => ?_)
      · rw [Mo_readsItem, hl, a1, if_pos (show nI 119 = 119 from rfl), e1]; rfl
      · unfold itD dW
        rw [if_pos a1]
        simp (disch := omega) only [u3]
    · refine bad ?_ ?_
      · have e0 := hD 0 (by omega)
        rw [Mo_readsItem, hl, a1, if_pos (show nI 119 = 119 from rfl), Mo_readsWalker, e0, show D 0 = 4 by omega, if_pos (show nI 4 = 4 from rfl)]; rfl
      · unfold itX; rw [if_neg (by omega), if_neg (by omega), if_neg (by omega)]
  · by_cases a2 : lv B L p = 116
    · by_cases c1 : D 1 < 7
      · obtain ⟨g1, b, e1, e2⟩ := mo_rthing h hp t2 hD c1 b0
        refine use _ _ _ g1 b e2 ?_ (by unfold itX; rw [if_neg (by omega), if_pos ⟨a2, c1⟩]) (fun q hq => ?_)
        · rw [Mo_readsItem, hl, a2, if_neg (by decide), if_pos (show nI 116 = 116 from rfl), e1]; rfl
        · unfold itD dT
          rw [if_neg a1, if_pos a2]
          simp (disch := omega) only [u3]
      · refine bad ?_ ?_
        · have e0 := hD 1 (by omega)
          rw [Mo_readsItem, hl, a2, if_neg (by decide), if_pos (show nI 116 = 116 from rfl), Mo_readsThing, e0, show D 1 = 7 by omega, if_pos (show nI 7 = 7 from rfl)]; rfl
        · unfold itX; rw [if_neg (by omega), if_neg (by omega), if_neg (by omega)]
    · by_cases a3 : lv B L p = 115
      · by_cases c1 : D 2 < 8
        · obtain ⟨g1, b, e1, e2⟩ := mo_rstage h hp t2 hD c1
          refine use _ _ _ g1 b e2 ?_ (by unfold itX; rw [if_neg (by omega), if_neg (by omega), if_pos ⟨a3, c1⟩]) (fun q hq => ?_)
          · rw [Mo_readsItem, hl, a3, if_neg (by decide), if_neg (by decide), if_pos (show nI 115 = 115 from rfl), e1]
            cases b <;> rfl
          · unfold itD dS
            rw [if_neg a1, if_neg a2]
            simp (disch := omega) only [u3]
        · refine bad ?_ ?_
          · have e0 := hD 2 (by omega)
            rw [Mo_readsItem, hl, a3, if_neg (by decide), if_neg (by decide), if_pos (show nI 115 = 115 from rfl), Mo_readsStage, e0, show D 2 = 8 by omega, if_pos (show nI 8 = 8 from rfl)]; rfl
          · unfold itX; rw [if_neg (by omega), if_neg (by omega), if_neg (by omega)]
      · refine bad ?_ ?_
        · rw [Mo_readsItem, hl, if_neg (show ¬ nI (lv B L p) = 119 by rw [zl119]; exact z_ne (by omega) (by omega) a1), if_neg (show ¬ nI (lv B L p) = 116 by rw [zl116]; exact z_ne (by omega) (by omega) a2), if_neg (show ¬ nI (lv B L p) = 115 by rw [zl115]; exact z_ne (by omega) (by omega) a3)]
        · unfold itX; rw [if_neg (by omega), if_neg (by omega), if_neg (by omega)]
set_option maxRecDepth 8000 in
theorem mo_reads (hY : YB B L g) : ∃ g', Fm pU g g' ∧ ((∃ f, (rnF B L 200).1 = .inl f ∧ Mo_reads g = some (g', false) ∧ g'.1 221 12 = nI (ts B L f)) ∨ (∃ p, (rnF B L 200).1 = .inr p ∧ Mo_reads g = some (g', true) ∧ DR (rnF B L 200).2 g')) := by
  have hL := hY.1
  obtain ⟨g1, e1, e2, e3⟩ := lp_up (fun n (a : am_G) k => Mo_reads_L2 n a (nI k)) 71 (fun k a => (∀ j, j < k → a.1 224 j = nI 0) ∧ Fm (fun a _ => a = 224) g a) (fun a => (∀ j, j < 71 → a.1 224 j = nI 0) ∧ Fm (fun a _ => a = 224) g a)
    (fun n a ha => ⟨a, by rw [Mo_reads_L2]; simp (disch := omega) only [z_lt, z_le, z_eq, z_in, z_cl, z_add, z_mul, z_mx, z_mn, zl12, zl18, zl19, zl30, zl115, zl116, zl119, zl291, zl640, zl999, zl9999, zl0, zl1, zl2, zl3, zl4, zl5, zl6, zl7, zl8, zl9, zl10, zl15, zl20, zl22, zl26, zl29, zl32, zl33, zl40, zl47, zl48, zl55, zl57, zl59, zl60, zl63, zl71, zl97, zl99, zl100, zl122, zl200, zl255, zl320, zl1000, zl1024, zl5040, zl1000000000, Nat.le_refl, ↓reduceIte], ha⟩)
    (fun n k a hk ha => by
      have h6 : ¬ 71 ≤ k := by omega
      refine ⟨am_wr a 224 k (nI 0), ?_, fun j hj => ?_, ha.2.wr rfl⟩
      · show Mo_reads_L2 (n + 1) a (nI k) = _
        rw [Mo_reads_L2]
        simp (disch := omega) only [z_lt, z_le, z_eq, z_in, z_cl, z_add, z_mul, z_mx, z_mn, zl12, zl18, zl19, zl30, zl115, zl116, zl119, zl291, zl640, zl999, zl9999, zl0, zl1, zl2, zl3, zl4, zl5, zl6, zl7, zl8, zl9, zl10, zl15, zl20, zl22, zl26, zl29, zl32, zl33, zl40, zl47, zl48, zl55, zl57, zl59, zl60, zl63, zl71, zl97, zl99, zl100, zl122, zl200, zl255, zl320, zl1000, zl1024, zl5040, zl1000000000, h6, Option.bind_some, Option.bind_none, ↓reduceIte, Bool.false_eq_true, reduceCtorEq]
      · by_cases e : j = k
        · subst e; rw [m_eq]
        · rw [m_nk e]; exact ha.1 j (by omega))
    am_fuel 0 g (by omega) (z_fuel (by omega)) ⟨fun j hj => by omega, Fm.rf _ _⟩
  have F1 : Fm pU g (am_wr g1 221 10 0) := (e3.mo (fun a k q => Or.inr q)).wr (Or.inl ⟨rfl, by omega⟩)
  obtain ⟨g2, t1, t2, t3⟩ := mo_tok (p := 0) (hY.fm F1 (by unfold pU; omega) (fun k => by unfold pU; omega)) (by omega) (by rw [m_eq]; rfl)
  have D2 : DR (fun _ => 0) g2 := fun k hk => by rw [t3.2 _ _ (by unfold pV; omega), m_na (by omega)]; exact e2 k hk
  have F2 : Fm pU g g2 := F1.tr (t3.mo (fun a k q => Or.inl q))
  obtain ⟨o, l1, l2⟩ := lp_ex (fun n (a : am_G) _ => Mo_reads_L30 n a) 200
    (fun k a => Fm pU g a ∧ ∃ p, (rnF B L k).1 = .inr p ∧ TkR B L p a ∧ DR (rnF B L k).2 a)
    (fun o => (∃ g' p, o = .inl g' ∧ (rnF B L 200).1 = .inr p ∧ Fm pU g g' ∧ DR (rnF B L 200).2 g') ∨ (∃ g' f, o = .inr (g', false) ∧ (rnF B L 200).1 = .inl f ∧ Fm pU g g' ∧ g'.1 221 12 = nI (ts B L f)))
    (fun n a ha => by
      obtain ⟨a1, p, a2, a3, a4⟩ := ha
      have k0 : kd B L p = 0 := by
        rcases rn_end B hL with ⟨f, hf⟩ | ⟨p', hp', h0⟩
        · rw [a2] at hf; cases hf
        · rw [a2] at hp'; cases hp'; exact h0
      refine ⟨.inl a, ?_, Or.inl ⟨a, p, rfl, a2, a1, a4⟩⟩
      rw [Mo_reads_L30, a3.2.2.2.1, k0, if_pos (by decide)])
    (fun n k a hk ha => by
      obtain ⟨a1, p, a2, a3, a4⟩ := ha
      have k5 := kd_5 B L p
      obtain ⟨i1, i2, i3⟩ := rn_ok B L k p a2
      by_cases k0 : kd B L p = 0
      · right
        have es := rn_st (B := B) (L := L) (k := k) (m := 200) (Or.inr ⟨p, a2, k0⟩) (by omega)
        refine ⟨.inl a, ?_, Or.inl ⟨a, p, rfl, by rw [es]; exact a2, a1, by rw [es]; exact a4⟩⟩
        rw [Mo_reads_L30, a3.2.2.2.1, k0, if_pos (by decide)]
      · have Y := hY.fm a1 (by unfold pU; omega) (fun k => by unfold pU; omega)
        obtain ⟨g3, b, c1, c2, c3⟩ := mo_item Y a3 a4 i3
        have st : Mo_reads_L30 (n + 1) a = (if b = true then (Mo_token g3).bind fun q10 => if (q10.1 221 11) = 3 then (Mo_token (am_wr q10 224 3 ((q10.1 224 3) + 1))).bind fun q13 => Mo_reads_L30 n q13 else some (.inr (q10, false)) else some (.inr (g3, false))) := by
          rw [Mo_reads_L30, a3.2.2.2.1, if_neg (show ¬ nI (if kd B L p = 5 then 2 else kd B L p) = 0 by rw [zl0]; exact z_ne (by split <;> omega) (by omega) (by split <;> omega)), c1, Option.bind_some]
        rcases c3 with ⟨rfl, f, x1, x2⟩ | ⟨rfl, pe, D', x1, x2, x3, x4, x5, x6⟩
        · right
          have e4 : (rnF B L (k + 1)).1 = .inl f := by rw [rn_s a2 k0]; exact x1
          have es := rn_st (B := B) (L := L) (k := k + 1) (m := 200) (Or.inl ⟨f, e4⟩) (by omega)
          exact ⟨.inr (g3, false), by rw [st, if_neg (by simp)], Or.inr ⟨g3, f, rfl, by rw [es]; exact e4, a1.tr c2, x2⟩⟩
        · rw [if_pos rfl] at st
          obtain ⟨g4, d1, d2, d3⟩ := mo_tok x5 x2 x3
          rw [d1, Option.bind_some, d2.2.2.2.1] at st
          have ke := kd_5 B L pe
          have F4 : Fm pU g g4 := (a1.tr c2).tr (d3.mo (fun a k q => Or.inl q))
          by_cases k3 : kd B L pe = 3
          · left
            rw [k3, if_pos (by decide)] at st
            have xq : itX B L p (rnF B L k).2 = .inr (tn B L pe) := by rw [x1]; simp only [stE]; rw [if_pos k3]
            have D4 : DR D' g4 := fun j hj => by rw [d3.2 _ _ (by unfold pV; omega)]; exact x4 j hj
            have D5 := D4.set 3 (D' 3 + 1)
            rw [D4 3 (by omega), nI_1] at st
            have Y5 : YB B L (am_wr g4 224 3 (nI (D' 3 + 1))) := (x5.fm d3 (by unfold pV; omega) (fun k => by unfold pV; omega)).fm (P := fun a _ => a = 224) ((Fm.rf _ _).wr rfl) (by omega) (fun k => by omega)
            obtain ⟨g5, m1, m2, m3⟩ := mo_tok Y5 (tn_b B x2).2.1 (by rw [m_na (by omega)]; exact d2.2.2.1)
            rw [m1, Option.bind_some] at st
            refine ⟨g5, st, (F4.wr (Or.inr rfl)).tr (m3.mo (fun a k q => Or.inl q)), tn B L pe, by rw [rn_s a2 k0]; exact xq, m2, ?_⟩
            rw [rn_s a2 k0]
            show DR (itD B L p (rnF B L k).2) g5
            rw [x6 _ xq]
            exact fun j hj => by rw [m3.2 _ _ (by unfold pV; omega)]; exact D5 j hj
          · right
            rw [if_neg (show ¬ nI (if kd B L pe = 5 then 2 else kd B L pe) = 3 by rw [zl3]; exact z_ne (by split <;> omega) (by omega) (by split <;> omega))] at st
            have e4 : (rnF B L (k + 1)).1 = .inl pe := by rw [rn_s a2 k0]; show itX B L p (rnF B L k).2 = _; rw [x1]; simp only [stE]; rw [if_neg k3]
            have es := rn_st (B := B) (L := L) (k := k + 1) (m := 200) (Or.inl ⟨pe, e4⟩) (by omega)
            exact ⟨.inr (g4, false), st, Or.inr ⟨g4, pe, rfl, by rw [es]; exact e4, F4, d2.2.1⟩⟩)
    am_fuel 0 g2 (by omega) (z_fuel (by omega)) ⟨F2, 0, rfl, t2, D2⟩
  have head : Mo_reads g = (some o).bind fun q15 => match q15 with | .inr w => some w | .inl w16 => some (w16, true) := by
    rw [Mo_reads, show Mo_reads_L2 am_fuel g 0 = some g1 from e1, Option.bind_some, t1, Option.bind_some, l1]; rfl
  rcases l2 with ⟨g', p, rfl, x1, x2, x3⟩ | ⟨g', f, rfl, x1, x2, x3⟩
  · exact ⟨g', x2, Or.inr ⟨p, x1, by rw [head]; rfl, x3⟩⟩
  · exact ⟨g', x2, Or.inl ⟨f, x1, by rw [head]; rfl, x3⟩⟩
end
