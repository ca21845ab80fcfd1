-- SOONEST, the class
section
variable {T R f y z : Nat → Nat} {g g' : am_G} {L N t j k p M : Nat}
/-- what the class knows of the best way yet -/
def BS (T R : Nat → Nat) (L N : Nat) (g : am_G) : Prop := ∃ r, FB T R L N r ∧ (r = none → g.1 74 3 = nI 1000000000 ∧ g.1 74 4 = nI 1000000000) ∧ (∀ z, r = some z → g.1 74 3 = nI (mnt T R z L (T 1)) ∧ g.1 74 4 = nI (fai T R z) ∧ ∀ t, t < T 1 → g.1 75 t = nI (z t))
/-- how the search stands before thing t -/
def PS (T R f : Nat → Nat) (L t : Nat) (g : am_G) : Prop := CI T g 77 (wf R f) ∧ vld T R f ∧ g.1 74 2 = nI L ∧ g.1 74 7 = nI (AP T R (T 1)) ∧ ∀ w, w < T 0 → g.1 76 w = nI (pl T R f t w)
theorem AP_le (hT : TW T) (hR : SW T R) (ht : t ≤ T 1) : AP T R t ≤ 203 := by
  have h := sm_le (n := t) (f := fun t' => if R (8 + t') = 9 then 0 else wgh T R t') (c := 29) (fun i hi => by
    have := wgh_le hT hR (t := i) (by omega)
    split <;> omega)
  have := hT.2.1
  unfold AP
  omega
theorem wf_wgh (ht : t < 7) : wgh T (wf R f) t = wgh T R t := by
  unfold wgh
  rw [wf_ne (by omega), wf_ne (by omega)]
theorem mi_b {f : Nat → Nat} {n : Nat} (hn : 0 < n) (h : ∀ i, i < n → f i ≤ 203) : mi f n ≤ 203 ∧ mi f n ≤ gr f n := by
  have h1 := mi_le (f := f) (n := n) (i := 0) hn
  have h2 := h 0 hn
  have h3 := gr_ge (f := f) (n := n) (i := 0) hn
  omega
theorem to_judge (hR : SW T R) (h0 : 0 < T 0) (hL : L ≤ 20) (h : PS T R f L (T 1) g) (hB : BS T R L (pn T R f (T 1)) g) : ∃ g', To_judge g (nI (mnt T R f L (T 1))) = some g' ∧ PS T R f L (T 1) g' ∧ BS T R L (pn T R f (T 1) + 1) g' ∧ Fm pT g g' := by
  obtain ⟨h1, h2, h3, h4, h5⟩ := h
  have hb := h1.bb
  have hT := h1.1
  have hpl := fun w => pl_le hT hR f (Nat.le_refl (T 1)) w
  have hm := mnt_le (T := T) (R := R) hL f (T 1)
  obtain ⟨b, e1, e2⟩ := lp_up (fun n (a : Int32 × Int32) k => To_judge_L8 n g (nI (mnt T R f L (T 1))) a.1 a.2 (nI k)) (T 0) (fun k a => a = (nI (gr (pl T R f (T 1)) k), nI (mi (pl T R f (T 1)) k))) (fun a => a = (nI (gr (pl T R f (T 1)) (T 0)), nI (mi (pl T R f (T 1)) (T 0))))
    (fun n a ha => ⟨a, by rw [To_judge_L8]; simp (disch := omega) only [h1.n, z_lt, z_le, z_eq, z_in, z_cl, z_add, z_mul, z_mx, z_mn, zl12, zl18, zl19, zl30, zl115, zl116, zl119, zl291, zl640, zl999, zl9999, zl0, zl1, zl2, zl3, zl4, zl5, zl6, zl7, zl8, zl9, zl10, zl15, zl20, zl22, zl26, zl29, zl32, zl33, zl40, zl47, zl48, zl55, zl57, zl59, zl60, zl63, zl71, zl97, zl99, zl100, zl122, zl200, zl255, zl320, zl1000, zl1024, zl5040, zl1000000000, Nat.le_refl, ↓reduceIte], ha⟩)
    (fun n k a hk ha => by
      have h6 : ¬ T 0 ≤ k := by omega
      have a1 := gr_le (n := k) (f := pl T R f (T 1)) (c := 203) (fun i _ => hpl i)
      have a2 := hpl k
      have a3 : mi (pl T R f (T 1)) k ≤ 1000000000 := by
        clear ha hk h6 a1 a2
        induction k with
        | zero => exact Nat.le_refl _
        | succ k ih => simp only [mi]; omega
      have a4 := h5 k hk
      refine ⟨_, ?_, rfl⟩
      rw [To_judge_L8, ha, gr_zs, mi]
      simp (disch := omega) only [h1.n, h6, z_lt, z_le, z_eq, z_in, z_cl, z_add, z_mul, z_mx, z_mn, zl12, zl18, zl19, zl30, zl115, zl116, zl119, zl291, zl640, zl999, zl9999, zl0, zl1, zl2, zl3, zl4, zl5, zl6, zl7, zl8, zl9, zl10, zl15, zl20, zl22, zl26, zl29, zl32, zl33, zl40, zl47, zl48, zl55, zl57, zl59, zl60, zl63, zl71, zl97, zl99, zl100, zl122, zl200, zl255, zl320, zl1000, zl1024, zl5040, zl1000000000, a4, ↓reduceIte])
    am_fuel 0 (0, 1000000000) (by omega) (z_fuel (by omega)) rfl
  have mb := mi_b h0 (f := pl T R f (T 1)) (fun i _ => hpl i)
  have gb := gr_le (n := T 0) (f := pl T R f (T 1)) (c := 203) (fun i _ => hpl i)
  have e3 : b.1 - b.2 = nI (fai T R f) := by rw [e2, z_sub mb.2]; rfl
  obtain ⟨r, r1, r2, r3⟩ := hB
  obtain ⟨k1, k2⟩ := FB_add r1 h2 rfl
  have fl := fai_le hT hR f
  have up3 : PS T R f L (T 1) (am_cp (am_wr (am_wr g 74 3 (nI (mnt T R f L (T 1)))) 74 4 (nI (fai T R f))) (77 + 1) 75 0 0 7) := by
    refine ⟨h1.fm (P := fun a k => (a = 74 ∧ 3 ≤ k) ∨ a = 75) ((((Fm.rf _ _).wr (Or.inl ⟨rfl, by omega⟩)).wr (Or.inl ⟨rfl, by omega⟩)).cp (fun k _ => Or.inr rfl)) (fun a k q1 q2 q => by omega) (fun a k q1 q2 q => by omega), h2, ?_, ?_, fun w hw => ?_⟩
    · simp (disch := omega) only [m_eq, m_na, m_nk, m_2, m_L1, m_cp2, m_cpi, m_cpo]; exact h3
    · simp (disch := omega) only [m_eq, m_na, m_nk, m_2, m_L1, m_cp2, m_cpi, m_cpo]; exact h4
    · simp (disch := omega) only [m_eq, m_na, m_nk, m_2, m_L1, m_cp2, m_cpi, m_cpo]; exact h5 w hw
  have ub : (∀ z, r = some z → Ky T R f L < Ky T R z L) → BS T R L (pn T R f (T 1) + 1) (am_cp (am_wr (am_wr g 74 3 (nI (mnt T R f L (T 1)))) 74 4 (nI (fai T R f))) (77 + 1) 75 0 0 7) := by
    intro hlt
    refine ⟨some f, k2 hlt, (fun e => by cases e), fun z e => ?_⟩
    cases e
    refine ⟨?_, ?_, fun t ht => ?_⟩
    · simp (disch := omega) only [m_eq, m_na, m_nk, m_2, m_L1, m_cp2, m_cpi, m_cpo]
    · simp (disch := omega) only [m_eq, m_na, m_nk, m_2, m_L1, m_cp2, m_cpi, m_cpo]
    · have := (h1.tt ht).2.2.2.2.1
      rw [wf_at (by omega)] at this
      simp (disch := omega) only [m_eq, m_na, m_nk, m_2, m_L1, m_cp2, m_cpi, m_cpo]
      exact this
  have uf : Fm pT g (am_cp (am_wr (am_wr g 74 3 (nI (mnt T R f L (T 1)))) 74 4 (nI (fai T R f))) (77 + 1) 75 0 0 7) := (((Fm.rf _ _).wr (by unfold pT; omega)).wr (by unfold pT; omega)).cp (fun k _ => by unfold pT; omega)
  rw [To_judge, show To_judge_L8 am_fuel g (nI (mnt T R f L (T 1))) 0 1000000000 0 = some b from e1, Option.bind_some, e3]
  cases r with
  | none =>
    refine ⟨_, ?_, up3, ub (fun z e => by cases e), uf⟩
    rw [(r2 rfl).1, if_pos (nI_lt (by omega) (by omega))]
  | some z =>
    obtain ⟨z1, z2, z3⟩ := r3 z rfl
    have hz := mnt_le (T := T) (R := R) hL z (T 1)
    have fz := fai_le hT hR z
    have kl := Ky_lt (L := L) hT hR f z
    rw [z1, z2]
    by_cases q1 : mnt T R f L (T 1) < mnt T R z L (T 1)
    · refine ⟨_, ?_, up3, ub (fun z' e => by cases e; exact kl.2 (Or.inl q1)), uf⟩
      rw [if_pos (nI_lt q1 (by omega))]
    · by_cases q2 : mnt T R f L (T 1) = mnt T R z L (T 1)
      · by_cases q3 : fai T R z ≤ fai T R f
        · refine ⟨g, ?_, ⟨h1, h2, h3, h4, h5⟩, ⟨some z, k1 z rfl (fun e => by have := kl.1 e; omega), r2, r3⟩, Fm.rf _ _⟩
          rw [if_neg (nI_nlt (by omega) (by omega)), if_pos (by rw [q2]), if_pos (nI_le q3 (by omega))]
        · refine ⟨_, ?_, up3, ub (fun z' e => by cases e; exact kl.2 (Or.inr ⟨q2, by omega⟩)), uf⟩
          rw [if_neg (nI_nlt (by omega) (by omega)), if_pos (by rw [q2]), if_neg (nI_ge (by omega) (by omega))]
      · refine ⟨g, ?_, ⟨h1, h2, h3, h4, h5⟩, ⟨some z, k1 z rfl (fun e => by have := kl.1 e; omega), r2, r3⟩, Fm.rf _ _⟩
        rw [if_neg (nI_nlt (by omega) (by omega)), if_neg (z_ne (by omega) (by omega) q2)]
/-- if it is said that it can't be better, no way that begins so is -/
theorem to_can (hR : SW T R) (h0 : 0 < T 0) (hL : L ≤ 20) (hT : TW T) (h3 : g.1 3 0 = nI (T 0)) (h7 : g.1 74 7 = nI (AP T R (T 1))) (hf : vld T R f) (ht : t ≤ T 1) {w : Nat} (hw : w < T 0) (hB : BS T R L (pn T R f t * Wn T R t (T 1 - t)) g) : ∃ b, To_canBeBetter g (nI (mnt T R f L t)) (nI (pl T R f t w)) = some b ∧ (b = false → BS T R L ((pn T R f t + 1) * Wn T R t (T 1 - t)) g) := by
  have a1 := hT.1
  have hm := mnt_le (T := T) (R := R) hL f t
  have hpl := pl_le hT hR f ht w
  have hap := AP_le hT hR (Nat.le_refl (T 1))
  have hap2 : AP T R (T 1) / T 0 ≤ 203 := Nat.le_trans (Nat.div_le_self _ _) hap
  obtain ⟨A, hA⟩ : ∃ A, A = AP T R (T 1) / T 0 := ⟨_, rfl⟩
  rw [← hA] at hap2
  have hNN : pn T R f t * Wn T R t (T 1 - t) ≤ (pn T R f t + 1) * Wn T R t (T 1 - t) := Nat.mul_le_mul_right _ (by omega)
  obtain ⟨r, r1, r2, r3⟩ := hB
  rw [To_canBeBetter, h3, h7]
  cases r with
  | none =>
    refine ⟨true, ?_, fun e => by cases e⟩
    rw [(r2 rfl).1, if_pos (nI_lt (by omega) (by omega))]
  | some z =>
    obtain ⟨z1, z2, z3⟩ := r3 z rfl
    have hz := mnt_le (T := T) (R := R) hL z (T 1)
    have fz := fai_le hT hR z
    have ext : ∀ y, vld T R y → pn T R f t * Wn T R t (T 1 - t) ≤ pn T R y (T 1) → pn T R y (T 1) < (pn T R f t + 1) * Wn T R t (T 1 - t) → ∀ u, u < t → f u = y u := fun y hy q1 q2 => pn_inj hf hy t ht (pn_of hy h0 ht q1 q2).symm
    rw [z1, z2]
    by_cases q1 : mnt T R f L t < mnt T R z L (T 1)
    · exact ⟨true, by rw [if_pos (nI_lt q1 (by omega))], fun e => by cases e⟩
    · rw [if_neg (nI_nlt (by omega) (by omega))]
      by_cases q2 : mnt T R f L t = mnt T R z L (T 1)
      · have hd : nI (pl T R f t w) - nI (AP T R (T 1)) / nI (T 0) = zI ((pl T R f t w : Int) - (A : Int)) := by
          rw [z_div (by omega) h0 (by omega), ← hA, zI_n, zI_n, zI_sub]
        rw [if_pos (by rw [q2]), if_neg (by rw [zl0, z_le (by omega) (by omega)]; omega), if_pos (by rw [zl0, z_eq (by omega) (by omega)]; omega), hd, zI_n (fai T R z)]
        by_cases q3 : (fai T R z : Int) ≤ (pl T R f t w : Int) - (A : Int)
        · refine ⟨false, by rw [if_pos (by rw [zI_le (by omega) (by omega)]; exact q3)], fun _ => ⟨some z, FB_prune r1 hNN (fun y hy p1 p2 => ?_), r2, r3⟩⟩
          have e := ext y hy p1 p2
          have m1 := mnt_ge (R := R) (L := L) e ht
          have m2 := mi_avg hT h0 hy
          rw [← hA] at m2
          have m3 : pl T R f t w ≤ gr (pl T R y (T 1)) (T 0) := by
            have := gr_ge (f := pl T R y (T 1)) hw
            have := pl_mono (T := T) (R := R) y ht w
            rw [← pl_cg e w] at this
            omega
          unfold Ky
          unfold fai at q3 fz ⊢
          omega
        · exact ⟨true, by rw [if_neg (by rw [zI_le (by omega) (by omega)]; exact q3)], fun e => by cases e⟩
      · rw [if_neg (z_ne (by omega) (by omega) q2)]
        refine ⟨false, rfl, fun _ => ⟨some z, FB_prune r1 hNN (fun y hy p1 p2 => ?_), r2, r3⟩⟩
        have e := ext y hy p1 p2
        have m1 := mnt_ge (R := R) (L := L) e ht
        unfold Ky
        omega
theorem BS.fm {P : Nat → Nat → Prop} (h : BS T R L N g) (fr : Fm P g g') (h3 : ¬ P 74 3) (h4 : ¬ P 74 4) (h5 : ∀ k, ¬ P 75 k) : BS T R L N g' := by
  obtain ⟨r, r1, r2, r3⟩ := h
  refine ⟨r, r1, fun e => ?_, fun z e => ?_⟩
  · rw [fr.2 _ _ h3, fr.2 _ _ h4]; exact r2 e
  · rw [fr.2 _ _ h3, fr.2 _ _ h4]
    obtain ⟨z1, z2, z3⟩ := r3 z e
    exact ⟨z1, z2, fun t ht => by rw [fr.2 _ _ (h5 t)]; exact z3 t ht⟩
theorem PS.cg (h : PS T R f L t g) (e : ∀ u, u < t → f u = y u) : ∀ w, w < T 0 → g.1 76 w = nI (pl T R y t w) := fun w hw => by rw [← pl_cg e w]; exact h.2.2.2.2 w hw
theorem pn_cg (e : ∀ u, u < t → f u = y u) : pn T R f t = pn T R y t := by
  induction t with
  | zero => rfl
  | succ t ih => rw [pn_s, pn_s, ih (fun u hu => e u (by omega)), stp, stp, e t (by omega)]
theorem mnt_cg (e : ∀ u, u < t → f u = y u) : mnt T R f L t = mnt T R y L t := by
  have : pl T R f t = pl T R y t := funext (fun w => pl_cg e w)
  unfold mnt
  rw [this]
theorem Wn_1 (T R : Nat → Nat) (t j : Nat) : Wn T R t (j + 1) = fc T R t * Wn T R (t + 1) j := by
  have := Wn_split (T := T) (R := R) t 1 j
  rw [show 1 + j = j + 1 by omega] at this
  rw [this]
  simp [Wn]
theorem to_place (hR : SW T R) (h0 : 0 < T 0) (hL : L ≤ 20) : ∀ j t n g f, t + j = T 1 → j < n → PS T R f L t g → BS T R L (pn T R f t * Wn T R t j) g → ∃ g' f', To_place n g (nI t) (nI (mnt T R f L t)) = some g' ∧ (∀ u, u < t → f u = f' u) ∧ PS T R f' L t g' ∧ BS T R L ((pn T R f t + 1) * Wn T R t j) g' ∧ Fm pT g g' := by
  intro j
  induction j with
  | zero =>
    intro t n g f ht hn hP hB
    have et : t = T 1 := by omega
    subst et
    have hb := hP.1.bb
    simp only [Wn, Nat.mul_one] at hB ⊢
    cases n with
    | zero => omega
    | succ n =>
      obtain ⟨g1, e1, k1, k2, k3⟩ := to_judge hR h0 hL hP hB
      refine ⟨g1, f, ?_, fun u _ => rfl, k1, k2, k3⟩
      rw [To_place, hP.1.n.2.1, if_pos (nI_le (Nat.le_refl _) (by omega)), e1]; rfl
  | succ j ih =>
    intro t n g f ht hn hP hB
    have hb := hP.1.bb
    have hT := hP.1.1
    have htt : t < T 1 := by omega
    have hv := hP.2.1 t htt
    cases n with
    | zero => omega
    | succ n =>
      have head : To_place (n + 1) g (nI t) (nI (mnt T R f L t)) = (if decide (f t ≠ 9) = true then (Ca_weight g 77 (nI t)).bind fun q8 => (To_place_L55 am_fuel (To_place n) g (nI t) (nI (mnt T R f L t)) q8 0).bind fun q21 => some q21 else (To_place n g (nI t + 1) (nI (mnt T R f L t))).bind fun q22 => some q22) := by
        rw [To_place, hP.1.n.2.1, if_neg (nI_ge htt (by omega)), if_pos (show nI t < 7 by rw [zl7]; exact nI_lt (by omega) (by omega)), ca_isCarried hP.1 htt, wf_at (by omega)]; rfl
      rw [head]
      by_cases q : R (8 + t) = 9
      · have ft : f t = 9 := hv.1 q
        have epl : ∀ w, w < T 0 → pl T R f (t + 1) w = pl T R f t w := fun w hw => by unfold pl; rw [sm_s, if_neg (by omega), Nat.add_zero]
        have emn : mnt T R f L (t + 1) = mnt T R f L t := by
          unfold mnt
          exact gr_cg (fun w hw => by rw [epl w hw])
        have epn : pn T R f (t + 1) = pn T R f t := by rw [pn_s, stp, if_pos q]
        have eW : Wn T R t (j + 1) = Wn T R (t + 1) j := by rw [Wn_1, fc, if_pos q, Nat.one_mul]
        have hP' : PS T R f L (t + 1) g := ⟨hP.1, hP.2.1, hP.2.2.1, hP.2.2.2.1, fun w hw => by rw [epl w hw]; exact hP.2.2.2.2 w hw⟩
        rw [eW] at hB ⊢
        rw [← epn] at hB
        obtain ⟨g1, f1, c1, c2, c3, c4, c5⟩ := ih (t + 1) n g f (by omega) (by omega) hP' hB
        rw [epn] at c4
        rw [emn] at c1
        refine ⟨g1, f1, ?_, fun u hu => c2 u (by omega), ⟨c3.1, c3.2.1, c3.2.2.1, c3.2.2.2.1, fun w hw => ?_⟩, c4, c5⟩
        · rw [if_neg (by simp [ft]), nI_1, c1]; rfl
        · rw [c3.2.2.2.2 w hw]
          have : f1 t = 9 := (c3.2.1 t htt).1 q
          unfold pl
          rw [sm_s, if_neg (by omega), Nat.add_zero]
      · have ft : f t < T 0 := hv.2 q
        have eW : Wn T R t (j + 1) = T 0 * Wn T R (t + 1) j := by rw [Wn_1, fc, if_neg q]
        have hwt := wgh_le hT hR htt
        have hst : ∀ w, pn T R f t * (T 0 * Wn T R (t + 1) j) + w * Wn T R (t + 1) j = (pn T R f t * T 0 + w) * Wn T R (t + 1) j := fun w => by rw [Nat.add_mul, Nat.mul_assoc]
        have hmn := mnt_le (T := T) (R := R) hL f t
        obtain ⟨r, e1, ⟨f', e2, e3⟩, e4, e5⟩ := lp_up (fun n' (a : am_G) w => To_place_L55 n' (To_place n) a (nI t) (nI (mnt T R f L t)) (nI (wgh T R t)) (nI w)) (T 0)
          (fun w a => (∃ f', (∀ u, u < t → f u = f' u) ∧ PS T R f' L t a) ∧ BS T R L ((pn T R f t * T 0 + w) * Wn T R (t + 1) j) a ∧ Fm pT g a)
          (fun a => (∃ f', (∀ u, u < t → f u = f' u) ∧ PS T R f' L t a) ∧ BS T R L ((pn T R f t * T 0 + T 0) * Wn T R (t + 1) j) a ∧ Fm pT g a)
          (fun n' a ha => by
            obtain ⟨⟨f', a1, a2⟩, a3⟩ := id ha
            exact ⟨a, by rw [To_place_L55]; simp (disch := omega) only [a2.1.n, z_lt, z_le, z_eq, z_in, z_cl, z_add, z_mul, z_mx, z_mn, zl12, zl18, zl19, zl30, zl115, zl116, zl119, zl291, zl640, zl999, zl9999, zl0, zl1, zl2, zl3, zl4, zl5, zl6, zl7, zl8, zl9, zl10, zl15, zl20, zl22, zl26, zl29, zl32, zl33, zl40, zl47, zl48, zl55, zl57, zl59, zl60, zl63, zl71, zl97, zl99, zl100, zl122, zl200, zl255, zl320, zl1000, zl1024, zl5040, zl1000000000, Nat.le_refl, ↓reduceIte], ha⟩)
          (fun n' w a hw ha => by
            obtain ⟨⟨f', a1, a2⟩, a3, a4⟩ := ha
            have epw := a2.cg (y := f) (fun u hu => (a1 u hu).symm) w hw
            have hpl := pl_le hT hR f (show t ≤ T 1 by omega) w
            have hc := a2.1.wrW (by omega) htt (v := w) (Or.inl hw)
            rw [wf_up (by omega)] at hc
            have fr : Fm (fun a _ => a = 76 ∨ a = 78) a (am_wr (am_wr a (77 + 1) t (nI w)) 76 w (nI (pl T R f t w + wgh T R t))) := ((Fm.rf _ _).wr (Or.inr rfl)).wr (Or.inl rfl)
            have hv1 : vld T R (up f' t w) := by
              intro u hu
              by_cases e : u = t
              · subst e; rw [up_eq]; exact ⟨fun e => absurd e q, fun _ => hw⟩
              · rw [up_ne e]; exact a2.2.1 u hu
            have hP1 : PS T R (up f' t w) L (t + 1) (am_wr (am_wr a (77 + 1) t (nI w)) 76 w (nI (pl T R f t w + wgh T R t))) := by
              refine ⟨hc.fm (P := fun a _ => a = 76) ((Fm.rf _ _).wr rfl) (fun a k q1 q2 q => by omega) (fun a k q1 q2 q => by omega), hv1, ?_, ?_, fun w' hw' => ?_⟩
              · rw [fr.2 _ _ (by omega)]; exact a2.2.2.1
              · rw [fr.2 _ _ (by omega)]; exact a2.2.2.2.1
              · rw [pl_up a1]
                by_cases e : w' = w
                · subst e; rw [m_eq, if_pos rfl]
                · rw [m_nk e, m_na (by omega), if_neg (by omega), Nat.add_zero]
                  exact a2.cg (y := f) (fun u hu => (a1 u hu).symm) w' hw'
            have epn : pn T R (up f' t w) (t + 1) = pn T R f t * T 0 + w := by
              rw [pn_s, stp, if_neg q, up_eq, pn_cg (y := f) (fun u hu => by rw [up_ne (by omega), a1 u hu])]
            have hB1 : BS T R L (pn T R (up f' t w) (t + 1) * Wn T R (t + 1) j) (am_wr (am_wr a (77 + 1) t (nI w)) 76 w (nI (pl T R f t w + wgh T R t))) := by
              rw [epn]
              exact a3.fm fr (by omega) (by omega) (fun k => by omega)
            have emn := mnt_up (R := R) (L := L) a1 hw
            have epl1 : pl T R (up f' t w) (t + 1) w = pl T R f t w + wgh T R t := by rw [pl_up a1, if_pos rfl]
            have emf := ca_minutesFor hP1.1 hw (l := pl T R f t w + wgh T R t) (L := L) (by omega) hL
            have epac : pac T (wf R (up f' t w)) w (pl T R f t w + wgh T R t) = pac T R w (pl T R f t w + wgh T R t) := by unfold pac; rw [wf_ne (by omega)]
            rw [epac] at emf
            have htk := tks_le hL (pac_le T R w (pl T R f t w + wgh T R t)).1
            obtain ⟨bb, b1, b2⟩ := to_can (g := am_wr (am_wr a (77 + 1) t (nI w)) 76 w (nI (pl T R f t w + wgh T R t))) hR h0 hL hT hP1.1.n.1 hP1.2.2.2.1 hv1 (show t + 1 ≤ T 1 by omega) hw (by rw [show T 1 - (t + 1) = j by omega]; exact hB1)
            rw [show T 1 - (t + 1) = j by omega] at b2
            rw [emn, epl1] at b1
            obtain ⟨g2, f2, d1, d2, d3, d4, d5⟩ : ∃ g2 f2, (if bb = true then (To_place n (am_wr (am_wr a (77 + 1) t (nI w)) 76 w (nI (pl T R f t w + wgh T R t))) (nI t + 1) (nI (max (mnt T R f L t) (tks L (pac T R w (pl T R f t w + wgh T R t)))))).bind fun q18 => some q18 else some (am_wr (am_wr a (77 + 1) t (nI w)) 76 w (nI (pl T R f t w + wgh T R t)))) = some g2 ∧ (∀ u, u < t + 1 → up f' t w u = f2 u) ∧ PS T R f2 L (t + 1) g2 ∧ BS T R L ((pn T R (up f' t w) (t + 1) + 1) * Wn T R (t + 1) j) g2 ∧ Fm pT g g2 := by
              have f0 : Fm pT g (am_wr (am_wr a (77 + 1) t (nI w)) 76 w (nI (pl T R f t w + wgh T R t))) := a4.tr (fr.mo (fun a k q => by unfold pT; omega))
              cases bb with
              | true =>
                obtain ⟨g2, f2, c1, c2, c3, c4, c5⟩ := ih (t + 1) n _ _ (by omega) (by omega) hP1 hB1
                rw [emn] at c1
                exact ⟨g2, f2, by rw [if_pos rfl, nI_1, c1]; rfl, c2, c3, c4, f0.tr c5⟩
              | false => exact ⟨_, up f' t w, by rw [if_neg (by simp)], fun u _ => rfl, hP1, b2 rfl, f0⟩
            have f2t : f2 t = w := by rw [← d2 t (by omega), up_eq]
            have f2u : ∀ u, u < t → f u = f2 u := fun u hu => by rw [← d2 u (by omega), up_ne (by omega), a1 u hu]
            have epl2 : ∀ w', pl T R f2 (t + 1) w' = pl T R f t w' + (if w = w' then wgh T R t else 0) := fun w' => by
              have e := pl_cg (T := T) (R := R) (f := up f' t w) (y := f2) d2 w'
              rw [← e, pl_up a1]
            refine ⟨am_wr g2 76 w (nI (pl T R f t w)), ?_, ⟨f2, f2u, ⟨d3.1.fm (P := fun a _ => a = 76) ((Fm.rf _ _).wr rfl) (fun a k q1 q2 q => by omega) (fun a k q1 q2 q => by omega), d3.2.1, by rw [m_na (by omega)]; exact d3.2.2.1, by rw [m_na (by omega)]; exact d3.2.2.2.1, fun w' hw' => ?_⟩⟩, ?_, d5.wr (by unfold pT; omega)⟩
            · show To_place_L55 (n' + 1) (To_place n) a (nI t) (nI (mnt T R f L t)) (nI (wgh T R t)) (nI w) = _
              have e76 : (am_wr a (77 + 1) t (nI w)).1 76 w = nI (pl T R f t w) := by rw [m_na (by omega)]; exact epw
              have e74 : (am_wr (am_wr a (77 + 1) t (nI w)) 76 w (nI (pl T R f t w + wgh T R t))).1 74 2 = nI L := hP1.2.2.1
              rw [To_place_L55, a2.1.n.1, if_neg (nI_ge hw (by omega)), if_pos (z_in (by omega) (by omega)), if_pos (z_in (by omega) (by omega)), z_cl (show t < 2 ^ 31 by omega), z_cl (show w < 2 ^ 31 by omega), e76, z_add, m_eq, e74, emf, Option.bind_some, z_mx (by omega) (by omega), b1, Option.bind_some, d1, Option.bind_some, d3.2.2.2.2 w hw, epl2, if_pos rfl, z_sub (by omega), Nat.add_sub_cancel, nI_1]
            · have e76 := d3.2.2.2.2 w' hw'
              rw [epl2] at e76
              rw [← pl_cg f2u w']
              by_cases e : w' = w
              · subst e; rw [m_eq]
              · rw [m_nk e, e76, if_neg (by omega), Nat.add_zero]
            · rw [epn] at d4
              rw [show pn T R f t * T 0 + (w + 1) = pn T R f t * T 0 + w + 1 by omega]
              exact d4.fm (P := fun a _ => a = 76) ((Fm.rf _ _).wr rfl) (by omega) (by omega) (fun k => by omega))
          am_fuel 0 g (by omega) (z_fuel (by omega)) ⟨⟨f, fun u _ => rfl, hP⟩, by rw [Nat.add_zero, Nat.mul_assoc, ← eW]; exact hB, Fm.rf _ _⟩
        refine ⟨r, f', ?_, e2, e3, ?_, e5⟩
        · rw [if_pos (decide_eq_true (show f t ≠ 9 by omega)), ca_weight hP.1 htt, Option.bind_some, wf_wgh (by omega), show To_place_L55 am_fuel (To_place n) g (nI t) (nI (mnt T R f L t)) (nI (wgh T R t)) 0 = some r from e1]; rfl
        · rw [eW, ← Nat.mul_assoc, Nat.add_mul, Nat.one_mul]; exact e4
end
