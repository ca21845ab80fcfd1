-- EAT, the reference
section
variable {T S r U o : Nat → Nat} {g g' : am_G} {N k c : Nat}
theorem fdb_n (hT : TW T) {t : Nat} (ht : t < T 1) : bn (fdb T t) = T (26 + t) := by
  have := (hT.2.2.2.2.1 t ht).2.2.1
  unfold fdb
  by_cases q : T (26 + t) = 1
  · simp [ht, q, bn]
  · have : T (26 + t) = 0 := by omega
    simp [this, bn]
theorem mo_foods (h : RI T g S) (y : Int32) : Mo_eat_L15 am_fuel g y 0 0 = some (nI (nf T)) := by
  have hb := h.bb
  obtain ⟨b, h1, h2⟩ := lp_up (fun n (a : Int32) k => Mo_eat_L15 n g y a (nI k)) (T 1) (fun k a => a = nI (sm (fun t => bn (fdb T t)) k)) (fun a => a = nI (nf T))
    (fun n a ha => ⟨a, by rw [Mo_eat_L15]; simp (disch := omega) only [h.u, z_lt, z_le, z_eq, z_in, z_cl, z_add, z_mul, z_mx, z_mn, zl12, zl18, zl19, zl30, zl115, zl116, zl119, zl291, zl640, zl999, zl9999, zl0, zl1, zl2, zl3, zl4, zl5, zl6, zl7, zl8, zl9, zl10, zl15, zl20, zl22, zl26, zl29, zl32, zl33, zl40, zl47, zl48, zl55, zl57, zl59, zl60, zl63, zl71, zl97, zl99, zl100, zl122, zl200, zl255, zl320, zl1000, zl1024, zl5040, zl1000000000, Nat.le_refl, ↓reduceIte], ha⟩)
    (fun n k a hk ha => by
      have h6 : ¬ T 1 ≤ k := by omega
      refine ⟨_, ?_, rfl⟩
      rw [Mo_eat_L15, ha, sm_s, fdb_n h.1 hk]
      simp (disch := omega) only [h.u, h6, z_lt, z_le, z_eq, z_in, z_cl, z_add, z_mul, z_mx, z_mn, zl12, zl18, zl19, zl30, zl115, zl116, zl119, zl291, zl640, zl999, zl9999, zl0, zl1, zl2, zl3, zl4, zl5, zl6, zl7, zl8, zl9, zl10, zl15, zl20, zl22, zl26, zl29, zl32, zl33, zl40, zl47, zl48, zl55, zl57, zl59, zl60, zl63, zl71, zl97, zl99, zl100, zl122, zl200, zl255, zl320, zl1000, zl1024, zl5040, zl1000000000, Option.bind_some, Option.bind_none, ↓reduceIte, Bool.false_eq_true, reduceCtorEq])
    am_fuel 0 0 (by omega) (z_fuel (by omega)) rfl
  exact h1.trans (by rw [h2])
theorem mo_codes (g : am_G) (y : Int32) {n : Nat} (hn : n ≤ 7) : Mo_eat_L48 am_fuel g y (nI n) 1 1 = some (nI (fct n)) := by
  obtain ⟨b, h1, h2⟩ := lp_up (fun m (a : Int32) k => Mo_eat_L48 m g y (nI n) a (nI (k + 1))) n (fun k a => a = nI (fct k)) (fun a => a = nI (fct n))
    (fun m a ha => ⟨a, by rw [Mo_eat_L48, if_pos (nI_lt (by omega) (by omega))], ha⟩)
    (fun m k a hk ha => by
      refine ⟨_, ?_, rfl⟩
      rw [Mo_eat_L48, if_neg (nI_nlt (by omega) (by omega)), ha, z_mul, nI_1, fct, Nat.mul_comm])
    am_fuel 0 1 (by omega) (z_fuel (by omega)) rfl
  exact h1.trans (by rw [h2])
/-- the sk-th food that isn't used -/
theorem mo_pick (h : RI T g S) {um sk : Nat} (hum : um < 128) (hbits : ∀ t, t < 7 → (um / 2 ^ t % 2 = 1 ↔ nin r k t = false)) (hsk : sk < sm (ub T r k) (T 1)) (y1 y2 y3 y4 y5 y6 : Int32) : ∃ t, t < T 1 ∧ fdb T t = true ∧ nin r k t = true ∧ sm (ub T r k) t = sk ∧ Mo_ordered_L47 am_fuel g y1 y2 y3 (nI um) y5 y6 (nI sk) 0 = some (nI t) := by
  have hb := h.bb
  obtain ⟨b, e1, t, e2, e3, e4, e5, e6⟩ := lp_ex (fun n (a : Int32) k' => Mo_ordered_L47 n g y1 y2 y3 (nI um) y5 y6 a (nI k')) (T 1)
    (fun k' a => sm (ub T r k) k' ≤ sk ∧ a = nI (sk - sm (ub T r k) k'))
    (fun b => ∃ t, t < T 1 ∧ fdb T t = true ∧ nin r k t = true ∧ sm (ub T r k) t = sk ∧ b = nI t)
    (fun n a ha => by have := ha.1; omega)
    (fun n k' a hk ha => by
      obtain ⟨a1, a2⟩ := ha
      have hfd := h.tb hk
      have hbt := hbits k' (by omega)
      have hsb : sk ≤ 7 := by
        have := sm_le (n := T 1) (f := ub T r k) (c := 1) (fun i _ => by unfold ub; cases (fdb T i && nin r k i) <;> decide)
        omega
      by_cases q : T (26 + k') = 1
      · have fk : fdb T k' = true := by unfold fdb; simp [hk, q]
        by_cases q2 : um / 2 ^ k' % 2 = 1
        · have eu : sm (ub T r k) (k' + 1) = sm (ub T r k) k' := by rw [sm_s, ub, hbt.1 q2, Bool.and_false]; rfl
          refine Or.inl ⟨a, ?_, by rw [eu]; exact a1, by rw [eu]; exact a2⟩
          rw [Mo_ordered_L47, a2]
          simp (disch := omega) only [h.u, b_get, z_lt, z_le, z_eq, z_in, z_cl, z_add, z_mul, z_mx, z_mn, zl12, zl18, zl19, zl30, zl115, zl116, zl119, zl291, zl640, zl999, zl9999, zl0, zl1, zl2, zl3, zl4, zl5, zl6, zl7, zl8, zl9, zl10, zl15, zl20, zl22, zl26, zl29, zl32, zl33, zl40, zl47, zl48, zl55, zl57, zl59, zl60, zl63, zl71, zl97, zl99, zl100, zl122, zl200, zl255, zl320, zl1000, zl1024, zl5040, zl1000000000, z_sub, q, q2, Option.bind_some, Option.bind_none, ↓reduceIte, Bool.false_eq_true, reduceCtorEq, Nat.one_ne_zero, Nat.sub_zero]
        · have q2' : um / 2 ^ k' % 2 = 0 := by omega
          have nk : nin r k k' = true := by
            cases e : nin r k k' with
            | true => rfl
            | false => exact absurd (hbt.2 e) q2
          have eu : sm (ub T r k) (k' + 1) = sm (ub T r k) k' + 1 := by rw [sm_s, ub, fk, nk]; rfl
          by_cases q3 : sm (ub T r k) k' = sk
          · right
            refine ⟨nI k', ?_, k', hk, fk, nk, q3, rfl⟩
            have q4 : sk - sm (ub T r k) k' ≤ 0 := by omega
            rw [Mo_ordered_L47, a2]
            simp (disch := omega) only [h.u, b_get, z_lt, z_le, z_eq, z_in, z_cl, z_add, z_mul, z_mx, z_mn, zl12, zl18, zl19, zl30, zl115, zl116, zl119, zl291, zl640, zl999, zl9999, zl0, zl1, zl2, zl3, zl4, zl5, zl6, zl7, zl8, zl9, zl10, zl15, zl20, zl22, zl26, zl29, zl32, zl33, zl40, zl47, zl48, zl55, zl57, zl59, zl60, zl63, zl71, zl97, zl99, zl100, zl122, zl200, zl255, zl320, zl1000, zl1024, zl5040, zl1000000000, z_sub, q, q2, q4, Option.bind_some, Option.bind_none, ↓reduceIte, Bool.false_eq_true, reduceCtorEq, Nat.one_ne_zero]
          · refine Or.inl ⟨nI (sk - sm (ub T r k) (k' + 1)), ?_, by omega, rfl⟩
            have q4 : ¬ sk - sm (ub T r k) k' ≤ 0 := by omega
            rw [Mo_ordered_L47, a2, eu, show sk - (sm (ub T r k) k' + 1) = sk - sm (ub T r k) k' - 1 by omega]
            simp (disch := omega) only [h.u, b_get, z_lt, z_le, z_eq, z_in, z_cl, z_add, z_mul, z_mx, z_mn, zl12, zl18, zl19, zl30, zl115, zl116, zl119, zl291, zl640, zl999, zl9999, zl0, zl1, zl2, zl3, zl4, zl5, zl6, zl7, zl8, zl9, zl10, zl15, zl20, zl22, zl26, zl29, zl32, zl33, zl40, zl47, zl48, zl55, zl57, zl59, zl60, zl63, zl71, zl97, zl99, zl100, zl122, zl200, zl255, zl320, zl1000, zl1024, zl5040, zl1000000000, z_sub, q, q2, q2', q4, Option.bind_some, Option.bind_none, ↓reduceIte, Bool.false_eq_true, reduceCtorEq, Nat.one_ne_zero, Nat.zero_ne_one]
      · have q0 : T (26 + k') = 0 := by omega
        have fk : fdb T k' = false := by unfold fdb; simp [q]
        have eu : sm (ub T r k) (k' + 1) = sm (ub T r k) k' := by rw [sm_s, ub, fk, Bool.false_and]; rfl
        refine Or.inl ⟨a, ?_, by rw [eu]; exact a1, by rw [eu]; exact a2⟩
        rw [Mo_ordered_L47, a2]
        simp (disch := omega) only [h.u, b_get, z_lt, z_le, z_eq, z_in, z_cl, z_add, z_mul, z_mx, z_mn, zl12, zl18, zl19, zl30, zl115, zl116, zl119, zl291, zl640, zl999, zl9999, zl0, zl1, zl2, zl3, zl4, zl5, zl6, zl7, zl8, zl9, zl10, zl15, zl20, zl22, zl26, zl29, zl32, zl33, zl40, zl47, zl48, zl55, zl57, zl59, zl60, zl63, zl71, zl97, zl99, zl100, zl122, zl200, zl255, zl320, zl1000, zl1024, zl5040, zl1000000000, z_sub, q0, Option.bind_some, Option.bind_none, ↓reduceIte, Bool.false_eq_true, reduceCtorEq, Nat.zero_ne_one, Nat.sub_zero])
    am_fuel 0 (nI sk) (by omega) (z_fuel (by omega)) ⟨Nat.zero_le _, by rw [sm_0, Nat.sub_zero]⟩
  exact ⟨t, e2, e3, e4, e5, by rw [← e6]; exact e1⟩
theorem mo_head (h : RI T g S) (hc : c < fct (nf T)) : ∃ (g' : am_G) (r : Nat → Nat) (um x4 x5 : Nat), Mo_ordered_L15 am_fuel g (nI (nf T)) (nI c) (nI (fct (nf T))) 0 0 0 = some (g', nI um, nI (rcd r (nf T))) ∧ x4 = x5 + 0 ∧ um < 128 ∧ (∀ t, t < 7 → (um / 2 ^ t % 2 = 1 ↔ nin r (nf T) t = false)) ∧ PR T r (nf T) ∧ cn T r (nf T) = c ∧ (∀ i, i < nf T → g'.1 229 i = nI (r i)) ∧ Fm (fun a _ => a = 229) g g' := by
  have hb := h.bb
  have hn := nf_le h.1
  have hf := fct_le hn
  obtain ⟨b, e1, r, um, e2, e3, e4, e5, e6, e7, e8⟩ := lp_up (fun n (a : am_G × Int32 × Int32 × Int32 × Int32) k => Mo_ordered_L15 n a.1 (nI (nf T)) a.2.1 a.2.2.1 a.2.2.2.1 a.2.2.2.2 (nI k)) (nf T)
    (fun k a => ∃ r um l, a.2.1 = nI l ∧ a.2.2.1 = nI (fct (nf T - k)) ∧ a.2.2.2.1 = nI um ∧ a.2.2.2.2 = nI (rcd r k) ∧ um < 128 ∧ (∀ t, t < 7 → (um / 2 ^ t % 2 = 1 ↔ nin r k t = false)) ∧ PR T r k ∧ cn T r k * fct (nf T - k) + l = c ∧ l < fct (nf T - k) ∧ (∀ i, i < k → a.1.1 229 i = nI (r i)) ∧ Fm (fun a _ => a = 229) g a.1)
    (fun b => ∃ r um, b.2 = (nI um, nI (rcd r (nf T))) ∧ um < 128 ∧ (∀ t, t < 7 → (um / 2 ^ t % 2 = 1 ↔ nin r (nf T) t = false)) ∧ PR T r (nf T) ∧ cn T r (nf T) = c ∧ (∀ i, i < nf T → b.1.1 229 i = nI (r i)) ∧ Fm (fun a _ => a = 229) g b.1)
    (fun n a ha => by
      obtain ⟨r, um, l, a1, a2, a3, a4, a5, a6, a7, a8, a9, a10, a11⟩ := ha
      rw [Nat.sub_self] at a8 a9
      refine ⟨(a.1, a.2.2.2.1, a.2.2.2.2), by rw [Mo_ordered_L15, if_pos (nI_le (Nat.le_refl _) (by omega))], r, um, by rw [a3, a4], a5, a6, a7, ?_, a10, a11⟩
      simp only [fct, Nat.mul_one] at a8 a9
      omega)
    (fun n k a hk ha => by
      obtain ⟨r, um, l, a1, a2, a3, a4, a5, a6, a7, a8, a9, a10, a11⟩ := ha
      have r1 : RI T a.1 S := h.fm a11 (fun k q => absurd (show (223 : Nat) = 229 from q) (by decide)) (fun k _ q => absurd (show (225 : Nat) = 229 from q) (by decide))
      have hfk := fct_le (show nf T - k ≤ 7 by omega)
      have hfk1 := fct_le (show nf T - (k + 1) ≤ 7 by omega)
      have ef : fct (nf T - k) = (nf T - k) * fct (nf T - (k + 1)) := by
        rw [show nf T - k = (nf T - (k + 1)) + 1 by omega, fct]
      have ediv : fct (nf T - k) / (nf T - k) = fct (nf T - (k + 1)) := by rw [ef, Nat.mul_div_cancel_left _ (by omega)]
      have hsk : l / fct (nf T - (k + 1)) < nf T - k := Nat.div_lt_of_lt_mul (by rw [Nat.mul_comm, ← ef]; exact a9)
      have hU := U_n a7 (Nat.le_refl k)
      obtain ⟨t, t1, t2, t3, t4, t5⟩ := mo_pick r1 a5 a6 (sk := l / fct (nf T - (k + 1))) (by omega) (nI (nf T)) (nI (l % fct (nf T - (k + 1)))) (nI (fct (nf T - (k + 1)))) 0 a.2.2.2.2 (nI k)
      have hl2 : l < 2 ^ 31 := by omega
      have ag : ∀ u, u < k → r u = up r k t u := fun u hu => (up_ne (by omega)).symm
      refine ⟨(am_wr a.1 229 k (nI t), nI (l % fct (nf T - (k + 1))), nI (fct (nf T - (k + 1))), nI (um ||| 2 ^ t), nI (rcd (up r k t) (k + 1))), ?_, up r k t, um ||| 2 ^ t, l % fct (nf T - (k + 1)), rfl, rfl, rfl, rfl, b_or a5 (by omega), fun u hu => ?_, fun u hu => ?_, ?_, Nat.mod_lt _ hfk1.2, fun u hu => ?_, a11.wr rfl⟩
      · show Mo_ordered_L15 (n + 1) a.1 (nI (nf T)) a.2.1 a.2.2.1 a.2.2.2.1 a.2.2.2.2 (nI k) = _
        have z1 : nI (nf T) - nI k = nI (nf T - k) := z_sub (by omega)
        have z2 : nI (fct (nf T - k)) / nI (nf T - k) = nI (fct (nf T - (k + 1))) := by rw [z_div (by omega) (by omega) (by omega), ediv]
        have z3 : nI l / nI (fct (nf T - (k + 1))) = nI (l / fct (nf T - (k + 1))) := z_div hl2 hfk1.2 (by omega)
        have z4 : nI l - nI l / nI (fct (nf T - (k + 1))) * nI (fct (nf T - (k + 1))) = nI (l % fct (nf T - (k + 1))) := z_rem hl2 hfk1.2 (by omega)
        rw [Mo_ordered_L15, if_neg (nI_ge hk (by omega)), a1, a2, z1, z2, if_pos (by rw [zl0, z_eq (by omega) (by omega)]; omega), if_pos (by rw [zl0, z_eq (by omega) (by omega)]; omega), z4, z3, a3, t5, Option.bind_some, if_pos (z_in (by omega) (by omega)), z_cl (by omega), zl1, b_sh t (by omega), b_set a5 (by omega), a4, zl10, z_mul, z_add, z_add, z_add, rcd, up_eq, rcd_cg ag]
      · rw [b_bit a5 (by omega) hu, nin]
        by_cases e : u = t
        · subst e
          rw [if_pos rfl, up_eq]
          simp
        · rw [if_neg e, up_eq, a6 u hu, nin_cg ag]
          simp [Ne.symm e]
      · by_cases e : u = k
        · subst e
          rw [up_eq, ← nin_cg ag]
          exact ⟨t2, t3⟩
        · have := a7 u (by omega)
          rw [up_ne e, ← nin_cg (fun v hv => ag v (by omega))]
          exact this
      · rw [cn, dg, up_eq, ← ub_cg ag, t4, ← cn_cg ag]
        have d := Nat.div_add_mod l (fct (nf T - (k + 1)))
        rw [Nat.add_mul, Nat.mul_assoc, ← ef]
        rw [Nat.mul_comm] at d
        omega
      · by_cases e : u = k
        · subst e; rw [m_eq, up_eq]
        · rw [m_nk e, up_ne e]; exact a10 u (by omega))
    am_fuel 0 (g, nI c, nI (fct (nf T)), 0, 0) (by omega) (z_fuel (by omega)) ⟨fun _ => 0, 0, c, rfl, rfl, rfl, rfl, by omega, fun t _ => by simp [nin], fun i hi => absurd hi (Nat.not_lt_zero _), by rw [cn, Nat.zero_mul, Nat.zero_add], hc, fun i hi => absurd hi (Nat.not_lt_zero _), Fm.rf _ _⟩
  exact ⟨b.1, r, um, 0, 0, by rw [show (nI um, nI (rcd r (nf T))) = b.2 from e2.symm]; exact e1, rfl, e3, e4, e5, e6, e7, e8⟩
def nfd (T : Nat → Nat) (m : Nat) : Nat := sm (fun t => bn (!fdb T t)) m
theorem nfd_s (T : Nat → Nat) (m : Nat) : sm (fun t => bn (fdb T t)) m + nfd T m = m := by
  unfold nfd
  induction m with
  | zero => rfl
  | succ m ih =>
    rw [sm_s, sm_s]
    have hb : ∀ b : Bool, bn b + bn (!b) = 1 := fun b => by cases b <;> rfl
    have := hb (fdb T m)
    omega
theorem nfd_hi (T : Nat → Nat) {m : Nat} (h : T 1 ≤ m) : sm (fun t => bn (fdb T t)) m = nf T := by
  induction m with
  | zero => have : T 1 = 0 := by omega
            unfold nf; rw [this]
  | succ m ih =>
    by_cases e : T 1 = m + 1
    · unfold nf; rw [e]
    · rw [sm_s, ih (by omega)]
      have : fdb T m = false := by unfold fdb; simp [show ¬ m < T 1 by omega]
      rw [this]; rfl
theorem mo_rest2 (hT : TW T) {um : Nat} (hum : um < 128) (hbits : ∀ t, t < 7 → (um / 2 ^ t % 2 = 1 ↔ fdb T t = true)) (y : Int32) : ∃ g', Mo_ordered_L158 am_fuel g (nI um) y (nI (nf T)) 0 = some g' ∧ (∀ i, nf T ≤ i → i < T 1 → ∃ t, g'.1 229 i = nI t ∧ t < T 1 ∧ fdb T t = false) ∧ (∀ i, i < nf T → g'.1 229 i = g.1 229 i) ∧ Fm (fun a _ => a = 229) g g' := by
  have a2 := hT.2.1
  have hn := nf_le hT
  have n7 := nfd_s T 7
  rw [nfd_hi T (show T 1 ≤ 7 from a2)] at n7
  have nT := nfd_s T (T 1)
  rw [nfd_hi T (Nat.le_refl _)] at nT
  have hmono : ∀ {x y : Nat}, x ≤ y → nfd T x ≤ nfd T y := fun h => sm_mono _ h
  obtain ⟨b, e1, e2⟩ := lp_up (fun n (a : am_G × Int32) k => Mo_ordered_L158 n a.1 (nI um) y a.2 (nI k)) 7
    (fun k a => a.2 = nI (nf T + nfd T k) ∧ (∀ i, nf T ≤ i → i < T 1 → i < nf T + nfd T k → ∃ t, a.1.1 229 i = nI t ∧ t < T 1 ∧ fdb T t = false) ∧ (∀ i, i < nf T → a.1.1 229 i = g.1 229 i) ∧ Fm (fun a _ => a = 229) g a.1)
    (fun b => (∀ i, nf T ≤ i → i < T 1 → ∃ t, b.1 229 i = nI t ∧ t < T 1 ∧ fdb T t = false) ∧ (∀ i, i < nf T → b.1 229 i = g.1 229 i) ∧ Fm (fun a _ => a = 229) g b)
    (fun n a ha => ⟨a.1, by rw [Mo_ordered_L158]; simp (disch := omega) only [z_lt, z_le, z_eq, z_in, z_cl, z_add, z_mul, z_mx, z_mn, zl12, zl18, zl19, zl30, zl115, zl116, zl119, zl291, zl640, zl999, zl9999, zl0, zl1, zl2, zl3, zl4, zl5, zl6, zl7, zl8, zl9, zl10, zl15, zl20, zl22, zl26, zl29, zl32, zl33, zl40, zl47, zl48, zl55, zl57, zl59, zl60, zl63, zl71, zl97, zl99, zl100, zl122, zl200, zl255, zl320, zl1000, zl1024, zl5040, zl1000000000, Nat.le_refl, ↓reduceIte], fun i h1 h2 => ha.2.1 i h1 h2 (by omega), ha.2.2.1, ha.2.2.2⟩)
    (fun n k a hk ha => by
      obtain ⟨a1, b2, b3, b4⟩ := ha
      have h6 : ¬ 7 ≤ k := by omega
      have hbt := hbits k hk
      have m1 := hmono (show k + 1 ≤ 7 by omega)
      by_cases q : um / 2 ^ k % 2 = 1
      · have fk := hbt.1 q
        have en : nfd T (k + 1) = nfd T k := by unfold nfd; rw [sm_s, fk]; rfl
        refine ⟨a, ?_, by rw [en]; exact a1, by rw [en]; exact b2, b3, b4⟩
        rw [Mo_ordered_L158]
        simp (disch := omega) only [b_get, z_lt, z_le, z_eq, z_in, z_cl, z_add, z_mul, z_mx, z_mn, zl12, zl18, zl19, zl30, zl115, zl116, zl119, zl291, zl640, zl999, zl9999, zl0, zl1, zl2, zl3, zl4, zl5, zl6, zl7, zl8, zl9, zl10, zl15, zl20, zl22, zl26, zl29, zl32, zl33, zl40, zl47, zl48, zl55, zl57, zl59, zl60, zl63, zl71, zl97, zl99, zl100, zl122, zl200, zl255, zl320, zl1000, zl1024, zl5040, zl1000000000, h6, q, Option.bind_some, Option.bind_none, ↓reduceIte, Bool.false_eq_true, reduceCtorEq, Nat.one_ne_zero]
      · have q0 : um / 2 ^ k % 2 = 0 := by omega
        have fk : fdb T k = false := by
          cases e : fdb T k with
          | false => rfl
          | true => exact absurd (hbt.2 e) q
        have en : nfd T (k + 1) = nfd T k + 1 := by unfold nfd; rw [sm_s, fk]; rfl
        refine ⟨(am_wr a.1 229 (nf T + nfd T k) (nI k), nI (nf T + nfd T (k + 1))), ?_, rfl, fun i h1 h2 h3 => ?_, fun i hi => by rw [m_nk (by omega)]; exact b3 i hi, b4.wr rfl⟩
        · show Mo_ordered_L158 (n + 1) a.1 (nI um) y a.2 (nI k) = _
          rw [Mo_ordered_L158, a1, en]
          simp (disch := omega) only [b_get, z_lt, z_le, z_eq, z_in, z_cl, z_add, z_mul, z_mx, z_mn, zl12, zl18, zl19, zl30, zl115, zl116, zl119, zl291, zl640, zl999, zl9999, zl0, zl1, zl2, zl3, zl4, zl5, zl6, zl7, zl8, zl9, zl10, zl15, zl20, zl22, zl26, zl29, zl32, zl33, zl40, zl47, zl48, zl55, zl57, zl59, zl60, zl63, zl71, zl97, zl99, zl100, zl122, zl200, zl255, zl320, zl1000, zl1024, zl5040, zl1000000000, h6, q0, Option.bind_some, Option.bind_none, ↓reduceIte, Bool.false_eq_true, reduceCtorEq]
          rfl
        · by_cases e : i = nf T + nfd T k
          · subst e
            rw [m_eq]
            refine ⟨k, rfl, ?_, fk⟩
            refine Nat.lt_of_not_le (fun hq => ?_)
            have := hmono hq
            omega
          · rw [m_nk e]; exact b2 i h1 h2 (by omega))
    am_fuel 0 (g, nI (nf T)) (by omega) (z_fuel (by omega)) ⟨rfl, fun i h1 h2 h3 => by simp only [nfd, sm_0] at h3; omega, fun i hi => rfl, Fm.rf _ _⟩
  exact ⟨b, e1, e2⟩
theorem mo_ordered (h : RI T g S) (hc : c < fct (nf T)) : ∃ (g' : am_G) (r o : Nat → Nat), Mo_ordered g (nI c) (nI (nf T)) (nI (fct (nf T))) = some (g', nI (rcd r (nf T))) ∧ PR T r (nf T) ∧ cn T r (nf T) = c ∧ (∀ i, i < T 1 → g'.1 229 i = nI (o i) ∧ o i < T 1) ∧ (∀ i, i < nf T → o i = r i) ∧ (∀ i, nf T ≤ i → i < T 1 → T (26 + o i) ≠ 1) ∧ Fm (fun a _ => a = 229) g g' := by
  obtain ⟨g1, r, um, -, -, e1, -, e2, e3, e4, e5, e6, e7⟩ := mo_head h hc
  have hbits : ∀ t, t < 7 → (um / 2 ^ t % 2 = 1 ↔ fdb T t = true) := by
    intro t ht
    rw [e3 t ht]
    constructor
    · intro q
      cases e : fdb T t with
      | true => rfl
      | false =>
        have : nin r (nf T) t = true := nin_iff.2 (fun j hj e' => by rw [← e', (e4 j hj).1] at e; cases e)
        rw [q] at this; cases this
    · intro q
      obtain ⟨i, i1, i2⟩ := PR_all e4 q
      cases e : nin r (nf T) t with
      | false => rfl
      | true => exact absurd i2 (nin_iff.1 e i i1)
  obtain ⟨g2, k1, k2, k3, k4⟩ := mo_rest2 (g := g1) h.1 e2 hbits (nI (rcd r (nf T)))
  have hex : ∀ i, ∃ t, i < T 1 → g2.1 229 i = nI t ∧ t < T 1 ∧ (i < nf T → t = r i) ∧ (nf T ≤ i → T (26 + t) ≠ 1) := by
    intro i
    by_cases q : i < T 1
    · by_cases q2 : i < nf T
      · exact ⟨r i, fun _ => ⟨by rw [k3 i q2]; exact e6 i q2, (fdb_lt (e4 i q2).1).1, fun _ => rfl, fun e => by omega⟩⟩
      · obtain ⟨t, t1, t2, t3⟩ := k2 i (by omega) q
        refine ⟨t, fun _ => ⟨t1, t2, fun e => absurd e q2, fun _ e => ?_⟩⟩
        unfold fdb at t3
        simp [t2, e] at t3
    · exact ⟨0, fun e => absurd e q⟩
  have hnT : nf T ≤ T 1 := by
    have := nfd_s T (T 1)
    rw [nfd_hi T (Nat.le_refl _)] at this
    omega
  refine ⟨g2, r, fun i => (hex i).choose, ?_, e4, e5, fun i hi => ⟨((hex i).choose_spec hi).1, ((hex i).choose_spec hi).2.1⟩, fun i hi => ((hex i).choose_spec (by omega)).2.2.1 hi, fun i h1 h2 => ((hex i).choose_spec h2).2.2.2 h1, e7.tr k4⟩
  rw [Mo_ordered, e1, Option.bind_some, show Mo_ordered_L158 am_fuel g1 (nI um) (nI (rcd r (nf T))) (nI (nf T)) 0 = some g2 from k1]; rfl
theorem eD_or {Q : Nat → Nat} (hnT : nf T ≤ T 1) (h1 : ∀ i, i < nf T → o i = r i) (h2 : ∀ i, nf T ≤ i → i < T 1 → T (26 + o i) ≠ 1) : eD T Q o (T 1) = eD T Q r (nf T) := by
  have st : ∀ m, nf T ≤ m → m ≤ T 1 → eD T Q o m = eD T Q o (nf T) := by
    intro m
    induction m with
    | zero => intro hm _; have : nf T = 0 := by omega
              rw [this]
    | succ m ih =>
      intro hm hm2
      by_cases e : nf T = m + 1
      · rw [e]
      · rw [eD_s, ih (by omega) (by omega)]
        exact et_no (fun q => h2 m (by omega) (by omega) q.1.1)
  rw [st _ hnT (Nat.le_refl _)]
  exact eD_ag h1
theorem ru_or {Q : Nat → Nat} (hnT : nf T ≤ T 1) (h1 : ∀ i, i < nf T → o i = r i) (h2 : ∀ i, nf T ≤ i → i < T 1 → T (26 + o i) ≠ 1) (k : Nat) : ru T o (T 1) Q k = ru T r (nf T) Q k := by
  induction k with
  | zero => rfl
  | succ k ih =>
    simp only [ru]
    rw [ih]
    unfold gon
    rw [eD_or hnT h1 h2]
theorem mo_eatW (h : RI T g S) (ho : ∀ i, i < T 1 → g.1 229 i = nI (o i) ∧ o i < T 1) (y1 y2 y3 y4 y5 y6 y7 y8 : Int32) : ∃ g', Mo_eat_L97 am_fuel g y1 y2 y3 y4 y5 y6 y7 y8 = some g' ∧ RI T g' (ru T o (T 1) S (T 2 - S 0)) ∧ Fm pR g g' := by
  have hb := h.bb
  obtain ⟨b, h2, h3⟩ := lp_up (fun n (a : am_G) _ => Mo_eat_L97 n a y1 y2 y3 y4 y5 y6 y7 y8) (T 2) (fun k a => S 0 ≤ k ∧ RI T a (ru T o (T 1) S (k - S 0)) ∧ Fm pR g a) (fun a => RI T a (ru T o (T 1) S (T 2 - S 0)) ∧ Fm pR g a)
    (fun n a ha => by
      have e2 : ru T o (T 1) S (T 2 - S 0) 0 = T 2 := by rw [ru_0]; omega
      refine ⟨a, ?_, ha.2⟩
      rw [Mo_eat_L97, mo_isStage ha.2.1, e2, Option.bind_some, if_neg (by simp)])
    (fun n k a hk ha => by
      obtain ⟨a1, a2, a3⟩ := ha
      have e2 : ru T o (T 1) S (k - S 0) 0 = k := by rw [ru_0]; omega
      obtain ⟨g2, c1, c2, c3⟩ := mo_stageGoes a2 (by rw [e2]; exact hk) (decide (T (55 + k) = 1)) (o := o) (fun i hi => by rw [a3.2 229 i (by unfold pR; omega)]; exact ho i hi)
      refine ⟨g2, ?_, by omega, ?_, a3.tr c3⟩
      · show Mo_eat_L97 (n + 1) a y1 y2 y3 y4 y5 y6 y7 y8 = _
        rw [Mo_eat_L97, mo_isStage a2, e2, Option.bind_some, if_pos (decide_eq_true hk), mo_isRain a2 (by rw [e2]; exact hk), e2, Option.bind_some, c1, Option.bind_some]
      · rw [show k + 1 - S 0 = (k - S 0) + 1 by omega]
        simp only [ru]
        rw [e2]
        exact c2)
    am_fuel (S 0) g (by omega) (z_fuel (by omega)) ⟨Nat.le_refl _, by rw [Nat.sub_self]; exact h, Fm.rf _ _⟩
  exact ⟨b, h2, h3⟩
end
