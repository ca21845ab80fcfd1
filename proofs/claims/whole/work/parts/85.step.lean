-- A STAGE
def rnN (S : Nat → Nat) (b : Bool) (n : Nat) : Nat → Nat := fun k => if b = true ∧ 22 ≤ k ∧ k < 22 + n ∧ S (k - 14) ≠ 9 then 1 else S k
def et (T S : Nat → Nat) (a : (Nat → Nat) × Nat) (t : Nat) : (Nat → Nat) × Nat := if T (26 + t) = 1 ∧ S (8 + t) ≠ 9 then (up a.1 t (a.1 t - min a.2 (a.1 t)), a.2 - min a.2 (a.1 t)) else a
def ets (T S : Nat → Nat) (o : Nat → Nat) (a : (Nat → Nat) × Nat) : Nat → (Nat → Nat) × Nat
  | 0 => a
  | n + 1 => et T S (ets T S o a n) (o n)
def lf (S : Nat → Nat) : Nat → Nat := fun t => if t < 7 then S (15 + t) else 0
def wl (S f : Nat → Nat) : Nat → Nat := fun k => if 15 ≤ k ∧ k < 22 then f (k - 15) else S k
def trd (T S : Nat → Nat) (w : Nat) : Nat := if T (4 + w) < lod T S w + S (4 + w) then min 20 (S (4 + w) + 2) else S (4 + w) - T (8 + w)
def trN (T S : Nat → Nat) (n : Nat) : Nat → Nat := fun k => if 4 ≤ k ∧ k < 4 + n then trd T S (k - 4) else S k
def eD (T S o : Nat → Nat) (n : Nat) : (Nat → Nat) × Nat := ets T S o (lf S, 2 * T 0) n
/-- a stage gone: n things of the order o are asked for food -/
def gon (T o : Nat → Nat) (n : Nat) (b : Bool) (S : Nat → Nat) : Nat → Nat := fun k =>
  if k = 0 then S 0 + 1 else if k = 1 then S 1 + slo T (rnN S b (T 1)) (T (47 + S 0)) else if k = 2 then S 2 + (eD T S o n).2
  else if 4 ≤ k ∧ k < 4 + T 0 then trd T (rnN S b (T 1)) (k - 4) else if 15 ≤ k ∧ k < 22 then (eD T S o n).1 (k - 15)
  else if b = false ∧ 22 ≤ k ∧ k < 22 + T 1 then 0 else rnN S b (T 1) k
section
variable {T S : Nat → Nat} {g g' : am_G} {c t w v : Nat}
theorem rnN_0 (S : Nat → Nat) (b : Bool) : rnN S b 0 = S := by
  funext k
  simp only [rnN]
  rw [if_neg (by omega)]
theorem rnN_f (S : Nat → Nat) (n : Nat) : rnN S false n = S := by
  funext k
  simp [rnN]
theorem rnN_s (S : Nat → Nat) (b : Bool) (n : Nat) : up (rnN S b n) (22 + n) (if b = true ∧ S (8 + n) ≠ 9 then 1 else S (22 + n)) = rnN S b (n + 1) := by
  funext k
  simp only [rnN, up]
  by_cases e : k = 22 + n
  · subst e
    rw [if_pos rfl, show 22 + n - 14 = 8 + n by omega]
    have h1 : 22 ≤ 22 + n := by omega
    have h2 : 22 + n < 22 + (n + 1) := by omega
    simp only [h1, h2, true_and]
  · rw [if_neg e]
    by_cases e2 : b = true ∧ 22 ≤ k ∧ k < 22 + n ∧ S (k - 14) ≠ 9
    · rw [if_pos e2, if_pos (by refine ⟨e2.1, e2.2.1, by omega, e2.2.2.2⟩)]
    · rw [if_neg e2, if_neg (fun q => e2 ⟨q.1, q.2.1, by omega, q.2.2.2⟩)]
theorem rnN_lo (S : Nat → Nat) (b : Bool) (n : Nat) {k : Nat} (h : k < 22) : rnN S b n k = S k := by
  simp only [rnN]
  rw [if_neg (by omega)]
theorem rnN_x (S : Nat → Nat) (b : Bool) {n t : Nat} (h : t < n) : rnN S b n (22 + t) = if b = true ∧ S (8 + t) ≠ 9 then 1 else S (22 + t) := by
  simp only [rnN]
  have h1 : 22 ≤ 22 + t := by omega
  have h2 : 22 + t < 22 + n := by omega
  rw [show 22 + t - 14 = 8 + t by omega]
  simp only [h1, h2, true_and]
theorem rnN_hi (S : Nat → Nat) (b : Bool) {n t : Nat} (h : n ≤ t) : rnN S b n (22 + t) = S (22 + t) := by
  simp only [rnN]
  rw [if_neg (by omega)]
theorem SW.rn (h : SW T S) (hT : TW T) (b : Bool) {n : Nat} (hn : n ≤ T 1) : SW T (rnN S b n) := by
  obtain ⟨h1, h4, h5⟩ := h
  have a1 := hT.1; have a2 := hT.2.1
  refine ⟨by simp (disch := omega) only [rnN_lo]; exact h1, fun w hw => by rw [rnN_lo _ _ _ (by omega)]; exact h4 w hw, fun u hu => ?_⟩
  rw [rnN_lo _ _ _ (by omega), rnN_lo _ _ _ (by omega)]
  refine ⟨(h5 u hu).1, (h5 u hu).2.1, ?_⟩
  by_cases e : u < n
  · rw [rnN_x _ _ e]; have := (h5 u hu).2.2; split <;> omega
  · rw [rnN_hi _ _ (by omega)]; exact (h5 u hu).2.2
theorem ca_soak (h : CI T g c S) (hc : 14 ≤ c) : ∃ g', Ca_soak g c = some g' ∧ CI T g' c (rnN S true (T 1)) ∧ Fm (pC c) g g' := by
  have hb := h.bb
  obtain ⟨r, h1, h2⟩ := lp_up (fun n (a : am_G) k => Ca_soak_L2 n a c (nI k)) (T 1) (fun k a => CI T a c (rnN S true k) ∧ Fm (pC c) g a) (fun r => CI T r c (rnN S true (T 1)) ∧ Fm (pC c) g r)
    (fun n a ha => ⟨a, by rw [Ca_soak_L2]; simp (disch := omega) only [ha.1.n, z_lt, z_le, z_eq, z_in, z_cl, z_add, z_mul, z_mx, z_mn, zl12, zl18, zl19, zl30, zl115, zl116, zl119, zl291, zl640, zl999, zl9999, zl0, zl1, zl2, zl3, zl4, zl5, zl6, zl7, zl8, zl9, zl10, zl15, zl20, zl22, zl26, zl29, zl32, zl33, zl40, zl47, zl48, zl55, zl57, zl59, zl60, zl63, zl71, zl97, zl99, zl100, zl122, zl200, zl255, zl320, zl1000, zl1024, zl5040, zl1000000000, Nat.le_refl, ↓reduceIte], ha⟩)
    (fun n k a hk ha => by
      have h6 : ¬ T 1 ≤ k := by omega
      have e := rnN_s S true k
      rw [Ca_soak_L2, ca_isCarried ha.1 hk, rnN_lo _ _ _ (by omega)]
      by_cases q : S (8 + k) = 9
      · refine ⟨a, ?_, ?_, ha.2⟩
        · simp (disch := omega) only [ha.1.n, h6, z_lt, z_le, z_eq, z_in, z_cl, z_add, z_mul, z_mx, z_mn, zl12, zl18, zl19, zl30, zl115, zl116, zl119, zl291, zl640, zl999, zl9999, zl0, zl1, zl2, zl3, zl4, zl5, zl6, zl7, zl8, zl9, zl10, zl15, zl20, zl22, zl26, zl29, zl32, zl33, zl40, zl47, zl48, zl55, zl57, zl59, zl60, zl63, zl71, zl97, zl99, zl100, zl122, zl200, zl255, zl320, zl1000, zl1024, zl5040, zl1000000000, q, ne_eq, not_true_eq_false, decide_false, Option.bind_some, Option.bind_none, ↓reduceIte, Bool.false_eq_true, reduceCtorEq]
        · rw [if_neg (by omega)] at e
          rw [← e]
          refine ha.1.cg ⟨fun j hj => by rw [up_ne (by omega)], fun j hj => by rw [up_ne (by omega)], fun j hj => ?_⟩
          rw [up_ne (by omega), up_ne (by omega)]
          refine ⟨rfl, rfl, ?_⟩
          by_cases e2 : j = k
          · subst e2; rw [up_eq, rnN_hi _ _ (Nat.le_refl _)]
          · rw [up_ne (by omega)]
      · refine ⟨_, ?_, ?_, ha.2.wr (a := c) (k := 5) (v := ((a.1 c 5) ||| (1 <<< (nI k &&& 31)))) ⟨by omega, by omega⟩⟩
        · simp (disch := omega) only [ha.1.n, h6, z_le, z_add, zl1, zl0, q, ne_eq, not_false_eq_true, decide_true, Option.bind_some, Option.bind_none, ↓reduceIte, Bool.false_eq_true, reduceCtorEq]
        · rw [if_pos ⟨rfl, q⟩] at e
          rw [← e]
          exact ha.1.wrX hc hk)
    am_fuel 0 g (by omega) (z_fuel (by omega)) ⟨by rw [rnN_0]; exact h, Fm.rf _ _⟩
  refine ⟨r, ?_, h2⟩
  rw [Ca_soak]
  rw [show Ca_soak_L2 am_fuel g c 0 = some r from h1]; rfl
-- tired
theorem lod_cg {S' : Nat → Nat} (w : Nat) (h : ∀ t, t < T 1 → S (8 + t) = S' (8 + t) ∧ S (15 + t) = S' (15 + t) ∧ S (22 + t) = S' (22 + t)) : lod T S w = lod T S' w := by
  apply sm_cg
  intro t ht
  obtain ⟨h1, h2, h3⟩ := h t ht
  unfold lodf wgh
  rw [h1, h2, h3]
theorem trN_hi (T S : Nat → Nat) (n : Nat) {k : Nat} (h : k < 4 ∨ 4 + n ≤ k) : trN T S n k = S k := by
  simp only [trN]
  rw [if_neg (by omega)]
theorem trN_at (T S : Nat → Nat) {n w : Nat} (h : w < n) : trN T S n (4 + w) = trd T S w := by
  simp only [trN]
  rw [if_pos (by omega), show 4 + w - 4 = w by omega]
theorem trN_s (T S : Nat → Nat) (n : Nat) : up (trN T S n) (4 + n) (trd T S n) = trN T S (n + 1) := by
  funext k
  by_cases e : k = 4 + n
  · subst e; rw [up_eq, trN_at _ _ (by omega)]
  · rw [up_ne e]
    simp only [trN]
    by_cases e2 : 4 ≤ k ∧ k < 4 + n
    · rw [if_pos e2, if_pos (by omega)]
    · rw [if_neg e2, if_neg (by omega)]
theorem trd_le (hS : SW T S) (hw : w < T 0) : trd T S w ≤ 20 := by
  have := hS.2.1 w hw
  unfold trd
  split <;> omega
theorem SW.tr (h : SW T S) (hT : TW T) {n : Nat} (hn : n ≤ T 0) : SW T (trN T S n) := by
  have a1 := hT.1
  have a2 := hT.2.1
  have hd : ∀ w, w < T 0 → trd T S w ≤ 20 := fun w hw => trd_le h hw
  obtain ⟨h1, h4, h5⟩ := h
  refine ⟨by simp (disch := omega) only [trN_hi]; exact h1, fun w hw => ?_, fun u hu => ?_⟩
  · by_cases e : w < n
    · rw [trN_at _ _ e]; exact hd w hw
    · rw [trN_hi _ _ _ (by omega)]; exact h4 w hw
  · rw [trN_hi _ _ _ (by omega), trN_hi _ _ _ (by omega), trN_hi _ _ _ (by omega)]; exact h5 u hu
theorem lod_tr (hT : TW T) {n : Nat} (hn : n ≤ T 0) (w : Nat) : lod T (trN T S n) w = lod T S w := by
  have a1 := hT.1
  refine lod_cg w (fun t ht => ?_)
  rw [trN_hi _ _ _ (by omega), trN_hi _ _ _ (by omega), trN_hi _ _ _ (by omega)]; exact ⟨rfl, rfl, rfl⟩
theorem z_force {a b l : Nat} (ha : a ≤ 40) (hb : b ≤ 20) (hl : l ≤ 1000) : (nI l ≤ nI a - nI b) = ¬ (a < l + b) := by
  rw [zI_n, zI_n, zI_n, zI_sub, zI_le (by omega) (by omega)]
  apply propext
  omega
theorem ca_tire (h : CI T g c S) (hw : w < T 0) {l : Nat} (hl : l = lod T S w) : Ca_tire g c (nI w) (nI l) = some (am_wr g (c + 3) w (nI (trd T S w))) := by
  have hb := h.bb
  have h3 := h.ww hw
  have h4 := h.ld w
  subst hl
  unfold trd
  rw [Ca_tire, ca_force h hw, Option.bind_some]
  by_cases q : T (4 + w) < lod T S w + S (4 + w)
  · simp (disch := omega) only [z_force, q, not_true_eq_false, ↓reduceIte, z_lt, z_le, z_eq, z_in, z_cl, z_add, z_mul, z_mx, z_mn, zl12, zl18, zl19, zl30, zl115, zl116, zl119, zl291, zl640, zl999, zl9999, zl0, zl1, zl2, zl3, zl4, zl5, zl6, zl7, zl8, zl9, zl10, zl15, zl20, zl22, zl26, zl29, zl32, zl33, zl40, zl47, zl48, zl55, zl57, zl59, zl60, zl63, zl71, zl97, zl99, zl100, zl122, zl200, zl255, zl320, zl1000, zl1024, zl5040, zl1000000000, h3]
  · have e : am_mx (nI 0) (nI (S (4 + w)) - nI (T (8 + w))) = nI (S (4 + w) - T (8 + w)) := by
      by_cases q2 : T (8 + w) ≤ S (4 + w)
      · rw [z_sub q2, z_mx (by omega) (by omega), Nat.zero_max]
      · rw [zI_n, zI_n, zI_n, zI_sub, zI_mx (by omega) (by omega), zI_n]; congr 1; omega
    simp (disch := omega) only [z_force, q, not_false_eq_true, ↓reduceIte, z_in, z_cl, zl0, h3, e]
theorem ca_march (h : CI T g c S) (hc : 14 ≤ c) (hd : S 0 < T 2) (b : Bool) : ∃ g', Ca_march g c (am_b b) = some g' ∧ CI T g' c (up (trN T (rnN S b (T 1)) (T 0)) 1 (S 1 + slo T (rnN S b (T 1)) (T (47 + S 0)))) ∧ Fm (pC c) g g' := by
  have hb := h.bb
  obtain ⟨g1, e1, h1, f1⟩ : ∃ g1, (if (am_b b) = 0 then some g else (Ca_soak g c).bind fun q5 => some q5) = some g1 ∧ CI T g1 c (rnN S b (T 1)) ∧ Fm (pC c) g g1 := by
    cases b
    · exact ⟨g, by rw [if_pos (show am_b false = 0 from rfl)], by rw [rnN_f]; exact h, Fm.rf _ _⟩
    · obtain ⟨g1, e1, h1, f1⟩ := ca_soak h hc
      exact ⟨g1, by rw [if_neg (show ¬ am_b true = 0 by decide), e1]; rfl, h1, f1⟩
  have eS : rnN S b (T 1) 0 = S 0 := rnN_lo _ _ _ (by omega)
  have eS1 : rnN S b (T 1) 1 = S 1 := rnN_lo _ _ _ (by omega)
  have hL := h.dd hd
  have eL : g1.1 c 1 = nI (S 0) := by rw [h1.s.1, eS]
  generalize hR : rnN S b (T 1) = R at h1 eS eS1 ⊢
  obtain ⟨r, h2, h3, h4, h5⟩ := lp_up (fun n (a : am_G × Int32) k => Ca_march_L20 n a.1 c a.2 (nI k)) (T 0) (fun k a => CI T a.1 c (trN T R k) ∧ Fm (pC c) g a.1 ∧ a.2 = nI (gr (tkw T R (T (47 + S 0))) k)) (fun r => CI T r.1 c (trN T R (T 0)) ∧ Fm (pC c) g r.1 ∧ r.2 = nI (slo T R (T (47 + S 0))))
    (fun n a ha => ⟨a, by rw [Ca_march_L20]; simp (disch := omega) only [ha.1.n, z_lt, z_le, z_eq, z_in, z_cl, z_add, z_mul, z_mx, z_mn, zl12, zl18, zl19, zl30, zl115, zl116, zl119, zl291, zl640, zl999, zl9999, zl0, zl1, zl2, zl3, zl4, zl5, zl6, zl7, zl8, zl9, zl10, zl15, zl20, zl22, zl26, zl29, zl32, zl33, zl40, zl47, zl48, zl55, zl57, zl59, zl60, zl63, zl71, zl97, zl99, zl100, zl122, zl200, zl255, zl320, zl1000, zl1024, zl5040, zl1000000000, Nat.le_refl, ↓reduceIte], ha⟩)
    (fun n k a hk ha => by
      have h6 : ¬ T 0 ≤ k := by omega
      have h7 := slo_le (T := T) (S := R) hL.2.2.2.1 k
      have h8 := tkw_le (T := T) (S := R) hL.2.2.2.1 k
      have e3 := lod_tr (S := R) h.1 (Nat.le_of_lt hk) k
      have e4 : trN T R k (4 + k) = R (4 + k) := trN_hi _ _ _ (by omega)
      have e5 : a.1.1 c 1 = nI (S 0) := by rw [ha.1.s.1, trN_hi _ _ _ (by omega), eS]
      have e6 : a.1.1 11 (S 0) = nI (T (47 + S 0)) := (ha.1.dd hd).1
      have e7 := ca_minutesFor ha.1 hk (l := lod T (trN T R k) k) (L := T (47 + S 0)) (by have := ha.1.ld k; omega) hL.2.2.2.1
      have e8 : tks (T (47 + S 0)) (pac T (trN T R k) k (lod T (trN T R k) k)) = tkw T R (T (47 + S 0)) k := by rw [tkw, e3, pac, pac, e4]
      have e9 : trd T (trN T R k) k = trd T R k := by rw [trd, trd, e3, e4]
      rw [e8] at e7
      refine ⟨(am_wr a.1 (c + 3) k (nI (trd T R k)), nI (gr (tkw T R (T (47 + S 0))) (k + 1))), ?_, ?_, ha.2.1.wr ⟨by omega, by omega⟩, rfl⟩
      · show Ca_march_L20 (n + 1) a.1 c a.2 (nI k) = _
        rw [Ca_march_L20, ca_load ha.1 (by omega), Option.bind_some, e5, z_cl (by omega), e6, e7, Option.bind_some, ca_tire ha.1 hk rfl, Option.bind_some, e9, ha.2.2, gr_zs]
        simp (disch := omega) only [ha.1.n, h6, z_lt, z_le, z_eq, z_in, z_cl, z_add, z_mul, z_mx, z_mn, zl12, zl18, zl19, zl30, zl115, zl116, zl119, zl291, zl640, zl999, zl9999, zl0, zl1, zl2, zl3, zl4, zl5, zl6, zl7, zl8, zl9, zl10, zl15, zl20, zl22, zl26, zl29, zl32, zl33, zl40, zl47, zl48, zl55, zl57, zl59, zl60, zl63, zl71, zl97, zl99, zl100, zl122, zl200, zl255, zl320, zl1000, zl1024, zl5040, zl1000000000, ↓reduceIte]
      · rw [← trN_s]
        exact ha.1.wrT hc hk (trd_le h1.2.2.1 hk))
    am_fuel 0 (g1, 0) (by omega) (z_fuel (by omega)) ⟨by
      have : trN T R 0 = R := by funext k; exact trN_hi _ _ _ (by omega)
      rw [this]; exact h1, f1, rfl⟩
  refine ⟨am_wr r.1 c 2 (nI (S 1 + slo T R (T (47 + S 0)))), ?_, ?_, h4.wr ⟨by omega, by omega⟩⟩
  · rw [Ca_march, ca_hasStage h, Option.bind_some]
    have e2 : r.1.1 c 2 = nI (S 1) := by rw [h3.s.2.1, trN_hi _ _ _ (by omega), eS1]
    simp only [hd, decide_true, ↓reduceIte]
    rw [e1, Option.bind_some, show Ca_march_L20 am_fuel g1 c 0 0 = some r from h2, Option.bind_some, e2, h5, z_add]
  · exact h3.wrN hc (k := 1) (by omega) (h3.2.2.1.upn (by omega) (by omega) _)
end
