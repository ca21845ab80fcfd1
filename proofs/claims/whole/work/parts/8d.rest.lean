-- REST, SPENT
theorem lp_en {α β : Type} (L : Nat → α → Nat → Option β) (N : Nat) (I : Nat → α → Prop) (R : β → Prop)
    (he : ∀ n a, I N a → ∃ b, L (n + 1) a N = some b ∧ R b)
    (hs : ∀ n k a, k < N → 0 < n → I k a → (∃ a', L (n + 1) a k = L n a' (k + 1) ∧ I (k + 1) a') ∨ ∃ b, L (n + 1) a k = some b ∧ R b) :
    ∀ n k a, k ≤ N → N - k < n → I k a → ∃ b, L n a k = some b ∧ R b := by
  intro n
  induction n with
  | zero => intro k a _ h; omega
  | succ n ih =>
    intro k a hk hn hI
    by_cases h : k = N
    · subst h; exact he n a hI
    · rcases hs n k a (by omega) (by omega) hI with ⟨a', h1, h2⟩ | h1
      · rw [h1]
        exact ih (k + 1) a' (by omega) (by omega) h2
      · exact h1
def pW (a k : Nat) : Prop := (a = 225 ∧ k < 29) ∨ a = 229 ∨ a = 230
def ru (T o : Nat → Nat) (n : Nat) (S : Nat → Nat) : Nat → (Nat → Nat)
  | 0 => S
  | k + 1 => gon T o n (decide (T (55 + ru T o n S k 0) = 1)) (ru T o n S k)
def sh (m h : Nat) (S S' : Nat → Nat) : Prop := S 1 = S' 1 + m ∧ S 2 = S' 2 + h ∧ ∀ k, k ≠ 1 → k ≠ 2 → S k = S' k
section
variable {T S S' R R' o : Nat → Nat} {n m h' c : Nat} {P : Nat → Nat → Nat} {g g' : am_G}
theorem mo_holds (g : am_G) : ∃ g', Mo_holds g = some g' ∧ (∀ k, k < 29 → g'.1 231 k = g.1 225 k) ∧ Fm (fun a _ => a = 231) g g' := by
  obtain ⟨r, h1, h2⟩ := lp_up (fun n (a : am_G) k => Mo_holds_L2 n a (nI k)) 29 (fun i a => (∀ k, k < i → a.1 231 k = g.1 225 k) ∧ Fm (fun a _ => a = 231) g a) (fun a => (∀ k, k < 29 → a.1 231 k = g.1 225 k) ∧ Fm (fun a _ => a = 231) g a)
    (fun n a ha => ⟨a, by rw [Mo_holds_L2]; simp (disch := omega) only [z_lt, z_le, z_eq, z_in, z_cl, z_add, z_mul, z_mx, z_mn, zl12, zl18, zl19, zl30, zl115, zl116, zl119, zl291, zl640, zl999, zl9999, zl0, zl1, zl2, zl3, zl4, zl5, zl6, zl7, zl8, zl9, zl10, zl15, zl20, zl22, zl26, zl29, zl32, zl33, zl40, zl47, zl48, zl55, zl57, zl59, zl60, zl63, zl71, zl97, zl99, zl100, zl122, zl200, zl255, zl320, zl1000, zl1024, zl5040, zl1000000000, Nat.le_refl, ↓reduceIte], ha⟩)
    (fun n i a hi ha => by
      have h6 : ¬ 29 ≤ i := by omega
      refine ⟨am_wr a 231 i (a.1 225 i), ?_, fun k k2 => ?_, ha.2.wr rfl⟩
      · show Mo_holds_L2 (n + 1) a (nI i) = _
        rw [Mo_holds_L2]
        simp (disch := omega) only [z_lt, z_le, z_eq, z_in, z_cl, z_add, z_mul, z_mx, z_mn, zl12, zl18, zl19, zl30, zl115, zl116, zl119, zl291, zl640, zl999, zl9999, zl0, zl1, zl2, zl3, zl4, zl5, zl6, zl7, zl8, zl9, zl10, zl15, zl20, zl22, zl26, zl29, zl32, zl33, zl40, zl47, zl48, zl55, zl57, zl59, zl60, zl63, zl71, zl97, zl99, zl100, zl122, zl200, zl255, zl320, zl1000, zl1024, zl5040, zl1000000000, h6, Option.bind_some, Option.bind_none, ↓reduceIte, Bool.false_eq_true, reduceCtorEq]
      · by_cases e : k = i
        · subst e; rw [m_eq, ha.2.2 _ _ (by omega)]
        · rw [m_nk (by omega)]; exact ha.1 k (by omega))
    am_fuel 0 g (by omega) (z_fuel (by omega)) ⟨fun k k2 => by omega, Fm.rf _ _⟩
  exact ⟨r, by rw [Mo_holds, show Mo_holds_L2 am_fuel g 0 = some r from h1]; rfl, h2⟩
theorem mo_lets (g : am_G) : ∃ g', Mo_lets g = some g' ∧ (∀ k, k < 29 → g'.1 225 k = g.1 231 k) ∧ Fm (fun a k => a = 225 ∧ k < 29) g g' := by
  obtain ⟨r, h1, h2⟩ := lp_up (fun n (a : am_G) k => Mo_lets_L2 n a (nI k)) 29 (fun i a => (∀ k, k < i → a.1 225 k = g.1 231 k) ∧ Fm (fun a k => a = 225 ∧ k < 29) g a) (fun a => (∀ k, k < 29 → a.1 225 k = g.1 231 k) ∧ Fm (fun a k => a = 225 ∧ k < 29) g a)
    (fun n a ha => ⟨a, by rw [Mo_lets_L2]; simp (disch := omega) only [z_lt, z_le, z_eq, z_in, z_cl, z_add, z_mul, z_mx, z_mn, zl12, zl18, zl19, zl30, zl115, zl116, zl119, zl291, zl640, zl999, zl9999, zl0, zl1, zl2, zl3, zl4, zl5, zl6, zl7, zl8, zl9, zl10, zl15, zl20, zl22, zl26, zl29, zl32, zl33, zl40, zl47, zl48, zl55, zl57, zl59, zl60, zl63, zl71, zl97, zl99, zl100, zl122, zl200, zl255, zl320, zl1000, zl1024, zl5040, zl1000000000, Nat.le_refl, ↓reduceIte], ha⟩)
    (fun n i a hi ha => by
      have h6 : ¬ 29 ≤ i := by omega
      refine ⟨am_wr a 225 i (a.1 231 i), ?_, fun k k2 => ?_, ha.2.wr ⟨rfl, hi⟩⟩
      · show Mo_lets_L2 (n + 1) a (nI i) = _
        rw [Mo_lets_L2]
        simp (disch := omega) only [z_lt, z_le, z_eq, z_in, z_cl, z_add, z_mul, z_mx, z_mn, zl12, zl18, zl19, zl30, zl115, zl116, zl119, zl291, zl640, zl999, zl9999, zl0, zl1, zl2, zl3, zl4, zl5, zl6, zl7, zl8, zl9, zl10, zl15, zl20, zl22, zl26, zl29, zl32, zl33, zl40, zl47, zl48, zl55, zl57, zl59, zl60, zl63, zl71, zl97, zl99, zl100, zl122, zl200, zl255, zl320, zl1000, zl1024, zl5040, zl1000000000, h6, Option.bind_some, Option.bind_none, ↓reduceIte, Bool.false_eq_true, reduceCtorEq]
      · by_cases e : k = i
        · subst e; rw [m_eq, ha.2.2 _ _ (by omega)]
        · rw [m_nk (by omega)]; exact ha.1 k (by omega))
    am_fuel 0 g (by omega) (z_fuel (by omega)) ⟨fun k k2 => by omega, Fm.rf _ _⟩
  exact ⟨r, by rw [Mo_lets, show Mo_lets_L2 am_fuel g 0 = some r from h1]; rfl, h2⟩
/-- the reference works on its state and lays it back -/
theorem mo_round {g1 g2 : am_G} (h1 : ∀ k, k < 29 → g1.1 231 k = g.1 225 k) (f1 : Fm (fun a _ => a = 231) g g1) (f2 : Fm pW g1 g2) : ∃ g3, Mo_lets g2 = some g3 ∧ Fs g g3 ∧ (∀ k, k < 29 → g3.1 225 k = g.1 225 k) ∧ Fm pW g1 g3 := by
  obtain ⟨g3, e3, k3, f3⟩ := mo_lets g2
  have hk : ∀ k, k < 29 → g3.1 225 k = g.1 225 k := fun k hk => by rw [k3 k hk, f2.2 231 k (by unfold pW; omega), h1 k hk]
  refine ⟨g3, e3, ⟨fun a k q => ?_, by rw [f3.1, f2.1, f1.1], by rw [f3.1, f2.1, f1.1]⟩, hk, f2.tr (f3.mo (fun a k q => Or.inl q))⟩
  by_cases e : a = 225 ∧ k < 29
  · rw [e.1]; exact hk k e.2
  · rw [f3.2 a k e, f2.2 a k (by unfold pW; unfold scr at q; omega), f1.2 a k (by unfold scr at q; omega)]
theorem slo_cg (L : Nat) (h : ∀ k, 3 ≤ k → R k = R' k) : slo T R L = slo T R' L := by
  apply gr_cg
  intro w _
  unfold tkw pac
  rw [h _ (by omega), lod_cg w (fun t _ => ⟨h _ (by omega), h _ (by omega), h _ (by omega)⟩)]
theorem trd_cg (w : Nat) (h : ∀ k, 3 ≤ k → R k = R' k) : trd T R w = trd T R' w := by
  unfold trd
  rw [h _ (by omega), lod_cg w (fun t _ => ⟨h _ (by omega), h _ (by omega), h _ (by omega)⟩)]
theorem rnN_cg (b : Bool) (n : Nat) (h : ∀ k, k ≠ 1 → k ≠ 2 → R k = R' k) : ∀ k, k ≠ 1 → k ≠ 2 → rnN R b n k = rnN R' b n k := by
  intro k h1 h2
  simp only [rnN]
  by_cases q : 22 ≤ k
  · rw [h k h1 h2, h (k - 14) (by omega) (by omega)]
  · rw [if_neg (by omega), if_neg (by omega), h k h1 h2]
theorem eD_cg2 {n : Nat} (h : ∀ k, 3 ≤ k → R k = R' k) : eD T R o n = eD T R' o n := by
  have e : lf R = lf R' := by funext t; simp only [lf]; rw [h _ (by omega)]
  induction n with
  | zero => rw [eD_0, eD_0, e]
  | succ n ih => rw [eD_s, eD_s, ih, et, et, h _ (by omega)]
theorem sh_gon (b : Bool) (h : sh m h' S S') : sh m h' (gon T o n b S) (gon T o n b S') := by
  obtain ⟨h1, h2, h3⟩ := h
  have r1 := rnN_cg b (T 1) h3
  have r2 : ∀ k, 3 ≤ k → rnN S b (T 1) k = rnN S' b (T 1) k := fun k hk => r1 k (by omega) (by omega)
  have r3 : eD T S o n = eD T S' o n := eD_cg2 (fun k hk => h3 k (by omega) (by omega))
  refine ⟨?_, ?_, fun k k1 k2 => ?_⟩
  · rw [gon_1, gon_1, h1, slo_cg _ r2, h3 0 (by omega) (by omega)]; omega
  · simp [gon, h2, r3]; omega
  · simp only [gon]
    rw [if_neg k1, if_neg k2, if_neg k1, if_neg k2, h3 0 (by omega) (by omega), trd_cg _ r2, r3, r1 k k1 k2]
theorem sh_ru (h : sh m h' S S') (k : Nat) : sh m h' (ru T o n S k) (ru T o n S' k) := by
  induction k with
  | zero => exact h
  | succ k ih =>
    simp only [ru]
    rw [ih.2.2 0 (by omega) (by omega)]
    exact sh_gon _ ih
theorem ru_0 (k : Nat) : ru T o n S k 0 = S 0 + k := by
  induction k with
  | zero => rfl
  | succ k ih => simp only [ru]; rw [gon_0, ih]; omega
theorem ah_setOut (h : CI T g 28 S) : ∃ g', Ah_setOut g = some g' ∧ CI T g' 85 (up (up S 1 0) 2 0) ∧ Fm (pC 85) g g' := by
  obtain ⟨g1, e1, ce, f1⟩ := ca_copyFrom g (c := 85) (o := 28) (by omega)
  have h1 := h.ce ce f1 (by omega)
  have h2 := h1.wrN (by omega) (k := 1) (v := 0) (by omega) (h1.2.2.1.upn (by omega) (by omega) _)
  have h3 := h2.wrN (by omega) (k := 2) (v := 0) (by omega) (h2.2.2.1.upn (by omega) (by omega) _)
  exact ⟨_, by rw [Ah_setOut, e1]; rfl, h3, (f1.wr ⟨by omega, by omega⟩).wr ⟨by omega, by omega⟩⟩
theorem sh_out (S : Nat → Nat) : sh (S 1) (S 2) S (up (up S 1 0) 2 0) := ⟨by rw [up_ne (by omega), up_eq]; omega, by rw [up_eq]; omega, fun k h1 h2 => by rw [up_ne h2, up_ne h1]⟩
theorem ah_end (h : CI T g 28 S) : ∃ g', Ah_end g = some g' ∧ CI T g' 85 (ru T (fun i => i) (T 1) (up (up S 1 0) 2 0) (T 2 - S 0)) ∧ Fm (pC 85) g g' := by
  have hb := h.bb
  obtain ⟨g1, e1, h1, f1⟩ := ah_setOut h
  have e0 : (up (up S 1 0) 2 0) 0 = S 0 := by rw [up_ne (by omega), up_ne (by omega)]
  obtain ⟨r, h2, h3⟩ := lp_up (fun n (a : am_G) k => Ah_end_L11 n a (nI k)) (T 2) (fun k a => S 0 ≤ k ∧ CI T a 85 (ru T (fun i => i) (T 1) (up (up S 1 0) 2 0) (k - S 0)) ∧ Fm (pC 85) g a) (fun a => CI T a 85 (ru T (fun i => i) (T 1) (up (up S 1 0) 2 0) (T 2 - S 0)) ∧ Fm (pC 85) g a)
    (fun n a ha => ⟨a, by rw [Ah_end_L11]; simp (disch := omega) only [ha.2.1.n, z_lt, z_le, z_eq, z_in, z_cl, z_add, z_mul, z_mx, z_mn, zl12, zl18, zl19, zl30, zl115, zl116, zl119, zl291, zl640, zl999, zl9999, zl0, zl1, zl2, zl3, zl4, zl5, zl6, zl7, zl8, zl9, zl10, zl15, zl20, zl22, zl26, zl29, zl32, zl33, zl40, zl47, zl48, zl55, zl57, zl59, zl60, zl63, zl71, zl97, zl99, zl100, zl122, zl200, zl255, zl320, zl1000, zl1024, zl5040, zl1000000000, Nat.le_refl, ↓reduceIte], ha.2⟩)
    (fun n k a hk ha => by
      obtain ⟨a1, a2, a3⟩ := ha
      have h6 : ¬ T 2 ≤ k := by omega
      have e2 : ru T (fun i => i) (T 1) (up (up S 1 0) 2 0) (k - S 0) 0 = k := by rw [ru_0, e0]; omega
      obtain ⟨g2, c1, c2, c3⟩ := ca_pass a2 (by omega) (by rw [e2]; exact hk) (decide (T (55 + k) = 1))
      refine ⟨g2, ?_, by omega, ?_, a3.tr c3⟩
      · show Ah_end_L11 (n + 1) a (nI k) = _
        rw [Ah_end_L11, ta_rains a2 hk, Option.bind_some, c1, Option.bind_some]
        simp (disch := omega) only [a2.n, z_lt, z_le, z_eq, z_in, z_cl, z_add, z_mul, z_mx, z_mn, zl12, zl18, zl19, zl30, zl115, zl116, zl119, zl291, zl640, zl999, zl9999, zl0, zl1, zl2, zl3, zl4, zl5, zl6, zl7, zl8, zl9, zl10, zl15, zl20, zl22, zl26, zl29, zl32, zl33, zl40, zl47, zl48, zl55, zl57, zl59, zl60, zl63, zl71, zl97, zl99, zl100, zl122, zl200, zl255, zl320, zl1000, zl1024, zl5040, zl1000000000, h6, ↓reduceIte]
      · rw [show k + 1 - S 0 = (k - S 0) + 1 by omega]
        simp only [ru]
        rw [e2]
        exact c2)
    am_fuel (S 0) g1 (by omega) (z_fuel (by omega)) ⟨Nat.le_refl _, by rw [Nat.sub_self]; exact h1, f1⟩
  refine ⟨r, ?_, h3⟩
  rw [Ah_end, e1, Option.bind_some, h1.s.1, e0, show Ah_end_L11 am_fuel g1 (nI (S 0)) = some r from h2]; rfl
/-- all stages that are to come, in an order that stands in 229 -/
theorem mo_restL (h : RI T g S) (ho : ∀ i, i < T 1 → g.1 229 i = nI (o i) ∧ o i < T 1) (y : Int32) : ∃ g', Mo_rest_L19 am_fuel g y = some g' ∧ RI T g' (ru T o (T 1) S (T 2 - S 0)) ∧ Fm pR g g' := by
  have hb := h.bb
  obtain ⟨r, h2, h3⟩ := lp_up (fun n (a : am_G) _ => Mo_rest_L19 n a y) (T 2) (fun k a => S 0 ≤ k ∧ RI T a (ru T o (T 1) S (k - S 0)) ∧ Fm pR g a) (fun a => RI T a (ru T o (T 1) S (T 2 - S 0)) ∧ Fm pR g a)
    (fun n a ha => by
      have e2 : ru T o (T 1) S (T 2 - S 0) 0 = T 2 := by rw [ru_0]; omega
      refine ⟨a, ?_, ha.2⟩
      rw [Mo_rest_L19, mo_isStage ha.2.1, e2, Option.bind_some, if_neg (by simp)])
    (fun n k a hk ha => by
      obtain ⟨a1, a2, a3⟩ := ha
      have e2 : ru T o (T 1) S (k - S 0) 0 = k := by rw [ru_0]; omega
      obtain ⟨g2, c1, c2, c3⟩ := mo_stageGoes a2 (by rw [e2]; exact hk) (decide (T (55 + k) = 1)) (o := o) (fun i hi => by rw [a3.2 229 i (by unfold pR; omega)]; exact ho i hi)
      refine ⟨g2, ?_, by omega, ?_, a3.tr c3⟩
      · show Mo_rest_L19 (n + 1) a y = _
        rw [Mo_rest_L19, mo_isStage a2, e2, Option.bind_some, if_pos (decide_eq_true hk), mo_isRain a2 (by rw [e2]; exact hk), e2, Option.bind_some, c1, Option.bind_some]
      · rw [show k + 1 - S 0 = (k - S 0) + 1 by omega]
        simp only [ru]
        rw [e2]
        exact c2)
    am_fuel (S 0) g (by omega) (z_fuel (by omega)) ⟨Nat.le_refl _, by rw [Nat.sub_self]; exact h, Fm.rf _ _⟩
  exact ⟨r, h2, h3⟩
end
theorem sp_rest (g : am_G) (y1 : Int32) (h : Inv g) : ∃ g1 g2 r, Tb_rest g y1 = some (g1, r) ∧ Mo_rest g1 y1 = some (g2, r) ∧ Inv g2 := by
  have hI := h
  obtain ⟨T, S, n, P, h⟩ := h
  have hb := h.c.bb
  rcases w_01 g y1 with ⟨j, hj, rfl, e1, e2⟩ | ⟨e1, e2⟩
  · obtain ⟨g1, c1, c2, c3⟩ := ah_end h.c
    have f1 : Fs g g1 := c3.s (fun a k q => by unfold pC at q; unfold scr; omega)
    have h1 := h.fs f1
    obtain ⟨g2, d1, d2, d3⟩ := mo_holds g1
    obtain ⟨g3, a1, a2, a3⟩ := mo_plainOrder g2
    have r2 : RI T g2 S := h1.r.fm d3 (fun k q => absurd (show (223 : Nat) = 231 from q) (by decide)) (fun k _ q => absurd (show (225 : Nat) = 231 from q) (by decide))
    have r3 : RI T g3 S := r2.fm a3 (fun k q => absurd (show (223 : Nat) = 229 from q) (by decide)) (fun k _ q => absurd (show (225 : Nat) = 229 from q) (by decide))
    obtain ⟨g4, b1, b2, b3⟩ := mo_restL r3 (o := fun i => i) (fun i hi => ⟨a2 i (by omega), hi⟩) (nI j)
    have fw : Fm pW g2 g4 := (a3.mo (fun a k q => Or.inr (Or.inl q))).tr (b3.mo (fun a k q => by rcases q with q | q; exact Or.inl q; exact Or.inr (Or.inr q)))
    obtain ⟨g5, l1, l2, l3, l4⟩ := mo_round d2 d3 fw
    have hs := sh_ru (T := T) (o := fun i => i) (n := T 1) (sh_out S) (T 2 - S 0)
    have q31 : ∀ k, k < 29 → g4.1 231 k = nI (S k) := fun k hk => by rw [fw.2 231 k (by unfold pW; omega), d2 k hk]; exact h1.r.r hk
    refine ⟨g1, g5, nI (ru T (fun i => i) (T 1) (up (up S 1 0) 2 0) (T 2 - S 0) (1 + j)), ?_, ?_, T, S, n, P, h1.fs l2⟩
    · rw [Tb_rest, e1, Option.bind_some, if_pos rfl, c1, Option.bind_some]
      have : j = 0 ∨ j = 1 := by omega
      rcases this with rfl | rfl
      · rw [if_pos (show nI 0 = 0 from rfl), c2.s.2.1]
      · rw [if_neg (show ¬ nI 1 = 0 by decide), c2.s.2.2.1]
    · rw [Mo_rest, wi g, e2, Option.bind_some, if_pos rfl, d1, Option.bind_some, a1, Option.bind_some, b1, Option.bind_some, zl1, z_add, if_pos (z_in (by omega) (by omega)), if_pos (z_in (by omega) (by omega)), l1, Option.bind_some, z_cl (by omega), b2.r (by omega), q31 _ (by omega)]
      have : j = 0 ∨ j = 1 := by omega
      rcases this with rfl | rfl
      · simp only [Nat.add_zero]; rw [hs.1, z_sub (by omega)]; congr 3; omega
      · simp only [Nat.reduceAdd]; rw [hs.2.1, z_sub (by omega)]; congr 3; omega
  · exact ⟨g, g, -1, by rw [Tb_rest, e1]; rfl, by rw [Mo_rest, wi g, e2]; rfl, hI⟩
section
variable {T S R : Nat → Nat} {g : am_G}
/-- he has pace 1 -/
def p1 (T R : Nat → Nat) (w : Nat) : Prop := pac T R w (lod T R w) = 1
def sp1 (T S : Nat → Nat) : Nat → (Nat → Nat)
  | 0 => S
  | k + 1 => gon T (fun i => i) (T 1) (decide (T (55 + sp1 T S k 0) = 1)) (rnN (sp1 T S k) (decide (T (55 + sp1 T S k 0) = 1)) (T 1))
def spR (T S : Nat → Nat) (k : Nat) : Nat → Nat := rnN (sp1 T S k) (decide (T (55 + sp1 T S k 0) = 1)) (T 1)
theorem sp1_0 (k : Nat) : sp1 T S k 0 = S 0 + k := by
  induction k with
  | zero => rfl
  | succ k ih => simp only [sp1]; rw [gon_0, rnN_lo _ _ _ (by omega), ih]; omega
theorem sh_sp {m h' : Nat} {S S' : Nat → Nat} (h : sh m h' S S') (k : Nat) : sh m h' (sp1 T S k) (sp1 T S' k) := by
  induction k with
  | zero => exact h
  | succ k ih =>
    simp only [sp1]
    rw [ih.2.2 0 (by omega) (by omega)]
    refine sh_gon _ ⟨?_, ?_, rnN_cg _ _ ih.2.2⟩
    · rw [rnN_lo _ _ _ (by omega), rnN_lo _ _ _ (by omega)]; exact ih.1
    · rw [rnN_lo _ _ _ (by omega), rnN_lo _ _ _ (by omega)]; exact ih.2.1
theorem p1_sh {m h' : Nat} {S S' : Nat → Nat} (h : sh m h' S S') (k w : Nat) : p1 T (spR T S k) w ↔ p1 T (spR T S' k) w := by
  have ih := sh_sp (T := T) h k
  have r1 : ∀ j, 3 ≤ j → spR T S k j = spR T S' k j := fun j hj => by
    unfold spR
    rw [ih.2.2 0 (by omega) (by omega)]
    exact rnN_cg _ _ ih.2.2 j (by omega) (by omega)
  unfold p1 pac
  rw [r1 _ (by omega), lod_cg w (fun t _ => ⟨r1 _ (by omega), r1 _ (by omega), r1 _ (by omega)⟩)]
theorem ah_spentL (h : CI T g 85 R) (x : Int32) : (∃ w, w < T 0 ∧ p1 T R w ∧ (∀ v, v < w → ¬ p1 T R v) ∧ Ah_findSpent_L40 am_fuel g x 0 = some (.inr (am_wr (am_wr g 81 2 (nI w)) 81 3 x, true))) ∨ ((∀ w, w < T 0 → ¬ p1 T R w) ∧ Ah_findSpent_L40 am_fuel g x 0 = some (.inl ())) := by
  have hb := h.bb
  obtain ⟨r, h1, h2⟩ := lp_ex (fun n (_ : Unit) k => Ah_findSpent_L40 n g x (nI k)) (T 0) (fun k _ => ∀ v, v < k → ¬ p1 T R v) (fun r => (∃ w, w < T 0 ∧ p1 T R w ∧ (∀ v, v < w → ¬ p1 T R v) ∧ r = .inr (am_wr (am_wr g 81 2 (nI w)) 81 3 x, true)) ∨ ((∀ w, w < T 0 → ¬ p1 T R w) ∧ r = .inl ()))
    (fun n a ha => ⟨.inl (), by rw [Ah_findSpent_L40]; simp (disch := omega) only [h.n, z_lt, z_le, z_eq, z_in, z_cl, z_add, z_mul, z_mx, z_mn, zl12, zl18, zl19, zl30, zl115, zl116, zl119, zl291, zl640, zl999, zl9999, zl0, zl1, zl2, zl3, zl4, zl5, zl6, zl7, zl8, zl9, zl10, zl15, zl20, zl22, zl26, zl29, zl32, zl33, zl40, zl47, zl48, zl55, zl57, zl59, zl60, zl63, zl71, zl97, zl99, zl100, zl122, zl200, zl255, zl320, zl1000, zl1024, zl5040, zl1000000000, Nat.le_refl, ↓reduceIte], Or.inr ⟨ha, rfl⟩⟩)
    (fun n k a hk ha => by
      have h6 : ¬ T 0 ≤ k := by omega
      have hl := h.ld k
      have hp := pac_le T R k (lod T R k)
      by_cases q : p1 T R k
      · right
        refine ⟨_, ?_, Or.inl ⟨k, hk, q, ha, rfl⟩⟩
        rw [Ah_findSpent_L40, ca_load h (by omega), Option.bind_some, ca_pace h hk (by omega), Option.bind_some, show pac T R k (lod T R k) = 1 from q]
        simp (disch := omega) only [h.n, z_lt, z_le, z_eq, z_in, z_cl, z_add, z_mul, z_mx, z_mn, zl12, zl18, zl19, zl30, zl115, zl116, zl119, zl291, zl640, zl999, zl9999, zl0, zl1, zl2, zl3, zl4, zl5, zl6, zl7, zl8, zl9, zl10, zl15, zl20, zl22, zl26, zl29, zl32, zl33, zl40, zl47, zl48, zl55, zl57, zl59, zl60, zl63, zl71, zl97, zl99, zl100, zl122, zl200, zl255, zl320, zl1000, zl1024, zl5040, zl1000000000, h6, ↓reduceIte]
      · left
        refine ⟨(), ?_, fun v hv => ?_⟩
        · rw [Ah_findSpent_L40, ca_load h (by omega), Option.bind_some, ca_pace h hk (by omega), Option.bind_some]
          have q' : ¬ pac T R k (lod T R k) = 1 := q
          simp (disch := omega) only [h.n, z_lt, z_le, z_eq, z_in, z_cl, z_add, z_mul, z_mx, z_mn, zl12, zl18, zl19, zl30, zl115, zl116, zl119, zl291, zl640, zl999, zl9999, zl0, zl1, zl2, zl3, zl4, zl5, zl6, zl7, zl8, zl9, zl10, zl15, zl20, zl22, zl26, zl29, zl32, zl33, zl40, zl47, zl48, zl55, zl57, zl59, zl60, zl63, zl71, zl97, zl99, zl100, zl122, zl200, zl255, zl320, zl1000, zl1024, zl5040, zl1000000000, h6, q', ↓reduceIte]
        · by_cases e : v = k
          · subst e; exact q
          · exact ha v (by omega))
    am_fuel 0 () (by omega) (z_fuel (by omega)) (fun v hv => by omega)
  rcases h2 with ⟨w, k1, k2, k3, rfl⟩ | ⟨k1, rfl⟩
  · exact Or.inl ⟨w, k1, k2, k3, h1⟩
  · exact Or.inr ⟨k1, h1⟩
theorem mo_spentL (h : RI T g R) (y : Int32) (z : Int32) : (∃ w, w < T 0 ∧ p1 T R w ∧ (∀ v, v < w → ¬ p1 T R v) ∧ Mo_spent_L52 am_fuel g y z (nI (T 0) - 1) = some (if y = 0 then nI w else nI (R 0))) ∨ ((∀ w, w < T 0 → ¬ p1 T R w) ∧ Mo_spent_L52 am_fuel g y z (nI (T 0) - 1) = some z) := by
  have hb := h.bb
  have neg : (nI 0 - 1 : Int32) < 0 := by decide
  obtain ⟨r, h1, h2⟩ := lp_dn (fun n (a : Int32) k => Mo_spent_L52 n g y a (nI k - 1)) (fun k a => k ≤ T 0 ∧ ((∃ w, k ≤ w ∧ w < T 0 ∧ p1 T R w ∧ (∀ v, k ≤ v → v < w → ¬ p1 T R v) ∧ a = if y = 0 then nI w else nI (R 0)) ∨ ((∀ w, k ≤ w → w < T 0 → ¬ p1 T R w) ∧ a = z))) (fun a => (∃ w, w < T 0 ∧ p1 T R w ∧ (∀ v, v < w → ¬ p1 T R v) ∧ a = if y = 0 then nI w else nI (R 0)) ∨ ((∀ w, w < T 0 → ¬ p1 T R w) ∧ a = z))
    (fun n a ha => ⟨a, by rw [Mo_spent_L52, if_pos neg], by
      rcases ha.2 with ⟨w, k0, k1, k2, k3, k4⟩ | ⟨k1, k2⟩
      · exact Or.inl ⟨w, k1, k2, fun v hv => k3 v (by omega) hv, k4⟩
      · exact Or.inr ⟨fun w hw => k1 w (by omega) hw, k2⟩⟩)
    (fun n k a ha => by
      have hk : k < T 0 := by omega
      have hl := h.ld k
      have hp := pac_le T R k (lod T R k)
      refine ⟨if pac T R k (lod T R k) = 1 then (if y = 0 then nI k else nI (R 0)) else a, ?_, by omega, ?_⟩
      · show Mo_spent_L52 (n + 1) g y a (nI (k + 1) - 1) = _
        rw [nI_pred, Mo_spent_L52, if_neg (nI_pos (by omega)), mo_load h (by omega), Option.bind_some, mo_pace h hk (by omega), Option.bind_some, h.r (by omega)]
        rw [show nI k + (-1) = nI k - 1 from (Int32.sub_eq_add_neg ..).symm]
        by_cases q : pac T R k (lod T R k) = 1
        · rw [if_pos q, q, if_pos (show nI 1 = 1 from rfl)]
        · rw [if_neg q, if_neg (by rw [zl1]; exact z_ne (by omega) (by omega) q)]
      · by_cases q : pac T R k (lod T R k) = 1
        · rw [if_pos q]
          exact Or.inl ⟨k, Nat.le_refl _, hk, q, fun v h1 h2 => by omega, rfl⟩
        · rw [if_neg q]
          rcases ha.2 with ⟨w, k0, k1, k2, k3, k4⟩ | ⟨k1, k2⟩
          · refine Or.inl ⟨w, by omega, k1, k2, fun v hv hv2 => ?_, k4⟩
            by_cases e : v = k
            · subst e; exact q
            · exact k3 v (by omega) hv2
          · refine Or.inr ⟨fun w hw hw2 => ?_, k2⟩
            by_cases e : w = k
            · subst e; exact q
            · exact k1 w (by omega) hw2)
    am_fuel (T 0) z (z_fuel (by omega)) ⟨Nat.le_refl _, Or.inr ⟨fun w h1 h2 => by omega, rfl⟩⟩
  rcases h2 with ⟨w, k1, k2, k3, rfl⟩ | ⟨k1, rfl⟩
  · exact Or.inl ⟨w, k1, k2, k3, h1⟩
  · exact Or.inr ⟨k1, h1⟩
/-- the first walker who is spent: w, k stages from now -/
def isF (T S : Nat → Nat) (k w : Nat) : Prop := S 0 + k < T 2 ∧ w < T 0 ∧ p1 T (spR T S k) w ∧ (∀ v, v < w → ¬ p1 T (spR T S k) v) ∧ ∀ j, j < k → ∀ v, v < T 0 → ¬ p1 T (spR T S j) v
theorem ah_findSpent (h : CI T g 28 S) : (∃ k w g', isF T S k w ∧ Ah_findSpent g = some (g', true) ∧ g'.1 81 2 = nI w ∧ g'.1 81 3 = nI (S 0 + k) ∧ Fm (fun a _ => 81 ≤ a ∧ a ≤ 88) g g') ∨ ((∀ k w, ¬ isF T S k w) ∧ ∃ g', Ah_findSpent g = some (g', false) ∧ Fm (fun a _ => 81 ≤ a ∧ a ≤ 88) g g') := by
  have hb := h.bb
  obtain ⟨g1, e1, h1, f1⟩ := ah_setOut h
  have e0 : (up (up S 1 0) 2 0) 0 = S 0 := by rw [up_ne (by omega), up_ne (by omega)]
  have hps : ∀ k w, p1 T (spR T S k) w ↔ p1 T (spR T (up (up S 1 0) 2 0) k) w := fun k w => p1_sh (sh_out S) k w
  generalize hU : up (up S 1 0) 2 0 = U at h1 e0 hps
  obtain ⟨r, h2, h3⟩ := lp_ex (fun n (a : am_G) k => Ah_findSpent_L11 n a (nI k)) (T 2) (fun k a => S 0 ≤ k ∧ CI T a 85 (sp1 T U (k - S 0)) ∧ Fm (fun a _ => 81 ≤ a ∧ a ≤ 88) g a ∧ ∀ j, j < k - S 0 → ∀ v, v < T 0 → ¬ p1 T (spR T S j) v)
    (fun r => (∃ k w g', isF T S k w ∧ r = .inr (g', true) ∧ g'.1 81 2 = nI w ∧ g'.1 81 3 = nI (S 0 + k) ∧ Fm (fun a _ => 81 ≤ a ∧ a ≤ 88) g g') ∨ ((∀ k w, ¬ isF T S k w) ∧ ∃ g', r = .inl g' ∧ Fm (fun a _ => 81 ≤ a ∧ a ≤ 88) g g'))
    (fun n a ha => ⟨.inl a, by rw [Ah_findSpent_L11]; simp (disch := omega) only [ha.2.1.n, z_lt, z_le, z_eq, z_in, z_cl, z_add, z_mul, z_mx, z_mn, zl12, zl18, zl19, zl30, zl115, zl116, zl119, zl291, zl640, zl999, zl9999, zl0, zl1, zl2, zl3, zl4, zl5, zl6, zl7, zl8, zl9, zl10, zl15, zl20, zl22, zl26, zl29, zl32, zl33, zl40, zl47, zl48, zl55, zl57, zl59, zl60, zl63, zl71, zl97, zl99, zl100, zl122, zl200, zl255, zl320, zl1000, zl1024, zl5040, zl1000000000, Nat.le_refl, ↓reduceIte], Or.inr ⟨fun k w q => ha.2.2.2 k (by have := q.1; omega) w q.2.1 q.2.2.1, a, rfl, ha.2.2.1⟩⟩)
    (fun n k a hk ha => by
      obtain ⟨a1, a2, a3, a4⟩ := ha
      have h6 : ¬ T 2 ≤ k := by omega
      have e2 : sp1 T U (k - S 0) 0 = k := by rw [sp1_0, e0]; omega
      obtain ⟨g2, c1, c2, c3⟩ : ∃ g2, (if (decide (T (55 + k) = 1)) = true then (Ca_soak a 85).bind fun q7 => some q7 else some a) = some g2 ∧ CI T g2 85 (spR T U (k - S 0)) ∧ Fm (pC 85) a g2 := by
        unfold spR
        rw [e2]
        by_cases q : T (55 + k) = 1
        · obtain ⟨g2, c1, c2, c3⟩ := ca_soak a2 (by omega)
          rw [decide_eq_true q]
          exact ⟨g2, by rw [if_pos rfl, c1]; rfl, c2, c3⟩
        · rw [decide_eq_false q]
          exact ⟨a, by rw [if_neg (by simp)], by rw [rnN_f]; exact a2, Fm.rf _ _⟩
      have f2 : Fm (fun a _ => 81 ≤ a ∧ a ≤ 88) g g2 := a3.tr (c3.mo (fun a k q => by unfold pC at q; omega))
      have e3 : spR T U (k - S 0) 0 = k := by unfold spR; rw [rnN_lo _ _ _ (by omega), e2]
      rcases ah_spentL c2 (nI k) with ⟨w, w1, w2, w3, w4⟩ | ⟨w1, w2⟩
      · right
        refine ⟨_, ?_, Or.inl ⟨k - S 0, w, am_wr (am_wr g2 81 2 (nI w)) 81 3 (nI k), ⟨by omega, w1, (hps _ _).2 w2, fun v hv q => w3 v hv ((hps _ _).1 q), a4⟩, rfl, by rw [m_nk (by omega), m_eq], by rw [m_eq]; congr 1; omega, (f2.wr (by omega)).wr (by omega)⟩⟩
        rw [Ah_findSpent_L11, ta_rains a2 hk, Option.bind_some, c1, Option.bind_some, w4]
        simp (disch := omega) only [a2.n, z_lt, z_le, z_eq, z_in, z_cl, z_add, z_mul, z_mx, z_mn, zl12, zl18, zl19, zl30, zl115, zl116, zl119, zl291, zl640, zl999, zl9999, zl0, zl1, zl2, zl3, zl4, zl5, zl6, zl7, zl8, zl9, zl10, zl15, zl20, zl22, zl26, zl29, zl32, zl33, zl40, zl47, zl48, zl55, zl57, zl59, zl60, zl63, zl71, zl97, zl99, zl100, zl122, zl200, zl255, zl320, zl1000, zl1024, zl5040, zl1000000000, h6, Option.bind_some, Option.bind_none, ↓reduceIte, Bool.false_eq_true, reduceCtorEq]
      · left
        obtain ⟨g3, d1, d2, d3⟩ := ca_pass c2 (by omega) (by rw [e3]; exact hk) (decide (T (55 + k) = 1))
        refine ⟨g3, ?_, by omega, ?_, f2.tr (d3.mo (fun a k q => by unfold pC at q; omega)), fun j hj v hv => ?_⟩
        · show Ah_findSpent_L11 (n + 1) a (nI k) = _
          rw [Ah_findSpent_L11, ta_rains a2 hk, Option.bind_some, c1, Option.bind_some, w2, Option.bind_some]
          simp only [ta_rains c2 hk, Option.bind_some, d1]
          simp (disch := omega) only [a2.n, z_lt, z_le, z_eq, z_in, z_cl, z_add, z_mul, z_mx, z_mn, zl12, zl18, zl19, zl30, zl115, zl116, zl119, zl291, zl640, zl999, zl9999, zl0, zl1, zl2, zl3, zl4, zl5, zl6, zl7, zl8, zl9, zl10, zl15, zl20, zl22, zl26, zl29, zl32, zl33, zl40, zl47, zl48, zl55, zl57, zl59, zl60, zl63, zl71, zl97, zl99, zl100, zl122, zl200, zl255, zl320, zl1000, zl1024, zl5040, zl1000000000, h6, Option.bind_some, Option.bind_none, ↓reduceIte, Bool.false_eq_true, reduceCtorEq]
        · rw [show k + 1 - S 0 = (k - S 0) + 1 by omega]
          simp only [sp1]
          rw [e2]
          unfold spR at d2
          rw [e2] at d2
          exact d2
        · by_cases e : j = k - S 0
          · subst e; exact fun q => w1 v hv ((hps _ _).1 q)
          · exact a4 j (by omega) v hv)
    am_fuel (S 0) g1 (by omega) (z_fuel (by omega)) ⟨Nat.le_refl _, by rw [Nat.sub_self]; exact h1, f1.mo (fun a k q => by unfold pC at q; omega), fun j hj => by omega⟩
  have e5 : Ah_findSpent g = (some r).bind fun q22 => match q22 with | .inr w => some w | .inl w23 => some (w23, false) := by
    rw [Ah_findSpent, e1, Option.bind_some, h1.s.1, e0, show Ah_findSpent_L11 am_fuel g1 (nI (S 0)) = some r from h2]; rfl
  rcases h3 with ⟨k, w, g', k1, rfl, k2, k3, k4⟩ | ⟨k1, g', rfl, k4⟩
  · exact Or.inl ⟨k, w, g', k1, by rw [e5]; rfl, k2, k3, k4⟩
  · exact Or.inr ⟨k1, g', by rw [e5]; rfl, k4⟩
theorem mo_spentW (h : RI T g S) (ho : ∀ i, i < T 1 → g.1 229 i = nI i) (y : Int32) (hs : ∀ k, nI k ≠ -9 ∨ 2 ^ 31 ≤ k) : ∃ g', Fm pR g g' ∧ ((∃ k w, isF T S k w ∧ Mo_spent_L22 am_fuel g y (-9) = some (g', if y = 0 then nI w else nI (S 0 + k))) ∨ ((∀ k w, ¬ isF T S k w) ∧ Mo_spent_L22 am_fuel g y (-9) = some (g', -9))) := by
  have hb := h.bb
  have e9 : ∀ k, k < 2 ^ 31 → ¬ nI k = -9 := fun k hk => (hs k).resolve_right (by omega)
  obtain ⟨r, h2, h3⟩ := lp_en (fun n (a : am_G) _ => Mo_spent_L22 n a y (-9)) (T 2) (fun k a => S 0 ≤ k ∧ RI T a (sp1 T S (k - S 0)) ∧ Fm pR g a ∧ ∀ j, j < k - S 0 → ∀ v, v < T 0 → ¬ p1 T (spR T S j) v)
    (fun r => Fm pR g r.1 ∧ ((∃ k w, isF T S k w ∧ r.2 = (if y = 0 then nI w else nI (S 0 + k))) ∨ ((∀ k w, ¬ isF T S k w) ∧ r.2 = -9)))
    (fun n a ha => by
      have e2 : sp1 T S (T 2 - S 0) 0 = T 2 := by rw [sp1_0]; omega
      refine ⟨(a, -9), ?_, ha.2.2.1, Or.inr ⟨fun k w q => ha.2.2.2 k (by have := q.1; omega) w q.2.1 q.2.2.1, rfl⟩⟩
      rw [Mo_spent_L22, mo_isStage ha.2.1, e2, Option.bind_some, if_neg (by simp)])
    (fun n k a hk hn ha => by
      obtain ⟨a1, a2, a3, a4⟩ := ha
      have e2 : sp1 T S (k - S 0) 0 = k := by rw [sp1_0]; omega
      obtain ⟨g2, c1, c2, c3⟩ := mo_rains a2 (decide (T (55 + k) = 1))
      have c2' : RI T g2 (spR T S (k - S 0)) := by unfold spR; rw [e2]; exact c2
      have e3 : spR T S (k - S 0) 0 = k := by unfold spR; rw [rnN_lo _ _ _ (by omega), e2]
      have f2 := a3.tr c3
      have st : Mo_spent_L22 (n + 1) a y (-9) = (Mo_spent_L52 am_fuel g2 y (-9) (nI (T 0) - 1)).bind fun q24 => if q24 = (-9) then (Mo_isRain g2).bind fun q26 => (Mo_stageGoes g2 (am_b q26)).bind fun q28 => Mo_spent_L22 n q28.1 y q24 else Mo_spent_L22 n g2 y q24 := by
        rw [Mo_spent_L22, mo_isStage a2, e2, Option.bind_some, if_pos (decide_eq_true hk), if_pos rfl, mo_isRain a2 (by rw [e2]; exact hk), e2, Option.bind_some, c1, Option.bind_some, c2.u (by omega)]
      rcases mo_spentL c2' y (-9) with ⟨w, w1, w2, w3, w4⟩ | ⟨w1, w2⟩
      · right
        refine ⟨(g2, if y = 0 then nI w else nI (S 0 + (k - S 0))), ?_, f2, Or.inl ⟨k - S 0, w, ⟨by omega, w1, w2, w3, a4⟩, rfl⟩⟩
        have hne : ¬ (if y = 0 then nI w else nI k) = -9 := by split; exact e9 w (by omega); exact e9 k (by omega)
        rw [st, w4, Option.bind_some, e3, if_neg hne, show S 0 + (k - S 0) = k by omega]
        cases n with
        | zero => omega
        | succ n =>
          rw [Mo_spent_L22, mo_isStage c2', e3, Option.bind_some, if_pos (decide_eq_true hk), if_neg hne]
      · left
        obtain ⟨g3, d1, d2, d3⟩ := mo_stageGoes c2' (by rw [e3]; exact hk) (decide (T (55 + k) = 1)) (o := fun i => i) (fun i hi => by rw [f2.2 229 i (by unfold pR; omega)]; exact ⟨ho i hi, hi⟩)
        refine ⟨g3, ?_, by omega, ?_, f2.tr d3, fun j hj v hv => ?_⟩
        · show Mo_spent_L22 (n + 1) a y (-9) = _
          rw [st, w2, Option.bind_some, if_pos rfl, mo_isRain c2' (by rw [e3]; exact hk), e3, Option.bind_some, d1, Option.bind_some]
        · rw [show k + 1 - S 0 = (k - S 0) + 1 by omega]
          simp only [sp1]
          rw [e2]
          unfold spR at d2
          rw [e2] at d2
          exact d2
        · by_cases e : j = k - S 0
          · subst e; exact w1 v hv
          · exact a4 j (by omega) v hv)
    am_fuel (S 0) g (by omega) (z_fuel (by omega)) ⟨Nat.le_refl _, by rw [Nat.sub_self]; exact h, Fm.rf _ _, fun j hj => by omega⟩
  refine ⟨r.1, h3.1, ?_⟩
  rcases h3.2 with ⟨k, w, k1, k2⟩ | ⟨k1, k2⟩
  · exact Or.inl ⟨k, w, k1, by rw [h2, ← k2]⟩
  · exact Or.inr ⟨k1, by rw [h2, ← k2]⟩
end
theorem sp_spent (g : am_G) (y1 : Int32) (h : Inv g) : ∃ g1 g2 r, Tb_spent g y1 = some (g1, r) ∧ Mo_spent g1 y1 = some (g2, r) ∧ Inv g2 := by
  have hI := h
  obtain ⟨T, S, n, P, h⟩ := h
  have hb := h.c.bb
  have h9 : ∀ k, nI k ≠ -9 ∨ 2 ^ 31 ≤ k := fun k => by
    by_cases q : 2 ^ 31 ≤ k
    · exact Or.inr q
    · refine Or.inl (fun e => ?_)
      have h1 := nI_pos (n := k) (by omega)
      rw [e] at h1
      exact h1 (by decide)
  rcases w_01 g y1 with ⟨j, hj, rfl, e1, e2⟩ | ⟨e1, e2⟩
  · have main : ∀ g1, Fm (fun a _ => 81 ≤ a ∧ a ≤ 88) g g1 → ∃ g2 r, Mo_spent g1 (nI j) = some (g2, r) ∧ Inv g2 ∧ ((∃ k w, isF T S k w ∧ r = if nI j = 0 then nI w else nI (S 0 + k)) ∨ ((∀ k w, ¬ isF T S k w) ∧ r = -9)) := by
      intro g1 c3
      have f1 : Fs g g1 := c3.s (fun a k q => by unfold scr; omega)
      have h1 := h.fs f1
      obtain ⟨g2, d1, d2, d3⟩ := mo_holds g1
      obtain ⟨g3, a1, a2, a3⟩ := mo_plainOrder g2
      have r2 : RI T g2 S := h1.r.fm d3 (fun k q => absurd (show (223 : Nat) = 231 from q) (by decide)) (fun k _ q => absurd (show (225 : Nat) = 231 from q) (by decide))
      have r3 : RI T g3 S := r2.fm a3 (fun k q => absurd (show (223 : Nat) = 229 from q) (by decide)) (fun k _ q => absurd (show (225 : Nat) = 229 from q) (by decide))
      obtain ⟨g4, b3, b1⟩ := mo_spentW r3 (fun i hi => a2 i (by omega)) (nI j) h9
      have fw : Fm pW g2 g4 := (a3.mo (fun a k q => Or.inr (Or.inl q))).tr (b3.mo (fun a k q => by rcases q with q | q; exact Or.inl q; exact Or.inr (Or.inr q)))
      obtain ⟨g5, l1, l2, l3, l4⟩ := mo_round d2 d3 fw
      rcases b1 with ⟨k, w, b1, b2⟩ | ⟨b1, b2⟩
      · refine ⟨g5, _, ?_, ⟨T, S, n, P, h1.fs l2⟩, Or.inl ⟨k, w, b1, rfl⟩⟩
        rw [Mo_spent, wi g, e2, Option.bind_some, if_pos rfl, d1, Option.bind_some, a1, Option.bind_some, b2, Option.bind_some, l1]; rfl
      · refine ⟨g5, _, ?_, ⟨T, S, n, P, h1.fs l2⟩, Or.inr ⟨b1, rfl⟩⟩
        rw [Mo_spent, wi g, e2, Option.bind_some, if_pos rfl, d1, Option.bind_some, a1, Option.bind_some, b2, Option.bind_some, l1]; rfl
    rcases ah_findSpent h.c with ⟨k, w, g1, k1, k2, k3, k4, k5⟩ | ⟨k1, g1, k2, k5⟩
    · obtain ⟨g2, r, m1, m2, m3⟩ := main g1 k5
      rcases m3 with ⟨k', w', q1, q2⟩ | ⟨q1, q2⟩
      · have ek : k' = k := by
          rcases Nat.lt_trichotomy k' k with e | e | e
          · exact absurd q1.2.2.1 (k1.2.2.2.2 k' e w' q1.2.1)
          · exact e
          · exact absurd k1.2.2.1 (q1.2.2.2.2 k e w k1.2.1)
        subst ek
        have ew : w' = w := by
          rcases Nat.lt_trichotomy w' w with e | e | e
          · exact absurd q1.2.2.1 (k1.2.2.2.1 w' e)
          · exact e
          · exact absurd k1.2.2.1 (q1.2.2.2.1 w e)
        subst ew
        refine ⟨g1, g2, r, ?_, m1, m2⟩
        rw [Tb_spent, e1, Option.bind_some, if_pos rfl, k2, Option.bind_some, if_pos rfl, q2, k3, k4]
        split <;> rfl
      · exact absurd k1 (q1 k w)
    · obtain ⟨g2, r, m1, m2, m3⟩ := main g1 k5
      rcases m3 with ⟨k', w', q1, q2⟩ | ⟨q1, q2⟩
      · exact absurd q1 (k1 _ _)
      · refine ⟨g1, g2, r, ?_, m1, m2⟩
        rw [Tb_spent, e1, Option.bind_some, if_pos rfl, k2, q2]; rfl
  · exact ⟨g, g, -1, by rw [Tb_spent, e1]; rfl, by rw [Mo_spent, wi g, e2]; rfl, hI⟩
