-- ODDS, the walks
def lk (T : Nat → Nat) (x m : Nat) : Nat → (Nat → Nat) → Nat
  | 0, Q => if Q 1 ≤ m then 1 else 0
  | r + 1, Q => if Q 1 ≤ m then x * lk T x m r (gon T (fun i => i) (T 1) true Q) + (10 - x) * lk T x m r (gon T (fun i => i) (T 1) false Q) else 0
def rs (T Q : Nat → Nat) (s : Nat) : Nat → (Nat → Nat)
  | 0 => Q
  | k + 1 => gon T (fun i => i) (T 1) (decide (s / 2 ^ k % 2 = 1)) (rs T Q s k)
def wt (x s : Nat) : Nat → Nat
  | 0 => 1
  | k + 1 => wt x s k * (if s / 2 ^ k % 2 = 1 then x else 10 - x)
def lf1 (T Q : Nat → Nat) (x m r s : Nat) : Nat := if rs T Q s r 1 ≤ m then wt x s r else 0
section
variable {T S Q : Nat → Nat} {g g' : am_G} {x m r s : Nat}
theorem gon_mono (T o : Nat → Nat) (n : Nat) (b : Bool) (Q : Nat → Nat) : Q 1 ≤ gon T o n b Q 1 := by rw [gon_1]; omega
theorem lk_0 (h : ¬ Q 1 ≤ m) : lk T x m r Q = 0 := by
  cases r with
  | zero => simp only [lk]; rw [if_neg h]
  | succ r => simp only [lk]; rw [if_neg h]
theorem lk_le (hx : x ≤ 10) : ∀ r Q, lk T x m r Q ≤ 10 ^ r := by
  intro r
  induction r with
  | zero => intro Q; simp only [lk]; split <;> omega
  | succ r ih =>
    intro Q
    simp only [lk]
    split
    · have h1 := Nat.mul_le_mul_left x (ih (gon T (fun i => i) (T 1) true Q))
      have h2 := Nat.mul_le_mul_left (10 - x) (ih (gon T (fun i => i) (T 1) false Q))
      have h3 : x * 10 ^ r + (10 - x) * 10 ^ r = 10 ^ (r + 1) := by
        rw [← Nat.add_mul, Nat.pow_succ, Nat.mul_comm, show x + (10 - x) = 10 by omega]
      omega
    · exact Nat.zero_le _
theorem dv (s k : Nat) : s / 2 ^ (k + 1) = s / 2 / 2 ^ k := by rw [Nat.div_div_eq_div_mul, Nat.pow_succ, Nat.mul_comm]
theorem rs_h (s k : Nat) : rs T Q s (k + 1) = rs T (gon T (fun i => i) (T 1) (decide (s % 2 = 1)) Q) (s / 2) k := by
  induction k with
  | zero => simp only [rs, Nat.pow_zero, Nat.div_one]
  | succ k ih => rw [rs, ih, rs, dv]
theorem wt_h (s k : Nat) : wt x s (k + 1) = (if s % 2 = 1 then x else 10 - x) * wt x (s / 2) k := by
  induction k with
  | zero => simp only [wt, Nat.pow_zero, Nat.div_one, Nat.one_mul, Nat.mul_one]
  | succ k ih => rw [wt, ih, wt, dv, Nat.mul_assoc]
theorem rs_mono (s k : Nat) : Q 1 ≤ rs T Q s k 1 := by
  induction k with
  | zero => exact Nat.le_refl _
  | succ k ih => exact Nat.le_trans ih (gon_mono _ _ _ _ _)
theorem sm_2 (f : Nat → Nat) (n : Nat) : sm f (2 * n) = sm (fun i => f (2 * i) + f (2 * i + 1)) n := by
  induction n with
  | zero => rfl
  | succ n ih =>
    rw [show 2 * (n + 1) = 2 * n + 1 + 1 by omega, sm_s, sm_s, ih, sm_s]
    omega
theorem sm_add (f h : Nat → Nat) (n : Nat) : sm (fun i => f i + h i) n = sm f n + sm h n := by
  induction n with
  | zero => rfl
  | succ n ih => rw [sm_s, sm_s, sm_s, ih]; omega
theorem sm_mul (c : Nat) (f : Nat → Nat) (n : Nat) : sm (fun i => c * f i) n = c * sm f n := by
  induction n with
  | zero => rfl
  | succ n ih => rw [sm_s, sm_s, ih, Nat.mul_add]
/-- all sets of rain, added up -/
theorem lk_sum : ∀ r Q, sm (lf1 T Q x m r) (2 ^ r) = lk T x m r Q := by
  intro r
  induction r with
  | zero => intro Q; show 0 + lf1 T Q x m 0 0 = _; rw [Nat.zero_add]; rfl
  | succ r ih =>
    intro Q
    rw [Nat.pow_succ, Nat.mul_comm, sm_2]
    have e : ∀ i, i < 2 ^ r → lf1 T Q x m (r + 1) (2 * i) + lf1 T Q x m (r + 1) (2 * i + 1) = (10 - x) * lf1 T (gon T (fun i => i) (T 1) false Q) x m r i + x * lf1 T (gon T (fun i => i) (T 1) true Q) x m r i := by
      intro i _
      unfold lf1
      rw [rs_h, rs_h, wt_h, wt_h, show 2 * i % 2 = 0 by omega, show (2 * i + 1) % 2 = 1 by omega, show 2 * i / 2 = i by omega, show (2 * i + 1) / 2 = i by omega]
      simp only [show ((0 : Nat) = 1) = False by simp, decide_false, decide_true, ↓reduceIte]
      congr 1 <;> split <;> simp
    rw [sm_cg e, sm_add, sm_mul, sm_mul, ih, ih]
    simp only [lk]
    by_cases q : Q 1 ≤ m
    · rw [if_pos q]; omega
    · rw [if_neg q, lk_0 (fun e => q (Nat.le_trans (gon_mono _ _ _ _ _) e)), lk_0 (fun e => q (Nat.le_trans (gon_mono _ _ _ _ _) e))]
      omega
theorem rs_0 (k : Nat) : rs T Q s k 0 = Q 0 + k := by
  induction k with
  | zero => rfl
  | succ k ih => simp only [rs]; rw [gon_0, ih]; omega
theorem sh_rs {m' h' : Nat} {S S' : Nat → Nat} (h : sh m' h' S S') (k : Nat) : sh m' h' (rs T S s k) (rs T S' s k) := by
  induction k with
  | zero => exact h
  | succ k ih => exact sh_gon _ ih
theorem rs_b (hT : TW T) {k : Nat} (hk : Q 0 + k ≤ T 2) : rs T Q s k 1 ≤ Q 1 + 1200 * k := by
  induction k with
  | zero => simp [rs]
  | succ k ih =>
    have h1 := ih (by omega)
    simp only [rs]
    rw [gon_1, rs_0]
    have hL := (hT.2.2.2.2.2 (Q 0 + k) (by omega)).1
    have : slo T (rnN (rs T Q s k) (decide (s / 2 ^ k % 2 = 1)) (T 1)) (T (47 + (Q 0 + k))) ≤ 1200 := slo_le hL (T 0)
    omega
theorem ah_stepOn {st : Nat} (h : CI T g (85 + 4 * st) Q) (hd : Q 0 < T 2) (hst : st < 8) (b : Bool) : ∃ g', Ah_stepOn g (nI st) (am_b b) = some g' ∧ CI T g' (85 + 4 * (st + 1)) (gon T (fun i => i) (T 1) b Q) ∧ Fm (fun a _ => 85 + 4 * (st + 1) ≤ a ∧ a ≤ 120) g g' := by
  obtain ⟨g1, e1, ce, f1⟩ := ca_copyFrom g (c := 85 + 4 * (st + 1)) (o := 85 + 4 * st) (by omega)
  have h1 := h.ce ce f1 (by omega)
  obtain ⟨g2, c1, c2, c3⟩ := ca_pass h1 (by omega) hd b
  refine ⟨g2, ?_, c2, (f1.tr c3).mo (fun a k q => by unfold pC at q; omega)⟩
  rw [Ah_stepOn, zl1, z_add, if_pos (z_in (by omega) (by omega)), if_pos (z_in (by omega) (by omega)), z_cl (by omega), z_cl (by omega), e1, Option.bind_some, c1]; rfl
theorem ah_lucky (hx : x ≤ 10) (hm : m ≤ 9999) : ∀ r n g st Q, CI T g (85 + 4 * st) Q → Q 0 + r = T 2 → st + r ≤ 8 → r < n → Q 1 ≤ 1200 * st → ∃ g', Ah_luckyWays n g (nI st) (nI x) (nI m) = some (g', lN (lk T x m r Q)) ∧ Fm (fun a _ => 85 + 4 * (st + 1) ≤ a ∧ a ≤ 120) g g' := by
  intro r
  induction r with
  | zero =>
    intro n g st Q h hr hst hn hq
    cases n with
    | zero => omega
    | succ n =>
      have hb := h.bb
      refine ⟨g, ?_, Fm.rf _ _⟩
      rw [Ah_luckyWays, if_pos (z_in (by omega) (by omega)), z_cl (by omega), h.s.2.1, ca_hasStage h, Option.bind_some]
      have q0 : ¬ Q 0 < T 2 := by omega
      simp only [lk]
      by_cases q : Q 1 ≤ m
      · rw [if_pos q, if_pos (by rw [z_le (by omega) (by omega)]; exact q), if_neg (by simpa using q0)]; rfl
      · rw [if_neg q, if_neg (by rw [z_le (by omega) (by omega)]; exact q)]; rfl
  | succ r ih =>
    intro n g st Q h hr hst hn hq
    cases n with
    | zero => omega
    | succ n =>
      have hb := h.bb
      have q0 : Q 0 < T 2 := by omega
      have hL := h.dd q0
      simp only [lk]
      by_cases q : Q 1 ≤ m
      · have step : ∀ (b : Bool) (g0 : am_G), Fm (fun a _ => 85 + 4 * (st + 1) ≤ a ∧ a ≤ 120) g g0 → ∃ g1 g2, Ah_stepOn g0 (nI st) (am_b b) = some g1 ∧ Ah_luckyWays n g1 (nI (st + 1)) (nI x) (nI m) = some (g2, lN (lk T x m r (gon T (fun i => i) (T 1) b Q))) ∧ Fm (fun a _ => 85 + 4 * (st + 1) ≤ a ∧ a ≤ 120) g g2 := by
          intro b g0 f0
          have h0 : CI T g0 (85 + 4 * st) Q := h.fm f0 (fun a k q1 q2 q => by omega) (fun a k q1 q2 q => by omega)
          obtain ⟨g1, c1, c2, c3⟩ := ah_stepOn h0 q0 (by omega) b
          have hs : slo T (rnN Q b (T 1)) (T (47 + Q 0)) ≤ 1200 := slo_le hL.2.2.2.1 (T 0)
          obtain ⟨g2, d1, d2⟩ := ih n g1 (st + 1) _ c2 (by rw [gon_0]; omega) (by omega) (by omega) (by rw [gon_1]; omega)
          exact ⟨g1, g2, c1, d1, (f0.tr c3).tr (d2.mo (fun a k q => by omega))⟩
        rw [if_pos q]
        have hin : am_in (nI st) 9 = true := z_in (by omega) (by omega)
        have hle : nI (Q 1) ≤ nI m := nI_le q (by omega)
        have hlt : nI st < 8 := (nI_ltI (a := st) (b := 8) (by omega) (by omega)).2 (by omega)
        by_cases x0 : x = 0
        · obtain ⟨g1, g2, c1, c2, c3⟩ := step false g (Fm.rf _ _)
          refine ⟨g2, ?_, c3⟩
          rw [Ah_luckyWays, if_pos hin, z_cl (by omega), h.s.2.1, if_pos hle, ca_hasStage h, Option.bind_some, if_pos (decide_eq_true q0), if_pos hlt, if_pos (by rw [zl0, z_le (by omega) (by omega)]; omega), Option.bind_some, if_neg (by rw [zl10, z_le (by omega) (by omega)]; omega)]
          show (Ah_stepOn g (nI st) (am_b false)).bind _ = _
          rw [c1, Option.bind_some, nI_1, c2, Option.bind_some, zl10, z_sub (by omega), nI_l (by omega), lN_mul, show (0 : Int64) = lN 0 from rfl, lN_add, x0, Nat.zero_mul]
        · obtain ⟨g1, g2, c1, c2, c3⟩ := step true g (Fm.rf _ _)
          by_cases x10 : x = 10
          · refine ⟨g2, ?_, c3⟩
            rw [Ah_luckyWays, if_pos hin, z_cl (by omega), h.s.2.1, if_pos hle, ca_hasStage h, Option.bind_some, if_pos (decide_eq_true q0), if_pos hlt, if_neg (by rw [zl0, z_le (by omega) (by omega)]; omega)]
            rw [show Ah_stepOn g (nI st) 1 = some g1 from c1, Option.bind_some, nI_1, c2, Option.bind_some, nI_l (by omega), lN_mul, show (0 : Int64) = lN 0 from rfl, lN_add, Option.bind_some, if_pos (by rw [zl10, z_le (by omega) (by omega)]; omega), x10, Nat.sub_self, Nat.zero_mul, Nat.zero_add, Nat.add_zero]
          · obtain ⟨g3, g4, d1, d2, d3⟩ := step false g2 c3
            refine ⟨g4, ?_, d3⟩
            rw [Ah_luckyWays, if_pos hin, z_cl (by omega), h.s.2.1, if_pos hle, ca_hasStage h, Option.bind_some, if_pos (decide_eq_true q0), if_pos hlt, if_neg (by rw [zl0, z_le (by omega) (by omega)]; omega)]
            rw [show Ah_stepOn g (nI st) 1 = some g1 from c1, Option.bind_some, nI_1, c2, Option.bind_some, nI_l (by omega), lN_mul, show (0 : Int64) = lN 0 from rfl, lN_add, Option.bind_some, if_neg (by rw [zl10, z_le (by omega) (by omega)]; omega)]
            rw [show Ah_stepOn g2 (nI st) 0 = some g3 from d1, Option.bind_some, d2, Option.bind_some, zl10, z_sub (by omega), nI_l (by omega), lN_mul, lN_add, Nat.zero_add]
      · refine ⟨g, ?_, Fm.rf _ _⟩
        rw [if_neg q, Ah_luckyWays, if_pos (z_in (by omega) (by omega)), z_cl (by omega), h.s.2.1, if_neg (by rw [z_le (by omega) (by omega)]; exact q)]; rfl
end
