-- ODDS, the numbers: Euclid against shortening by 2 and 5
def sh1 (p : Nat) (a : Nat × Nat) : Nat × Nat := if a.1 % p = 0 ∧ a.2 % p = 0 then (a.1 / p, a.2 / p) else a
def shk (p : Nat) (a : Nat × Nat) : Nat → Nat × Nat
  | 0 => a
  | k + 1 => sh1 p (shk p a k)
theorem sh1_d {p : Nat} (hp : 0 < p) (a : Nat × Nat) : ∃ d, 0 < d ∧ a.1 = d * (sh1 p a).1 ∧ a.2 = d * (sh1 p a).2 ∧ ((d = 1 ∧ ¬ (a.1 % p = 0 ∧ a.2 % p = 0)) ∨ (d = p ∧ a.1 % p = 0 ∧ a.2 % p = 0)) := by
  unfold sh1
  by_cases q : a.1 % p = 0 ∧ a.2 % p = 0
  · rw [if_pos q]
    exact ⟨p, hp, (Nat.mul_div_cancel' (Nat.dvd_of_mod_eq_zero q.1)).symm, (Nat.mul_div_cancel' (Nat.dvd_of_mod_eq_zero q.2)).symm, Or.inr ⟨rfl, q⟩⟩
  · rw [if_neg q]
    exact ⟨1, by omega, (Nat.one_mul _).symm, (Nat.one_mul _).symm, Or.inl ⟨rfl, q⟩⟩
theorem shk_d {p : Nat} (hp : 0 < p) (a : Nat × Nat) (k : Nat) : ∃ d, 0 < d ∧ a.1 = d * (shk p a k).1 ∧ a.2 = d * (shk p a k).2 ∧ (d = p ^ k ∨ ¬ ((shk p a k).1 % p = 0 ∧ (shk p a k).2 % p = 0)) := by
  induction k with
  | zero => exact ⟨1, by omega, (Nat.one_mul _).symm, (Nat.one_mul _).symm, Or.inl rfl⟩
  | succ k ih =>
    obtain ⟨d, h0, h1, h2, h3⟩ := ih
    obtain ⟨e, k0, k1, k2, k3⟩ := sh1_d hp (shk p a k)
    refine ⟨d * e, Nat.mul_pos h0 k0, ?_, ?_, ?_⟩
    · rw [h1, k1]; show d * (e * (sh1 p (shk p a k)).1) = d * e * (sh1 p (shk p a k)).1; rw [Nat.mul_assoc]
    · rw [h2, k2]; show d * (e * (sh1 p (shk p a k)).2) = d * e * (sh1 p (shk p a k)).2; rw [Nat.mul_assoc]
    · rcases k3 with ⟨k3, k4⟩ | ⟨k3, k4⟩
      · right
        show ¬ ((sh1 p (shk p a k)).1 % p = 0 ∧ (sh1 p (shk p a k)).2 % p = 0)
        have : sh1 p (shk p a k) = shk p a k := by unfold sh1; rw [if_neg k4]
        rw [this]; exact k4
      · rcases h3 with h3 | h3
        · left; rw [h3, k3]; rfl
        · exact absurd k4 h3
theorem shk_8 {p : Nat} (hp : 0 < p) (a : Nat × Nat) (r : Nat) (hr : a.2 ∣ 10 ^ r) (hm : ¬ p ^ 9 ∣ 10 ^ r) : ¬ ((shk p a 8).1 % p = 0 ∧ (shk p a 8).2 % p = 0) := by
  obtain ⟨d, h0, h1, h2, h3⟩ := shk_d hp a 8
  rcases h3 with h3 | h3
  · intro q
    apply hm
    refine Nat.dvd_trans ?_ hr
    rw [h2, h3]
    obtain ⟨x, hx⟩ := Nat.dvd_of_mod_eq_zero q.2
    rw [hx]
    exact ⟨x, by rw [show p ^ 9 = p ^ 8 * p from Nat.pow_succ p 8, Nat.mul_assoc]⟩
  · exact h3
theorem cop2 {h : Nat} (q : ¬ h % 2 = 0) : Nat.Coprime h 2 := by
  have h1 : Nat.gcd h 2 ∣ 2 := Nat.gcd_dvd_right h 2
  have h2 : Nat.gcd h 2 ∣ h := Nat.gcd_dvd_left h 2
  have h3 := Nat.le_of_dvd (by omega) h1
  have h4 : Nat.gcd h 2 = 0 ∨ Nat.gcd h 2 = 1 ∨ Nat.gcd h 2 = 2 := by omega
  rcases h4 with h4 | h4 | h4
  · rw [h4] at h1; exact absurd h1 (by decide)
  · exact h4
  · rw [h4] at h2; exact absurd (Nat.mod_eq_zero_of_dvd h2) q
theorem cop5 {h : Nat} (q : ¬ h % 5 = 0) : Nat.Coprime h 5 := by
  have h1 : Nat.gcd h 5 ∣ 5 := Nat.gcd_dvd_right h 5
  have h2 : Nat.gcd h 5 ∣ h := Nat.gcd_dvd_left h 5
  have h3 := Nat.le_of_dvd (by omega) h1
  have h4 : Nat.gcd h 5 = 0 ∨ Nat.gcd h 5 = 1 ∨ Nat.gcd h 5 = 2 ∨ Nat.gcd h 5 = 3 ∨ Nat.gcd h 5 = 4 ∨ Nat.gcd h 5 = 5 := by omega
  rcases h4 with h4 | h4 | h4 | h4 | h4 | h4
  · rw [h4] at h1; exact absurd h1 (by decide)
  · exact h4
  · rw [h4] at h1; exact absurd h1 (by decide)
  · rw [h4] at h1; exact absurd h1 (by decide)
  · rw [h4] at h1; exact absurd h1 (by decide)
  · rw [h4] at h2; exact absurd (Nat.mod_eq_zero_of_dvd h2) q
theorem ten_mul (r : Nat) : 10 ^ r = 2 ^ r * 5 ^ r := by rw [← Nat.mul_pow]
/-- shortened by 2 and by 5 eight times each, a fraction over a power of ten is in least terms -/
theorem sh_gcd (u r : Nat) (hr : r ≤ 8) : shk 5 (shk 2 (u, 10 ^ r) 8) 8 = (u / Nat.gcd u (10 ^ r), 10 ^ r / Nat.gcd u (10 ^ r)) := by
  have m2 : ¬ 2 ^ 9 ∣ 10 ^ r := by
    have : ∀ i, i < 9 → ¬ 10 ^ i % 2 ^ 9 = 0 := by decide
    exact fun q => this r (by omega) (Nat.mod_eq_zero_of_dvd q)
  have m5 : ¬ 5 ^ 9 ∣ 10 ^ r := by
    have : ∀ i, i < 9 → ¬ 10 ^ i % 5 ^ 9 = 0 := by decide
    exact fun q => this r (by omega) (Nat.mod_eq_zero_of_dvd q)
  obtain ⟨d, d0, d1, d2, -⟩ := shk_d (p := 2) (by omega) (u, 10 ^ r) 8
  have n2 := shk_8 (p := 2) (by omega) (u, 10 ^ r) r (Nat.dvd_refl _) m2
  generalize shk 2 (u, 10 ^ r) 8 = a at d1 d2 n2 ⊢
  have ha : a.2 ∣ 10 ^ r := ⟨d, by show 10 ^ r = a.2 * d; rw [Nat.mul_comm]; exact d2⟩
  obtain ⟨e, e0, e1, e2, -⟩ := shk_d (p := 5) (by omega) a 8
  have n5 := shk_8 (p := 5) (by omega) a r ha m5
  generalize shk 5 a 8 = b at e1 e2 n5 ⊢
  have hu : u = d * e * b.1 := by rw [Nat.mul_assoc, ← e1]; exact d1
  have hl : 10 ^ r = d * e * b.2 := by rw [Nat.mul_assoc, ← e2]; exact d2
  have hg : Nat.gcd b.1 b.2 = 1 := by
    have g1 : Nat.gcd b.1 b.2 ∣ b.1 := Nat.gcd_dvd_left _ _
    have g2 : Nat.gcd b.1 b.2 ∣ b.2 := Nat.gcd_dvd_right _ _
    have g3 : Nat.gcd b.1 b.2 ∣ 10 ^ r := Nat.dvd_trans g2 ⟨d * e, by rw [hl, Nat.mul_comm]⟩
    have c2 : ¬ Nat.gcd b.1 b.2 % 2 = 0 := by
      intro q
      have q' := Nat.dvd_of_mod_eq_zero q
      apply n2
      rw [e1, e2]
      exact ⟨Nat.mod_eq_zero_of_dvd (Nat.dvd_trans (Nat.dvd_trans q' g1) (Nat.dvd_mul_left _ _)), Nat.mod_eq_zero_of_dvd (Nat.dvd_trans (Nat.dvd_trans q' g2) (Nat.dvd_mul_left _ _))⟩
    have c5 : ¬ Nat.gcd b.1 b.2 % 5 = 0 := by
      intro q
      have q' := Nat.dvd_of_mod_eq_zero q
      exact n5 ⟨Nat.mod_eq_zero_of_dvd (Nat.dvd_trans q' g1), Nat.mod_eq_zero_of_dvd (Nat.dvd_trans q' g2)⟩
    rw [ten_mul] at g3
    have g4 := Nat.Coprime.dvd_of_dvd_mul_left (Nat.Coprime.pow_right r (cop2 c2)) g3
    exact Nat.Coprime.eq_one_of_dvd (Nat.Coprime.pow_right r (cop5 c5)) g4
  have hG : Nat.gcd u (10 ^ r) = d * e := by
    rw [hu, hl, Nat.gcd_mul_left, hg, Nat.mul_one]
  have hde : 0 < d * e := Nat.mul_pos d0 e0
  rw [hG]
  have x1 : u / (d * e) = b.1 := by rw [hu, Nat.mul_div_cancel_left _ hde]
  have x2 : 10 ^ r / (d * e) = b.2 := by rw [hl, Nat.mul_div_cancel_left _ hde]
  rw [x1, x2]
theorem lc0 {n : Nat} (h : n < 2 ^ 63) : (lg_cmp (lN n) 0 = 0) = (n = 0) := by
  apply propext
  unfold lg_cmp
  by_cases q : n = 0
  · subst q; simp [show lN 0 = 0 from rfl]
  · have h1 : lN n > 0 := (pk_lLT (a := 0) (b := n) (by omega) h).2 (by omega)
    rw [if_pos h1]
    simp [q]
/-- Euclid, in few turns -/
theorem mo_gcd (g : am_G) (y : Int32) (z1 z2 : Int64) : ∀ k n a b, b < 2 ^ k → a < 2 ^ 40 → k ≤ 40 → 2 * k < n → Mo_odds_L209 n g y z1 z2 (lN a) (lN b) = some (lN (Nat.gcd a b)) := by
  intro k
  induction k with
  | zero =>
    intro n a b hb ha hk hn
    have e : b = 0 := by simpa using hb
    subst e
    cases n with
    | zero => omega
    | succ n => rw [Mo_odds_L209, if_pos (by rw [lc0 (by omega)]), Nat.gcd_zero_right]
  | succ k ih =>
    intro n a b hb ha hk hn
    have hb' : b < 2 ^ 40 := Nat.lt_of_lt_of_le hb (Nat.pow_le_pow_right (by omega) hk)
    cases n with
    | zero => omega
    | succ n =>
      cases n with
      | zero => omega
      | succ n =>
        by_cases q : b = 0
        · subst q; rw [Mo_odds_L209, if_pos (by rw [lc0 (by omega)]), Nat.gcd_zero_right]
        · have hr : a % b < b := Nat.mod_lt _ (by omega)
          have hne : ¬ lN b = 0 := fun e => q ((pk_lEQ (a := b) (b := 0) (by omega) (by omega)).1 e)
          rw [Mo_odds_L209, if_neg (by rw [lc0 (by omega)]; exact q), if_pos hne, pk_lRem (by omega) (by omega) (by omega)]
          by_cases q2 : a % b = 0
          · rw [q2, Mo_odds_L209, if_pos (by rw [lc0 (by omega)])]
            rw [Nat.gcd_comm, Nat.gcd_rec, q2, Nat.gcd_zero_left]
          · have hne2 : ¬ lN (a % b) = 0 := fun e => q2 ((pk_lEQ (a := a % b) (b := 0) (by omega) (by omega)).1 e)
            rw [Mo_odds_L209, if_neg (by rw [lc0 (by omega)]; exact q2), if_pos hne2, pk_lRem (by omega) (by omega) (by omega)]
            have hr2 : b % (a % b) < a % b := Nat.mod_lt _ (by omega)
            have hlt : b % (a % b) < 2 ^ k := by
              have h1 := Nat.div_add_mod b (a % b)
              have h2 : 1 ≤ b / (a % b) := Nat.div_pos (by omega) (by omega)
              have h3 : (a % b) * 1 ≤ (a % b) * (b / (a % b)) := Nat.mul_le_mul_left _ h2
              rw [Nat.pow_succ] at hb
              omega
            rw [ih n (a % b) (b % (a % b)) hlt (by omega) (by omega) (by omega)]
            congr 2
            rw [Nat.gcd_comm a b, Nat.gcd_rec b a, Nat.gcd_rec (a % b) b, Nat.gcd_comm]
