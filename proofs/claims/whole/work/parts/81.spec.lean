-- WHAT IS TOLD (T: 71 numbers) AND A STATE (S: 29 numbers), in the reference's layout; the words of the document over them
def wgh (T S : Nat → Nat) (t : Nat) : Nat := S (15 + t) + (if S (22 + t) = 1 ∧ 0 < S (15 + t) then T (19 + t) else 0)
def lodf (T S : Nat → Nat) (w t : Nat) : Nat := if S (8 + t) = w then wgh T S t else 0
def lod (T S : Nat → Nat) (w : Nat) : Nat := sm (lodf T S w) (T 1)
def pac (T S : Nat → Nat) (w l : Nat) : Nat := max 1 (min 20 ((T (4 + w) + 10) - (S (4 + w) + l)))
def tks (L p : Nat) : Nat := (60 * L + p - 1) / p
def tkw (T S : Nat → Nat) (L w : Nat) : Nat := tks L (pac T S w (lod T S w))
def slo (T S : Nat → Nat) (L : Nat) : Nat := gr (tkw T S L) (T 0)
def TW (T : Nat → Nat) : Prop := T 0 ≤ 4 ∧ T 1 ≤ 7 ∧ T 2 ≤ 8 ∧ (∀ w, w < T 0 → T (4 + w) ≤ 40 ∧ T (8 + w) ≤ 5) ∧ (∀ t, t < T 1 → T (12 + t) ≤ 20 ∧ T (19 + t) ≤ 9 ∧ T (26 + t) ≤ 1 ∧ T (33 + t) ≤ 3 ∧ T (40 + t) < T 0) ∧ (∀ d, d < T 2 → T (47 + d) ≤ 20 ∧ T (55 + d) ≤ 1 ∧ T (63 + d) ≤ 1)
def SW (T S : Nat → Nat) : Prop := S 0 ≤ T 2 ∧ (∀ w, w < T 0 → S (4 + w) ≤ 20) ∧ (∀ t, t < T 1 → (S (8 + t) < T 0 ∨ S (8 + t) = 9) ∧ S (15 + t) ≤ 20 ∧ S (22 + t) ≤ 1)
/-- the class's tale -/
def TC (T : Nat → Nat) (g : am_G) : Prop := g.1 3 0 = nI (T 0) ∧ g.1 3 3 = nI (T 1) ∧ g.1 3 9 = nI (T 2) ∧ (∀ w, w < T 0 → g.1 4 w = nI (T (4 + w)) ∧ g.1 5 w = nI (T (8 + w))) ∧ (∀ t, t < T 1 → g.1 6 t = nI (T (12 + t)) ∧ g.1 7 t = nI (T (19 + t)) ∧ g.1 8 t = nI (T (26 + t)) ∧ g.1 9 t = nI (T (33 + t)) ∧ g.1 10 t = nI (T (40 + t))) ∧ (∀ d, d < T 2 → g.1 11 d = nI (T (47 + d)) ∧ g.1 12 d = nI (T (55 + d)) ∧ g.1 13 d = nI (T (63 + d)))
/-- a camp of the class, at c, holds S -/
def CC (T : Nat → Nat) (g : am_G) (c : Nat) (S : Nat → Nat) : Prop := g.1 c 1 = nI (S 0) ∧ g.1 c 2 = nI (S 1) ∧ g.1 c 3 = nI (S 2) ∧ g.1 c 4 = nI (S 3) ∧ (∃ x, x < 128 ∧ g.1 c 5 = nI x ∧ ∀ t, t < T 1 → x / 2 ^ t % 2 = S (22 + t)) ∧ (∀ t, t < T 1 → g.1 (c + 1) t = nI (S (8 + t)) ∧ g.1 (c + 2) t = nI (S (15 + t))) ∧ (∀ w, w < T 0 → g.1 (c + 3) w = nI (S (4 + w)))
/-- the reference's told, its state -/
def TR (T : Nat → Nat) (g : am_G) : Prop := ∀ k, k < 71 → g.1 223 k = nI (T k)
def RR (g : am_G) (S : Nat → Nat) : Prop := ∀ k, k < 29 → g.1 225 k = nI (S k)
/-- what a camp at c may change; what the reference's stages may change -/
def pC (c a _k : Nat) : Prop := c ≤ a ∧ a ≤ c + 3
def pR (a k : Nat) : Prop := (a = 225 ∧ k < 29) ∨ a = 230
/-- two states alike where it matters -/
def eqS (T S S' : Nat → Nat) : Prop := (∀ k, k < 4 → S k = S' k) ∧ (∀ w, w < T 0 → S (4 + w) = S' (4 + w)) ∧ (∀ t, t < T 1 → S (8 + t) = S' (8 + t) ∧ S (15 + t) = S' (15 + t) ∧ S (22 + t) = S' (22 + t))
section
variable {T S : Nat → Nat} {g g' : am_G} {c : Nat}
theorem TC.fm {P : Nat → Nat → Prop} (h : TC T g) (f : Fm P g g') (hp : ∀ a k, 3 ≤ a → a ≤ 13 → ¬ P a k) : TC T g' := by
  obtain ⟨h1, h2, h3, h4, h5, h6⟩ := h
  have q : ∀ a k, 3 ≤ a → a ≤ 13 → g'.1 a k = g.1 a k := fun a k x y => f.2 a k (hp a k x y)
  refine ⟨by rw [q 3 0 (by decide) (by decide)]; exact h1, by rw [q 3 3 (by decide) (by decide)]; exact h2, by rw [q 3 9 (by decide) (by decide)]; exact h3, fun w hw => ?_, fun t ht => ?_, fun d hd => ?_⟩
  · rw [q 4 w (by decide) (by decide), q 5 w (by decide) (by decide)]; exact h4 w hw
  · rw [q 6 t (by decide) (by decide), q 7 t (by decide) (by decide), q 8 t (by decide) (by decide), q 9 t (by decide) (by decide), q 10 t (by decide) (by decide)]; exact h5 t ht
  · rw [q 11 d (by decide) (by decide), q 12 d (by decide) (by decide), q 13 d (by decide) (by decide)]; exact h6 d hd
theorem CC.fm {P : Nat → Nat → Prop} (h : CC T g c S) (f : Fm P g g') (hp : ∀ a k, c ≤ a → a ≤ c + 3 → ¬ P a k) : CC T g' c S := by
  obtain ⟨h1, h2, h3, h4, ⟨x, hx, h5, h6⟩, h7, h8⟩ := h
  have q : ∀ a k, c ≤ a → a ≤ c + 3 → g'.1 a k = g.1 a k := fun a k x y => f.2 a k (hp a k x y)
  refine ⟨by rw [q c 1 (by omega) (by omega)]; exact h1, by rw [q c 2 (by omega) (by omega)]; exact h2, by rw [q c 3 (by omega) (by omega)]; exact h3, by rw [q c 4 (by omega) (by omega)]; exact h4, ⟨x, hx, by rw [q c 5 (by omega) (by omega)]; exact h5, h6⟩, fun t ht => ?_, fun w hw => ?_⟩
  · rw [q (c + 1) t (by omega) (by omega), q (c + 2) t (by omega) (by omega)]; exact h7 t ht
  · rw [q (c + 3) w (by omega) (by omega)]; exact h8 w hw
theorem CC.cg {S' : Nat → Nat} (h : CC T g c S) (e : eqS T S S') : CC T g c S' := by
  obtain ⟨h1, h2, h3, h4, ⟨x, hx, h5, h6⟩, h7, h8⟩ := h
  obtain ⟨e1, e2, e3⟩ := e
  refine ⟨by rw [← e1 0 (by decide)]; exact h1, by rw [← e1 1 (by decide)]; exact h2, by rw [← e1 2 (by decide)]; exact h3, by rw [← e1 3 (by decide)]; exact h4, ⟨x, hx, h5, fun t ht => by rw [← (e3 t ht).2.2]; exact h6 t ht⟩, fun t ht => by rw [← (e3 t ht).1, ← (e3 t ht).2.1]; exact h7 t ht, fun w hw => by rw [← e2 w hw]; exact h8 w hw⟩
theorem RR.fm {P : Nat → Nat → Prop} (h : RR g S) (f : Fm P g g') (hp : ∀ k, k < 29 → ¬ P 225 k) : RR g' S := fun k hk => by rw [f.2 225 k (hp k hk)]; exact h k hk
theorem TR.fm {P : Nat → Nat → Prop} (h : TR T g) (f : Fm P g g') (hp : ∀ k, k < 71 → ¬ P 223 k) : TR T g' := fun k hk => by rw [f.2 223 k (hp k hk)]; exact h k hk
-- the numbers' bounds
theorem wgh_le (hT : TW T) (hS : SW T S) {t : Nat} (ht : t < T 1) : wgh T S t ≤ 29 := by
  have h1 := (hS.2.2 t ht).2.1
  have h2 := (hT.2.2.2.2.1 t ht).2.1
  unfold wgh
  split <;> omega
theorem lodf_le (hT : TW T) (hS : SW T S) {w t : Nat} (ht : t < T 1) : lodf T S w t ≤ 29 := by
  have := wgh_le hT hS ht
  unfold lodf
  split <;> omega
theorem smlod_le (hT : TW T) (hS : SW T S) (w : Nat) {k : Nat} (hk : k ≤ T 1) : sm (lodf T S w) k ≤ 203 := by
  have h := sm_le (n := k) (f := lodf T S w) (c := 29) (fun i hi => lodf_le hT hS (by omega))
  have h1 := hT.2.1
  omega
theorem lod_le (hT : TW T) (hS : SW T S) (w : Nat) : lod T S w ≤ 203 := smlod_le hT hS w (Nat.le_refl _)
theorem pac_le (T S : Nat → Nat) (w l : Nat) : 1 ≤ pac T S w l ∧ pac T S w l ≤ 20 := by unfold pac; omega
theorem tks_le {L p : Nat} (hL : L ≤ 20) (hp : 1 ≤ p) : tks L p ≤ 1200 := by
  unfold tks
  have : (60 * L + p - 1) / p < 1201 := by
    apply Nat.div_lt_of_lt_mul
    have : p ≤ p * 1 := by omega
    have h2 : p * 1201 = p * 1200 + p := by rw [Nat.mul_succ]
    have h3 : 1 * 1200 ≤ p * 1200 := Nat.mul_le_mul_right _ hp
    omega
  omega
theorem tkw_le {L : Nat} (hL : L ≤ 20) (w : Nat) : tkw T S L w ≤ 1200 := tks_le hL (pac_le _ _ _ _).1
theorem slo_le {L : Nat} (hL : L ≤ 20) (k : Nat) : gr (tkw T S L) k ≤ 1200 := gr_le (fun i _ => tkw_le hL i)
/-- a pace, as both sides count it -/
theorem z_pace {a b l : Nat} (ha : a ≤ 40) (hb : b ≤ 20) (hl : l ≤ 1000) : am_mx 1 (am_mn 20 (nI a - nI b - nI l + 10)) = nI (max 1 (min 20 ((a + 10) - (b + l)))) := by
  by_cases h : b + l ≤ a + 10
  · have e : nI a - nI b - nI l + 10 = nI ((a + 10) - (b + l)) := by
      have e1 : nI ((a + 10) - (b + l)) + (nI b + nI l) = nI a + nI 10 := by rw [z_add, z_add, z_add]; congr 1; omega
      have e2 : nI ((a + 10) - (b + l)) = nI a + nI 10 - (nI b + nI l) := by rw [← e1, Int32.add_sub_cancel]
      rw [e2, zl10]
      generalize nI a = x; generalize nI b = y; generalize nI l = z; generalize nI 10 = u
      simp only [Int32.sub_eq_add_neg, Int32.neg_add]
      ac_rfl
    rw [e, zl20, z_mn (by omega) (by omega), zl1, z_mx (by omega) (by omega)]
  · have e : nI a - nI b - nI l + 10 = -(nI ((b + l) - (a + 10))) := by
      have e1 : nI ((b + l) - (a + 10)) + (nI a + nI 10) = nI b + nI l := by rw [z_add, z_add, z_add]; congr 1; omega
      have e2 : nI ((b + l) - (a + 10)) = nI b + nI l - (nI a + nI 10) := by rw [← e1, Int32.add_sub_cancel]
      rw [e2, zl10]
      generalize nI a = x; generalize nI b = y; generalize nI l = z; generalize nI 10 = u
      simp only [Int32.sub_eq_add_neg, Int32.neg_add, Int32.neg_neg]
      ac_rfl
    have f : ∀ k : Nat, k < 2000 → 0 < k → am_mx 1 (am_mn 20 (-(nI k))) = nI 1 := by
      intro k hk h0
      have h1 : (-(nI k)).toInt = -(k : Int) := by
        rw [Int32.toInt_neg, nI_toInt (by omega)]
        simp only [Int.bmod]
        omega
      have h2 : -(nI k) < 20 := by rw [Int32.lt_iff_toInt_lt, h1]; show _ < (20 : Int); omega
      have h3 : -(nI k) < 1 := by rw [Int32.lt_iff_toInt_lt, h1]; show _ < (1 : Int); omega
      have e4 : am_mn 20 (-(nI k)) = -(nI k) := if_pos h2
      rw [e4, am_mx, if_neg]
      · rfl
      · intro q
        rw [Int32.lt_iff_toInt_lt] at q h3
        omega
    rw [e, f _ (by omega) (by omega)]
    congr 1; omega
theorem z_tks {L p : Nat} (hL : L ≤ 20) (h1 : 1 ≤ p) (h2 : p ≤ 20) : (nI 60 * nI L + nI p - nI 1) / nI p = nI (tks L p) := by
  rw [z_mul, z_add, z_sub (by omega), z_div (by omega) (by omega) (by omega)]
  rfl
end
