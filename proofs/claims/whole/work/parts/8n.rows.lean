-- EAT: rows of food, their order, their numbers
def fdb (T : Nat → Nat) (t : Nat) : Bool := decide (t < T 1) && decide (T (26 + t) = 1)
def nin (r : Nat → Nat) : Nat → Nat → Bool
  | 0, _ => true
  | k + 1, t => nin r k t && decide (r k ≠ t)
def ub (T r : Nat → Nat) (k t : Nat) : Nat := bn (fdb T t && nin r k t)
def nf (T : Nat → Nat) : Nat := sm (fun t => bn (fdb T t)) (T 1)
/-- the first k of a row: food, no two the same -/
def PR (T r : Nat → Nat) (k : Nat) : Prop := ∀ i, i < k → fdb T (r i) = true ∧ nin r i (r i) = true
def dg (T r : Nat → Nat) (k : Nat) : Nat := sm (ub T r k) (r k)
def cn (T r : Nat → Nat) : Nat → Nat
  | 0 => 0
  | k + 1 => cn T r k * (nf T - k) + dg T r k
def fct : Nat → Nat
  | 0 => 1
  | j + 1 => (j + 1) * fct j
def lexl (n : Nat) (r r' : Nat → Nat) : Prop := ∃ p, p < n ∧ (∀ q, q < p → r q = r' q) ∧ r p < r' p
section
variable {T r r' r'' : Nat → Nat} {k m n t : Nat}
theorem nin_iff : nin r k t = true ↔ ∀ j, j < k → r j ≠ t := by
  induction k with
  | zero => simp [nin]
  | succ k ih =>
    simp only [nin, Bool.and_eq_true, decide_eq_true_eq]
    rw [ih]
    constructor
    · intro h j hj
      by_cases e : j = k
      · subst e; exact h.2
      · exact h.1 j (by omega)
    · intro h
      exact ⟨fun j hj => h j (by omega), h k (by omega)⟩
theorem nin_cg (h : ∀ u, u < k → r u = r' u) (t : Nat) : nin r k t = nin r' k t := by
  induction k with
  | zero => rfl
  | succ k ih => simp only [nin]; rw [ih (fun u hu => h u (by omega)), h k (by omega)]
theorem ub_cg (h : ∀ u, u < k → r u = r' u) : ub T r k = ub T r' k := by
  funext t
  unfold ub
  rw [nin_cg h]
theorem fdb_lt (h : fdb T t = true) : t < T 1 ∧ T (26 + t) = 1 := by
  unfold fdb at h
  simpa using h
theorem ub_1 (h : PR T r n) (hk : k < n) : ub T r k (r k) = 1 := by
  obtain ⟨h1, h2⟩ := h k hk
  unfold ub
  rw [h1, h2]; rfl
theorem ub_s (h : PR T r n) (hk : k < n) (t : Nat) : ub T r k t = ub T r (k + 1) t + (if r k = t then 1 else 0) := by
  by_cases e : r k = t
  · rw [if_pos e, ← e, ub_1 h hk]
    unfold ub
    simp [nin, bn]
  · rw [if_neg e, Nat.add_zero]
    unfold ub
    simp [nin, e]
theorem U_s (h : PR T r n) (hk : k < n) (m : Nat) : sm (ub T r k) m = sm (ub T r (k + 1)) m + (if r k < m then 1 else 0) := by
  rw [← sm_pt, sm_cg (fun t _ => ub_s h hk t)]
theorem U_n (h : PR T r n) (hk : k ≤ n) : sm (ub T r k) (T 1) + k = nf T := by
  induction k with
  | zero =>
    rw [Nat.add_zero]
    unfold nf
    exact sm_cg (fun t _ => by unfold ub nin; rw [Bool.and_true])
  | succ k ih =>
    have h1 := ih (by omega)
    have h2 := U_s h (show k < n by omega) (T 1)
    rw [if_pos (fdb_lt (h k (by omega)).1).1] at h2
    omega
theorem sm_mono (f : Nat → Nat) {a b : Nat} (h : a ≤ b) : sm f a ≤ sm f b := by
  induction b with
  | zero => have : a = 0 := by omega
            subst this; exact Nat.le_refl _
  | succ b ih =>
    by_cases e : a = b + 1
    · subst e; exact Nat.le_refl _
    · have := ih (by omega)
      rw [sm_s]; omega
theorem PR_le (h : PR T r n) : n ≤ nf T := by have := U_n h (Nat.le_refl _); omega
theorem dg_lt (h : PR T r n) (hk : k < n) : dg T r k < nf T - k := by
  have h1 := U_n h (show k ≤ n by omega)
  have h2 := sm_mono (ub T r k) (show r k + 1 ≤ T 1 from (fdb_lt (h k hk).1).1)
  rw [sm_s, ub_1 h hk] at h2
  unfold dg
  omega
theorem cn_b (h : PR T r (nf T)) : ∀ j k, k + j = nf T → cn T r k * fct (nf T - k) ≤ cn T r (nf T) ∧ cn T r (nf T) < (cn T r k + 1) * fct (nf T - k) := by
  intro j
  induction j with
  | zero =>
    intro k hk
    have : k = nf T := by omega
    subst this
    rw [Nat.sub_self, fct]; omega
  | succ j ih =>
    intro k hk
    obtain ⟨h1, h2⟩ := ih (k + 1) (by omega)
    have hd := dg_lt h (show k < nf T by omega)
    rw [show nf T - k = (nf T - (k + 1)) + 1 by omega, fct]
    rw [cn] at h1 h2
    rw [show nf T - k = (nf T - (k + 1)) + 1 by omega] at h1 h2 hd
    generalize nf T - (k + 1) = m at h1 h2 hd ⊢
    constructor
    · rw [← Nat.mul_assoc]
      refine Nat.le_trans (Nat.mul_le_mul_right _ ?_) h1
      omega
    · rw [← Nat.mul_assoc]
      refine Nat.lt_of_lt_of_le h2 (Nat.mul_le_mul_right _ ?_)
      rw [Nat.add_mul, Nat.one_mul]
      omega
theorem cn_cg (h : ∀ u, u < k → r u = r' u) : cn T r k = cn T r' k := by
  induction k with
  | zero => rfl
  | succ k ih => rw [cn, cn, ih (fun u hu => h u (by omega)), dg, dg, ub_cg (fun u hu => h u (by omega)), h k (by omega)]
theorem cn_lex (h : PR T r (nf T)) (h' : PR T r' (nf T)) (hl : lexl (nf T) r r') : cn T r (nf T) < cn T r' (nf T) := by
  obtain ⟨p, hp, h1, h2⟩ := hl
  have b1 := (cn_b h (nf T - (p + 1)) (p + 1) (by omega)).2
  have b2 := (cn_b h' (nf T - (p + 1)) (p + 1) (by omega)).1
  have e1 := cn_cg (T := T) h1
  have e2 : dg T r p < dg T r' p := by
    unfold dg
    rw [← ub_cg h1]
    have := sm_mono (ub T r p) (show r p + 1 ≤ r' p from h2)
    rw [sm_s, ub_1 h hp] at this
    omega
  have e3 : cn T r (p + 1) + 1 ≤ cn T r' (p + 1) := by rw [cn, cn, e1]; omega
  exact Nat.lt_of_lt_of_le b1 (Nat.le_trans (Nat.mul_le_mul_right _ e3) b2)
theorem lex_tri (n : Nat) (r r' : Nat → Nat) : (∀ i, i < n → r i = r' i) ∨ lexl n r r' ∨ lexl n r' r := by
  induction n with
  | zero => exact Or.inl (fun i hi => by omega)
  | succ n ih =>
    rcases ih with h | ⟨p, h1, h2, h3⟩ | ⟨p, h1, h2, h3⟩
    · rcases Nat.lt_trichotomy (r n) (r' n) with e | e | e
      · exact Or.inr (Or.inl ⟨n, by omega, h, e⟩)
      · refine Or.inl (fun i hi => ?_)
        by_cases q : i = n
        · subst q; exact e
        · exact h i (by omega)
      · exact Or.inr (Or.inr ⟨n, by omega, fun q hq => (h q hq).symm, e⟩)
    · exact Or.inr (Or.inl ⟨p, by omega, h2, h3⟩)
    · exact Or.inr (Or.inr ⟨p, by omega, h2, h3⟩)
theorem lex_of (h : PR T r (nf T)) (h' : PR T r' (nf T)) (hl : cn T r (nf T) < cn T r' (nf T)) : lexl (nf T) r r' := by
  rcases lex_tri (nf T) r r' with e | e | e
  · have := cn_cg (T := T) e; omega
  · exact e
  · have := cn_lex h' h e; omega
theorem cn_inj (h : PR T r (nf T)) (h' : PR T r' (nf T)) (e : cn T r (nf T) = cn T r' (nf T)) : ∀ i, i < nf T → r i = r' i := by
  rcases lex_tri (nf T) r r' with q | q | q
  · exact q
  · have := cn_lex h h' q; omega
  · have := cn_lex h' h q; omega
theorem cn_lt (h : PR T r (nf T)) : cn T r (nf T) < fct (nf T) := by
  have := (cn_b h (nf T) 0 (by omega)).2
  rw [Nat.sub_zero, cn, Nat.zero_add, Nat.one_mul] at this
  exact this
/-- every food stands in a whole row -/
theorem PR_all (h : PR T r (nf T)) (ht : fdb T t = true) : ∃ i, i < nf T ∧ r i = t := by
  refine Classical.byContradiction (fun q => ?_)
  have h1 := U_n h (Nat.le_refl _)
  have hn : nin r (nf T) t = true := nin_iff.2 (fun j hj e => q ⟨j, hj, e⟩)
  have h2 : ub T r (nf T) t = 1 := by unfold ub; rw [ht, hn]; rfl
  have h3 := sm_mono (ub T r (nf T)) (show t + 1 ≤ T 1 from (fdb_lt ht).1)
  rw [sm_s, h2] at h3
  omega
theorem PR_ne (h : PR T r n) {i j : Nat} (hi : i < n) (hj : j < n) (hij : i ≠ j) : r i ≠ r j := by
  rcases Nat.lt_or_gt_of_ne hij with e | e
  · exact nin_iff.1 (h j hj).2 i e
  · exact fun q => nin_iff.1 (h i hi).2 j e q.symm
theorem PR_mk (h1 : ∀ i, i < n → fdb T (r i) = true) (h2 : ∀ i j, i < j → j < n → r i ≠ r j) : PR T r n := fun i hi => ⟨h1 i hi, nin_iff.2 (fun j hj => h2 j i hj hi)⟩
theorem PR_swap (h : PR T r n) {i j : Nat} (hi : i < n) (hj : j < n) : PR T (up (up r i (r j)) j (r i)) n := by
  have e : ∀ u, up (up r i (r j)) j (r i) u = if u = j then r i else if u = i then r j else r u := fun u => rfl
  refine PR_mk (fun u hu => ?_) (fun u v huv hv => ?_)
  · rw [e]
    split
    · exact (h i hi).1
    · split
      · exact (h j hj).1
      · exact (h u hu).1
  · rw [e, e]
    by_cases a1 : u = j
    · rw [if_pos a1]
      by_cases b1 : v = j
      · omega
      · rw [if_neg b1]
        by_cases b2 : v = i
        · rw [if_pos b2]; exact PR_ne h hi hj (by omega)
        · rw [if_neg b2]; exact PR_ne h hi hv (by omega)
    · rw [if_neg a1]
      by_cases a2 : u = i
      · rw [if_pos a2]
        by_cases b1 : v = j
        · rw [if_pos b1]; exact PR_ne h hj hi (by omega)
        · rw [if_neg b1, if_neg (by omega)]; exact PR_ne h hj hv (by omega)
      · rw [if_neg a2]
        by_cases b1 : v = j
        · rw [if_pos b1]; exact PR_ne h (by omega) hi (by omega)
        · rw [if_neg b1]
          by_cases b2 : v = i
          · rw [if_pos b2]; exact PR_ne h (by omega) hj (by omega)
          · rw [if_neg b2]; exact PR_ne h (by omega) hv (by omega)
/-- what stands at p in a row that begins as another one stands behind p there -/
theorem PR_beh (h : PR T r (nf T)) (h' : PR T r' (nf T)) {p : Nat} (hp : p < nf T) (hq : ∀ q, q < p → r q = r' q) : ∃ j, p ≤ j ∧ j < nf T ∧ r j = r' p := by
  obtain ⟨j, hj, e⟩ := PR_all h (h' p hp).1
  refine ⟨j, ?_, hj, e⟩
  refine Nat.le_of_not_lt (fun q => ?_)
  have := hq j q
  rw [e] at this
  exact PR_ne h' hp (by omega) (by omega) this
/-- the next row: all between the two begin as the first -/
theorem next_cover (h : PR T r (nf T)) (h1 : PR T r' (nf T)) (h2 : PR T r'' (nf T)) {i told : Nat} (hi : i < nf T) (ag : ∀ u, u < i → r u = r'' u) (hmin : ∀ j, i < j → j < nf T → r i < r j → r'' i ≤ r j) (hs : ∀ a b, i < a → a < b → b < nf T → r'' a < r'' b) (hmax : ∀ p, i < p → p < told → p < nf T → ∀ j, p < j → j < nf T → r j ≤ r p) (hl : ¬ lexl (nf T) r' r) (hup : lexl (nf T) r' r'') : ∀ u, u < told → u < nf T → r u = r' u := by
  rcases lex_tri (nf T) r r' with e | ⟨p, p1, p2, p3⟩ | e
  · exact fun u _ hu => e u hu
  · intro u hu hun
    by_cases qp : u < p
    · exact p2 u qp
    · exfalso
      have hpt : p < told := by omega
      obtain ⟨j, j1, j2, j3⟩ := PR_beh h h1 p1 p2
      have j4 : p < j := by
        refine Nat.lt_of_le_of_ne j1 (fun e => ?_)
        subst e; omega
      obtain ⟨d, d1, d2, d3⟩ := hup
      rcases Nat.lt_trichotomy p i with e | e | e
      · -- r'' p = r p < r' p
        have := ag p e
        rcases Nat.lt_trichotomy d p with q | q | q
        · have := ag d (by omega); have := p2 d q; omega
        · subst q; omega
        · have := d2 p q; omega
      · subst e
        have m1 := hmin j j4 j2 (by omega)
        rcases Nat.lt_trichotomy d p with q | q | q
        · have := ag d q; have := p2 d q; omega
        · subst q; omega
        · -- beyond i the new row is sorted
          obtain ⟨v, v1, v2, v3⟩ := PR_beh h2 h1 d1 (fun q hq => (d2 q hq).symm)
          rcases Nat.lt_or_eq_of_le v1 with w | w
          · have := hs d v (by omega) w v2; omega
          · subst w; omega
      · have := hmax p e hpt p1 j j4 j2
        omega
  · exact absurd e hl
theorem next_none (h : PR T r (nf T)) (h1 : PR T r' (nf T)) {told : Nat} (hmax : ∀ p, p < told → p < nf T → ∀ j, p < j → j < nf T → r j ≤ r p) (hl : ¬ lexl (nf T) r' r) : ∀ u, u < told → u < nf T → r u = r' u := by
  rcases lex_tri (nf T) r r' with e | ⟨p, p1, p2, p3⟩ | e
  · exact fun u _ hu => e u hu
  · intro u hu hun
    by_cases qp : u < p
    · exact p2 u qp
    · exfalso
      obtain ⟨j, j1, j2, j3⟩ := PR_beh h h1 p1 p2
      have j4 : p < j := by
        refine Nat.lt_of_le_of_ne j1 (fun e => ?_)
        subst e; omega
      have := hmax p (by omega) p1 j j4 j2
      omega
  · exact absurd e hl
/-- the row by numbers is the least -/
theorem least_row (h : PR T r (nf T)) (h1 : PR T r' (nf T)) (hs : ∀ a b, a < b → b < nf T → r a < r b) : ¬ lexl (nf T) r' r := by
  rintro ⟨d, d1, d2, d3⟩
  obtain ⟨v, v1, v2, v3⟩ := PR_beh h h1 d1 (fun q hq => (d2 q hq).symm)
  rcases Nat.lt_or_eq_of_le v1 with w | w
  · have := hs d v w v2; omega
  · subst w; omega
theorem nf_le (hT : TW T) : nf T ≤ 7 := by
  have := sm_le (n := T 1) (f := fun t => bn (fdb T t)) (c := 1) (fun i _ => by cases fdb T i <;> decide)
  have := hT.2.1
  unfold nf
  omega
theorem fct_le {n : Nat} (h : n ≤ 7) : fct n ≤ 5040 ∧ 0 < fct n := by
  have : ∀ i, i < 8 → fct i ≤ 5040 ∧ 0 < fct i := by decide
  exact this n (by omega)
end
