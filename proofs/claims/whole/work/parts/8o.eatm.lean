-- EAT: what the evenings do by a row
section
variable {T S r r' : Nat → Nat} {k m n t i j : Nat}
abbrev may (T S : Nat → Nat) (t : Nat) : Prop := T (26 + t) = 1 ∧ S (8 + t) ≠ 9
theorem et_no {a : (Nat → Nat) × Nat} (h : ¬ (may T S t ∧ 0 < a.2 ∧ 0 < a.1 t)) : et T S a t = a := by
  by_cases q : may T S t
  · by_cases q1 : a.2 = 0
    · exact et_0 q1
    · exact et_z (Classical.byContradiction (fun e => h ⟨q, by omega, by omega⟩))
  · unfold et
    rw [if_neg q]
theorem et_up {a : (Nat → Nat) × Nat} (h : may T S t) : et T S a t = (up a.1 t (a.1 t - min a.2 (a.1 t)), a.2 - min a.2 (a.1 t)) := by
  unfold et
  rw [if_pos h]
theorem et_ne (a : (Nat → Nat) × Nat) {u : Nat} (h : u ≠ t) : (et T S a t).1 u = a.1 u := by
  unfold et
  split
  · exact up_ne h
  · rfl
theorem PR_sub (h : PR T r n) (hm : m ≤ n) : PR T r m := fun i hi => h i (by omega)
/-- what is behind is untouched -/
theorem eD_unt (h : PR T r n) (hi : i < n) (hk : k ≤ i) : (eD T S r k).1 (r i) = lf S (r i) := by
  induction k with
  | zero => rfl
  | succ k ih =>
    rw [eD_s, et_ne _ (PR_ne h hi (by omega) (by omega))]
    exact ih (by omega)
theorem due_le (T S r : Nat → Nat) (h : k ≤ m) : (eD T S r m).2 ≤ (eD T S r k).2 := by
  induction m with
  | zero => have : k = 0 := by omega
            subst this; exact Nat.le_refl _
  | succ m ih =>
    by_cases e : k = m + 1
    · subst e; exact Nat.le_refl _
    · exact Nat.le_trans (et_le _ _ 0).2 (ih (by omega))
theorem left_le (T S r : Nat → Nat) (u : Nat) (h : k ≤ m) : (eD T S r m).1 u ≤ (eD T S r k).1 u := by
  induction m with
  | zero => have : k = 0 := by omega
            subst this; exact Nat.le_refl _
  | succ m ih =>
    by_cases e : k = m + 1
    · subst e; exact Nat.le_refl _
    · exact Nat.le_trans (et_le _ _ u).1 (ih (by omega))
/-- as long as something is due all ahead is eaten up -/
theorem eD_empty (hd : 0 < (eD T S r m).2) (hj : j < m) (hm : may T S (r j)) : (eD T S r m).1 (r j) = 0 := by
  have h1 := due_le T S r (show j + 1 ≤ m from hj)
  have h2 : 0 < (eD T S r (j + 1)).2 := by omega
  have h3 := left_le T S r (r j) (show j + 1 ≤ m from hj)
  rw [eD_s, et_up hm] at h2 h3
  simp only [up_eq] at h2 h3
  omega
theorem rc_no (T S r : Nat → Nat) {n : Nat} : rc T S r n ≤ n := by
  induction n with
  | zero => exact Nat.le_refl _
  | succ n ih =>
    rw [rc]
    split <;> omega
theorem rc_cond {n : Nat} (h : rc T S r n = m + 1) : may T S (r m) ∧ 0 < (eD T S r m).2 ∧ 0 < (eD T S r m).1 (r m) := by
  induction n with
  | zero => simp [rc] at h
  | succ n ih =>
    rw [rc] at h
    split at h
    · rename_i q
      have e : m = n := by omega
      subst e
      exact ⟨⟨q.1, q.2.1⟩, q.2.2.1, q.2.2.2⟩
    · exact ih h
theorem rc_after {n : Nat} (hk : rc T S r n ≤ k) (hn : k ≤ n) : eD T S r n = eD T S r k := by
  induction n with
  | zero => have : k = 0 := by omega
            subst this; rfl
  | succ n ih =>
    by_cases e : k = n + 1
    · subst e; rfl
    · rw [rc] at hk
      split at hk
      · omega
      · rename_i q
        rw [eD_s, et_no (fun e => q ⟨e.1.1, e.1.2, e.2.1, e.2.2⟩)]
        exact ih hk (by omega)
theorem rc_none {n : Nat} (hk : rc T S r n ≤ k) (hn : k < n) : ¬ (may T S (r k) ∧ 0 < (eD T S r k).2 ∧ 0 < (eD T S r k).1 (r k)) := by
  intro q
  have : k + 1 ≤ rc T S r n := by
    clear hk
    induction n with
    | zero => omega
    | succ n ih =>
      rw [rc]
      split
      · omega
      · rename_i q2
        by_cases e : k = n
        · subst e; exact absurd ⟨q.1.1, q.1.2, q.2.1, q.2.2⟩ q2
        · exact ih (by omega)
  omega
theorem eD_ag (h : ∀ u, u < k → r u = r' u) : eD T S r k = eD T S r' k := by
  induction k with
  | zero => rfl
  | succ k ih => rw [eD_s, eD_s, ih (fun u hu => h u (by omega)), h k (by omega)]
/-- what was eaten is told by the row's head -/
theorem eD_dep (h : PR T r (nf T)) (h' : PR T r' (nf T)) (hm : rc T S r (nf T) ≤ m) (hmn : m ≤ nf T) (ag : ∀ u, u < m → r u = r' u) : eD T S r' (nf T) = eD T S r (nf T) := by
  have e1 : eD T S r (nf T) = eD T S r m := rc_after hm hmn
  have st : ∀ k, m ≤ k → k ≤ nf T → eD T S r' k = eD T S r m := by
    intro k
    induction k with
    | zero => intro hk _; have : m = 0 := by omega
              subst this; rfl
    | succ k ih =>
      intro hk hkn
      by_cases e : m = k + 1
      · subst e; exact (eD_ag ag).symm
      · rw [eD_s, ih (by omega) (by omega)]
        -- what stands at k there stands behind m here
        obtain ⟨j, j1, j2⟩ := PR_all h (h' k (by omega)).1
        have j3 : m ≤ j := by
          refine Nat.le_of_not_lt (fun q => ?_)
          have := ag j q
          rw [j2] at this
          exact PR_ne h' (show k < nf T by omega) (show j < nf T by omega) (by omega) this
        have hn := rc_none (S := S) (T := T) (r := r) (n := nf T) (k := j) (by omega) j1
        have e2 : eD T S r j = eD T S r m := by
          have a := rc_after (S := S) (T := T) (r := r) (n := nf T) (k := j) (by omega) (by omega)
          rw [← a, e1]
        rw [e2, j2] at hn
        exact et_no hn
  rw [st (nf T) (by omega) (Nat.le_refl _), e1]
-- two change their places
theorem up_cm (f : Nat → Nat) {x y : Nat} (a b : Nat) (h : x ≠ y) : up (up f x a) y b = up (up f y b) x a := by
  funext u
  by_cases e : u = x
  · subst e; rw [up_ne h, up_eq, up_eq]
  · by_cases e2 : u = y
    · subst e2; rw [up_eq, up_ne e, up_eq]
    · rw [up_ne e2, up_ne e, up_ne e, up_ne e2]
def wm (T S : Nat → Nat) (f : Nat → Nat) (t : Nat) : Nat := if T (26 + t) = 1 ∧ S (8 + t) ≠ 9 then f t else 0
theorem et_all {a : (Nat → Nat) × Nat} (h : wm T S a.1 t ≤ a.2) (q : may T S t) : et T S a t = (up a.1 t 0, a.2 - a.1 t) := by
  unfold wm at h
  rw [if_pos q] at h
  rw [et_up q, Nat.min_eq_right h, Nat.sub_self]
theorem et_cm {a : (Nat → Nat) × Nat} {x y : Nat} (hxy : x ≠ y) (h : wm T S a.1 x + wm T S a.1 y ≤ a.2) : et T S (et T S a x) y = et T S (et T S a y) x := by
  have nid : ∀ t b, ¬ may T S t → et T S b t = b := fun t b q => by unfold et; rw [if_neg q]
  by_cases qx : may T S x
  · by_cases qy : may T S y
    · have wx : wm T S a.1 x = a.1 x := by unfold wm; rw [if_pos qx]
      have wy : wm T S a.1 y = a.1 y := by unfold wm; rw [if_pos qy]
      have e1 : wm T S (up a.1 x 0) y = a.1 y := by unfold wm; rw [if_pos qy, up_ne (by omega)]
      have e2 : wm T S (up a.1 y 0) x = a.1 x := by unfold wm; rw [if_pos qx, up_ne (by omega)]
      rw [et_all (a := a) (t := x) (by omega) qx, et_all (a := a) (t := y) (by omega) qy]
      rw [et_all (a := (up a.1 x 0, a.2 - a.1 x)) (t := y) (by show wm T S (up a.1 x 0) y ≤ a.2 - a.1 x; omega) qy]
      rw [et_all (a := (up a.1 y 0, a.2 - a.1 y)) (t := x) (by show wm T S (up a.1 y 0) x ≤ a.2 - a.1 y; omega) qx]
      simp only []
      rw [up_cm _ _ _ hxy, up_ne (Ne.symm hxy), up_ne hxy]
      congr 1; omega
    · rw [nid y _ qy, nid y _ qy]
  · rw [nid x _ qx, nid x _ qx]
def swp (r : Nat → Nat) (i : Nat) : Nat → Nat := up (up r (i - 1) (r i)) i (r (i - 1))
theorem swp_a (hi : 1 ≤ i) : swp r i (i - 1) = r i := by unfold swp; rw [up_ne (by omega), up_eq]
theorem swp_b : swp r i i = r (i - 1) := by unfold swp; rw [up_eq]
theorem swp_n {u : Nat} (h1 : u ≠ i) (h2 : u ≠ i - 1) : swp r i u = r u := by unfold swp; rw [up_ne h1, up_ne h2]
theorem eD_swp (hi : 1 ≤ i) (hin : i < n) (hx : r (i - 1) ≠ r i) (hd : wm T S (eD T S r (i - 1)).1 (r (i - 1)) + wm T S (eD T S r (i - 1)).1 (r i) ≤ (eD T S r (i - 1)).2) : eD T S (swp r i) n = eD T S r n := by
  have e0 : eD T S (swp r i) (i - 1) = eD T S r (i - 1) := eD_ag (fun u hu => swp_n (by omega) (by omega))
  have e2 : eD T S (swp r i) (i + 1) = eD T S r (i + 1) := by
    rw [eD_s, eD_s, swp_b]
    have k1 : ∀ o : Nat → Nat, eD T S o i = et T S (eD T S o (i - 1)) (o (i - 1)) := fun o => by
      have := eD_s T S o (i - 1)
      rwa [show i - 1 + 1 = i by omega] at this
    rw [k1 (swp r i), k1 r, e0, swp_a hi]
    exact (et_cm hx hd).symm
  have st : ∀ k, i + 1 ≤ k → eD T S (swp r i) k = eD T S r k := by
    intro k
    induction k with
    | zero => intro hk; omega
    | succ k ih =>
      intro hk
      by_cases e : i = k
      · subst e; exact e2
      · rw [eD_s, eD_s, ih (by omega), swp_n (by omega) (by omega)]
  exact st n (by omega)
/-- both are eaten up on this evening -/
theorem turn_due (h : PR T r n) (hi : 1 ≤ i) (hir : i < rc T S r n) (he : i < rc T S r n - 1 ∨ (eD T S r n).1 (r i) = 0) : wm T S (eD T S r (i - 1)).1 (r (i - 1)) + wm T S (eD T S r (i - 1)).1 (r i) ≤ (eD T S r (i - 1)).2 ∧ (may T S (r (i - 1)) → (eD T S r (i + 1)).1 (r (i - 1)) = 0) ∧ (may T S (r i) → (eD T S r (i + 1)).1 (r i) = 0) := by
  have hrn := rc_no T S r (n := n)
  have hin : i < n := by omega
  obtain ⟨q1, q2, q3⟩ := rc_cond (T := T) (S := S) (r := r) (n := n) (m := rc T S r n - 1) (by omega)
  have k1 : eD T S r i = et T S (eD T S r (i - 1)) (r (i - 1)) := by
    have := eD_s T S r (i - 1)
    rwa [show i - 1 + 1 = i by omega] at this
  have di : 0 < (eD T S r i).2 := by
    have := due_le T S r (show i ≤ rc T S r n - 1 by omega)
    omega
  have w1 : wm T S (eD T S r (i - 1)).1 (r (i - 1)) + (eD T S r i).2 = (eD T S r (i - 1)).2 := by
    rw [k1] at di ⊢
    unfold wm
    by_cases q : may T S (r (i - 1))
    · rw [if_pos q]
      rw [et_up q] at di ⊢
      simp only [] at di ⊢
      omega
    · rw [if_neg q]
      unfold et
      rw [if_neg q]; omega
  have e1 : (eD T S r (i - 1)).1 (r i) = (eD T S r i).1 (r i) := by rw [eD_unt h hin (by omega), eD_unt h hin (by omega)]
  have empt1 : may T S (r (i - 1)) → (eD T S r (i + 1)).1 (r (i - 1)) = 0 := by
    intro q
    have := eD_empty di (show i - 1 < i by omega) q
    have := left_le T S r (r (i - 1)) (show i ≤ i + 1 by omega)
    omega
  by_cases c : i < rc T S r n - 1
  · have di1 : 0 < (eD T S r (i + 1)).2 := by
      have := due_le T S r (show i + 1 ≤ rc T S r n - 1 by omega)
      omega
    refine ⟨?_, empt1, fun q => ?_⟩
    · have w2 : wm T S (eD T S r (i - 1)).1 (r i) ≤ (eD T S r i).2 := by
        unfold wm
        by_cases q : may T S (r i)
        · rw [if_pos q, e1]
          rw [eD_s, et_up q] at di1
          simp only [] at di1
          omega
        · rw [if_neg q]; omega
      omega
    · exact eD_empty di1 (show i < i + 1 by omega) q
  · have ei : rc T S r n - 1 = i := by omega
    rw [ei] at q1 q2 q3
    have hz : (eD T S r n).1 (r i) = 0 := he.resolve_left c
    have ha := rc_after (T := T) (S := S) (r := r) (n := n) (k := i + 1) (by omega) (by omega)
    refine ⟨?_, empt1, fun _ => by rw [← ha]; exact hz⟩
    rw [ha, eD_s, et_up q1] at hz
    simp only [up_eq] at hz
    unfold wm at w1 ⊢
    have q1' : T (26 + r i) = 1 ∧ S (8 + r i) ≠ 9 := q1
    rw [if_pos q1', e1]
    omega
-- the whole way
theorem gon_e {b : Bool} (h : eD T S r n = eD T S r' n) : gon T r n b S = gon T r' n b S := by
  unfold gon
  rw [h]
theorem gon_who (b : Bool) (T r : Nat → Nat) (n : Nat) (S : Nat → Nat) (hT : TW T) {t : Nat} (ht : t < 7) : gon T r n b S (8 + t) = S (8 + t) := by
  have := hT.1
  simp only [gon]
  rw [if_neg (by omega), if_neg (by omega), if_neg (by omega), if_neg (by omega), if_neg (by omega), if_neg (by omega), rnN_lo _ _ _ (by omega)]
theorem gon_left (b : Bool) (T r : Nat → Nat) (n : Nat) (S : Nat → Nat) (hT : TW T) {t : Nat} (ht : t < 7) : gon T r n b S (15 + t) = (eD T S r n).1 t := by
  have := hT.1
  simp only [gon]
  rw [if_neg (by omega), if_neg (by omega), if_neg (by omega), if_neg (by omega), if_pos (by omega), show 15 + t - 15 = t by omega]
theorem lf_at (S : Nat → Nat) (ht : t < 7) : lf S t = S (15 + t) := by simp only [lf]; rw [if_pos ht]
/-- how it is ahead of a stage is told by the first m of the row -/
def DP (T r U : Nat → Nat) (j m : Nat) : Prop := ∀ r', PR T r' (nf T) → (∀ u, u < m → r u = r' u) → ru T r' (nf T) U j = ru T r (nf T) U j
theorem DP_s {U : Nat → Nat} (h : PR T r (nf T)) (hd : DP T r U j m) (hm : m ≤ nf T) : DP T r U (j + 1) (max m (rc T (ru T r (nf T) U j) r (nf T))) := by
  intro r' h' ag
  have e := hd r' h' (fun u hu => ag u (by omega))
  simp only [ru]
  rw [e]
  refine gon_e ?_
  refine eD_dep (m := max m (rc T (ru T r (nf T) U j) r (nf T))) h h' (by omega) ?_ ag
  have := rc_no T (ru T r (nf T) U j) r (n := nf T)
  omega
/-- after the turning evening the turned row fares alike -/
theorem ru_swp {U : Nat → Nat} (hT : TW T) (h : PR T r (nf T)) (hi : 1 ≤ i) (hin : i < nf T) (hs : ru T (swp r i) (nf T) U j = ru T r (nf T) U j) (hz : (may T (ru T r (nf T) U j) (r (i - 1)) → ru T r (nf T) U j (15 + r (i - 1)) = 0) ∧ (may T (ru T r (nf T) U j) (r i) → ru T r (nf T) U j (15 + r i) = 0)) : ∀ k, ru T (swp r i) (nf T) U (j + k) = ru T r (nf T) U (j + k) ∧ (may T (ru T r (nf T) U (j + k)) (r (i - 1)) → ru T r (nf T) U (j + k) (15 + r (i - 1)) = 0) ∧ (may T (ru T r (nf T) U (j + k)) (r i) → ru T r (nf T) U (j + k) (15 + r i) = 0) := by
  have a2 := hT.2.1
  have l1 := (fdb_lt (h (i - 1) (by omega)).1).1
  have l2 := (fdb_lt (h i hin).1).1
  intro k
  induction k with
  | zero => exact ⟨hs, hz⟩
  | succ k ih =>
    obtain ⟨h1, h2, h3⟩ := ih
    rw [show j + (k + 1) = (j + k) + 1 by omega]
    simp only [ru]
    rw [h1]
    generalize ru T r (nf T) U (j + k) = Q at h2 h3 ⊢
    have w1 : wm T Q (eD T Q r (i - 1)).1 (r (i - 1)) = 0 := by
      unfold wm
      by_cases q : may T Q (r (i - 1))
      · rw [if_pos q]
        have := eD_lf T Q r (i - 1) (r (i - 1))
        rw [lf_at _ (by omega)] at this
        have := h2 q
        omega
      · rw [if_neg q]
    have w2 : wm T Q (eD T Q r (i - 1)).1 (r i) = 0 := by
      unfold wm
      by_cases q : may T Q (r i)
      · rw [if_pos q]
        have := eD_lf T Q r (i - 1) (r i)
        rw [lf_at _ (by omega)] at this
        have := h3 q
        omega
      · rw [if_neg q]
    refine ⟨gon_e (eD_swp hi hin (PR_ne h (by omega) hin (by omega)) (by omega)), fun q => ?_, fun q => ?_⟩
    · unfold may at q
      rw [gon_who _ _ _ _ _ hT (by omega)] at q
      rw [gon_left _ _ _ _ _ hT (by omega)]
      have := eD_lf T Q r (nf T) (r (i - 1))
      rw [lf_at _ (by omega)] at this
      have := h2 q
      omega
    · unfold may at q
      rw [gon_who _ _ _ _ _ hT (by omega)] at q
      rw [gon_left _ _ _ _ _ hT (by omega)]
      have := eD_lf T Q r (nf T) (r i)
      rw [lf_at _ (by omega)] at this
      have := h3 q
      omega
theorem ru_mono {U : Nat → Nat} {k m : Nat} (h : k ≤ m) : ru T r n U k 1 ≤ ru T r n U m 1 := by
  induction m with
  | zero => have : k = 0 := by omega
            subst this; exact Nat.le_refl _
  | succ m ih =>
    by_cases e : k = m + 1
    · subst e; exact Nat.le_refl _
    · refine Nat.le_trans (ih (by omega)) ?_
      simp only [ru]
      exact gon_mono _ _ _ _ _
end
