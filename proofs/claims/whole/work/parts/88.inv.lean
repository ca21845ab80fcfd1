-- THE INVARIANT between the class's memory and the reference's
def JC (T : Nat → Nat) (g : am_G) (j : Nat) (S : Nat → Nat) (n : Nat) (P : Nat → Nat → Nat) : Prop := CC T g (j + 2) S ∧ g.1 j 2 = nI n ∧ ∃ x, x < 10 ∧ g.1 j 3 = nI x ∧ ∀ i, i < n → CC T g (j + 6 + 4 * ((x + 10 - n + i) % 10)) (P i)
def JR (g : am_G) (a o : Nat) (S : Nat → Nat) (n : Nat) (P : Nat → Nat → Nat) : Prop := (∀ k, k < 29 → g.1 a (o + k) = nI (S k)) ∧ g.1 a (o + 29) = nI n ∧ ∀ i, i < n → ∀ k, k < 29 → g.1 a (o + (30 + 29 * i + k)) = nI (P i k)
def JW (T S : Nat → Nat) (n : Nat) (P : Nat → Nat → Nat) : Prop := n ≤ 10 ∧ SW T S ∧ ∀ i, i < n → SW T (P i)
def IX (g : am_G) : Prop := ∃ L, L ≤ 200 ∧ g.1 1 1 = nI L ∧ g.1 221 2 = nI L ∧ ∀ k, k < L → g.1 2 k = g.1 222 k ∧ ∃ v, v ≤ 255 ∧ g.1 2 k = nI v
def IB (T : Nat → Nat) (g : am_G) : Prop := ∃ B, B ≤ 6 ∧ g.1 121 2 = nI B ∧ g.1 221 9 = nI B ∧ ∀ i, i < B → ∃ w l m, w < T 0 ∧ l ≤ 20 ∧ m ≤ 999 ∧ g.1 122 i = nI w ∧ g.1 123 i = nI l ∧ g.1 124 i = nI m ∧ g.1 228 (3 * i) = nI w ∧ g.1 228 (3 * i + 1) = nI l ∧ g.1 228 (3 * i + 2) = nI m
def IM (T : Nat → Nat) (g : am_G) : Prop := ∀ i, i < 2 → (g.1 73 i = 0 ∧ g.1 227 i = 0) ∨ (g.1 73 i = 1 ∧ g.1 227 i = 1 ∧ ∃ S n P, JW T S n P ∧ JC T g (129 + 46 * i) S n P ∧ JR g 226 (320 * i) S n P)
def IN (T S : Nat → Nat) (n : Nat) (P : Nat → Nat → Nat) (g : am_G) : Prop := TW T ∧ TC T g ∧ TR T g ∧ JW T S n P ∧ JC T g 26 S n P ∧ JR g 225 0 S n P ∧ IX g ∧ IB T g ∧ IM T g ∧ g.2 0 10 = g.2 221 0
def Inv (g : am_G) : Prop := ∃ T S n P, IN T S n P g
/-- what no call's answer shows -/
def scr (a k : Nat) : Prop := (a = 1 ∧ 2 ≤ k) ∨ (14 ≤ a ∧ a ≤ 25) ∨ (74 ≤ a ∧ a ≤ 120) ∨ (125 ≤ a ∧ a ≤ 128) ∨ (a = 121 ∧ 6 ≤ k) ∨ (a = 221 ∧ 10 ≤ k) ∨ a = 224 ∨ 229 ≤ a
def Fs (g g' : am_G) : Prop := (∀ a k, ¬ scr a k → g'.1 a k = g.1 a k) ∧ g'.2 0 10 = g.2 0 10 ∧ g'.2 221 0 = g.2 221 0
theorem Fs.rf (g : am_G) : Fs g g := ⟨fun _ _ _ => rfl, rfl, rfl⟩
theorem Fs.tr {g g' g'' : am_G} (h : Fs g g') (h' : Fs g' g'') : Fs g g'' := ⟨fun a k q => (h'.1 a k q).trans (h.1 a k q), h'.2.1.trans h.2.1, h'.2.2.trans h.2.2⟩
theorem Fm.s {P : Nat → Nat → Prop} {g g' : am_G} (h : Fm P g g') (hp : ∀ a k, P a k → scr a k) : Fs g g' := ⟨fun a k q => h.2 a k (fun p => q (hp a k p)), by rw [h.1], by rw [h.1]⟩
section
variable {T S : Nat → Nat} {n : Nat} {P : Nat → Nat → Nat} {g g' : am_G}
theorem CC.tr {c c' : Nat} {S : Nat → Nat} (h : CC T g c S) (q0 : ∀ k, 1 ≤ k → k < 6 → g'.1 c' k = g.1 c k) (q1 : ∀ k, k < T 1 → g'.1 (c' + 1) k = g.1 (c + 1) k ∧ g'.1 (c' + 2) k = g.1 (c + 2) k) (q2 : ∀ k, k < T 0 → g'.1 (c' + 3) k = g.1 (c + 3) k) : CC T g' c' S := by
  obtain ⟨h1, h2, h3, h4, ⟨x, hx, h5, h6⟩, h7, h8⟩ := h
  refine ⟨by rw [q0 _ (by omega) (by omega)]; exact h1, by rw [q0 _ (by omega) (by omega)]; exact h2, by rw [q0 _ (by omega) (by omega)]; exact h3, by rw [q0 _ (by omega) (by omega)]; exact h4, ⟨x, hx, by rw [q0 _ (by omega) (by omega)]; exact h5, h6⟩, fun t ht => ?_, fun w hw => ?_⟩
  · rw [(q1 t ht).1, (q1 t ht).2]; exact h7 t ht
  · rw [q2 w hw]; exact h8 w hw
theorem CC.same {c : Nat} {S : Nat → Nat} (h : CC T g c S) (q : ∀ a k, c ≤ a → a ≤ c + 3 → g'.1 a k = g.1 a k) : CC T g' c S := h.tr (fun k _ _ => q _ _ (by omega) (by omega)) (fun k _ => ⟨q _ _ (by omega) (by omega), q _ _ (by omega) (by omega)⟩) (fun k _ => q _ _ (by omega) (by omega))
theorem JC.same {j : Nat} (h : JC T g j S n P) (hn : n ≤ 10) (q : ∀ a k, j ≤ a → a ≤ j + 45 → g'.1 a k = g.1 a k) : JC T g' j S n P := by
  obtain ⟨h1, h2, x, hx, h3, h4⟩ := h
  refine ⟨h1.same (fun a k p1 p2 => q a k (by omega) (by omega)), by rw [q _ _ (by omega) (by omega)]; exact h2, x, hx, by rw [q _ _ (by omega) (by omega)]; exact h3, fun i hi => (h4 i hi).same (fun a k p1 p2 => q a k (by omega) (by omega))⟩
theorem JR.same {a o : Nat} (h : JR g a o S n P) (q : ∀ k, g'.1 a k = g.1 a k) : JR g' a o S n P := by
  obtain ⟨h1, h2, h3⟩ := h
  exact ⟨fun k hk => by rw [q]; exact h1 k hk, by rw [q]; exact h2, fun i hi k hk => by rw [q]; exact h3 i hi k hk⟩
theorem TC.same (h : TC T g) (q : ∀ a k, 3 ≤ a → a ≤ 13 → g'.1 a k = g.1 a k) : TC T g' := by
  obtain ⟨h1, h2, h3, h4, h5, h6⟩ := h
  refine ⟨by rw [q 3 0 (by decide) (by decide)]; exact h1, by rw [q 3 3 (by decide) (by decide)]; exact h2, by rw [q 3 9 (by decide) (by decide)]; exact h3, fun w hw => ?_, fun t ht => ?_, fun d hd => ?_⟩
  · rw [q 4 w (by decide) (by decide), q 5 w (by decide) (by decide)]; exact h4 w hw
  · rw [q 6 t (by decide) (by decide), q 7 t (by decide) (by decide), q 8 t (by decide) (by decide), q 9 t (by decide) (by decide), q 10 t (by decide) (by decide)]; exact h5 t ht
  · rw [q 11 d (by decide) (by decide), q 12 d (by decide) (by decide), q 13 d (by decide) (by decide)]; exact h6 d hd
theorem IX.same (h : IX g) (q1 : g'.1 1 1 = g.1 1 1) (q2 : g'.1 221 2 = g.1 221 2) (q3 : ∀ k, g'.1 2 k = g.1 2 k) (q4 : ∀ k, g'.1 222 k = g.1 222 k) : IX g' := by
  obtain ⟨L, hL, h1, h2, h3⟩ := h
  exact ⟨L, hL, by rw [q1]; exact h1, by rw [q2]; exact h2, fun k hk => by rw [q3, q4]; exact h3 k hk⟩
theorem IB.same (h : IB T g) (q1 : g'.1 121 2 = g.1 121 2) (q2 : g'.1 221 9 = g.1 221 9) (q3 : ∀ a k, 122 ≤ a → a ≤ 124 → g'.1 a k = g.1 a k) (q4 : ∀ k, g'.1 228 k = g.1 228 k) : IB T g' := by
  obtain ⟨B, hB, h1, h2, h3⟩ := h
  refine ⟨B, hB, by rw [q1]; exact h1, by rw [q2]; exact h2, fun i hi => ?_⟩
  obtain ⟨w, l, m, k1, k2, k3, k4, k5, k6, k7, k8, k9⟩ := h3 i hi
  exact ⟨w, l, m, k1, k2, k3, by rw [q3 _ _ (by omega) (by omega)]; exact k4, by rw [q3 _ _ (by omega) (by omega)]; exact k5, by rw [q3 _ _ (by omega) (by omega)]; exact k6, by rw [q4]; exact k7, by rw [q4]; exact k8, by rw [q4]; exact k9⟩
theorem IM.same (h : IM T g) (q1 : ∀ k, g'.1 73 k = g.1 73 k) (q2 : ∀ k, g'.1 227 k = g.1 227 k) (q3 : ∀ a k, 129 ≤ a → a ≤ 220 → g'.1 a k = g.1 a k) (q4 : ∀ k, g'.1 226 k = g.1 226 k) : IM T g' := by
  intro i hi
  rw [q1, q2]
  rcases h i hi with h1 | ⟨h1, h2, S, n, P, h3, h4, h5⟩
  · exact Or.inl h1
  · exact Or.inr ⟨h1, h2, S, n, P, h3, h4.same h3.1 (fun a k p1 p2 => q3 a k (by omega) (by omega)), h5.same q4⟩
theorem IN.fs (h : IN T S n P g) (f : Fs g g') : IN T S n P g' := by
  obtain ⟨h1, h2, h3, h4, h5, h6, h7, h8, h9, h10⟩ := h
  have q : ∀ a k, ¬ scr a k → g'.1 a k = g.1 a k := f.1
  refine ⟨h1, h2.same (fun a k p1 p2 => q a k (by unfold scr; omega)), fun k hk => by rw [q 223 k (by unfold scr; omega)]; exact h3 k hk, h4, h5.same h4.1 (fun a k p1 p2 => q a k (by unfold scr; omega)), h6.same (fun k => q 225 k (by unfold scr; omega)), h7.same (q _ _ (by unfold scr; omega)) (q _ _ (by unfold scr; omega)) (fun k => q _ _ (by unfold scr; omega)) (fun k => q _ _ (by unfold scr; omega)), h8.same (q _ _ (by unfold scr; omega)) (q _ _ (by unfold scr; omega)) (fun a k p1 p2 => q _ _ (by unfold scr; omega)) (fun k => q _ _ (by unfold scr; omega)), h9.same (fun k => q _ _ (by unfold scr; omega)) (fun k => q _ _ (by unfold scr; omega)) (fun a k p1 p2 => q _ _ (by unfold scr; omega)) (fun k => q _ _ (by unfold scr; omega)), ?_⟩
  rw [f.2.1, f.2.2]; exact h10
theorem IN.c (h : IN T S n P g) : CI T g 28 S := ⟨h.1, h.2.1, h.2.2.2.1.2.1, h.2.2.2.2.1.1⟩
theorem IN.r (h : IN T S n P g) : RI T g S := ⟨h.1, h.2.2.1, h.2.2.2.1.2.1, fun k hk => by have := h.2.2.2.2.2.1.1 k hk; rwa [Nat.zero_add] at this⟩
-- the bounds of arguments
theorem wi (g g' : am_G) (x a b : Int32) : Mo_in g' x a b = Tb_isWithin g x a b := rfl
theorem w_t {x a b : Int32} (h1 : ¬ x < a) (h2 : ¬ b < x) : Tb_isWithin g x a b = some true := by rw [Tb_isWithin, if_neg h1, if_neg h2]
theorem w_f {x a b : Int32} (h : x < a ∨ b < x) : Tb_isWithin g x a b = some false := by
  rw [Tb_isWithin]
  by_cases q : x < a
  · rw [if_pos q]
  · rw [if_neg q, if_pos (h.resolve_left q)]
theorem w_to (g : am_G) {n : Nat} (hn : n ≤ 1000) (x : Int32) : (∃ j, j < n ∧ x = nI j ∧ Tb_isWithin g x 0 (nI n - 1) = some true) ∨ ((∀ j, j < n → x ≠ nI j) ∧ Tb_isWithin g x 0 (nI n - 1) = some false) := by
  have hm : (nI n - 1).toInt = (n : Int) - 1 := pk_sub_toInt (a := n) (b := 1) (by omega) (by omega)
  by_cases h0 : x < 0
  · exact Or.inr ⟨fun j hj e => by subst e; exact nI_pos (by omega) h0, w_f (Or.inl h0)⟩
  · obtain ⟨j, hj, rfl⟩ := nI_of h0
    have hx := nI_toInt hj
    by_cases q : j < n
    · refine Or.inl ⟨j, q, rfl, w_t h0 (fun e => ?_)⟩
      rw [Int32.lt_iff_toInt_lt] at e; omega
    · refine Or.inr ⟨fun i hi e => ?_, w_f (Or.inr ?_)⟩
      · rw [nI_eq hj (by omega)] at e; omega
      · rw [Int32.lt_iff_toInt_lt]; omega
theorem w_li (g : am_G) {lo hi : Nat} (hn : hi ≤ 100000) (hlo : lo ≤ hi) (x : Int32) : (∃ j, lo ≤ j ∧ j ≤ hi ∧ x = nI j ∧ Tb_isWithin g x (nI lo) (nI hi) = some true) ∨ ((∀ j, lo ≤ j → j ≤ hi → x ≠ nI j) ∧ Tb_isWithin g x (nI lo) (nI hi) = some false) := by
  by_cases h0 : x < nI lo
  · exact Or.inr ⟨fun j h1 h2 e => by subst e; rw [nI_ltI (by omega) (by omega)] at h0; omega, w_f (Or.inl h0)⟩
  · have h00 : ¬ x < 0 := by
      intro e
      apply h0
      rw [Int32.lt_iff_toInt_lt] at e ⊢
      rw [nI_toInt (by omega)]
      have : (0 : Int32).toInt = 0 := rfl
      omega
    obtain ⟨j, hj, rfl⟩ := nI_of h00
    rw [nI_ltI hj (by omega)] at h0
    by_cases q : j ≤ hi
    · exact Or.inl ⟨j, by omega, q, rfl, w_t (by rw [nI_ltI hj (by omega)]; omega) (by rw [nI_ltI (by omega) hj]; omega)⟩
    · exact Or.inr ⟨fun i h1 h2 e => by rw [nI_eq hj (by omega)] at e; omega, w_f (Or.inr (by rw [nI_ltI (by omega) hj]; omega))⟩
theorem w_01 (g : am_G) (x : Int32) : (∃ j, j ≤ 1 ∧ x = nI j ∧ Tb_isEither g x = some true ∧ Tb_isWithin g x 0 1 = some true) ∨ (Tb_isEither g x = some false ∧ Tb_isWithin g x 0 1 = some false) := by
  rcases w_li g (lo := 0) (hi := 1) (by omega) (by omega) x with ⟨j, -, h2, rfl, h3⟩ | ⟨h1, h2⟩
  · refine Or.inl ⟨j, h2, rfl, ?_, h3⟩
    have : j = 0 ∨ j = 1 := by omega
    rcases this with rfl | rfl <;> rfl
  · refine Or.inr ⟨?_, h2⟩
    rw [Tb_isEither, if_neg (show ¬ x = 0 from h1 0 (by omega) (by omega)), if_neg (show ¬ x = 1 from h1 1 (by omega) (by omega))]
end
