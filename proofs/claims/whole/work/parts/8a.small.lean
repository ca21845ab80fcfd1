-- THE SMALL CALLS that change something
section
variable {T S : Nat → Nat} {n : Nat} {P : Nat → Nat → Nat} {g g' : am_G}
theorem IN.tx (h : IN T S n P g) (q : ∀ a k, ¬ (a = 1 ∨ a = 2 ∨ a = 222 ∨ (a = 221 ∧ k = 2)) → g'.1 a k = g.1 a k) (q2 : g'.2 = g.2) (hx : IX g') : IN T S n P g' := by
  obtain ⟨h1, h2, h3, h4, h5, h6, h7, h8, h9, h10⟩ := h
  refine ⟨h1, h2.same (fun a k p1 p2 => q a k (by omega)), fun k hk => by rw [q 223 k (by omega)]; exact h3 k hk, h4, h5.same h4.1 (fun a k p1 p2 => q a k (by omega)), h6.same (fun k => q 225 k (by omega)), hx, h8.same (q _ _ (by omega)) (q _ _ (by omega)) (fun a k p1 p2 => q _ _ (by omega)) (fun k => q _ _ (by omega)), h9.same (fun k => q _ _ (by omega)) (fun k => q _ _ (by omega)) (fun a k p1 p2 => q _ _ (by omega)) (fun k => q _ _ (by omega)), ?_⟩
  rw [q2]; exact h10
theorem IN.bk (h : IN T S n P g) (q : ∀ a k, ¬ ((121 ≤ a ∧ a ≤ 124) ∨ a = 228 ∨ (a = 221 ∧ k = 9)) → g'.1 a k = g.1 a k) (q2 : g'.2 = g.2) (hx : IB T g') : IN T S n P g' := by
  obtain ⟨h1, h2, h3, h4, h5, h6, h7, h8, h9, h10⟩ := h
  refine ⟨h1, h2.same (fun a k p1 p2 => q a k (by omega)), fun k hk => by rw [q 223 k (by omega)]; exact h3 k hk, h4, h5.same h4.1 (fun a k p1 p2 => q a k (by omega)), h6.same (fun k => q 225 k (by omega)), h7.same (q _ _ (by omega)) (q _ _ (by omega)) (fun k => q _ _ (by omega)) (fun k => q _ _ (by omega)), hx, h9.same (fun k => q _ _ (by omega)) (fun k => q _ _ (by omega)) (fun a k p1 p2 => q _ _ (by omega)) (fun k => q _ _ (by omega)), ?_⟩
  rw [q2]; exact h10
theorem IN.tc (h : IN T S n P g) (q : g'.1 = g.1) (q2 : g'.2 0 10 = g'.2 221 0) : IN T S n P g' := by
  obtain ⟨h1, h2, h3, h4, h5, h6, h7, h8, h9, h10⟩ := h
  refine ⟨h1, h2.same (fun a k p1 p2 => by rw [q]), fun k hk => by rw [q]; exact h3 k hk, h4, h5.same h4.1 (fun a k p1 p2 => by rw [q]), h6.same (fun k => by rw [q]), h7.same (by rw [q]) (by rw [q]) (fun k => by rw [q]) (fun k => by rw [q]), h8.same (by rw [q]) (by rw [q]) (fun a k p1 p2 => by rw [q]) (fun k => by rw [q]), h9.same (fun k => by rw [q]) (fun k => by rw [q]) (fun a k p1 p2 => by rw [q]) (fun k => by rw [q]), q2⟩
end
theorem sp_clear (g : am_G) (h : Inv g) : ∃ g1 g2 r, Tb_clear g = some (g1, r) ∧ Mo_clear g1 = some (g2, r) ∧ Inv g2 := by
  obtain ⟨T, S, n, P, h⟩ := h
  obtain ⟨L, hL, x1, x2, -⟩ := h.2.2.2.2.2.2.1
  refine ⟨_, _, _, rfl, ?_, T, S, n, P, h.tx (g' := am_wr (am_wr g 1 1 0) 221 2 0) (fun a k q => ?_) rfl ⟨0, by omega, ?_, ?_, fun k hk => by omega⟩⟩
  · rw [Mo_clear, m_na (by omega), x1, x2]
  · rw [m_ne (by omega), m_ne (by omega)]
  · rw [m_na (by omega), m_eq]; rfl
  · rw [m_eq]; rfl
theorem sp_burn (g : am_G) (h : Inv g) : ∃ g1 g2 r, Tb_burn g = some (g1, r) ∧ Mo_burn g1 = some (g2, r) ∧ Inv g2 := by
  obtain ⟨T, S, n, P, h⟩ := h
  obtain ⟨B, hB, x1, x2, -⟩ := h.2.2.2.2.2.2.2.1
  refine ⟨_, _, _, rfl, ?_, T, S, n, P, h.bk (g' := am_wr (am_wr g 121 2 0) 221 9 0) (fun a k q => ?_) rfl ⟨0, by omega, ?_, ?_, fun k hk => by omega⟩⟩
  · rw [Mo_burn, m_na (by omega), x1, x2]
  · rw [m_ne (by omega), m_ne (by omega)]
  · rw [m_na (by omega), m_eq]; rfl
  · rw [m_eq]; rfl
theorem sp_type (g : am_G) (y1 : Int32) (h : Inv g) : ∃ g1 g2 r, Tb_type g y1 = some (g1, r) ∧ Mo_type g1 y1 = some (g2, r) ∧ Inv g2 := by
  have hI := h
  obtain ⟨T, S, n, P, h⟩ := h
  obtain ⟨L, hL, x1, x2, x3⟩ := h.2.2.2.2.2.2.1
  rcases w_li g (lo := 0) (hi := 255) (by omega) (by omega) y1 with ⟨j, -, hj, rfl, e1⟩ | ⟨-, e1⟩
  · have e1' : Tb_isWithin g (nI j) 0 255 = some true := e1
    by_cases q : L < 200
    · have q' : ¬ L = 200 := by omega
      refine ⟨am_wr (am_wr g 2 L (nI j)) 1 1 (nI (L + 1)), am_wr (am_wr (am_wr (am_wr g 2 L (nI j)) 1 1 (nI (L + 1))) 222 L (nI j)) 221 2 (nI (L + 1)), nI (L + 1), ?_, ?_, T, S, n, P, h.tx (fun a k q => ?_) rfl ⟨L + 1, by omega, ?_, ?_, fun k hk => ?_⟩⟩
      · rw [Tb_type, e1', Option.bind_some, if_pos rfl, Tx_takes, x1]
        simp (disch := omega) only [z_lt, z_le, z_eq, z_in, z_cl, z_add, z_mul, z_mx, z_mn, zl12, zl18, zl19, zl30, zl115, zl116, zl119, zl291, zl640, zl999, zl9999, zl0, zl1, zl2, zl3, zl4, zl5, zl6, zl7, zl8, zl9, zl10, zl15, zl20, zl22, zl26, zl29, zl32, zl33, zl40, zl47, zl48, zl55, zl57, zl59, zl60, zl63, zl71, zl97, zl99, zl100, zl122, zl200, zl255, zl320, zl1000, zl1024, zl5040, zl1000000000, m_eq, m_na, m_nk, m_2, m_L1, m_cp2, m_cpi, m_cpo, x1, q, Option.bind_some, Option.bind_none, ↓reduceIte, Bool.false_eq_true, reduceCtorEq]
      · rw [Mo_type, wi g, e1', Option.bind_some, if_pos rfl]
        simp (disch := omega) only [z_lt, z_le, z_eq, z_in, z_cl, z_add, z_mul, z_mx, z_mn, zl12, zl18, zl19, zl30, zl115, zl116, zl119, zl291, zl640, zl999, zl9999, zl0, zl1, zl2, zl3, zl4, zl5, zl6, zl7, zl8, zl9, zl10, zl15, zl20, zl22, zl26, zl29, zl32, zl33, zl40, zl47, zl48, zl55, zl57, zl59, zl60, zl63, zl71, zl97, zl99, zl100, zl122, zl200, zl255, zl320, zl1000, zl1024, zl5040, zl1000000000, m_eq, m_na, m_nk, m_2, m_L1, m_cp2, m_cpi, m_cpo, x2, q', Option.bind_some, Option.bind_none, ↓reduceIte, Bool.false_eq_true, reduceCtorEq]
      · rw [m_ne (by omega), m_ne (by omega), m_ne (by omega), m_ne (by omega)]
      · rw [m_na (by omega), m_na (by omega), m_eq]
      · rw [m_eq]
      · by_cases e : k = L
        · subst e
          rw [m_na (by omega), m_na (by omega), m_na (by omega), m_eq, m_na (by omega), m_eq]
          exact ⟨rfl, j, hj, rfl⟩
        · rw [m_na (by omega), m_na (by omega), m_na (by omega), m_nk e, m_na (by omega), m_nk e, m_na (by omega), m_na (by omega)]
          exact x3 k (by omega)
    · have q' : L = 200 := by omega
      refine ⟨g, g, -3, ?_, ?_, hI⟩
      · rw [Tb_type, e1', Option.bind_some, if_pos rfl, Tx_takes, x1]
        simp (disch := omega) only [z_lt, z_le, z_eq, z_in, z_cl, z_add, z_mul, z_mx, z_mn, zl12, zl18, zl19, zl30, zl115, zl116, zl119, zl291, zl640, zl999, zl9999, zl0, zl1, zl2, zl3, zl4, zl5, zl6, zl7, zl8, zl9, zl10, zl15, zl20, zl22, zl26, zl29, zl32, zl33, zl40, zl47, zl48, zl55, zl57, zl59, zl60, zl63, zl71, zl97, zl99, zl100, zl122, zl200, zl255, zl320, zl1000, zl1024, zl5040, zl1000000000, q, Option.bind_some, Option.bind_none, ↓reduceIte, Bool.false_eq_true, reduceCtorEq]
      · rw [Mo_type, wi g, e1', Option.bind_some, if_pos rfl, x2]
        simp (disch := omega) only [z_lt, z_le, z_eq, z_in, z_cl, z_add, z_mul, z_mx, z_mn, zl12, zl18, zl19, zl30, zl115, zl116, zl119, zl291, zl640, zl999, zl9999, zl0, zl1, zl2, zl3, zl4, zl5, zl6, zl7, zl8, zl9, zl10, zl15, zl20, zl22, zl26, zl29, zl32, zl33, zl40, zl47, zl48, zl55, zl57, zl59, zl60, zl63, zl71, zl97, zl99, zl100, zl122, zl200, zl255, zl320, zl1000, zl1024, zl5040, zl1000000000, q', Option.bind_some, Option.bind_none, ↓reduceIte, Bool.false_eq_true, reduceCtorEq]
  · have e1' : Tb_isWithin g y1 0 255 = some false := e1
    exact ⟨g, g, -1, by rw [Tb_type, e1']; rfl, by rw [Mo_type, wi g, e1']; rfl, hI⟩
theorem tb_line? {T S : Nat → Nat} {n : Nat} {P : Nat → Nat → Nat} {g : am_G} (h : IN T S n P g) (x y z : Int32) : (∃ w l m, w < T 0 ∧ 1 ≤ l ∧ l ≤ 20 ∧ 1 ≤ m ∧ m ≤ 999 ∧ x = nI w ∧ y = nI l ∧ z = nI m ∧ Tb_isLine g x y z = some true ∧ Mo_isWalker g x = some true ∧ Mo_in g y 1 20 = some true ∧ Mo_in g z 1 999 = some true) ∨ (Tb_isLine g x y z = some false ∧ (Mo_isWalker g x = some false ∨ (Mo_isWalker g x = some true ∧ (Mo_in g y 1 20 = some false ∨ (Mo_in g y 1 20 = some true ∧ Mo_in g z 1 999 = some false))))) := by
  rcases tb_walker? h x with ⟨j, hj, rfl, e1, e2⟩ | ⟨e1, e2⟩
  · rcases w_li g (lo := 1) (hi := 20) (by omega) (by omega) y with ⟨l, l1, l2, rfl, e3⟩ | ⟨-, e3⟩
    · rcases w_li g (lo := 1) (hi := 999) (by omega) (by omega) z with ⟨m, m1, m2, rfl, e4⟩ | ⟨-, e4⟩
      · exact Or.inl ⟨j, l, m, hj, l1, l2, m1, m2, rfl, rfl, rfl, by rw [Tb_isLine, e1, Option.bind_some, if_pos rfl, show Tb_isWithin g (nI l) 1 20 = some true from e3, Option.bind_some, if_pos rfl, show Tb_isWithin g (nI m) 1 999 = some true from e4]; rfl, e2, e3, e4⟩
      · exact Or.inr ⟨by rw [Tb_isLine, e1, Option.bind_some, if_pos rfl, show Tb_isWithin g (nI l) 1 20 = some true from e3, Option.bind_some, if_pos rfl, show Tb_isWithin g z 1 999 = some false from e4]; rfl, Or.inr ⟨e2, Or.inr ⟨e3, e4⟩⟩⟩
    · exact Or.inr ⟨by rw [Tb_isLine, e1, Option.bind_some, if_pos rfl, show Tb_isWithin g y 1 20 = some false from e3]; rfl, Or.inr ⟨e2, Or.inl e3⟩⟩
  · exact Or.inr ⟨by rw [Tb_isLine, e1]; rfl, Or.inl e2⟩
theorem sp_book (g : am_G) (y1 y2 y3 : Int32) (h : Inv g) : ∃ g1 g2 r, Tb_book g y1 y2 y3 = some (g1, r) ∧ Mo_book g1 y1 y2 y3 = some (g2, r) ∧ Inv g2 := by
  have hI := h
  obtain ⟨T, S, n, P, h⟩ := h
  obtain ⟨B, hB, x1, x2, x3⟩ := h.2.2.2.2.2.2.2.1
  rcases tb_line? h y1 y2 y3 with ⟨w, l, m, hw, l1, l2, m1, m2, rfl, rfl, rfl, e1, e2, e3, e4⟩ | ⟨e1, e2⟩
  · by_cases q : B < 6
    · have q' : ¬ B = 6 := by omega
      have d : am_wr (am_wr (am_wr (am_wr g 122 B (nI w)) 123 B (nI l)) 124 B (nI m)) 121 2 (nI (B + 1)) = am_wr (am_wr (am_wr (am_wr g 122 B (nI w)) 123 B (nI l)) 124 B (nI m)) 121 2 (nI (B + 1)) := rfl
      have h1 : IN T S n P (am_wr (am_wr (am_wr (am_wr g 122 B (nI w)) 123 B (nI l)) 124 B (nI m)) 121 2 (nI B)) := h.bk (fun a k q => by rw [m_ne (by omega), m_ne (by omega), m_ne (by omega), m_ne (by omega)]) rfl ⟨B, hB, by rw [m_eq], by rw [m_na (by omega), m_na (by omega), m_na (by omega), m_na (by omega)]; exact x2, fun i hi => by
        obtain ⟨w', l', m', k1, k2, k3, k4, k5, k6, k7, k8, k9⟩ := x3 i hi
        refine ⟨w', l', m', k1, k2, k3, ?_, ?_, ?_, ?_, ?_, ?_⟩ <;> rw [m_ne (by omega), m_ne (by omega), m_ne (by omega), m_ne (by omega)] <;> assumption⟩
      refine ⟨am_wr (am_wr (am_wr (am_wr g 122 B (nI w)) 123 B (nI l)) 124 B (nI m)) 121 2 (nI (B + 1)), am_wr (am_wr (am_wr (am_wr (am_wr (am_wr (am_wr (am_wr g 122 B (nI w)) 123 B (nI l)) 124 B (nI m)) 121 2 (nI (B + 1))) 228 (3 * B) (nI w)) 228 (3 * B + 1) (nI l)) 228 (3 * B + 2) (nI m)) 221 9 (nI (B + 1)), nI (B + 1), ?_, ?_, T, S, n, P, h.bk (fun a k q => ?_) rfl ⟨B + 1, by omega, ?_, ?_, fun i hi => ?_⟩⟩
      · rw [Tb_book, e1, Option.bind_some, if_pos rfl, Bo_takes]
        simp (disch := omega) only [z_lt, z_le, z_eq, z_in, z_cl, z_add, z_mul, z_mx, z_mn, zl12, zl18, zl19, zl30, zl115, zl116, zl119, zl291, zl640, zl999, zl9999, zl0, zl1, zl2, zl3, zl4, zl5, zl6, zl7, zl8, zl9, zl10, zl15, zl20, zl22, zl26, zl29, zl32, zl33, zl40, zl47, zl48, zl55, zl57, zl59, zl60, zl63, zl71, zl97, zl99, zl100, zl122, zl200, zl255, zl320, zl1000, zl1024, zl5040, zl1000000000, m_eq, m_na, m_nk, m_2, m_L1, m_cp2, m_cpi, m_cpo, x1, q, Option.bind_some, Option.bind_none, ↓reduceIte, Bool.false_eq_true, reduceCtorEq]
      · have e2' : Mo_isWalker (am_wr (am_wr (am_wr (am_wr g 122 B (nI w)) 123 B (nI l)) 124 B (nI m)) 121 2 (nI (B + 1))) (nI w) = some true := by
          rw [Mo_isWalker, m_na (by omega), m_na (by omega), m_na (by omega), m_na (by omega)]
          exact e2
        rw [Mo_book, e2', Option.bind_some, if_pos rfl, wi g, show Tb_isWithin g (nI l) 1 20 = some true from e3, Option.bind_some, if_pos rfl, wi g, show Tb_isWithin g (nI m) 1 999 = some true from e4, Option.bind_some, if_pos rfl]
        simp (disch := omega) only [z_lt, z_le, z_eq, z_in, z_cl, z_add, z_mul, z_mx, z_mn, zl12, zl18, zl19, zl30, zl115, zl116, zl119, zl291, zl640, zl999, zl9999, zl0, zl1, zl2, zl3, zl4, zl5, zl6, zl7, zl8, zl9, zl10, zl15, zl20, zl22, zl26, zl29, zl32, zl33, zl40, zl47, zl48, zl55, zl57, zl59, zl60, zl63, zl71, zl97, zl99, zl100, zl122, zl200, zl255, zl320, zl1000, zl1024, zl5040, zl1000000000, m_eq, m_na, m_nk, m_2, m_L1, m_cp2, m_cpi, m_cpo, x2, q', Option.bind_some, Option.bind_none, ↓reduceIte, Bool.false_eq_true, reduceCtorEq]
      · rw [m_ne (by omega), m_ne (by omega), m_ne (by omega), m_ne (by omega), m_ne (by omega), m_ne (by omega), m_ne (by omega), m_ne (by omega)]
      · rw [m_na (by omega), m_na (by omega), m_na (by omega), m_na (by omega), m_eq]
      · rw [m_eq]
      · by_cases e : i = B
        · subst e
          refine ⟨w, l, m, hw, l2, m2, ?_, ?_, ?_, ?_, ?_, ?_⟩ <;> simp (disch := omega) only [m_eq, m_na, m_nk, m_2, m_L1, m_cp2, m_cpi, m_cpo]
        · obtain ⟨w', l', m', k1, k2, k3, k4, k5, k6, k7, k8, k9⟩ := x3 i (by omega)
          refine ⟨w', l', m', k1, k2, k3, ?_, ?_, ?_, ?_, ?_, ?_⟩ <;> rw [m_ne (by omega), m_ne (by omega), m_ne (by omega), m_ne (by omega), m_ne (by omega), m_ne (by omega), m_ne (by omega), m_ne (by omega)] <;> assumption
    · have q' : B = 6 := by omega
      refine ⟨g, g, -3, ?_, ?_, hI⟩
      · rw [Tb_book, e1, Option.bind_some, if_pos rfl, Bo_takes, x1]
        simp (disch := omega) only [z_lt, z_le, z_eq, z_in, z_cl, z_add, z_mul, z_mx, z_mn, zl12, zl18, zl19, zl30, zl115, zl116, zl119, zl291, zl640, zl999, zl9999, zl0, zl1, zl2, zl3, zl4, zl5, zl6, zl7, zl8, zl9, zl10, zl15, zl20, zl22, zl26, zl29, zl32, zl33, zl40, zl47, zl48, zl55, zl57, zl59, zl60, zl63, zl71, zl97, zl99, zl100, zl122, zl200, zl255, zl320, zl1000, zl1024, zl5040, zl1000000000, q, Option.bind_some, Option.bind_none, ↓reduceIte, Bool.false_eq_true, reduceCtorEq]
      · rw [Mo_book, e2, Option.bind_some, if_pos rfl, e3, Option.bind_some, if_pos rfl, e4, Option.bind_some, if_pos rfl, x2]
        simp (disch := omega) only [z_lt, z_le, z_eq, z_in, z_cl, z_add, z_mul, z_mx, z_mn, zl12, zl18, zl19, zl30, zl115, zl116, zl119, zl291, zl640, zl999, zl9999, zl0, zl1, zl2, zl3, zl4, zl5, zl6, zl7, zl8, zl9, zl10, zl15, zl20, zl22, zl26, zl29, zl32, zl33, zl40, zl47, zl48, zl55, zl57, zl59, zl60, zl63, zl71, zl97, zl99, zl100, zl122, zl200, zl255, zl320, zl1000, zl1024, zl5040, zl1000000000, q', Option.bind_some, Option.bind_none, ↓reduceIte, Bool.false_eq_true, reduceCtorEq]
  · refine ⟨g, g, -1, by rw [Tb_book, e1]; rfl, ?_, hI⟩
    rw [Mo_book]
    rcases e2 with e2 | ⟨e2, e3 | ⟨e3, e4⟩⟩
    · rw [e2]; rfl
    · rw [e2, Option.bind_some, if_pos rfl, e3]; rfl
    · rw [e2, Option.bind_some, if_pos rfl, e3, Option.bind_some, if_pos rfl, e4]; rfl
/-- the first and the last of the numbers of which p holds -/
def fl (p : Nat → Prop) [DecidablePred p] : Nat → Int32 × Int32
  | 0 => (-9, -9)
  | k + 1 => if p k then (if (fl p k).1 = -9 then nI k else (fl p k).1, nI k) else fl p k
theorem sp_truly (g : am_G) (y1 y2 y3 y4 : Int32) (h : Inv g) : ∃ r, Tb_truly g y1 y2 y3 y4 = some r ∧ Mo_truly g y1 y2 y3 y4 = some r ∧ Inv g := by
  have hI := h
  obtain ⟨T, S, n, P, h⟩ := h
  rcases tb_line? h y1 y2 y3 with ⟨w, l, m, hw, l1, l2, m1, m2, rfl, rfl, rfl, e1, e2, e3, e4⟩ | ⟨e1, e2⟩
  · rcases w_01 g y4 with ⟨k, hk, rfl, e5, e6⟩ | ⟨e5, e6⟩
    · obtain ⟨r1, c1, c2⟩ := lp_up (fun n (a : Int32) i => Tb_truly_L27 n g (nI w) (nI l) (nI m) (nI k) a (nI i)) 100 (fun i a => a = if k = 0 then (fl (fun x => tks l (pac T S w x) = m) i).1 else (fl (fun x => tks l (pac T S w x) = m) i).2) (fun a => a = if k = 0 then (fl (fun x => tks l (pac T S w x) = m) 100).1 else (fl (fun x => tks l (pac T S w x) = m) 100).2)
        (fun n a ha => ⟨a, by rw [Tb_truly_L27]; simp (disch := omega) only [z_lt, z_le, z_eq, z_in, z_cl, z_add, z_mul, z_mx, z_mn, zl12, zl18, zl19, zl30, zl115, zl116, zl119, zl291, zl640, zl999, zl9999, zl0, zl1, zl2, zl3, zl4, zl5, zl6, zl7, zl8, zl9, zl10, zl15, zl20, zl22, zl26, zl29, zl32, zl33, zl40, zl47, zl48, zl55, zl57, zl59, zl60, zl63, zl71, zl97, zl99, zl100, zl122, zl200, zl255, zl320, zl1000, zl1024, zl5040, zl1000000000, Nat.reduceLT, ↓reduceIte], ha⟩)
        (fun n i a hi ha => by
          refine ⟨_, ?_, rfl⟩
          have t1 := tks_le l2 (pac_le T S w i).1
          have h6 : ¬ 99 < i := by omega
          rw [Tb_truly_L27, ca_minutesFor h.c hw (by omega) l2, fl]
          by_cases q : tks l (pac T S w i) = m
          · rw [if_pos q]
            have q' : (nI (tks l (pac T S w i)) = nI m) := by rw [q]
            have hk2 : k = 0 ∨ k = 1 := by omega
            rcases hk2 with rfl | rfl
            · rw [if_pos rfl] at ha
              simp (disch := omega) only [z_lt, z_le, z_eq, z_in, z_cl, z_add, z_mul, z_mx, z_mn, zl12, zl18, zl19, zl30, zl115, zl116, zl119, zl291, zl640, zl999, zl9999, zl0, zl1, zl2, zl3, zl4, zl5, zl6, zl7, zl8, zl9, zl10, zl15, zl20, zl22, zl26, zl29, zl32, zl33, zl40, zl47, zl48, zl55, zl57, zl59, zl60, zl63, zl71, zl97, zl99, zl100, zl122, zl200, zl255, zl320, zl1000, zl1024, zl5040, zl1000000000, h6, q, ha, Option.bind_some, Option.bind_none, ↓reduceIte, Bool.false_eq_true, reduceCtorEq, Nat.reduceEqDiff]
              rfl
            · simp (disch := omega) only [z_lt, z_le, z_eq, z_in, z_cl, z_add, z_mul, z_mx, z_mn, zl12, zl18, zl19, zl30, zl115, zl116, zl119, zl291, zl640, zl999, zl9999, zl0, zl1, zl2, zl3, zl4, zl5, zl6, zl7, zl8, zl9, zl10, zl15, zl20, zl22, zl26, zl29, zl32, zl33, zl40, zl47, zl48, zl55, zl57, zl59, zl60, zl63, zl71, zl97, zl99, zl100, zl122, zl200, zl255, zl320, zl1000, zl1024, zl5040, zl1000000000, h6, q, Option.bind_some, Option.bind_none, ↓reduceIte, Bool.false_eq_true, reduceCtorEq, Nat.reduceEqDiff, ite_self]
          · rw [if_neg q]
            simp (disch := omega) only [z_lt, z_le, z_eq, z_in, z_cl, z_add, z_mul, z_mx, z_mn, zl12, zl18, zl19, zl30, zl115, zl116, zl119, zl291, zl640, zl999, zl9999, zl0, zl1, zl2, zl3, zl4, zl5, zl6, zl7, zl8, zl9, zl10, zl15, zl20, zl22, zl26, zl29, zl32, zl33, zl40, zl47, zl48, zl55, zl57, zl59, zl60, zl63, zl71, zl97, zl99, zl100, zl122, zl200, zl255, zl320, zl1000, zl1024, zl5040, zl1000000000, h6, q, ← ha, Option.bind_some, Option.bind_none, ↓reduceIte, Bool.false_eq_true, reduceCtorEq])
        am_fuel 0 (-9) (by omega) (z_fuel (by omega)) (by split <;> rfl)
      obtain ⟨r2, c3, c4⟩ := lp_up (fun n (a : Int32 × Int32) i => Mo_truly_L52 n g (nI w) (nI l) (nI m) (nI k) a.1 a.2 (nI i)) 100 (fun i a => a = fl (fun x => tks l (pac T S w x) = m) i) (fun a => a = fl (fun x => tks l (pac T S w x) = m) 100)
        (fun n a ha => ⟨a, by rw [Mo_truly_L52]; simp (disch := omega) only [z_lt, z_le, z_eq, z_in, z_cl, z_add, z_mul, z_mx, z_mn, zl12, zl18, zl19, zl30, zl115, zl116, zl119, zl291, zl640, zl999, zl9999, zl0, zl1, zl2, zl3, zl4, zl5, zl6, zl7, zl8, zl9, zl10, zl15, zl20, zl22, zl26, zl29, zl32, zl33, zl40, zl47, zl48, zl55, zl57, zl59, zl60, zl63, zl71, zl97, zl99, zl100, zl122, zl200, zl255, zl320, zl1000, zl1024, zl5040, zl1000000000, Nat.le_refl, ↓reduceIte], ha⟩)
        (fun n i a hi ha => by
          refine ⟨_, ?_, rfl⟩
          have t1 := tks_le l2 (pac_le T S w i).1
          have t2 := pac_le T S w i
          have h6 : ¬ 100 ≤ i := by omega
          rw [Mo_truly_L52, mo_pace h.r hw (by omega), Option.bind_some, mo_takes l2 t2.1 t2.2, fl, ha]
          by_cases q : tks l (pac T S w i) = m
          · simp (disch := omega) only [z_lt, z_le, z_eq, z_in, z_cl, z_add, z_mul, z_mx, z_mn, zl12, zl18, zl19, zl30, zl115, zl116, zl119, zl291, zl640, zl999, zl9999, zl0, zl1, zl2, zl3, zl4, zl5, zl6, zl7, zl8, zl9, zl10, zl15, zl20, zl22, zl26, zl29, zl32, zl33, zl40, zl47, zl48, zl55, zl57, zl59, zl60, zl63, zl71, zl97, zl99, zl100, zl122, zl200, zl255, zl320, zl1000, zl1024, zl5040, zl1000000000, h6, q, Option.bind_some, Option.bind_none, ↓reduceIte, Bool.false_eq_true, reduceCtorEq, Nat.one_ne_zero]
          · simp (disch := omega) only [z_lt, z_le, z_eq, z_in, z_cl, z_add, z_mul, z_mx, z_mn, zl12, zl18, zl19, zl30, zl115, zl116, zl119, zl291, zl640, zl999, zl9999, zl0, zl1, zl2, zl3, zl4, zl5, zl6, zl7, zl8, zl9, zl10, zl15, zl20, zl22, zl26, zl29, zl32, zl33, zl40, zl47, zl48, zl55, zl57, zl59, zl60, zl63, zl71, zl97, zl99, zl100, zl122, zl200, zl255, zl320, zl1000, zl1024, zl5040, zl1000000000, h6, q, Option.bind_some, Option.bind_none, ↓reduceIte, Bool.false_eq_true, reduceCtorEq])
        am_fuel 0 (-9, -9) (by omega) (z_fuel (by omega)) rfl
      refine ⟨r1, ?_, ?_, hI⟩
      · rw [Tb_truly, e1, Option.bind_some, if_pos rfl, e5, Option.bind_some, if_pos rfl, show Tb_truly_L27 am_fuel g (nI w) (nI l) (nI m) (nI k) (-9) 0 = some r1 from c1]; rfl
      · rw [Mo_truly, e2, Option.bind_some, if_pos rfl, e3, Option.bind_some, if_pos rfl, e4, Option.bind_some, if_pos rfl, wi g, e6, Option.bind_some, if_pos rfl, show Mo_truly_L52 am_fuel g (nI w) (nI l) (nI m) (nI k) (-9) (-9) 0 = some r2 from c3, Option.bind_some, c2, c4]
        have hk2 : k = 0 ∨ k = 1 := by omega
        rcases hk2 with rfl | rfl
        · rw [if_pos (show nI 0 = 0 from rfl), if_pos rfl]
        · rw [if_neg (show ¬ nI 1 = 0 by decide), if_neg (by omega)]
    · exact ⟨-1, by rw [Tb_truly, e1, Option.bind_some, if_pos rfl, e5]; rfl, by rw [Mo_truly, e2, Option.bind_some, if_pos rfl, e3, Option.bind_some, if_pos rfl, e4, Option.bind_some, if_pos rfl, wi g, e6]; rfl, hI⟩
  · refine ⟨-1, by rw [Tb_truly, e1]; rfl, ?_, hI⟩
    rw [Mo_truly]
    rcases e2 with e2 | ⟨e2, e3 | ⟨e3, e4⟩⟩
    · rw [e2]; rfl
    · rw [e2, Option.bind_some, if_pos rfl, e3]; rfl
    · rw [e2, Option.bind_some, if_pos rfl, e3, Option.bind_some, if_pos rfl, e4]; rfl
theorem z64 (x a b c : Int64) (h : a + b = c) : x + a + b = x + c := by rw [Int64.add_assoc, h]
theorem sp_mark (g : am_G) (y1 y2 : Int32) (h : Inv g) : ∃ g1 g2 r, Tb_mark g y1 y2 = some (g1, r) ∧ Mo_mark g1 y1 y2 = some (g2, r) ∧ Inv g2 := by
  have hI := h
  obtain ⟨T, S, n, P, h⟩ := h
  have hb := h.c.bb
  have ht := h.2.2.2.2.2.2.2.2.2
  rcases tb_thing? h y2 with ⟨j, hj, rfl, e1, e2⟩ | ⟨-, e1, e2⟩
  · have q1 := h.c.tt hj
    have al : ∀ x : Int64, Tb_asLoad (am_wL g 0 10 x) (nI j) = some (am_wL (am_wL g 0 10 x) 0 10 (x + 1), nI (wgh T S j)) := by
      intro x
      have := ca_weight (h.tc (g' := (g.1, fun _ _ => 0)) rfl rfl).c hj
      rw [Tb_asLoad, m_Leq]
      have e : Ca_weight (am_wL (am_wL g 0 10 x) 0 10 (x + 1)) 28 (nI j) = some (nI (wgh T S j)) := this
      rw [e]; rfl
    have fin : ∀ (x : Int64) (k : Nat) (r : Int32), k ≤ 5 → Mo_mark (am_wL g 0 10 x) (nI k) (nI j) = some (am_wL (am_wL g 0 10 x) 221 0 x, r) → Tb_mark g (nI k) (nI j) = some (am_wL g 0 10 x, r) → ∃ g1 g2 r, Tb_mark g (nI k) (nI j) = some (g1, r) ∧ Mo_mark g1 (nI k) (nI j) = some (g2, r) ∧ Inv g2 := by
      intro x k r hk c1 c2
      exact ⟨_, _, r, c2, c1, T, S, n, P, h.tc rfl (by rw [m_Lne (by omega), m_Leq, m_Leq])⟩
    have ww : ∀ (x y : Int64), am_wL (am_wL g 0 10 x) 0 10 y = am_wL g 0 10 y := by
      intro x y
      unfold am_wL
      ext1
      · rfl
      · funext a k
        show (if a = 0 ∧ k = 10 then y else if a = 0 ∧ k = 10 then x else g.2 a k) = if a = 0 ∧ k = 10 then y else g.2 a k
        split <;> simp_all
    have g0 : am_wL g 0 10 (g.2 0 10) = g := by
      unfold am_wL
      ext1
      · rfl
      · funext a k
        show (if a = 0 ∧ k = 10 then g.2 0 10 else g.2 a k) = g.2 a k
        split
        · rename_i q; rw [q.1, q.2]
        · rfl
    have al0 : Tb_asLoad g (nI j) = some (am_wL g 0 10 (g.2 0 10 + 1), nI (wgh T S j)) := by
      have := al (g.2 0 10)
      rwa [g0] at this
    have mw : ∀ x y : Int64, Mo_weighs (am_wL (am_wL g 0 10 x) 221 0 y) (nI j) = some (nI (wgh T S j)) := by
      intro x y
      exact mo_weighs (h.tc (g' := (g.1, fun _ _ => 0)) rfl rfl).r hj
    have e2' : ∀ x : Int64, Mo_isThing (am_wL g 0 10 x) (nI j) = some true := fun x => e2
    rcases w_li g (lo := 0) (hi := 5) (by omega) (by omega) y1 with ⟨k, -, hk, rfl, e3⟩ | ⟨e3, e4⟩
    · have e3' : ∀ x : Int64, Mo_in (am_wL g 0 10 x) (nI k) 0 5 = some true := fun x => e3
      have lt : ∀ x : Int64, (am_wL g 0 10 x).2 221 0 = g.2 0 10 := fun x => by rw [m_Lne (by omega)]; exact ht.symm
      rcases e6 hk with rfl | rfl | rfl | rfl | rfl | rfl
      · refine fin (g.2 0 10 + 1) 0 (nI (wgh T S j)) (by omega) ?_ ?_
        · rw [Mo_mark, e3', Option.bind_some, if_pos rfl, e2', Option.bind_some, if_pos rfl, lt]
          rw [if_pos (show nI 0 = 0 from rfl), mw, Option.bind_some]
          simp (disch := omega) only [z_lt, z_le, z_eq, z_in, z_cl, z_add, z_mul, z_mx, z_mn, zl12, zl18, zl19, zl30, zl115, zl116, zl119, zl291, zl640, zl999, zl9999, zl0, zl1, zl2, zl3, zl4, zl5, zl6, zl7, zl8, zl9, zl10, zl15, zl20, zl22, zl26, zl29, zl32, zl33, zl40, zl47, zl48, zl55, zl57, zl59, zl60, zl63, zl71, zl97, zl99, zl100, zl122, zl200, zl255, zl320, zl1000, zl1024, zl5040, zl1000000000, m_L1, h.r.u, Option.bind_some, Option.bind_none, ↓reduceIte, Bool.false_eq_true, reduceCtorEq]
        · rw [Tb_mark, e1, al0]; rfl
      · refine fin (g.2 0 10 + 11) 1 (nI (wgh T S j) + nI (T (19 + j))) (by omega) ?_ ?_
        · rw [Mo_mark, e3', Option.bind_some, if_pos rfl, e2', Option.bind_some, if_pos rfl, lt]
          rw [if_neg (show ¬ nI 1 = 0 by decide), if_pos (show nI 1 = 1 from rfl), mw, Option.bind_some]
          simp (disch := omega) only [z_lt, z_le, z_eq, z_in, z_cl, z_add, z_mul, z_mx, z_mn, zl12, zl18, zl19, zl30, zl115, zl116, zl119, zl291, zl640, zl999, zl9999, zl0, zl1, zl2, zl3, zl4, zl5, zl6, zl7, zl8, zl9, zl10, zl15, zl20, zl22, zl26, zl29, zl32, zl33, zl40, zl47, zl48, zl55, zl57, zl59, zl60, zl63, zl71, zl97, zl99, zl100, zl122, zl200, zl255, zl320, zl1000, zl1024, zl5040, zl1000000000, m_L1, h.r.u, Option.bind_some, Option.bind_none, ↓reduceIte, Bool.false_eq_true, reduceCtorEq, Nat.one_ne_zero]
        · rw [Tb_mark, e1, Option.bind_some, if_pos rfl, if_neg (show ¬ nI 1 = 0 by decide), if_pos (show nI 1 = 1 from rfl), Tb_asHeavy, al, ww, z64 _ 10 1 11 (by decide)]
          simp (disch := omega) only [z_lt, z_le, z_eq, z_in, z_cl, z_add, z_mul, z_mx, z_mn, zl12, zl18, zl19, zl30, zl115, zl116, zl119, zl291, zl640, zl999, zl9999, zl0, zl1, zl2, zl3, zl4, zl5, zl6, zl7, zl8, zl9, zl10, zl15, zl20, zl22, zl26, zl29, zl32, zl33, zl40, zl47, zl48, zl55, zl57, zl59, zl60, zl63, zl71, zl97, zl99, zl100, zl122, zl200, zl255, zl320, zl1000, zl1024, zl5040, zl1000000000, m_L1, q1, Option.bind_some, Option.bind_none, ↓reduceIte, Bool.false_eq_true, reduceCtorEq]
      · refine fin (g.2 0 10 + 101) 2 (nI (wgh T S j) - nI (T (12 + j))) (by omega) ?_ ?_
        · rw [Mo_mark, e3', Option.bind_some, if_pos rfl, e2', Option.bind_some, if_pos rfl, lt]
          rw [if_neg (show ¬ nI 2 = 0 by decide), if_neg (show ¬ nI 2 = 1 by decide), if_pos (show nI 2 = 2 from rfl), mw, Option.bind_some]
          simp (disch := omega) only [z_lt, z_le, z_eq, z_in, z_cl, z_add, z_mul, z_mx, z_mn, zl12, zl18, zl19, zl30, zl115, zl116, zl119, zl291, zl640, zl999, zl9999, zl0, zl1, zl2, zl3, zl4, zl5, zl6, zl7, zl8, zl9, zl10, zl15, zl20, zl22, zl26, zl29, zl32, zl33, zl40, zl47, zl48, zl55, zl57, zl59, zl60, zl63, zl71, zl97, zl99, zl100, zl122, zl200, zl255, zl320, zl1000, zl1024, zl5040, zl1000000000, m_L1, h.r.u, Option.bind_some, Option.bind_none, ↓reduceIte, Bool.false_eq_true, reduceCtorEq, Nat.reduceEqDiff]
        · rw [Tb_mark, e1, Option.bind_some, if_pos rfl, if_neg (show ¬ nI 2 = 0 by decide), if_neg (show ¬ nI 2 = 1 by decide), if_pos (show nI 2 = 2 from rfl), Tb_asLight, al, ww, z64 _ 100 1 101 (by decide)]
          simp (disch := omega) only [z_lt, z_le, z_eq, z_in, z_cl, z_add, z_mul, z_mx, z_mn, zl12, zl18, zl19, zl30, zl115, zl116, zl119, zl291, zl640, zl999, zl9999, zl0, zl1, zl2, zl3, zl4, zl5, zl6, zl7, zl8, zl9, zl10, zl15, zl20, zl22, zl26, zl29, zl32, zl33, zl40, zl47, zl48, zl55, zl57, zl59, zl60, zl63, zl71, zl97, zl99, zl100, zl122, zl200, zl255, zl320, zl1000, zl1024, zl5040, zl1000000000, m_L1, q1, Option.bind_some, Option.bind_none, ↓reduceIte, Bool.false_eq_true, reduceCtorEq]
      · refine fin (g.2 0 10 + 1011) 3 (2 * (nI (wgh T S j) + nI (T (19 + j)))) (by omega) ?_ ?_
        · rw [Mo_mark, e3', Option.bind_some, if_pos rfl, e2', Option.bind_some, if_pos rfl, lt]
          rw [if_neg (show ¬ nI 3 = 0 by decide), if_neg (show ¬ nI 3 = 1 by decide), if_neg (show ¬ nI 3 = 2 by decide), if_pos (show nI 3 = 3 from rfl), mw, Option.bind_some]
          simp (disch := omega) only [z_lt, z_le, z_eq, z_in, z_cl, z_add, z_mul, z_mx, z_mn, zl12, zl18, zl19, zl30, zl115, zl116, zl119, zl291, zl640, zl999, zl9999, zl0, zl1, zl2, zl3, zl4, zl5, zl6, zl7, zl8, zl9, zl10, zl15, zl20, zl22, zl26, zl29, zl32, zl33, zl40, zl47, zl48, zl55, zl57, zl59, zl60, zl63, zl71, zl97, zl99, zl100, zl122, zl200, zl255, zl320, zl1000, zl1024, zl5040, zl1000000000, m_L1, h.r.u, Option.bind_some, Option.bind_none, ↓reduceIte, Bool.false_eq_true, reduceCtorEq, Nat.reduceEqDiff]
        · rw [Tb_mark, e1, Option.bind_some, if_pos rfl, if_neg (show ¬ nI 3 = 0 by decide), if_neg (show ¬ nI 3 = 1 by decide), if_neg (show ¬ nI 3 = 2 by decide), if_pos (show nI 3 = 3 from rfl), Tb_asDamp, Tb_asHeavy, m_Leq, ww, al, ww, z64 _ 1000 10 1010 (by decide), z64 _ 1010 1 1011 (by decide), Int32.mul_comm 2]
          simp (disch := omega) only [z_lt, z_le, z_eq, z_in, z_cl, z_add, z_mul, z_mx, z_mn, zl12, zl18, zl19, zl30, zl115, zl116, zl119, zl291, zl640, zl999, zl9999, zl0, zl1, zl2, zl3, zl4, zl5, zl6, zl7, zl8, zl9, zl10, zl15, zl20, zl22, zl26, zl29, zl32, zl33, zl40, zl47, zl48, zl55, zl57, zl59, zl60, zl63, zl71, zl97, zl99, zl100, zl122, zl200, zl255, zl320, zl1000, zl1024, zl5040, zl1000000000, m_L1, q1, Option.bind_some, Option.bind_none, ↓reduceIte, Bool.false_eq_true, reduceCtorEq]
      · refine fin (g.2 0 10 + 10101) 4 (nI (wgh T S j) - nI (T (12 + j)) + nI (S 0)) (by omega) ?_ ?_
        · rw [Mo_mark, e3', Option.bind_some, if_pos rfl, e2', Option.bind_some, if_pos rfl, lt]
          rw [if_neg (show ¬ nI 4 = 0 by decide), if_neg (show ¬ nI 4 = 1 by decide), if_neg (show ¬ nI 4 = 2 by decide), if_neg (show ¬ nI 4 = 3 by decide), if_pos (show nI 4 = 4 from rfl), mw, Option.bind_some]
          simp (disch := omega) only [z_lt, z_le, z_eq, z_in, z_cl, z_add, z_mul, z_mx, z_mn, zl12, zl18, zl19, zl30, zl115, zl116, zl119, zl291, zl640, zl999, zl9999, zl0, zl1, zl2, zl3, zl4, zl5, zl6, zl7, zl8, zl9, zl10, zl15, zl20, zl22, zl26, zl29, zl32, zl33, zl40, zl47, zl48, zl55, zl57, zl59, zl60, zl63, zl71, zl97, zl99, zl100, zl122, zl200, zl255, zl320, zl1000, zl1024, zl5040, zl1000000000, m_L1, h.r.u, h.r.r, Option.bind_some, Option.bind_none, ↓reduceIte, Bool.false_eq_true, reduceCtorEq, Nat.reduceEqDiff]
        · rw [Tb_mark, e1, Option.bind_some, if_pos rfl, if_neg (show ¬ nI 4 = 0 by decide), if_neg (show ¬ nI 4 = 1 by decide), if_neg (show ¬ nI 4 = 2 by decide), if_neg (show ¬ nI 4 = 3 by decide), if_pos (show nI 4 = 4 from rfl), Tb_asEaten, Tb_asLight, m_Leq, ww, al, ww, z64 _ 10000 100 10100 (by decide), z64 _ 10100 1 10101 (by decide)]
          simp (disch := omega) only [z_lt, z_le, z_eq, z_in, z_cl, z_add, z_mul, z_mx, z_mn, zl12, zl18, zl19, zl30, zl115, zl116, zl119, zl291, zl640, zl999, zl9999, zl0, zl1, zl2, zl3, zl4, zl5, zl6, zl7, zl8, zl9, zl10, zl15, zl20, zl22, zl26, zl29, zl32, zl33, zl40, zl47, zl48, zl55, zl57, zl59, zl60, zl63, zl71, zl97, zl99, zl100, zl122, zl200, zl255, zl320, zl1000, zl1024, zl5040, zl1000000000, m_L1, q1, h.c.s, Option.bind_some, Option.bind_none, ↓reduceIte, Bool.false_eq_true, reduceCtorEq]
      · refine fin (g.2 0 10 + 100001) 5 (nI (wgh T S j) + nI (S 3)) (by omega) ?_ ?_
        · rw [Mo_mark, e3', Option.bind_some, if_pos rfl, e2', Option.bind_some, if_pos rfl, lt]
          rw [if_neg (show ¬ nI 5 = 0 by decide), if_neg (show ¬ nI 5 = 1 by decide), if_neg (show ¬ nI 5 = 2 by decide), if_neg (show ¬ nI 5 = 3 by decide), if_neg (show ¬ nI 5 = 4 by decide), mw, Option.bind_some]
          simp (disch := omega) only [z_lt, z_le, z_eq, z_in, z_cl, z_add, z_mul, z_mx, z_mn, zl12, zl18, zl19, zl30, zl115, zl116, zl119, zl291, zl640, zl999, zl9999, zl0, zl1, zl2, zl3, zl4, zl5, zl6, zl7, zl8, zl9, zl10, zl15, zl20, zl22, zl26, zl29, zl32, zl33, zl40, zl47, zl48, zl55, zl57, zl59, zl60, zl63, zl71, zl97, zl99, zl100, zl122, zl200, zl255, zl320, zl1000, zl1024, zl5040, zl1000000000, m_L1, h.r.u, h.r.r, Option.bind_some, Option.bind_none, ↓reduceIte, Bool.false_eq_true, reduceCtorEq, Nat.reduceEqDiff]
        · rw [Tb_mark, e1, Option.bind_some, if_pos rfl, if_neg (show ¬ nI 5 = 0 by decide), if_neg (show ¬ nI 5 = 1 by decide), if_neg (show ¬ nI 5 = 2 by decide), if_neg (show ¬ nI 5 = 3 by decide), if_neg (show ¬ nI 5 = 4 by decide), if_pos (show nI 5 = 5 from rfl), Tb_asSilent, al, ww, z64 _ 100000 1 100001 (by decide)]
          simp (disch := omega) only [z_lt, z_le, z_eq, z_in, z_cl, z_add, z_mul, z_mx, z_mn, zl12, zl18, zl19, zl30, zl115, zl116, zl119, zl291, zl640, zl999, zl9999, zl0, zl1, zl2, zl3, zl4, zl5, zl6, zl7, zl8, zl9, zl10, zl15, zl20, zl22, zl26, zl29, zl32, zl33, zl40, zl47, zl48, zl55, zl57, zl59, zl60, zl63, zl71, zl97, zl99, zl100, zl122, zl200, zl255, zl320, zl1000, zl1024, zl5040, zl1000000000, m_L1, h.c.s, Option.bind_some, Option.bind_none, ↓reduceIte, Bool.false_eq_true, reduceCtorEq]
    · refine ⟨g, g, -1000000, ?_, ?_, hI⟩
      · rw [Tb_mark, e1, Option.bind_some, if_pos rfl, if_neg (show ¬ y1 = 0 from e3 0 (by omega) (by omega)), if_neg (show ¬ y1 = 1 from e3 1 (by omega) (by omega)), if_neg (show ¬ y1 = 2 from e3 2 (by omega) (by omega)), if_neg (show ¬ y1 = 3 from e3 3 (by omega) (by omega)), if_neg (show ¬ y1 = 4 from e3 4 (by omega) (by omega)), if_neg (show ¬ y1 = 5 from e3 5 (by omega) (by omega))]
      · rw [Mo_mark, show Mo_in g y1 0 5 = some false from e4]; rfl
  · refine ⟨g, g, -1000000, by rw [Tb_mark, e1]; rfl, ?_, hI⟩
    rw [Mo_mark]
    rcases w_li g (lo := 0) (hi := 5) (by omega) (by omega) y1 with ⟨k, -, hk, rfl, e3⟩ | ⟨e3, e4⟩
    · rw [show Mo_in g (nI k) 0 5 = some true from e3, Option.bind_some, if_pos rfl, e2]; rfl
    · rw [show Mo_in g y1 0 5 = some false from e4]; rfl
