-- WRITES, one number at a time
def up (f : Nat → Nat) (k v : Nat) : Nat → Nat := fun j => if j = k then v else f j
theorem up_eq (f : Nat → Nat) (k v : Nat) : up f k v k = v := by simp [up]
theorem up_ne {f : Nat → Nat} {k v j : Nat} (h : j ≠ k) : up f k v j = f j := by simp [up, h]
section
variable {T S : Nat → Nat} {g g' : am_G} {c t w v : Nat}
theorem SW.upL (h : SW T S) (hT : TW T) (ht : t < T 1) (hv : v ≤ 20) : SW T (up S (15 + t) v) := by
  obtain ⟨h1, h4, h5⟩ := h
  have a1 := hT.1; have a2 := hT.2.1
  refine ⟨by simp (disch := omega) only [up_ne]; exact h1, fun w hw => by rw [up_ne (by omega)]; exact h4 w hw, fun u hu => ?_⟩
  by_cases e : u = t
  · subst e; rw [up_ne (by omega), up_eq, up_ne (by omega)]; exact ⟨(h5 u hu).1, hv, (h5 u hu).2.2⟩
  · rw [up_ne (by omega), up_ne (by omega), up_ne (by omega)]; exact h5 u hu
theorem SW.upW (h : SW T S) (hT : TW T) (ht : t < T 1) (hv : v < T 0 ∨ v = 9) : SW T (up S (8 + t) v) := by
  obtain ⟨h1, h4, h5⟩ := h
  have a1 := hT.1; have a2 := hT.2.1
  refine ⟨by simp (disch := omega) only [up_ne]; exact h1, fun w hw => by rw [up_ne (by omega)]; exact h4 w hw, fun u hu => ?_⟩
  by_cases e : u = t
  · subst e; rw [up_ne (show 15 + u ≠ 8 + u by omega), up_eq, up_ne (by omega)]; exact ⟨hv, (h5 u hu).2⟩
  · rw [up_ne (by omega), up_ne (by omega), up_ne (by omega)]; exact h5 u hu
theorem SW.upX (h : SW T S) (hT : TW T) (ht : t < T 1) (hv : v ≤ 1) : SW T (up S (22 + t) v) := by
  obtain ⟨h1, h4, h5⟩ := h
  have a1 := hT.1; have a2 := hT.2.1
  refine ⟨by simp (disch := omega) only [up_ne]; exact h1, fun w hw => by rw [up_ne (by omega)]; exact h4 w hw, fun u hu => ?_⟩
  by_cases e : u = t
  · subst e; rw [up_ne (by omega), up_ne (by omega), up_eq]; exact ⟨(h5 u hu).1, (h5 u hu).2.1, hv⟩
  · rw [up_ne (by omega), up_ne (by omega), up_ne (by omega)]; exact h5 u hu
theorem SW.upT (h : SW T S) (hT : TW T) (hw : w < T 0) (hv : v ≤ 20) : SW T (up S (4 + w) v) := by
  obtain ⟨h1, h4, h5⟩ := h
  have a1 := hT.1; have a2 := hT.2.1
  refine ⟨by simp (disch := omega) only [up_ne]; exact h1, fun u hu => ?_, fun u hu => ?_⟩
  · by_cases e : u = w
    · subst e; rw [up_eq]; exact hv
    · rw [up_ne (by omega)]; exact h4 u hu
  · rw [up_ne (by omega), up_ne (by omega), up_ne (by omega)]; exact h5 u hu
theorem SW.cg {S' : Nat → Nat} (h : SW T S) (e : eqS T S S') : SW T S' := by
  obtain ⟨h1, h4, h5⟩ := h
  obtain ⟨e1, e2, e3⟩ := e
  rw [e1 0 (by decide)] at h1
  refine ⟨h1, fun w hw => by rw [← e2 w hw]; exact h4 w hw, fun t ht => ?_⟩
  rw [← (e3 t ht).1, ← (e3 t ht).2.1, ← (e3 t ht).2.2]; exact h5 t ht
theorem CI.cg {S' : Nat → Nat} (h : CI T g c S) (e : eqS T S S') : CI T g c S' := ⟨h.1, h.2.1, h.2.2.1.cg e, h.2.2.2.cg e⟩
theorem TC.wr (h : TC T g) (hc : 14 ≤ c) (k : Nat) (v : Int32) : TC T (am_wr g c k v) := h.fm (P := fun a _ => a = c) ((Fm.rf _ g).wr rfl) (fun a k h1 h2 e => by omega)
theorem CI.wrL (h : CI T g c S) (hc : 14 ≤ c) (ht : t < T 1) (hv : v ≤ 20) : CI T (am_wr g (c + 2) t (nI v)) c (up S (15 + t) v) := by
  have hb := h.bb
  obtain ⟨hT, hg, hS, h1, h2, h3, h4, ⟨x, hx, h5, h6⟩, h7, h8⟩ := h
  refine ⟨hT, hg.wr (by omega) _ _, hS.upL hT ht hv, ?_⟩
  refine ⟨?_, ?_, ?_, ?_, ⟨x, hx, ?_, fun u hu => ?_⟩, fun u hu => ?_, fun u hu => ?_⟩
  · rw [m_na (by omega), up_ne (by omega)]; exact h1
  · rw [m_na (by omega), up_ne (by omega)]; exact h2
  · rw [m_na (by omega), up_ne (by omega)]; exact h3
  · rw [m_na (by omega), up_ne (by omega)]; exact h4
  · rw [m_na (by omega)]; exact h5
  · rw [up_ne (by omega)]; exact h6 u hu
  · by_cases e : u = t
    · subst e; rw [m_na (by omega), m_eq, up_ne (by omega), up_eq]; exact ⟨(h7 u hu).1, rfl⟩
    · rw [m_na (by omega), m_nk e, up_ne (by omega), up_ne (by omega)]; exact h7 u hu
  · rw [m_na (by omega), up_ne (by omega)]; exact h8 u hu
theorem CI.wrW (h : CI T g c S) (hc : 14 ≤ c) (ht : t < T 1) (hv : v < T 0 ∨ v = 9) : CI T (am_wr g (c + 1) t (nI v)) c (up S (8 + t) v) := by
  have hb := h.bb
  obtain ⟨hT, hg, hS, h1, h2, h3, h4, ⟨x, hx, h5, h6⟩, h7, h8⟩ := h
  refine ⟨hT, hg.wr (by omega) _ _, hS.upW hT ht hv, ?_⟩
  refine ⟨?_, ?_, ?_, ?_, ⟨x, hx, ?_, fun u hu => ?_⟩, fun u hu => ?_, fun u hu => ?_⟩
  · rw [m_na (by omega), up_ne (by omega)]; exact h1
  · rw [m_na (by omega), up_ne (by omega)]; exact h2
  · rw [m_na (by omega), up_ne (by omega)]; exact h3
  · rw [m_na (by omega), up_ne (by omega)]; exact h4
  · rw [m_na (by omega)]; exact h5
  · rw [up_ne (by omega)]; exact h6 u hu
  · by_cases e : u = t
    · subst e; rw [m_eq, m_na (by omega), up_eq, up_ne (by omega)]; exact ⟨rfl, (h7 u hu).2⟩
    · rw [m_nk e, m_na (by omega), up_ne (by omega), up_ne (by omega)]; exact h7 u hu
  · rw [m_na (by omega), up_ne (by omega)]; exact h8 u hu
theorem CI.wrT (h : CI T g c S) (hc : 14 ≤ c) (hw : w < T 0) (hv : v ≤ 20) : CI T (am_wr g (c + 3) w (nI v)) c (up S (4 + w) v) := by
  have hb := h.bb
  obtain ⟨hT, hg, hS, h1, h2, h3, h4, ⟨x, hx, h5, h6⟩, h7, h8⟩ := h
  refine ⟨hT, hg.wr (by omega) _ _, hS.upT hT hw hv, ?_⟩
  refine ⟨?_, ?_, ?_, ?_, ⟨x, hx, ?_, fun u hu => ?_⟩, fun u hu => ?_, fun u hu => ?_⟩
  · rw [m_na (by omega), up_ne (by omega)]; exact h1
  · rw [m_na (by omega), up_ne (by omega)]; exact h2
  · rw [m_na (by omega), up_ne (by omega)]; exact h3
  · rw [m_na (by omega), up_ne (by omega)]; exact h4
  · rw [m_na (by omega)]; exact h5
  · rw [up_ne (by omega)]; exact h6 u hu
  · rw [m_na (by omega), m_na (by omega), up_ne (by omega), up_ne (by omega)]; exact h7 u hu
  · by_cases e : u = w
    · subst e; rw [m_eq, up_eq]
    · rw [m_nk e, up_ne (by omega)]; exact h8 u hu
/-- a thing is wet -/
theorem CI.wrX (h : CI T g c S) (hc : 14 ≤ c) (ht : t < T 1) : CI T (am_wr g c 5 ((g.1 c 5) ||| (1 <<< (nI t &&& 31)))) c (up S (22 + t) 1) := by
  have hb := h.bb
  obtain ⟨hT, hg, hS, h1, h2, h3, h4, ⟨x, hx, h5, h6⟩, h7, h8⟩ := h
  refine ⟨hT, hg.wr (by omega) _ _, hS.upX hT ht (by omega), ?_⟩
  refine ⟨?_, ?_, ?_, ?_, ⟨x ||| 2 ^ t, b_or hx (by omega), ?_, fun u hu => ?_⟩, fun u hu => ?_, fun u hu => ?_⟩
  · rw [m_nk (by omega), up_ne (by omega)]; exact h1
  · rw [m_nk (by omega), up_ne (by omega)]; exact h2
  · rw [m_nk (by omega), up_ne (by omega)]; exact h3
  · rw [m_nk (by omega), up_ne (by omega)]; exact h4
  · rw [m_eq, h5, zl1, b_sh t (by omega), b_set hx (by omega)]
  · rw [b_bit hx (by omega) (by omega)]
    by_cases e : u = t
    · subst e; rw [if_pos rfl, up_eq]
    · rw [if_neg e, up_ne (by omega)]; exact h6 u hu
  · rw [m_na (by omega), m_na (by omega), up_ne (by omega), up_ne (by omega)]; exact h7 u hu
  · rw [m_na (by omega), up_ne (by omega)]; exact h8 u hu
/-- all is dry -/
theorem CI.wr0 (h : CI T g c S) (hc : 14 ≤ c) : CI T (am_wr g c 5 0) c (fun k => if 22 ≤ k ∧ k < 22 + T 1 then 0 else S k) := by
  have hb := h.bb
  obtain ⟨hT, hg, hS, h1, h2, h3, h4, ⟨x, hx, h5, h6⟩, h7, h8⟩ := h
  refine ⟨hT, hg.wr (by omega) _ _, ?_, ?_⟩
  · obtain ⟨s1, s4, s5⟩ := hS
    refine ⟨s1, fun w hw => ?_, fun t ht => ?_⟩
    · show (if 22 ≤ 4 + w ∧ _ then 0 else S (4 + w)) ≤ 20
      rw [if_neg (by omega)]; exact s4 w hw
    · show ((if 22 ≤ 8 + t ∧ 8 + t < 22 + T 1 then 0 else S (8 + t)) < T 0 ∨ (if 22 ≤ 8 + t ∧ 8 + t < 22 + T 1 then 0 else S (8 + t)) = 9) ∧ (if 22 ≤ 15 + t ∧ 15 + t < 22 + T 1 then 0 else S (15 + t)) ≤ 20 ∧ (if 22 ≤ 22 + t ∧ 22 + t < 22 + T 1 then 0 else S (22 + t)) ≤ 1
      rw [if_neg (by omega), if_neg (by omega), if_pos (by omega)]; exact ⟨(s5 t ht).1, (s5 t ht).2.1, by omega⟩
  refine ⟨?_, ?_, ?_, ?_, ⟨0, by omega, by rw [m_eq]; rfl, fun u hu => ?_⟩, fun u hu => ?_, fun u hu => ?_⟩
  · rw [m_nk (by omega)]; exact h1
  · rw [m_nk (by omega)]; exact h2
  · rw [m_nk (by omega)]; exact h3
  · rw [m_nk (by omega)]; exact h4
  · simp only []; rw [if_pos (by omega), Nat.zero_div]
  · simp only []; rw [m_na (by omega), m_na (by omega), if_neg (by omega), if_neg (by omega)]; exact h7 u hu
  · simp only []; rw [m_na (by omega), if_neg (by omega)]; exact h8 u hu
/-- one of the four numbers of a camp: k 0 .. 3 -/
theorem CI.wrN (h : CI T g c S) (hc : 14 ≤ c) {k : Nat} (hk : k < 4) (hS' : SW T (up S k v)) : CI T (am_wr g c (k + 1) (nI v)) c (up S k v) := by
  have hb := h.bb
  obtain ⟨hT, hg, hS, h1, h2, h3, h4, ⟨x, hx, h5, h6⟩, h7, h8⟩ := h
  refine ⟨hT, hg.wr (by omega) _ _, hS', ?_⟩
  have q : ∀ j, j < 4 → g.1 c (j + 1) = nI (S j) → (am_wr g c (k + 1) (nI v)).1 c (j + 1) = nI (up S k v j) := by
    intro j hj e
    by_cases e2 : j = k
    · subst e2; rw [m_eq, up_eq]
    · rw [m_nk (by omega), up_ne e2]; exact e
  refine ⟨q 0 (by omega) h1, q 1 (by omega) h2, q 2 (by omega) h3, q 3 (by omega) h4, ⟨x, hx, by rw [m_nk (by omega)]; exact h5, fun u hu => by rw [up_ne (by omega)]; exact h6 u hu⟩, fun u hu => ?_, fun u hu => ?_⟩
  · rw [m_na (by omega), m_na (by omega), up_ne (by omega), up_ne (by omega)]; exact h7 u hu
  · rw [m_na (by omega), up_ne (by omega)]; exact h8 u hu
theorem SW.upn (h : SW T S) {j : Nat} (h1 : 1 ≤ j) (h2 : j ≤ 3) (v : Nat) : SW T (up S j v) := by
  obtain ⟨h0, h4, h5⟩ := h
  refine ⟨by simp (disch := omega) only [up_ne]; exact h0, fun w hw => by rw [up_ne (by omega)]; exact h4 w hw, fun u hu => ?_⟩
  rw [up_ne (by omega), up_ne (by omega), up_ne (by omega)]; exact h5 u hu
theorem CI.fm {P : Nat → Nat → Prop} (h : CI T g c S) (f : Fm P g g') (h1 : ∀ a k, 3 ≤ a → a ≤ 13 → ¬ P a k) (h2 : ∀ a k, c ≤ a → a ≤ c + 3 → ¬ P a k) : CI T g' c S := ⟨h.1, h.2.1.fm f h1, h.2.2.1, h.2.2.2.fm f h2⟩
-- the reference's
theorem RI.fm {P : Nat → Nat → Prop} (h : RI T g S) (f : Fm P g g') (h1 : ∀ k, ¬ P 223 k) (h2 : ∀ k, k < 29 → ¬ P 225 k) : RI T g' S := ⟨h.1, h.2.1.fm f (fun k _ => h1 k), h.2.2.1, h.2.2.2.fm f h2⟩
theorem RI.wr {j : Nat} (h : RI T g S) (hS' : SW T (up S j v)) : RI T (am_wr g 225 j (nI v)) (up S j v) := by
  refine ⟨h.1, fun k hk => by rw [m_na (by decide)]; exact h.2.1 k hk, hS', fun k hk => ?_⟩
  by_cases e : k = j
  · subst e; rw [m_eq, up_eq]
  · rw [m_nk e, up_ne e]; exact h.2.2.2 k hk
theorem RI.wo (h : RI T g S) {a k : Nat} {v : Int32} (h1 : a ≠ 223) (h2 : a ≠ 225) : RI T (am_wr g a k v) S := h.fm (P := fun b _ => b = a) ((Fm.rf _ g).wr rfl) (fun k e => h1 e.symm) (fun k _ e => h2 e.symm)
end
