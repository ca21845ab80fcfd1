-- EAT, the call
section
variable {T S r U o : Nat → Nat} {g g' : am_G} {N k c : Nat}
theorem mo_eatL (h : RI T g S) (h231 : ∀ k, k < 29 → g.1 231 k = nI (S k)) (y : Int32) : ∃ g' z, Mo_eat_L81 am_fuel g y (nI (nf T)) (nI (fct (nf T))) 0 (-1) 0 0 = some (g', nI (rcd z (nf T)), nI (Mr T (up (up S 1 0) 2 0) z)) ∧ FE T (up (up S 1 0) 2 0) (fct (nf T)) (some z) ∧ RI T g' S ∧ Fm pW g g' := by
  have hb := h.bb
  have hT := h.1
  have hn := nf_le hT
  have hf := fct_le hn
  have e0 : (up (up S 1 0) 2 0) 0 = S 0 := by rw [up_ne (by omega), up_ne (by omega)]
  have e1' : (up (up S 1 0) 2 0) 1 = 0 := by rw [up_ne (by omega), up_eq]
  have hnT : nf T ≤ T 1 := by
    have := nfd_s T (T 1)
    rw [nfd_hi T (Nat.le_refl _)] at this
    omega
  have hsh := sh_out S
  generalize hU : up (up S 1 0) 2 0 = U at *
  have hMb : ∀ z, Mr T U z ≤ 9600 := fun z => by
    have := ru_b (r := z) (n := nf T) hT (U := U) (k := T 2 - U 0) (by omega)
    unfold Mr
    omega
  obtain ⟨b, e1, z, k1, k2, k3, k4⟩ := lp_up (fun n (a : am_G × Int32 × Int32 × Int32) k => Mo_eat_L81 n a.1 y (nI (nf T)) (nI (fct (nf T))) a.2.1 a.2.2.1 a.2.2.2 (nI k)) (fct (nf T))
    (fun k a => RI T a.1 S ∧ Fm pW g a.1 ∧ ∃ w, FE T U k w ∧ (w = none → a.2.1 = 0 ∧ a.2.2.1 = -1) ∧ (∀ z, w = some z → PR T z (nf T) ∧ a.2.1 = nI (rcd z (nf T)) ∧ a.2.2.1 = nI (Mr T U z) ∧ a.2.2.2 = nI (ru T z (nf T) U (T 2 - U 0) 2)))
    (fun b => ∃ z, RI T b.1 S ∧ Fm pW g b.1 ∧ FE T U (fct (nf T)) (some z) ∧ b.2 = (nI (rcd z (nf T)), nI (Mr T U z)))
    (fun n a ha => by
      obtain ⟨a1, a2, w, a3, a4, a5⟩ := ha
      refine ⟨(a.1, a.2.1, a.2.2.1), by rw [Mo_eat_L81, if_pos (nI_le (Nat.le_refl _) (by omega))], ?_⟩
      cases w with
      | none =>
        rcases a3 with ⟨-, q⟩ | ⟨z, e, -⟩
        · obtain ⟨g2, r, o, -, p1, p2, -⟩ := mo_ordered h (c := 0) hf.2
          exact absurd (by rw [p2]; exact hf.2) (q r p1)
        · cases e
      | some z => exact ⟨z, a1, a2, a3, by rw [← (a5 z rfl).2.1, ← (a5 z rfl).2.2.1]⟩)
    (fun n k a hk ha => by
      obtain ⟨a1, a2, w, a3, a4, a5⟩ := ha
      obtain ⟨g2, r, o, c1, c2, c3, c4, c5, c6, c7⟩ := mo_ordered a1 hk
      have r2 : RI T g2 S := a1.fm c7 (fun k q => absurd (show (223 : Nat) = 229 from q) (by decide)) (fun k _ q => absurd (show (225 : Nat) = 229 from q) (by decide))
      obtain ⟨g3, d1, d2, d3⟩ := mo_eatW r2 c4 y (nI (nf T)) (nI (fct (nf T))) a.2.1 a.2.2.1 a.2.2.2 (nI k) (nI (rcd r (nf T)))
      obtain ⟨g4, l1, l2, l3⟩ := mo_lets g3
      have f3 : Fm pW g g3 := (a2.tr (c7.mo (fun a k q => Or.inr (Or.inl q)))).tr (d3.mo (fun a k q => by rcases q with q | q; exact Or.inl q; exact Or.inr (Or.inr q)))
      have q31 : ∀ j, j < 29 → g3.1 231 j = nI (S j) := fun j hj => by rw [f3.2 231 j (by unfold pW; omega)]; exact h231 j hj
      have f4 : Fm pW g g4 := f3.tr (l3.mo (fun a k q => Or.inl q))
      have R4 : RI T g4 S := ⟨hT, fun j hj => by rw [f4.2 223 j (by unfold pW; omega)]; exact h.2.1 j hj, h.2.2.1, fun j hj => by rw [l2 j hj]; exact q31 j hj⟩
      have hru := ru_or (T := T) (r := r) (o := o) (Q := S) hnT c5 c6 (T 2 - S 0)
      rw [hru] at d2
      have hs := sh_ru (T := T) (o := r) (n := nf T) hsh (T 2 - S 0)
      have ev : (g3.1 225 1) - (g3.1 231 1) = nI (Mr T U r) := by
        rw [d2.r (by omega), q31 1 (by omega), hs.1, z_sub (by omega), Nat.add_sub_cancel]
        unfold Mr
        rw [e0]
      have el : (g3.1 225 2) - (g3.1 231 2) = nI (ru T r (nf T) U (T 2 - U 0) 2) := by
        rw [d2.r (by omega), q31 2 (by omega), hs.2.1, z_sub (by omega), Nat.add_sub_cancel, e0]
      obtain ⟨x1, x2⟩ := FE_add a3 c2 c3
      have hMr := hMb r
      have st : ∀ bt : Bool, ((bt = true ∧ (a.2.2.1 < 0 ∨ (¬ a.2.2.1 < 0 ∧ nI (Mr T U r) < a.2.2.1))) ∨ (bt = false ∧ ¬ a.2.2.1 < 0 ∧ ¬ nI (Mr T U r) < a.2.2.1 ∧ (nI (Mr T U r) = a.2.2.1 → a.2.2.2 ≤ nI (ru T r (nf T) U (T 2 - U 0) 2)))) → Mo_eat_L81 (n + 1) a.1 y (nI (nf T)) (nI (fct (nf T))) a.2.1 a.2.2.1 a.2.2.2 (nI k) = Mo_eat_L81 n g4 y (nI (nf T)) (nI (fct (nf T))) (if bt = true then nI (rcd r (nf T)) else a.2.1) (if bt = true then nI (Mr T U r) else a.2.2.1) (if bt = true then nI (ru T r (nf T) U (T 2 - U 0) 2) else a.2.2.2) (nI (k + 1)) := by
        intro bt hbt
        rw [Mo_eat_L81, if_neg (nI_ge hk (by omega)), c1, Option.bind_some, d1, Option.bind_some, l1, Option.bind_some, ev, el, nI_1]
        rcases hbt with ⟨rfl, h1 | ⟨h1, h2⟩⟩ | ⟨rfl, h1, h2, h3⟩
        · simp only [h1, ↓reduceIte, show ¬ (1 : Int32) = 0 by decide]
        · simp only [h1, h2, ↓reduceIte, show ¬ (1 : Int32) = 0 by decide]
        · by_cases q : nI (Mr T U r) = a.2.2.1
          · have h3' := h3 q
            rw [q] at h2
            simp only [h1, h2, q, h3', ↓reduceIte, Bool.false_eq_true]
          · simp only [h1, h2, q, ↓reduceIte, Bool.false_eq_true]
      cases w with
      | none =>
        obtain ⟨y1, y2⟩ := a4 rfl
        refine ⟨(g4, nI (rcd r (nf T)), nI (Mr T U r), nI (ru T r (nf T) U (T 2 - U 0) 2)), ?_, R4, f4, some r, x2 (fun z e => by cases e), (fun e => by cases e), (fun z e => by cases e; exact ⟨c2, rfl, rfl, rfl⟩)⟩
        have := st true (Or.inl ⟨rfl, Or.inl (by rw [y2]; decide)⟩)
        simpa using this
      | some z =>
        obtain ⟨z0, z1, z2, z3⟩ := a5 z rfl
        have hMz := hMb z
        have npos : ¬ a.2.2.1 < 0 := by rw [z2]; exact nI_pos (by omega)
        have hh : ru T z (nf T) U (T 2 - U 0) 2 = ru T r (nf T) U (T 2 - U 0) 2 := (ru_hun hT z0 c2 _).1
        by_cases q : Mr T U r < Mr T U z
        · refine ⟨(g4, nI (rcd r (nf T)), nI (Mr T U r), nI (ru T r (nf T) U (T 2 - U 0) 2)), ?_, R4, f4, some r, x2 (fun z' e => by cases e; exact q), (fun e => by cases e), (fun z' e => by cases e; exact ⟨c2, rfl, rfl, rfl⟩)⟩
          have := st true (Or.inl ⟨rfl, Or.inr ⟨npos, by rw [z2]; exact nI_lt q (by omega)⟩⟩)
          simpa using this
        · refine ⟨(g4, a.2.1, a.2.2.1, a.2.2.2), ?_, R4, f4, some z, x1 z rfl q, a4, a5⟩
          have := st false (Or.inr ⟨rfl, npos, by rw [z2]; exact nI_nlt (by omega) (by omega), fun _ => by rw [z3, hh]; exact Int32.le_refl _⟩)
          simpa using this)
    am_fuel 0 (g, 0, -1, 0) (Nat.zero_le _) (z_fuel (by omega)) ⟨h, Fm.rf _ _, none, Or.inl ⟨rfl, fun y _ q => absurd q (Nat.not_lt_zero _)⟩, fun _ => ⟨rfl, rfl⟩, (fun z e => by cases e)⟩
  exact ⟨b.1, z, by rw [show (nI (rcd z (nf T)), nI (Mr T U z)) = b.2 from k4.symm]; exact e1, k3, k1, k2⟩
end
theorem sp_eat (g : am_G) (y1 : Int32) (h : Inv g) : ∃ g1 g2 r, Tb_eat g y1 = some (g1, r) ∧ Mo_eat g1 y1 = some (g2, r) ∧ Inv g2 := by
  have hI := h
  obtain ⟨T, S, n, P, h⟩ := h
  have hn := nf_le h.1
  rcases w_01 g y1 with ⟨j, hj, rfl, e1, e2⟩ | ⟨e1, e2⟩
  · obtain ⟨g1, z, c1, c2, c3, c4, c5⟩ := ah_findRow h.c
    have f1 : Fs g g1 := c5.s (fun a k q => by unfold scr; omega)
    have h1 := h.fs f1
    obtain ⟨g2, d1, d2, d3⟩ := mo_holds g1
    have r2 : RI T g2 S := h1.r.fm d3 (fun k q => absurd (show (223 : Nat) = 231 from q) (by decide)) (fun k _ q => absurd (show (225 : Nat) = 231 from q) (by decide))
    obtain ⟨g3, z', b1, b2, b3, b4⟩ := mo_eatL r2 (fun k hk => by rw [d2 k hk]; exact h1.r.r hk) (nI j)
    obtain ⟨u1, u2⟩ := FE_un c2 b2
    have eR : rcd z (nf T) = rcd z' (nf T) := rcd_cg u1
    have fs3 : Fs g1 g3 := ⟨fun a k q => by
      by_cases e : a = 225 ∧ k < 29
      · rw [e.1, b3.r e.2, h1.r.r e.2]
      · rw [b4.2 a k (fun q' => by unfold pW at q'; unfold scr at q; omega), d3.2 a k (fun q' => by have : a = 231 := q'; unfold scr at q; omega)], by rw [b4.1, d3.1], by rw [b4.1, d3.1]⟩
    refine ⟨g1, g3, if nI j = 0 then nI (rcd z' (nf T)) else nI (Mr T (up (up S 1 0) 2 0) z'), ?_, ?_, T, S, n, P, h1.fs fs3⟩
    · rw [Tb_eat, e1, Option.bind_some, if_pos rfl, c1, Option.bind_some, c3, c4, eR, u2]
      split <;> rfl
    · rw [Mo_eat, wi g, e2, Option.bind_some, if_pos rfl, mo_foods h1.r, Option.bind_some, mo_codes _ _ hn, Option.bind_some, d1, Option.bind_some, b1, Option.bind_some]
      split <;> rfl
  · exact ⟨g, g, -1, by rw [Tb_eat, e1]; rfl, by rw [Mo_eat, wi g, e2]; rfl, hI⟩
