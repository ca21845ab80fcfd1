-- memory
section
variable {D : va_G} {cy : Nat → ClassId} {base bn : Nat} {μ : am_M} {h0 : am_H} {p : Program} {l : Launch} {e : Env} {s : State} {m : MethodId} {args : Array Value} {below : List Frame} {meth : Method} {c : Code} {R : Room} {Q : State → Prop}
variable {pc : Nat} {lo : List (Nat × Value)} {st : List Value} {h : am_H}
theorem am_fld_in {own idx ci k : Nat} (hf : am_fld own idx = some (ci, k)) : ∃ e ∈ am_ftab, e.1 = own ∧ e.2.1 = idx ∧ e.2.2.1 = ci ∧ e.2.2.2.1 = k ∧ am_fok e = true := by
  simp only [am_fld, Option.map_eq_some_iff] at hf
  obtain ⟨q, g1, g2⟩ := hf
  have g3 := List.find?_some g1
  simp only [Bool.and_eq_true, beq_iff_eq] at g3
  simp only [Prod.mk.injEq] at g2
  have hm := List.mem_of_find?_eq_some g1
  exact ⟨q, hm, g3.1, g3.2, g2.1, g2.2, List.all_eq_true.mp am_ftab_ok q hm⟩
theorem am_fld_ok {own idx ci k : Nat} (hf : am_fld own idx = some (ci, k)) : Cond.fieldLink (am_cn own) idx (am_cn ci) (am_T ci k).2.1 (am_T ci k).2.2.1 ∈ am_gt ∧ k < am_N ci ∧ ci < 10 ∧ (am_T ci k).1 = am_cn ci := by
  obtain ⟨q, -, rfl, rfl, rfl, rfl, hk⟩ := am_fld_in hf
  simp only [am_fok, Bool.and_eq_true, decide_eq_true_eq] at hk
  exact ⟨am_in_gt hk.1 rfl, hk.2.1, hk.2.2.1, hk.2.2.2⟩
theorem am_mapIdx_at {base bn : Nat} {g : am_G} {a k : Nat} {fs : List Value} {v : Value} (h : fs[k]? = some v) : (fs.mapIdx (am_fe base bn g a))[k]? = some (am_fe base bn g a k v) := by
  simp [List.getElem?_mapIdx, h]
theorem am_ce_obj {cy : Nat → ClassId} {base bn : Nat} {g : am_G} {a ci : Nat} {fs : List Value} : am_ce cy base bn g a (.inl (ci, fs)) = .inr (ci, fs.mapIdx (am_fe base bn g a)) := rfl
theorem sm_gf (K : am_K D cy base bn μ h0 p s m args meth c) {idx ci k a : Nat} {v : Value} (hf : am_fld μ.2.2.2.2 idx = some (ci, k)) (ha : ¬ a = am_ext) (hg : am_gf h a ci k = some v) (hd : decode μ.2.1 pc = .ok (.getfield idx, 3)) (k1 : am_Wf D cy base bn μ h0 p l e s m args below meth c R Q (pc + 3, lo, v :: st, h)) : am_Wf D cy base bn μ h0 p l e s m args below meth c R Q (pc, lo, .ref a :: st, h) := by
  obtain ⟨hx, hb, hml, hown, hts, hr, hlocks, hnm, hU, hsz⟩ := K
  intro H locs ls cells slots hP hS hl hc hs
  obtain ⟨w1, w2, w3, w4⟩ := am_fld_ok hf
  unfold am_gf at hg
  split at hg
  · rename_i cj fs hcell
    split at hg
    · rename_i hcj
      subst hcj
      have hv : ∃ v0, fs[k]? = some v0 ∧ am_fe base bn h.2 a k v0 = am_tr base bn v := by
        split at hg
        · rename_i z hz; cases hg; exact ⟨_, hz, rfl⟩
        · rename_i z hz; cases hg; exact ⟨_, hz, rfl⟩
        · rename_i b hz; cases hg; exact ⟨_, hz, rfl⟩
        · cases hg
      obtain ⟨v0, g1, g2⟩ := hv
      have k2 := k1 H locs ls cells slots hP hS hl hc hs
      have e1 : am_tr base bn (.ref a) = .ref (base + a) := by simp [am_tr, ha]
      show W p l e R s m args below meth c H locs cells slots Q (F0 m pc ls (am_tr base bn (.ref a) :: st.map (am_tr base bn)))
      rw [e1]
      refine va_get (own := am_cn μ.2.2.2.2) (ref := am_cn cj) (D := D) (ci := cj) (C := am_cn cj) (T := am_T cj) (N := am_N cj) hx hb hts (am_lay w3) hown hU.1 hP a (am_w_at hcell) (am_clok w3) k w2 (hts _ w1) (fun x hx => by rw [← w4]; exact hx) (v := am_tr base bn v) ?_ hd k2
      rw [am_mapIdx_at g1, g2]
    · cases hg
  · cases hg
theorem am_mapIdx_set {base bn : Nat} {g g' : am_G} {a k : Nat} {fs fs' : List Value} {w : Value} (hk : k < fs.length) (hl : fs'.length = fs.length) (h1 : ∀ j v, j ≠ k → fs[j]? = some v → fs'[j]? = some v ∧ am_fe base bn g' a j v = am_fe base bn g a j v) (h2 : ∃ v, fs'[k]? = some v ∧ am_fe base bn g' a k v = w) :
    (fs.mapIdx (am_fe base bn g a)).set k w = fs'.mapIdx (am_fe base bn g' a) := by
  apply List.ext_getElem?
  intro j
  by_cases hj : j = k
  · subst hj
    obtain ⟨v, g1, g2⟩ := h2
    rw [List.getElem?_set_self (by simpa using hk), am_mapIdx_at g1, g2]
  · rw [List.getElem?_set_ne (fun e => hj e.symm)]
    cases hfs : fs[j]? with
    | none =>
      have h3 : fs'[j]? = none := by
        rw [List.getElem?_eq_none_iff] at hfs ⊢
        omega
      simp [List.getElem?_mapIdx, hfs, h3]
    | some v =>
      obtain ⟨g1, g2⟩ := h1 j v hj hfs
      rw [am_mapIdx_at hfs, am_mapIdx_at g1, g2]
theorem am_fits_ref {ty : FieldType} (h : fits ty .null = true) (b : Nat) : fits ty (.ref b) = true := by
  cases ty <;> simp_all [fits]
theorem am_nar_ref (ty : FieldType) (b : Nat) : narrow ty (.ref b) = .ref b := by cases ty <;> rfl
theorem sm_pf (K : am_K D cy base bn μ h0 p s m args meth c) {idx ci k a : Nat} {v : Value} {h' : am_H} (hf : am_fld μ.2.2.2.2 idx = some (ci, k)) (ha : ¬ a = am_ext) (hg : am_pf h (decide (μ.1.name = "<init>") && decide (ci = μ.2.2.2.2)) a ci k v = some h') (hd : decode μ.2.1 pc = .ok (.putfield idx, 3)) (k1 : am_Wf D cy base bn μ h0 p l e s m args below meth c R Q (pc + 3, lo, st, h')) : am_Wf D cy base bn μ h0 p l e s m args below meth c R Q (pc, lo, v :: .ref a :: st, h) := by
  obtain ⟨hx, hb, hml, hown, hts, hr, hlocks, hnm, hU, hsz⟩ := K
  intro H locs ls cells slots hP hS hl hc hs
  obtain ⟨w1, w2, w3, w4⟩ := am_fld_ok hf
  have e1 : am_tr base bn (.ref a) = .ref (base + a) := by simp [am_tr, ha]
  show W p l e R s m args below meth c H locs cells slots Q (F0 m pc ls (am_tr base bn v :: am_tr base bn (.ref a) :: st.map (am_tr base bn)))
  rw [e1]
  unfold am_pf at hg
  split at hg
  · rename_i cj fs hcell
    split at hg
    · rename_i hcj
      subst hcj
      have hal : a < h.1.length := (List.getElem?_eq_some_iff.mp hcell).1
      split at hg
      · rename_i z x hz
        split at hg
        · rename_i hcond
          cases hg
          have hkl : k < fs.length := (List.getElem?_eq_some_iff.mp hz).1
          have hty : narrow (am_ty cj k) (.int x) = .int x ∧ fits (am_ty cj k) (.int x) = true := by
            rcases hcond.2 with q | ⟨q, q2⟩
            · rw [q]; exact ⟨rfl, rfl⟩
            · rw [q]
              rcases q2 with rfl | rfl <;> exact ⟨by decide, by decide⟩
          refine va_put (own := am_cn μ.2.2.2.2) (ref := am_cn cj) (D := D) (ci := cj) (C := am_cn cj) (T := am_T cj) (N := am_N cj) hx hb hts (am_lay w3) (am_ty cj) (am_tyok w3) (am_nmok w3) hown hU.1 hP am_w_D hS a (am_w_at hcell) (am_clok w3) k w2 (hts _ w1) (fun x hx => by rw [← w4]; exact hx) hcond.1 (v := .int x) (am_tyok w3 k w2) hty.1 hty.2 (by simpa using hkl) hd (fun H1 locs1 hP1 _ hS1 => k1 H1 locs1 ls cells slots ?_ hS1 hl hc hs)
          rw [am_w_set (h' := (h.1, am_wr h.2 a k x)) (c := .inl (cj, fs)) hal (am_set_same hcell) (fun b hb => am_wr_ne hb)] at hP1
          · exact hP1
          · rw [am_ce_obj]
            congr 2
            refine am_mapIdx_set hkl rfl (fun j v hj hv => ⟨hv, ?_⟩) ⟨_, hz, ?_⟩
            · cases v <;> simp [am_fe, am_wr, hj]
            · simp [am_fe, am_wr]
        · cases hg
      · rename_i z x hz
        split at hg
        · rename_i hcond
          cases hg
          have hkl : k < fs.length := (List.getElem?_eq_some_iff.mp hz).1
          refine va_put (own := am_cn μ.2.2.2.2) (ref := am_cn cj) (D := D) (ci := cj) (C := am_cn cj) (T := am_T cj) (N := am_N cj) hx hb hts (am_lay w3) (am_ty cj) (am_tyok w3) (am_nmok w3) hown hU.1 hP am_w_D hS a (am_w_at hcell) (am_clok w3) k w2 (hts _ w1) (fun x hx => by rw [← w4]; exact hx) hcond.1 (v := .long x) (am_tyok w3 k w2) (by rw [hcond.2]; rfl) (by rw [hcond.2]; rfl) (by simpa using hkl) hd (fun H1 locs1 hP1 _ hS1 => k1 H1 locs1 ls cells slots ?_ hS1 hl hc hs)
          rw [am_w_set (h' := (h.1, am_wL h.2 a k x)) (c := .inl (cj, fs)) hal (am_set_same hcell) (fun b hb => am_wL_ne hb)] at hP1
          · exact hP1
          · rw [am_ce_obj]
            congr 2
            refine am_mapIdx_set hkl rfl (fun j v hj hv => ⟨hv, ?_⟩) ⟨_, hz, ?_⟩
            · cases v <;> simp [am_fe, am_wL, hj]
            · simp [am_fe, am_wL]
        · cases hg
      · rename_i b hz
        split at hg
        · rename_i hcond
          cases hg
          obtain ⟨hini, hfin, hfit, hbe⟩ := hcond
          simp only [Bool.and_eq_true, decide_eq_true_eq] at hini
          have hkl : k < fs.length := (List.getElem?_eq_some_iff.mp hz).1
          have e2 : am_tr base bn (.ref b) = .ref (base + b) := by simp [am_tr, hbe]
          rw [e2]
          refine va_putF (own := am_cn μ.2.2.2.2) (ref := am_cn cj) (D := D) (ci := cj) (C := am_cn cj) (T := am_T cj) (N := am_N cj) hx hb hts (am_lay w3) (am_ty cj) (am_tyok w3) (am_nmok w3) hown hU.1 hP am_w_D hS a (am_w_at hcell) (am_clok w3) k w2 (hts _ w1) (fun x hx => by rw [← w4]; exact hx) hfin (by rw [hnm]; exact hini.1) (by rw [w4, ← hini.2]) (v := .ref (base + b)) (am_tyok w3 k w2) (am_nar_ref _ _) (am_fits_ref hfit _) (by simpa using hkl) hd (fun H1 locs1 hP1 _ hS1 => k1 H1 locs1 ls cells slots ?_ hS1 hl (by simpa using hc) ?_)
          · rw [am_w_set (h' := (h.1.set a (.inl (cj, fs.set k (.ref b))), h.2)) (c := .inl (cj, fs.set k (.ref b))) hal rfl (fun b hb => ⟨rfl, rfl⟩)] at hP1
            · exact hP1
            · rw [am_ce_obj]
              congr 2
              refine am_mapIdx_set hkl (by simp) (fun j v hj hv => ⟨by rw [List.getElem?_set_ne (fun e => hj e.symm)]; exact hv, rfl⟩) ⟨.ref b, by rw [List.getElem?_set_self hkl], e2⟩
          · rw [hs]
            have e3 := congrArg (List.map am_cs) (am_set_same hcell)
            show (h.1.map am_cs).sum = ((h.1.set a (.inl (cj, fs.set k (.ref b)))).map am_cs).sum
            rw [e3, List.map_set, List.map_set]
            congr 2
            simp [am_cs]
        · cases hg
      · cases hg
    · cases hg
  · cases hg
theorem am_ce_arr {cy : Nat → ClassId} {base bn : Nat} {g : am_G} {a bk n : Nat} {rs : List (Option Nat)} (hb : ¬ (bk = 2 ∨ bk = 3)) : am_ce cy base bn g a (.inr (bk, n, rs)) = .inl (cy bk, n, .inl (g.1 a)) := by simp [am_ce, hb]
theorem am_ce_rfs {cy : Nat → ClassId} {base bn : Nat} {g : am_G} {a bk n : Nat} {rs : List (Option Nat)} (hb : bk = 2 ∨ bk = 3) : am_ce cy base bn g a (.inr (bk, n, rs)) = .inl (cy bk, n, .inr (.inr (.inr (.inr (fun i => (rs.getD i none).map (fun b => base + b)))))) := by simp [am_ce, hb]
theorem sm_al (K : am_K D cy base bn μ h0 p s m args meth c) {a : Nat} {i v : Int32} (hg : am_al h 0 a i = some v) (hd : decode μ.2.1 pc = .ok (.iaload, 1)) (k1 : am_Wf D cy base bn μ h0 p l e s m args below meth c R Q (pc + 1, lo, .int v :: st, h)) : am_Wf D cy base bn μ h0 p l e s m args below meth c R Q (pc, lo, .int i :: .ref a :: st, h) := by
  obtain ⟨hx, hb, hml, hown, hts, hr, hlocks, hnm, hU, hsz⟩ := K
  intro H locs ls cells slots hP hS hl hc hs
  have k2 := k1 H locs ls cells slots hP hS hl hc hs
  unfold am_al at hg
  split at hg
  · rename_i ha
    split at hg
    · rename_i hcond
      cases hg
      have e1 : am_tr base bn (.ref a) = .ref bn := by simp [am_tr, ha]
      show W p l e R s m args below meth c H locs cells slots Q (F0 m pc ls (.int i :: am_tr base bn (.ref a) :: st.map (am_tr base bn)))
      rw [e1]
      exact va_ti hx hb hU.2.2.2.2.2.2 hS (am_in_vp hcond.2) rfl hd k2
    · cases hg
  · rename_i ha
    have e1 : am_tr base bn (.ref a) = .ref (base + a) := by simp [am_tr, ha]
    show W p l e R s m args below meth c H locs cells slots Q (F0 m pc ls (.int i :: am_tr base bn (.ref a) :: st.map (am_tr base bn)))
    rw [e1]
    split at hg
    · rename_i bk n rs hcell
      split at hg
      · rename_i hcond
        obtain ⟨rfl, hin⟩ := hcond
        cases hg
        exact va_iald hx hb hU.1 hP a 0 (cA := cy 0) (n := n) (f := h.2.1 a) (by rw [am_w_at hcell, am_ce_arr (by decide)]) rfl (am_in_vp hin) hd k2
      · cases hg
    · cases hg
theorem sm_zl (K : am_K D cy base bn μ h0 p s m args meth c) {a : Nat} {i v : Int32} (hg : am_al h 1 a i = some v) (hd : decode μ.2.1 pc = .ok (.baload, 1)) (k1 : am_Wf D cy base bn μ h0 p l e s m args below meth c R Q (pc + 1, lo, .int v :: st, h)) : am_Wf D cy base bn μ h0 p l e s m args below meth c R Q (pc, lo, .int i :: .ref a :: st, h) := by
  obtain ⟨hx, hb, hml, hown, hts, hr, hlocks, hnm, hU, hsz⟩ := K
  intro H locs ls cells slots hP hS hl hc hs
  have k2 := k1 H locs ls cells slots hP hS hl hc hs
  unfold am_al at hg
  split at hg
  · split at hg
    · rename_i hcond
      exact absurd hcond.1 (by decide)
    · cases hg
  · rename_i ha
    have e1 : am_tr base bn (.ref a) = .ref (base + a) := by simp [am_tr, ha]
    show W p l e R s m args below meth c H locs cells slots Q (F0 m pc ls (.int i :: am_tr base bn (.ref a) :: st.map (am_tr base bn)))
    rw [e1]
    split at hg
    · rename_i bk n rs hcell
      split at hg
      · rename_i hcond
        obtain ⟨rfl, hin⟩ := hcond
        cases hg
        exact va_zald hx hb hU.1 hP a 1 (cA := cy 1) (n := n) (f := h.2.1 a) (by rw [am_w_at hcell, am_ce_arr (by decide)]) rfl (am_in_vp hin) hd k2
      · cases hg
    · cases hg
theorem am_nar_z (x : Int32) : vp_nar .boolean x = x &&& 1 := rfl
theorem sm_as (K : am_K D cy base bn μ h0 p s m args meth c) {a : Nat} {i x : Int32} {h' : am_H} (hg : am_as h 0 a i x = some h') (hd : decode μ.2.1 pc = .ok (.iastore, 1)) (k1 : am_Wf D cy base bn μ h0 p l e s m args below meth c R Q (pc + 1, lo, st, h')) : am_Wf D cy base bn μ h0 p l e s m args below meth c R Q (pc, lo, .int x :: .int i :: .ref a :: st, h) := by
  obtain ⟨hx, hb, hml, hown, hts, hr, hlocks, hnm, hU, hsz⟩ := K
  intro H locs ls cells slots hP hS hl hc hs
  unfold am_as at hg
  split at hg
  · cases hg
  · rename_i ha
    have e1 : am_tr base bn (.ref a) = .ref (base + a) := by simp [am_tr, ha]
    show W p l e R s m args below meth c H locs cells slots Q (F0 m pc ls (.int x :: .int i :: am_tr base bn (.ref a) :: st.map (am_tr base bn)))
    rw [e1]
    split at hg
    · rename_i bk n rs hcell
      split at hg
      · rename_i hcond
        obtain ⟨rfl, hin⟩ := hcond
        cases hg
        have hal : a < h.1.length := (List.getElem?_eq_some_iff.mp hcell).1
        refine va_iast hx hb hU.1 hP am_w_D hS a 0 (cA := cy 0) (n := n) (f := h.2.1 a) (by rw [am_w_at hcell, am_ce_arr (by decide)]) rfl (am_in_vp hin) hd (fun H1 locs1 hP1 _ hS1 => k1 H1 locs1 ls cells slots ?_ hS1 hl hc hs)
        rw [am_w_set (h' := (h.1, am_wr h.2 a i.toNatClampNeg x)) (c := .inr (0, n, rs)) hal (am_set_same hcell) (fun b hb => am_wr_ne hb) (by rw [am_ce_arr (by decide), am_wr_row])] at hP1
        simpa using hP1
      · cases hg
    · cases hg
theorem sm_zs (K : am_K D cy base bn μ h0 p s m args meth c) {a : Nat} {i x : Int32} {h' : am_H} (hg : am_as h 1 a i x = some h') (hd : decode μ.2.1 pc = .ok (.bastore, 1)) (k1 : am_Wf D cy base bn μ h0 p l e s m args below meth c R Q (pc + 1, lo, st, h')) : am_Wf D cy base bn μ h0 p l e s m args below meth c R Q (pc, lo, .int x :: .int i :: .ref a :: st, h) := by
  obtain ⟨hx, hb, hml, hown, hts, hr, hlocks, hnm, hU, hsz⟩ := K
  intro H locs ls cells slots hP hS hl hc hs
  unfold am_as at hg
  split at hg
  · cases hg
  · rename_i ha
    have e1 : am_tr base bn (.ref a) = .ref (base + a) := by simp [am_tr, ha]
    show W p l e R s m args below meth c H locs cells slots Q (F0 m pc ls (.int x :: .int i :: am_tr base bn (.ref a) :: st.map (am_tr base bn)))
    rw [e1]
    split at hg
    · rename_i bk n rs hcell
      split at hg
      · rename_i hcond
        obtain ⟨rfl, hin⟩ := hcond
        cases hg
        have hal : a < h.1.length := (List.getElem?_eq_some_iff.mp hcell).1
        refine va_zast hx hb hU.1 hP am_w_D hS a 1 (cA := cy 1) (n := n) (f := h.2.1 a) (by rw [am_w_at hcell, am_ce_arr (by decide)]) rfl (am_in_vp hin) hd (fun H1 locs1 hP1 _ hS1 => k1 H1 locs1 ls cells slots ?_ hS1 hl hc hs)
        rw [am_w_set (h' := (h.1, am_wr h.2 a i.toNatClampNeg (x &&& 1))) (c := .inr (1, n, rs)) hal (am_set_same hcell) (fun b hb => am_wr_ne hb) (by rw [am_ce_arr (by decide), am_wr_row, am_nar_z])] at hP1
        simpa using hP1
      · cases hg
    · cases hg
theorem sm_rl (K : am_K D cy base bn μ h0 p s m args meth c) {a : Nat} {i : Int32} {v : Value} (hg : am_rl h a i = some v) (hd : decode μ.2.1 pc = .ok (.aaload, 1)) (k1 : am_Wf D cy base bn μ h0 p l e s m args below meth c R Q (pc + 1, lo, v :: st, h)) : am_Wf D cy base bn μ h0 p l e s m args below meth c R Q (pc, lo, .int i :: .ref a :: st, h) := by
  obtain ⟨hx, hb, hml, hown, hts, hr, hlocks, hnm, hU, hsz⟩ := K
  intro H locs ls cells slots hP hS hl hc hs
  have k2 := k1 H locs ls cells slots hP hS hl hc hs
  unfold am_rl at hg
  split at hg
  · cases hg
  · rename_i ha
    have e1 : am_tr base bn (.ref a) = .ref (base + a) := by simp [am_tr, ha]
    show W p l e R s m args below meth c H locs cells slots Q (F0 m pc ls (.int i :: am_tr base bn (.ref a) :: st.map (am_tr base bn)))
    rw [e1]
    split at hg
    · rename_i bk n rs hcell
      split at hg
      · rename_i hcond
        obtain ⟨hbk, hin⟩ := hcond
        split at hg
        · rename_i b hrs
          split at hg
          · cases hg
          rename_i hbe
          cases hg
          have k3 : W p l e R s m args below meth c H locs cells slots Q (F0 m (pc + 1) ls (va_rf ((rs.getD i.toNatClampNeg none).map (fun b => base + b)) :: st.map (am_tr base bn))) := by
            rw [List.getD_eq_getElem?_getD, hrs]
            have e2 : am_tr base bn (.ref b) = .ref (base + b) := by simp [am_tr, hbe]
            show W p l e R s m args below meth c H locs cells slots Q (F0 m (pc + 1) ls (.ref (base + b) :: st.map (am_tr base bn)))
            rw [← e2]
            exact k2
          have hcA := am_w_at (cy := cy) (base := base) (bn := bn) hcell
          rw [am_ce_rfs hbk] at hcA
          rcases hbk with rfl | rfl
          · exact va_aldq hx hb hU.1 hP a 2 hcA rfl (am_in_vp hin) hd k3
          · exact va_aldq hx hb hU.1 hP a 3 hcA rfl (am_in_vp hin) hd k3
        · cases hg
      · cases hg
    · cases hg
theorem sm_rs (K : am_K D cy base bn μ h0 p s m args meth c) {a b : Nat} {i : Int32} {h' : am_H} (hg : am_rs h a i b = some h') (hd : decode μ.2.1 pc = .ok (.aastore, 1)) (k1 : am_Wf D cy base bn μ h0 p l e s m args below meth c R Q (pc + 1, lo, st, h')) : am_Wf D cy base bn μ h0 p l e s m args below meth c R Q (pc, lo, .ref b :: .int i :: .ref a :: st, h) := by
  obtain ⟨hx, hb, hml, hown, hts, hr, hlocks, hnm, hU, hsz⟩ := K
  intro H locs ls cells slots hP hS hl hc hs
  unfold am_rs at hg
  split at hg
  · cases hg
  · rename_i hab
    have ha : ¬ a = am_ext := fun q => hab (Or.inl q)
    have hbe : ¬ b = am_ext := fun q => hab (Or.inr q)
    have e1 : am_tr base bn (.ref a) = .ref (base + a) := by simp [am_tr, ha]
    have e2 : am_tr base bn (.ref b) = .ref (base + b) := by simp [am_tr, hbe]
    show W p l e R s m args below meth c H locs cells slots Q (F0 m pc ls (am_tr base bn (.ref b) :: .int i :: am_tr base bn (.ref a) :: st.map (am_tr base bn)))
    rw [e1, e2]
    split at hg
    · rename_i bk n rs ci fs hcell hcb
      split at hg
      · rename_i hcond
        obtain ⟨hbk, rfl, hrl, hin⟩ := hcond
        cases hg
        have hal : a < h.1.length := (List.getElem?_eq_some_iff.mp hcell).1
        have hil : i.toNatClampNeg < rs.length := by
          rw [hrl]
          exact Nat.not_le.mp fun q => am_in_vp hin (Or.inr q)
        have hcA := am_w_at (cy := cy) (base := base) (bn := bn) hcell
        rw [am_ce_rfs hbk] at hcA
        have hcB := am_w_at (cy := cy) (base := base) (bn := bn) hcb
        rw [am_ce_obj] at hcB
        have hs' : slots + am_ns h0.1 = am_ns (h.1.set a (.inr (bk, n, rs.set i.toNatClampNeg (some b)))) := by
          rw [hs]
          have e3 := congrArg (List.map am_cs) (am_set_same hcell)
          show (h.1.map am_cs).sum = ((h.1.set a (.inr (bk, n, rs.set i.toNatClampNeg (some b)))).map am_cs).sum
          rw [e3, List.map_set, List.map_set]
          congr 2
        have hfin : ∀ (H1 : Heap) (locs1 : List Loc), va_P D vwCl ((am_w cy base bn h).set a (base + a, .inl (cy bk, n, .inr (.inr (.inr (.inr (va_up (fun i => (rs.getD i none).map (fun b => base + b)) i.toNatClampNeg (some (base + b))))))))) H1 → va_S (fun q => base ≤ q) s.heap H1 locs1 → W p l e R s m args below meth c H1 locs1 cells slots Q (F0 m (pc + 1) ls (st.map (am_tr base bn))) := by
          intro H1 locs1 hP1 hS1
          refine k1 H1 locs1 ls cells slots ?_ hS1 hl (by simpa using hc) hs'
          rw [am_w_set (h' := (h.1.set a (.inr (bk, n, rs.set i.toNatClampNeg (some b))), h.2)) (c := .inr (bk, n, rs.set i.toNatClampNeg (some b))) hal rfl (fun b hb => ⟨rfl, rfl⟩)] at hP1
          · exact hP1
          · rw [am_ce_rfs hbk]
            congr 7
            funext j
            by_cases hj : j = i.toNatClampNeg
            · subst hj
              simp [va_up, List.getD_eq_getElem?_getD, List.getElem?_set_self hil]
            · simp [va_up, hj, List.getD_eq_getElem?_getD, List.getElem?_set_ne (fun e => hj e.symm)]
        rcases hbk with rfl | rfl
        · exact va_astq hx hb hU.1 hP am_w_D hS a 2 b 2 (r := (RX2, TX2, 9)) hcA rfl hcB rfl (am_in_vp hin) hd (fun H1 locs1 hP1 _ hS1 => hfin H1 locs1 hP1 hS1)
        · exact va_astq hx hb hU.1 hP am_w_D hS a 3 b 3 (r := (RX3, TX3, 4)) hcA rfl hcB rfl (am_in_vp hin) hd (fun H1 locs1 hP1 _ hS1 => hfin H1 locs1 hP1 hS1)
      · cases hg
    · cases hg
end
