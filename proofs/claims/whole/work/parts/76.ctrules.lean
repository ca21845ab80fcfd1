-- RULES OF CONSTRUCTORS: the heap is a beginning sh and the cells l behind it; the memory is 0 behind what is made
def zr (g : am_G) (n : Nat) : Prop := ∀ a, n ≤ a → ∀ k, g.1 a k = 0 ∧ g.2 a k = 0
theorem zr_z {g : am_G} {n a : Nat} (h : zr g n) (ha : n ≤ a) : am_z g a = g := by
  refine Prod.ext ?_ ?_
  · funext b k
    simp only [am_z]
    split
    · rename_i q; subst q; exact (h b ha k).1.symm
    · rfl
  · funext b k
    simp only [am_z]
    split
    · rename_i q; subst q; exact (h b ha k).2.symm
    · rfl
theorem wr_same {g : am_G} {a k : Nat} {v : Int32} (h : g.1 a k = v) : am_wr g a k v = g := by
  refine Prod.ext ?_ rfl
  funext b j
  simp only [am_wr]
  split
  · rename_i q; rw [q.1, q.2, h]
  · rfl
theorem wL_same {g : am_G} {a k : Nat} {v : Int64} (h : g.2 a k = v) : am_wL g a k v = g := by
  refine Prod.ext rfl ?_
  funext b j
  simp only [am_wL]
  split
  · rename_i q; rw [q.1, q.2, h]
  · rfl
theorem ap_get {α : Type} {sh l : List α} {a k : Nat} (ha : a = sh.length + k) : (sh ++ l)[a]? = l[k]? := by
  subst ha
  rw [List.getElem?_append_right (by omega)]
  congr 1
  omega
theorem ap_set {α : Type} {sh l : List α} {a k : Nat} {x : α} (ha : a = sh.length + k) : (sh ++ l).set a x = sh ++ l.set k x := by
  subst ha
  rw [List.set_append_right _ _ (by omega)]
  congr 2
  omega
theorem ap_ns {sh : List am_AC} {a : Nat} {x y : am_AC} (h : sh[a]? = some x) (he : am_cs x = am_cs y) : am_ns sh ≤ am_ns (sh.set a y) := by
  have e3 := congrArg (List.map am_cs) (am_set_same h)
  show (sh.map am_cs).sum ≤ ((sh.set a y).map am_cs).sum
  rw [e3, List.map_set, List.map_set, he]
  simp
theorem am_app_le {h : am_H} {x : am_AC} {g : am_G} : am_le h (h.1 ++ [x], g) := ⟨by simp, by show am_ns h.1 ≤ am_ns (h.1 ++ [x]); rw [am_ns_app]; omega⟩
section
variable {d : Nat} {μ : am_M} {pc pc' : Nat} {lo lo' : List (Nat × Value)} {st : List Value} {h' : am_H} {r : Option Value} {sh l l' : List am_AC} {g : am_G}
theorem fc_new {k ci n : Nat} (hd : decode μ.2.1 pc = .ok (.new k, 3)) (hp : pc + 3 = pc') (hc : am_cln μ.2.2.2.2 k = some ci) (hn : (sh ++ l).length = n) (hz : zr g n) (hl : l ++ [.inl (ci, am_def ci)] = l') (kk : am_E d μ (pc', lo, .ref n :: st, (sh ++ l', g)) h' r) : am_E d μ (pc, lo, st, (sh ++ l, g)) h' r := by
  subst hl; subst hn
  have e : am_new (sh ++ l, g) ci = (sh ++ (l ++ [.inl (ci, am_def ci)]), g) := by
    simp only [am_new]
    rw [zr_z hz (Nat.le_refl _), List.append_assoc]
  refine fe_i (f' := (pc', lo, .ref (sh ++ l).length :: st, am_new (sh ++ l, g) ci)) hd (Or.inr rfl) (by simp only [am_ex, hc, hp]) am_app_le ?_
  rw [e]
  exact kk
theorem fc_nwa {at0 : ArrayType} {bk n N : Nat} {v : Int32} (hd : decode μ.2.1 pc = .ok (.newarray at0, 2)) (hp : pc + 2 = pc') (hb : at0 = .int ∧ bk = 0 ∨ at0 = .boolean ∧ bk = 1) (hv : ¬ (v < 0 ∨ 1000 < v.toNatClampNeg)) (hN : v.toNatClampNeg = N) (hn : (sh ++ l).length = n) (hz : zr g n) (hl : l ++ [.inr (bk, N, [])] = l') (kk : am_E d μ (pc', lo, .ref n :: st, (sh ++ l', g)) h' r) : am_E d μ (pc, lo, .int v :: st, (sh ++ l, g)) h' r := by
  subst hl; subst hn; subst hN
  have e : am_nwa (sh ++ l, g) bk v.toNatClampNeg [] = (sh ++ (l ++ [.inr (bk, v.toNatClampNeg, [])]), g) := by
    simp only [am_nwa]
    rw [zr_z hz (Nat.le_refl _), List.append_assoc]
  refine fe_i (f' := (pc', lo, .ref (sh ++ l).length :: st, am_nwa (sh ++ l, g) bk v.toNatClampNeg [])) hd (Or.inr rfl) ?_ am_app_le ?_
  · rcases hb with ⟨rfl, rfl⟩ | ⟨rfl, rfl⟩ <;> (simp only [am_ex, hp]; rw [if_neg hv])
  · rw [e]
    exact kk
theorem fc_anw {k ci n N : Nat} {v : Int32} (hd : decode μ.2.1 pc = .ok (.anewarray k, 3)) (hp : pc + 3 = pc') (hc : am_cln μ.2.2.2.2 k = some ci) (hci : ci = 2 ∨ ci = 3) (hv : ¬ v < 0 ∧ ¬ 1000 < v.toNatClampNeg) (hN : v.toNatClampNeg = N) (hn : (sh ++ l).length = n) (hz : zr g n) (hl : l ++ [.inr (ci, N, List.replicate N none)] = l') (kk : am_E d μ (pc', lo, .ref n :: st, (sh ++ l', g)) h' r) : am_E d μ (pc, lo, .int v :: st, (sh ++ l, g)) h' r := by
  subst hl; subst hn; subst hN
  have e : am_nwa (sh ++ l, g) ci v.toNatClampNeg (List.replicate v.toNatClampNeg none) = (sh ++ (l ++ [.inr (ci, v.toNatClampNeg, List.replicate v.toNatClampNeg none)]), g) := by
    simp only [am_nwa]
    rw [zr_z hz (Nat.le_refl _), List.append_assoc]
  refine fe_i (f' := (pc', lo, .ref (sh ++ l).length :: st, am_nwa (sh ++ l, g) ci v.toNatClampNeg (List.replicate v.toNatClampNeg none))) hd (Or.inr rfl) ?_ am_app_le ?_
  · simp only [am_ex, hc, hp]
    rw [if_neg (by rintro (q | q | q)
                   · exact hv.1 q
                   · exact hv.2 q
                   · exact q hci)]
  · rw [e]
    exact kk
theorem fc_oi {k z n a : Nat} {h : am_H} (hd : decode μ.2.1 pc = .ok (.invokespecial k, 3)) (hp : pc + 3 = pc') (hc : am_cal μ.2.2.2.2 k = some (5, z, n)) (hw : am_cw st ≤ 8) (kk : am_E d μ (pc', lo, st, h) h' r) : am_E d μ (pc, lo, .ref a :: st, h) h' r :=
  fe_i (f' := (pc', lo, st, h)) hd (Or.inr rfl) (by simp only [am_ex, am_ii, hc, if_pos hw, hp]) (am_le_rf _) kk
theorem fc_ii {k z n kd b : Nat} {rr as : List Value} {h h1 : am_H} (hd : decode μ.2.1 pc = .ok (.invokespecial k, 3)) (hp : pc + 3 = pc') (hc : am_cal μ.2.2.2.2 k = some (kd, z, n)) (hk : kd = 2 ∨ kd = 4) (hs : st.drop n = .ref b :: rr) (ha : .ref b :: (st.take n).reverse = as) (hq : b ≠ am_ext ∧ am_cw rr ≤ 8 ∧ n ≤ st.length) (hl : am_le h h1) (hE : am_Ev d z as h h1 none) (kk : am_E d μ (pc', lo, rr, h1) h' r) : am_E d μ (pc, lo, st, h) h' r := by
  subst ha
  refine fe_c (f' := (pc', lo, rr, h)) hd (Or.inr rfl) ?_ hE hl kk
  rcases hk with rfl | rfl
  · simp only [am_ex, am_ii, hc, hs, hp]
    rw [if_pos ⟨by simp, hq.1, hq.2.1, hq.2.2⟩]
  · simp only [am_ex, am_ii, hc, hs, hp]
    rw [if_pos ⟨by simp, hq.1, hq.2.1, hq.2.2⟩]
/-- a final field gets its cell -/
theorem fc_pr {k a i ci j b : Nat} {fs : List Value} (hd : decode μ.2.1 pc = .ok (.putfield k, 3)) (hp : pc + 3 = pc') (hf : am_fld μ.2.2.2.2 k = some (ci, j)) (ha : a ≠ am_ext) (hi : a = sh.length + i) (hs : l[i]? = some (.inl (ci, fs))) (hj : fs[j]? = some .null) (hm : μ.1.name = "<init>" ∧ ci = μ.2.2.2.2) (ht : (am_T ci j).2.2.2 = true ∧ fits (am_ty ci j) .null = true) (hb : b ≠ am_ext) (hl : l.set i (.inl (ci, fs.set j (.ref b))) = l') (kk : am_E d μ (pc', lo, st, (sh ++ l', g)) h' r) : am_E d μ (pc, lo, .ref b :: .ref a :: st, (sh ++ l, g)) h' r := by
  subst hl
  have h0 : (sh ++ l)[a]? = some (.inl (ci, fs)) := by rw [ap_get hi, hs]
  have e1 : (decide (μ.1.name = "<init>") && decide (ci = μ.2.2.2.2)) = true := by simp [hm.1, hm.2]
  have e : am_pf (sh ++ l, g) (decide (μ.1.name = "<init>") && decide (ci = μ.2.2.2.2)) a ci j (.ref b) = some (sh ++ l.set i (.inl (ci, fs.set j (.ref b))), g) := by
    simp only [am_pf, h0, hj, if_true, ap_set hi]
    rw [if_pos ⟨e1, ht.1, ht.2, hb⟩]
  refine fe_i (f' := (pc', lo, st, (sh ++ l.set i (.inl (ci, fs.set j (.ref b))), g))) hd (Or.inr rfl) (by simp only [am_ex, hf, if_neg ha, e, hp]) ⟨by simp, ?_⟩ kk
  show am_ns (sh ++ l) ≤ am_ns (sh ++ l.set i (.inl (ci, fs.set j (.ref b))))
  rw [← ap_set hi]
  exact ap_ns h0 (by simp [am_cs])
/-- an int field gets what it has -/
theorem fc_p0 {k a i ci j : Nat} {x z : Int32} {fs : List Value} (hd : decode μ.2.1 pc = .ok (.putfield k, 3)) (hp : pc + 3 = pc') (hf : am_fld μ.2.2.2.2 k = some (ci, j)) (ha : a ≠ am_ext) (hi : a = sh.length + i) (hs : l[i]? = some (.inl (ci, fs))) (hj : fs[j]? = some (.int z)) (ht : (am_T ci j).2.2.2 = false ∧ (am_ty ci j = .int ∨ am_ty ci j = .boolean ∧ (x = 0 ∨ x = 1))) (hx : g.1 a j = x) (kk : am_E d μ (pc', lo, st, (sh ++ l, g)) h' r) : am_E d μ (pc, lo, .int x :: .ref a :: st, (sh ++ l, g)) h' r := by
  refine fe_pi hd hp hf ha (by rw [ap_get hi, hs]) hj ht ?_
  rw [wr_same hx]
  exact kk
theorem fc_l0 {k a i ci j : Nat} {x z : Int64} {fs : List Value} (hd : decode μ.2.1 pc = .ok (.putfield k, 3)) (hp : pc + 3 = pc') (hf : am_fld μ.2.2.2.2 k = some (ci, j)) (ha : a ≠ am_ext) (hi : a = sh.length + i) (hs : l[i]? = some (.inl (ci, fs))) (hj : fs[j]? = some (.long z)) (ht : (am_T ci j).2.2.2 = false ∧ am_ty ci j = .long) (hx : g.2 a j = x) (kk : am_E d μ (pc', lo, st, (sh ++ l, g)) h' r) : am_E d μ (pc, lo, .long x :: .ref a :: st, (sh ++ l, g)) h' r := by
  refine fe_pl hd hp hf ha (by rw [ap_get hi, hs]) hj ht ?_
  rw [wL_same hx]
  exact kk
theorem fc_p1 {k a i ci j : Nat} {x z : Int32} {fs : List Value} (hd : decode μ.2.1 pc = .ok (.putfield k, 3)) (hp : pc + 3 = pc') (hf : am_fld μ.2.2.2.2 k = some (ci, j)) (ha : a ≠ am_ext) (hi : a = sh.length + i) (hs : l[i]? = some (.inl (ci, fs))) (hj : fs[j]? = some (.int z)) (ht : (am_T ci j).2.2.2 = false ∧ (am_ty ci j = .int ∨ am_ty ci j = .boolean ∧ (x = 0 ∨ x = 1))) (kk : am_E d μ (pc', lo, st, (sh ++ l, am_wr g a j x)) h' r) : am_E d μ (pc, lo, .int x :: .ref a :: st, (sh ++ l, g)) h' r :=
  fe_pi hd hp hf ha (by rw [ap_get hi, hs]) hj ht kk
theorem fc_l1 {k a i ci j : Nat} {x z : Int64} {fs : List Value} (hd : decode μ.2.1 pc = .ok (.putfield k, 3)) (hp : pc + 3 = pc') (hf : am_fld μ.2.2.2.2 k = some (ci, j)) (ha : a ≠ am_ext) (hi : a = sh.length + i) (hs : l[i]? = some (.inl (ci, fs))) (hj : fs[j]? = some (.long z)) (ht : (am_T ci j).2.2.2 = false ∧ am_ty ci j = .long) (kk : am_E d μ (pc', lo, st, (sh ++ l, am_wL g a j x)) h' r) : am_E d μ (pc, lo, .long x :: .ref a :: st, (sh ++ l, g)) h' r :=
  fe_pl hd hp hf ha (by rw [ap_get hi, hs]) hj ht kk
theorem fc_gr {k a i ci j b : Nat} {fs : List Value} (hd : decode μ.2.1 pc = .ok (.getfield k, 3)) (hp : pc + 3 = pc') (hf : am_fld μ.2.2.2.2 k = some (ci, j)) (ha : a ≠ am_ext) (hi : a = sh.length + i) (hs : l[i]? = some (.inl (ci, fs))) (hj : fs[j]? = some (.ref b)) (kk : am_E d μ (pc', lo, .ref b :: st, (sh ++ l, g)) h' r) : am_E d μ (pc, lo, .ref a :: st, (sh ++ l, g)) h' r :=
  fe_gf hd hp hf ha (by simp only [am_gf, ap_get hi, hs, hj, if_true]) kk
theorem fc_rs {a b i kb bk ci n : Nat} {v : Int32} {rs : List (Option Nat)} {fs : List Value} (hd : decode μ.2.1 pc = .ok (.aastore, 1)) (hp : pc + 1 = pc') (ha : ¬ (a = am_ext ∨ b = am_ext)) (hi : a = sh.length + i) (hk : b = sh.length + kb) (hs : l[i]? = some (.inr (bk, n, rs))) (ho : l[kb]? = some (.inl (ci, fs))) (hq : (bk = 2 ∨ bk = 3) ∧ bk = ci ∧ rs.length = n ∧ am_in v n = true) (hl : l.set i (.inr (bk, n, rs.set v.toNatClampNeg (some b))) = l') (kk : am_E d μ (pc', lo, st, (sh ++ l', g)) h' r) : am_E d μ (pc, lo, .ref b :: .int v :: .ref a :: st, (sh ++ l, g)) h' r := by
  subst hl
  have h0 : (sh ++ l)[a]? = some (.inr (bk, n, rs)) := by rw [ap_get hi, hs]
  have h1 : (sh ++ l)[b]? = some (.inl (ci, fs)) := by rw [ap_get hk, ho]
  have e : am_rs (sh ++ l, g) a v b = some (sh ++ l.set i (.inr (bk, n, rs.set v.toNatClampNeg (some b))), g) := by
    simp only [am_rs, if_neg ha, h0, h1, ap_set hi]
    rw [if_pos hq]
  refine fe_i (f' := (pc', lo, st, (sh ++ l.set i (.inr (bk, n, rs.set v.toNatClampNeg (some b))), g))) hd (Or.inr rfl) (by simp only [am_ex, e, hp]) ⟨by simp, ?_⟩ kk
  show am_ns (sh ++ l) ≤ am_ns (sh ++ l.set i (.inr (bk, n, rs.set v.toNatClampNeg (some b))))
  rw [← ap_set hi]
  exact ap_ns h0 rfl
theorem fc_inc {k : Nat} {n : Int} {w x : Int32} {h : am_H} (hd : decode μ.2.1 pc = .ok (.iinc k n, 3)) (hp : pc + 3 = pc') (hw : x + Int32.ofInt n = w) (hn : k < μ.2.2.1) (hg : am_get lo k = some (.int x)) (hs : am_set k (.int w) lo = lo') (kk : am_E d μ (pc', lo', st, h) h' r) : am_E d μ (pc, lo, st, h) h' r :=
  fe_i (f' := (pc', lo', st, h)) hd (Or.inr rfl) (by simp only [am_ex, hg, if_pos hn, hw, hs, hp]) (am_le_rf _) kk
end
theorem zr_up {g : am_G} {n m : Nat} (h : zr g n) (hm : n ≤ m) : zr g m := fun a ha k => h a (Nat.le_trans hm ha) k
theorem zr_wr {g : am_G} {a k m : Nat} {v : Int32} (ha : a < m) (h : zr g m) : zr (am_wr g a k v) m := fun b hb j => by
  refine ⟨?_, (h b hb j).2⟩
  simp only [am_wr]
  rw [if_neg (by omega)]
  exact (h b hb j).1
theorem zr_wL {g : am_G} {a k m : Nat} {v : Int64} (ha : a < m) (h : zr g m) : zr (am_wL g a k v) m := fun b hb j => by
  refine ⟨(h b hb j).1, ?_⟩
  simp only [am_wL]
  rw [if_neg (by omega)]
  exact (h b hb j).2
theorem ap_lc (sh l : List am_AC) (x : am_AC) : sh ++ (l ++ [x]) = (sh ++ l) ++ [x] := (List.append_assoc _ _ _).symm
