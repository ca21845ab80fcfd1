-- making, calls, ends; the simulation
section
variable {D : va_G} {cy : Nat → ClassId} {base bn : Nat} {μ : am_M} {h0 : am_H} {p : Program} {l : Launch} {e : Env} {s : State} {m : MethodId} {args : Array Value} {below : List Frame} {meth : Method} {c : Code} {R : Room} {Q : State → Prop}
variable {pc : Nat} {lo : List (Nat × Value)} {st : List Value} {h : am_H}
theorem W.size {H : Heap} {locs : List Loc} {cells slots : Nat} {g : JFrame} (k : H.size ≤ s.heap.size + cells → W p l e R s m args below meth c H locs cells slots Q g) : W p l e R s m args below meth c H locs cells slots Q g :=
  fun T hT X => k (by rw [← hT]; exact X.heapSize) T hT X
theorem am_size {H : Heap} {locs : List Loc} {cells : Nat} (hP : va_P D vwCl (am_w cy base bn h) H) (hS : va_S (fun q => base ≤ q) s.heap H locs) (hsz : s.heap.size = base + h0.1.length) (hc : cells + h0.1.length = h.1.length) (hz : H.size ≤ s.heap.size + cells) : H.size = base + h.1.length := by
  have h1 := hS.1
  rcases Nat.eq_zero_or_pos h.1.length with q | q
  · omega
  · have ha : h.1[h.1.length - 1]? = some (h.1[h.1.length - 1]'(by omega)) := List.getElem?_eq_getElem (by omega)
    have h2 := (hP (h.1.length - 1) _ (am_w_at ha)).lt
    have h2 : base + (h.1.length - 1) < H.size := h2
    omega
theorem am_cln_ok {own idx ci : Nat} (hf : am_cln own idx = some ci) : Cond.classLink (am_cn own) idx (am_cn ci) ∈ am_gt ∧ Cond.instantiable (am_cn ci) (am_N ci) ∈ am_gt ∧ Cond.initialized (am_cn ci) ∈ am_gt ∧ ci < 10 := by
  simp only [am_cln, Option.map_eq_some_iff] at hf
  obtain ⟨q, g1, rfl⟩ := hf
  have g3 := List.find?_some g1
  simp only [Bool.and_eq_true, beq_iff_eq] at g3
  have hk := List.all_eq_true.mp am_ntab_ok q (List.mem_of_find?_eq_some g1)
  simp only [am_nok, Bool.and_eq_true, decide_eq_true_eq] at hk
  obtain ⟨rfl, rfl⟩ := g3
  exact ⟨am_in_gt hk.1 rfl, am_in_gt hk.2.1 rfl, am_in_gt hk.2.2.1 rfl, hk.2.2.2⟩
theorem am_def_at {ci j : Nat} (hj : j < am_N ci) : (am_def ci)[j]? = some (defaultValue (am_ty ci j)) := by
  simp [am_def, List.getElem?_map, List.getElem?_range hj]
theorem am_def_fe {base bn : Nat} {g : am_G} {a j : Nat} (hg : g.1 a j = 0 ∧ g.2 a j = 0) (ty : FieldType) : am_fe base bn g a j (defaultValue ty) = defaultValue ty := by
  cases ty <;> simp [defaultValue, am_fe, am_tr, hg.1, hg.2]
theorem am_def_ce {g : am_G} {a ci : Nat} (hg : ∀ j, g.1 a j = 0 ∧ g.2 a j = 0) : am_ce cy base bn g a (.inl (ci, am_def ci)) = .inr (ci, am_def ci) := by
  rw [am_ce_obj]
  congr 2
  apply List.ext_getElem?
  intro j
  rcases Nat.lt_or_ge j (am_N ci) with q | q
  · rw [am_mapIdx_at (am_def_at q), am_def_at q, am_def_fe (hg j)]
  · rw [List.getElem?_eq_none (by simp [am_def]; omega), List.getElem?_eq_none (by simp [am_def]; omega)]
theorem am_z_0 (g : am_G) (a j : Nat) : (am_z g a).1 a j = 0 ∧ (am_z g a).2 a j = 0 := by simp [am_z]
theorem am_ns_app (sh : List am_AC) (x : am_AC) : am_ns (sh ++ [x]) = am_ns sh + am_cs x := by simp [am_ns]
theorem sm_new (K : am_K D cy base bn μ h0 p s m args meth c) {idx ci : Nat} (hf : am_cln μ.2.2.2.2 idx = some ci) (hR : (am_new h ci).1.length ≤ h0.1.length + R.cells ∧ am_ns (am_new h ci).1 ≤ am_ns h0.1 + R.slots) (hne : h.1.length ≠ am_ext) (hd : decode μ.2.1 pc = .ok (.new idx, 3)) (k1 : am_Wf D cy base bn μ h0 p l e s m args below meth c R Q (pc + 3, lo, .ref h.1.length :: st, am_new h ci)) : am_Wf D cy base bn μ h0 p l e s m args below meth c R Q (pc, lo, st, h) := by
  obtain ⟨hx, hb, hml, hown, hts, hr, hlocks, hnm, hU, hsz⟩ := K
  intro H locs ls cells slots hP hS hl hc hs
  have hc : cells + h0.1.length = h.1.length := hc
  have hs : slots + am_ns h0.1 = am_ns h.1 := hs
  refine W.size (fun hz => ?_)
  have hzz := am_size hP hS hsz hc hz
  obtain ⟨w1, w2, w3, w4⟩ := am_cln_ok hf
  have hKn := hU.1.1 ci _ (am_clok w4)
  have hlen : (am_new h ci).1.length = h.1.length + 1 := by simp [am_new]
  have hns : am_ns (am_new h ci).1 = am_ns h.1 + am_N ci := by
    show am_ns (h.1 ++ [_]) = _
    rw [am_ns_app]
    simp [am_cs, am_def]
  refine W.newcK hx hb hown (hts _ w1) (hts _ w2) (hts _ w3) rfl hd (by omega) (by omega) hKn.2.1 hzz fun H1 kC hkC e1 z1 o1 => ?_
  have hk : ∀ (k : Nat) (x : Nat × va_E), (am_w cy base bn h)[k]? = some x → H1[x.1]? = H[x.1]? := fun k x hx => o1 x.1 (by rw [← hzz]; exact (hP k x hx).lt)
  have k2 := k1 H1 locs ls (cells + 1) (slots + am_N ci) ?_ ⟨by have := hS.1; omega, fun x h1 h2 => (o1 x (by have := hS.1; omega)).trans (hS.2.1 x h1 h2), hS.2.2⟩ hl (by show cells + 1 + h0.1.length = (am_new h ci).1.length; omega) (by show slots + am_N ci + am_ns h0.1 = am_ns (am_new h ci).1; omega)
  · have e2 : am_tr base bn (.ref h.1.length) = .ref (base + h.1.length) := by simp [am_tr, hne]
    have k3 : W p l e R s m args below meth c H1 locs (cells + 1) (slots + am_N ci) Q (F0 m (pc + 3) ls (am_tr base bn (.ref h.1.length) :: st.map (am_tr base bn))) := k2
    rw [e2] at k3
    exact k3
  · show va_P D vwCl (am_w cy base bn (h.1 ++ [.inl (ci, am_def ci)], am_z h.2 h.1.length)) H1
    rw [am_w_push (fun b hb => am_z_ne hb), am_def_ce (am_z_0 _ _)]
    refine (hP.kept hk).app (fun k x hx => ?_)
    have hz1 : k < 1 := (List.getElem?_eq_some_iff.mp hx).1
    rw [show k = 0 by omega] at hx
    cases hx
    refine ⟨_, am_clok w4, (u_born (am_ty ci) hts (am_lay w4) hKn hkC e1 (am_tyok w4)).to (fun j hj => ?_)⟩
    rw [vp_V, List.getD_eq_getElem?_getD, am_def_at hj]
    rfl
theorem sm_nwa (K : am_K D cy base bn μ h0 p s m args meth c) {bk : Nat} {at0 : ArrayType} {n : Int32} (hbk : bk = 0 ∧ at0 = .int ∨ bk = 1 ∧ at0 = .boolean) (hn : ¬ (n < 0 ∨ 1000 < n.toNatClampNeg)) (hR : (am_nwa h bk n.toNatClampNeg []).1.length ≤ h0.1.length + R.cells ∧ am_ns (am_nwa h bk n.toNatClampNeg []).1 ≤ am_ns h0.1 + R.slots) (hne : h.1.length ≠ am_ext) (hd : decode μ.2.1 pc = .ok (.newarray at0, 2)) (k1 : am_Wf D cy base bn μ h0 p l e s m args below meth c R Q (pc + 2, lo, .ref h.1.length :: st, am_nwa h bk n.toNatClampNeg [])) : am_Wf D cy base bn μ h0 p l e s m args below meth c R Q (pc, lo, .int n :: st, h) := by
  obtain ⟨hx, hb, hml, hown, hts, hr, hlocks, hnm, hU, hsz⟩ := K
  intro H locs ls cells slots hP hS hl hc hs
  have hc : cells + h0.1.length = h.1.length := hc
  have hs : slots + am_ns h0.1 = am_ns h.1 := hs
  refine W.size (fun hz => ?_)
  have hzz := am_size hP hS hsz hc hz
  have hn1 : ¬ n < 0 := fun q => hn (Or.inl q)
  have hn2 : n.toNatClampNeg ≤ 1000 := Nat.not_lt.mp fun q => hn (Or.inr q)
  have hlen : (am_nwa h bk n.toNatClampNeg []).1.length = h.1.length + 1 := by simp [am_nwa]
  have hns : am_ns (am_nwa h bk n.toNatClampNeg []).1 = am_ns h.1 + n.toNatClampNeg := by
    show am_ns (h.1 ++ [_]) = _
    rw [am_ns_app]
    rfl
  have harr : (Cond.arrayClass (newarray.typeOf at0)).before args s = true := by
    rcases hbk with ⟨-, rfl⟩ | ⟨-, rfl⟩
    · exact hts _ am_w_ai
    · exact hts _ am_w_az
  have hby : n.toNatClampNeg * componentBytes (newarray.typeOf at0) ≤ 536870912 := by
    have : componentBytes (newarray.typeOf at0) ≤ 8 := by cases at0 <;> decide
    calc n.toNatClampNeg * componentBytes (newarray.typeOf at0) ≤ 1000 * 8 := Nat.mul_le_mul hn2 this
      _ ≤ 536870912 := by decide
  refine va_newaK hx hb harr (g := F0 m pc ls (.int n :: st.map (am_tr base bn))) rfl hd rfl hn1 rfl hby (by omega) (by omega) hzz fun H1 cA e1 z1 o1 hAr hNm => ?_
  have hk : ∀ (k : Nat) (x : Nat × va_E), (am_w cy base bn h)[k]? = some x → H1[x.1]? = H[x.1]? := fun k x hx => o1 x.1 (by rw [← hzz]; exact (hP k x hx).lt)
  have k2 := k1 H1 locs ls (cells + 1) (slots + n.toNatClampNeg) ?_ ⟨by have := hS.1; omega, fun x h1 h2 => (o1 x (by have := hS.1; omega)).trans (hS.2.1 x h1 h2), hS.2.2⟩ hl (by show cells + 1 + h0.1.length = (am_nwa h bk n.toNatClampNeg []).1.length; omega) (by show slots + n.toNatClampNeg + am_ns h0.1 = am_ns (am_nwa h bk n.toNatClampNeg []).1; omega)
  · have e2 : am_tr base bn (.ref h.1.length) = .ref (base + h.1.length) := by simp [am_tr, hne]
    have k3 : W p l e R s m args below meth c H1 locs (cells + 1) (slots + n.toNatClampNeg) Q (F0 m (pc + 2) ls (am_tr base bn (.ref h.1.length) :: st.map (am_tr base bn))) := k2
    rw [e2] at k3
    exact k3
  · show va_P D vwCl (am_w cy base bn (h.1 ++ [.inr (bk, n.toNatClampNeg, [])], am_z h.2 h.1.length)) H1
    rw [am_w_push (fun b hb => am_z_ne hb), am_ce_arr (by rcases hbk with ⟨rfl, -⟩ | ⟨rfl, -⟩ <;> decide)]
    refine (hP.kept hk).app (fun k x hx => ?_)
    have hz1 : k < 1 := (List.getElem?_eq_some_iff.mp hx).1
    rw [show k = 0 by omega] at hx
    cases hx
    have hz0 : (fun j => Value.int ((am_z h.2 h.1.length).1 h.1.length j)) = fun _ => Value.int 0 := by
      funext j
      rw [(am_z_0 _ _ _).1]
    show H1[base + h.1.length]? = some (arrV (cy bk) n.toNatClampNeg (fun j => Value.int ((am_z h.2 h.1.length).1 h.1.length j)))
    rw [hz0, e1]
    rcases hbk with ⟨rfl, rfl⟩ | ⟨rfl, rfl⟩
    · have hA := (hU.1.2 0 (cy 0, .int) rfl).2
      have e3 : cA = cy 0 := Option.some.inj (hNm.symm.trans hA)
      rw [e3]
      rfl
    · have hA := (hU.1.2 1 (cy 1, .boolean) rfl).2
      have e3 : cA = cy 1 := Option.some.inj (hNm.symm.trans hA)
      rw [e3]
      rfl
theorem sm_anw (K : am_K D cy base bn μ h0 p s m args meth c) {idx ci : Nat} {n : Int32} (hf : am_cln μ.2.2.2.2 idx = some ci) (hci : ci = 2 ∨ ci = 3) (hn1 : ¬ n < 0) (hn2 : n.toNatClampNeg ≤ 1000) (hR : (am_nwa h ci n.toNatClampNeg (List.replicate n.toNatClampNeg none)).1.length ≤ h0.1.length + R.cells ∧ am_ns (am_nwa h ci n.toNatClampNeg (List.replicate n.toNatClampNeg none)).1 ≤ am_ns h0.1 + R.slots) (hne : h.1.length ≠ am_ext) (hd : decode μ.2.1 pc = .ok (.anewarray idx, 3)) (k1 : am_Wf D cy base bn μ h0 p l e s m args below meth c R Q (pc + 3, lo, .ref h.1.length :: st, am_nwa h ci n.toNatClampNeg (List.replicate n.toNatClampNeg none))) : am_Wf D cy base bn μ h0 p l e s m args below meth c R Q (pc, lo, .int n :: st, h) := by
  obtain ⟨hx, hb, hml, hown, hts, hr, hlocks, hnm, hU, hsz⟩ := K
  intro H locs ls cells slots hP hS hl hc hs
  have hc : cells + h0.1.length = h.1.length := hc
  have hs : slots + am_ns h0.1 = am_ns h.1 := hs
  refine W.size (fun hz => ?_)
  have hzz := am_size hP hS hsz hc hz
  obtain ⟨w1, w2, w3, w4⟩ := am_cln_ok hf
  have hlen : (am_nwa h ci n.toNatClampNeg (List.replicate n.toNatClampNeg none)).1.length = h.1.length + 1 := by simp [am_nwa]
  have hns : am_ns (am_nwa h ci n.toNatClampNeg (List.replicate n.toNatClampNeg none)).1 = am_ns h.1 + n.toNatClampNeg := by
    show am_ns (h.1 ++ [_]) = _
    rw [am_ns_app]
    rfl
  have hover : va_AO (am_cn ci) s := by
    rcases hci with rfl | rfl
    · exact hU.2.1
    · exact hU.2.2.1
  refine W.anew hx hb hown (hts _ w1) (va_AO.use hover) (g := F0 m pc ls (.int n :: st.map (am_tr base bn))) rfl hd rfl hn1 (by omega) (by omega) (by omega) fun cA kA comp f1 f2 f3 f4 => ?_
  generalize hH1 : H.push ({ cls := cA, slots := Array.replicate n.toNatClampNeg .null, vm := .none } : Cell) = H1
  have z1 : H1.size = H.size + 1 := by rw [← hH1, Array.size_push]
  have e1 : H1[H.size]? = some (arrV cA n.toNatClampNeg (fun _ => .null)) := by rw [← hH1, Array.getElem?_push_size, ← arrV_new]
  have o1 : ∀ q : Nat, q < H.size → H1[q]? = H[q]? := fun q hq => by rw [← hH1, Array.getElem?_push, if_neg (Nat.ne_of_lt hq)]
  have hk : ∀ (k : Nat) (x : Nat × va_E), (am_w cy base bn h)[k]? = some x → H1[x.1]? = H[x.1]? := fun k x hx => o1 x.1 ((hP k x hx).lt)
  have k2 := k1 H1 locs ls (cells + 1) (slots + n.toNatClampNeg) ?_ ⟨by have := hS.1; omega, fun x h1 h2 => (o1 x (by have := hS.1; omega)).trans (hS.2.1 x h1 h2), hS.2.2⟩ hl (by show cells + 1 + h0.1.length = (am_nwa h ci n.toNatClampNeg (List.replicate n.toNatClampNeg none)).1.length; omega) (by show slots + n.toNatClampNeg + am_ns h0.1 = am_ns (am_nwa h ci n.toNatClampNeg (List.replicate n.toNatClampNeg none)).1; omega)
  · have e2 : am_tr base bn (.ref h.1.length) = .ref H.size := by simp [am_tr, hne, hzz]
    have k3 : W p l e R s m args below meth c H1 locs (cells + 1) (slots + n.toNatClampNeg) Q (F0 m (pc + 3) ls (am_tr base bn (.ref h.1.length) :: st.map (am_tr base bn))) := k2
    rw [e2] at k3
    exact k3
  · show va_P D vwCl (am_w cy base bn (h.1 ++ [.inr (ci, n.toNatClampNeg, List.replicate n.toNatClampNeg none)], am_z h.2 h.1.length)) H1
    rw [am_w_push (fun b hb => am_z_ne hb), am_ce_rfs hci]
    refine (hP.kept hk).app (fun k x hx => ?_)
    have hz1 : k < 1 := (List.getElem?_eq_some_iff.mp hx).1
    rw [show k = 0 by omega] at hx
    cases hx
    have hz0 : (fun j => va_rf (((List.replicate n.toNatClampNeg (none : Option Nat)).getD j none).map (fun b => base + b))) = fun _ => Value.null := by
      funext j
      have : (List.replicate n.toNatClampNeg (none : Option Nat)).getD j none = none := by
        rw [List.getD_eq_getElem?_getD, List.getElem?_replicate]
        split <;> rfl
      rw [this]
      rfl
    show H1[base + h.1.length]? = some (arrV (cy ci) n.toNatClampNeg (fun j => va_rf (((List.replicate n.toNatClampNeg (none : Option Nat)).getD j none).map (fun b => base + b))))
    rw [hz0, ← hzz, e1]
    rcases hci with rfl | rfl
    · obtain ⟨_, _, -, -, -, hA⟩ := (hU.1.2 2 (cy 2, .object RX2) rfl).2
      have e3 : cA = cy 2 := Option.some.inj (f1.symm.trans hA)
      rw [e3]
    · obtain ⟨_, _, -, -, -, hA⟩ := (hU.1.2 3 (cy 3, .object RX3) rfl).2
      have e3 : cA = cy 3 := Option.some.inj (f1.symm.trans hA)
      rw [e3]
theorem am_cal_in {own idx kd z n : Nat} (hf : am_cal own idx = some (kd, z, n)) : ∃ q ∈ am_ctab, q.1 = own ∧ q.2.1 = idx ∧ q.2.2.1 = kd ∧ q.2.2.2.1 = z ∧ q.2.2.2.2.1 = n ∧ am_cok q = true := by
  simp only [am_cal, Option.map_eq_some_iff] at hf
  obtain ⟨q, g1, g2⟩ := hf
  have g3 := List.find?_some g1
  simp only [Bool.and_eq_true, beq_iff_eq] at g3
  simp only [Prod.mk.injEq] at g2
  have hm := List.mem_of_find?_eq_some g1
  exact ⟨q, hm, g3.1, g3.2, g2.1, g2.2.1, g2.2.2, List.all_eq_true.mp am_ctab_ok q hm⟩
theorem sm_oi (K : am_K D cy base bn μ h0 p s m args meth c) {idx z n a : Nat} (hf : am_cal μ.2.2.2.2 idx = some (5, z, n)) (hcw : am_cw st ≤ 8) (hR : 1 ≤ R.frames ∧ 20 ≤ R.locals) (hd : decode μ.2.1 pc = .ok (.invokespecial idx, 3)) (k1 : am_Wf D cy base bn μ h0 p l e s m args below meth c R Q (pc + 3, lo, st, h)) : am_Wf D cy base bn μ h0 p l e s m args below meth c R Q (pc, lo, .ref a :: st, h) := by
  obtain ⟨hx, hb, hml, hown, hts, hr, hlocks, hnm, hU, hsz⟩ := K
  intro H locs ls cells slots hP hS hl hc hs
  have hc : cells + h0.1.length = h.1.length := hc
  have hs : slots + am_ns h0.1 = am_ns h.1 := hs
  obtain ⟨q, -, rfl', rfl'', hk5, -, -, hk⟩ := am_cal_in hf
  unfold am_cok at hk
  rw [hk5] at hk
  simp only [decide_eq_true_eq] at hk
  rw [rfl', rfl''] at hk
  have e0 := am_cw_tr base bn st
  refine W.objInit hx hb hown (hts _ (am_in_gt hk rfl)) (hts _ am_w_oi1) (hts _ am_w_oi2) (g := F0 m pc ls (am_tr base bn (.ref a) :: st.map (am_tr base bn))) rfl (by rw [hml]; exact hl.1) rfl hd hR.1 ?_ (k1 H locs ls cells slots hP hS hl hc hs)
  show 2 * 0 + _ + 12 ≤ _
  omega
theorem sm_mx (K : am_K D cy base bn μ h0 p s m args meth c) {idx z n : Nat} {x y : Int32} (hf : am_cal μ.2.2.2.2 idx = some (7, z, n)) (hcw : am_cw st ≤ 8) (hR : 1 ≤ R.frames ∧ 30 ≤ R.locals) (hcr : h.1.length ≤ h0.1.length + R.cells ∧ am_ns h.1 ≤ am_ns h0.1 + R.slots) (hd : decode μ.2.1 pc = .ok (.invokestatic idx, 3)) (k1 : am_Wf D cy base bn μ h0 p l e s m args below meth c R Q (pc + 3, lo, .int (if x < y then y else x) :: st, h)) : am_Wf D cy base bn μ h0 p l e s m args below meth c R Q (pc, lo, .int y :: .int x :: st, h) := by
  obtain ⟨hx, hb, hml, hown, hts, hr, hlocks, hnm, hU, hsz⟩ := K
  intro H locs ls cells slots hP hS hl hc hs
  have hc : cells + h0.1.length = h.1.length := hc
  have hs : slots + am_ns h0.1 = am_ns h.1 := hs
  obtain ⟨q, -, rfl', rfl'', hk5, -, -, hk⟩ := am_cal_in hf
  unfold am_cok at hk
  rw [hk5] at hk
  simp only [decide_eq_true_eq] at hk
  rw [rfl', rfl''] at hk
  have e0 := am_cw_tr base bn st
  exact va_mmax hx hb (by rw [hml]; exact hl.1.symm) hown (hts _ (am_in_gt hk rfl)) (hts _ am_w_mx1) (hts _ am_w_mini) (hts _ am_w_mx2) hR.1 (by omega) (by omega) (by omega) hd (k1 H locs ls cells slots hP hS hl hc hs)
theorem sm_mi (K : am_K D cy base bn μ h0 p s m args meth c) {idx z n : Nat} {x y : Int32} (hf : am_cal μ.2.2.2.2 idx = some (8, z, n)) (hcw : am_cw st ≤ 8) (hR : 1 ≤ R.frames ∧ 30 ≤ R.locals) (hcr : h.1.length ≤ h0.1.length + R.cells ∧ am_ns h.1 ≤ am_ns h0.1 + R.slots) (hd : decode μ.2.1 pc = .ok (.invokestatic idx, 3)) (k1 : am_Wf D cy base bn μ h0 p l e s m args below meth c R Q (pc + 3, lo, .int (if y < x then y else x) :: st, h)) : am_Wf D cy base bn μ h0 p l e s m args below meth c R Q (pc, lo, .int y :: .int x :: st, h) := by
  obtain ⟨hx, hb, hml, hown, hts, hr, hlocks, hnm, hU, hsz⟩ := K
  intro H locs ls cells slots hP hS hl hc hs
  have hc : cells + h0.1.length = h.1.length := hc
  have hs : slots + am_ns h0.1 = am_ns h.1 := hs
  obtain ⟨q, -, rfl', rfl'', hk5, -, -, hk⟩ := am_cal_in hf
  unfold am_cok at hk
  rw [hk5] at hk
  simp only [decide_eq_true_eq] at hk
  rw [rfl', rfl''] at hk
  have e0 := am_cw_tr base bn st
  exact va_mmin hx hb (by rw [hml]; exact hl.1.symm) hown (hts _ (am_in_gt hk rfl)) (hts _ am_w_mi1) (hts _ am_w_mini) (hts _ am_w_mi2) hR.1 (by omega) (by omega) (by omega) hd (k1 H locs ls cells slots hP hS hl hc hs)
theorem sm_ac (K : am_K D cy base bn μ h0 p s m args meth c) {idx z n1 a b na nb : Nat} {ra rb : List (Option Nat)} {n dp sp : Int32} (hf : am_cal μ.2.2.2.2 idx = some (6, z, n1)) (ha : ¬ a = am_ext) (hbe : ¬ b = am_ext) (hca : h.1[a]? = some (.inr (0, na, ra))) (hcb : h.1[b]? = some (.inr (0, nb, rb)))
    (hcond : ¬ sp < 0 ∧ ¬ dp < 0 ∧ ¬ n < 0 ∧ sp.toNatClampNeg + n.toNatClampNeg ≤ na ∧ dp.toNatClampNeg + n.toNatClampNeg ≤ nb ∧ am_cw st ≤ 8) (hR : 1 ≤ R.frames ∧ 30 ≤ R.locals) (hd : decode μ.2.1 pc = .ok (.invokestatic idx, 3))
    (k1 : am_Wf D cy base bn μ h0 p l e s m args below meth c R Q (pc + 3, lo, st, (h.1, am_cp h.2 a b sp.toNatClampNeg dp.toNatClampNeg n.toNatClampNeg))) : am_Wf D cy base bn μ h0 p l e s m args below meth c R Q (pc, lo, .int n :: .int dp :: .ref b :: .int sp :: .ref a :: st, h) := by
  obtain ⟨hx, hb, hml, hown, hts, hr, hlocks, hnm, hU, hsz⟩ := K
  intro H locs ls cells slots hP hS hl hc hs
  have hc : cells + h0.1.length = h.1.length := hc
  have hs : slots + am_ns h0.1 = am_ns h.1 := hs
  obtain ⟨q, -, rfl', rfl'', hk5, -, -, hk⟩ := am_cal_in hf
  unfold am_cok at hk
  rw [hk5] at hk
  simp only [decide_eq_true_eq] at hk
  rw [rfl', rfl''] at hk
  have e0 := am_cw_tr base bn st
  have e1 : am_tr base bn (.ref a) = .ref (base + a) := by simp [am_tr, ha]
  have e2 : am_tr base bn (.ref b) = .ref (base + b) := by simp [am_tr, hbe]
  show W p l e R s m args below meth c H locs cells slots Q (F0 m pc ls (.int n :: .int dp :: am_tr base bn (.ref b) :: .int sp :: am_tr base bn (.ref a) :: st.map (am_tr base bn)))
  rw [e1, e2]
  obtain ⟨g1, g2, g3, g4, g5, g6⟩ := hcond
  have hbl : b < h.1.length := (List.getElem?_eq_some_iff.mp hcb).1
  refine va_copyi hx hb (by rw [hml]; exact hl.1.symm) hown (hts _ (am_in_gt hk rfl)) (hts _ am_w_ac1) (hts _ am_w_ac2) (hts _ am_w_ac3) hU.1 hP am_w_D hS a b 0 0 (c0 := cy 0) (c1 := cy 0) (n0 := na) (n1 := nb) (f := h.2.1 a) (g := h.2.1 b) (ty := .int) (by rw [am_w_at hca, am_ce_arr (by decide)]) (by rw [am_w_at hcb, am_ce_arr (by decide)]) rfl rfl rfl g1 g2 g3 g4 g5 (fun i hi => rfl) hR.1 ?_ hd (fun H1 locs1 hP1 _ hS1 => k1 H1 locs1 ls cells slots ?_ hS1 hl hc hs)
  · have : nativeFrameWords "java/lang/System" "arraycopy" 5 = 7 := by decide
    omega
  · rw [am_w_set (h' := (h.1, am_cp h.2 a b sp.toNatClampNeg dp.toNatClampNeg n.toNatClampNeg)) (c := .inr (0, nb, rb)) hbl (am_set_same hcb) (fun b hb => am_cp_ne hb) (by rw [am_ce_arr (by decide), am_cp_row])] at hP1
    exact hP1
theorem sm_sta (K : am_K D cy base bn μ h0 p s m args meth c) {idx : Nat} (hf : am_sta μ.2.2.2.2 idx = true) (hd : decode μ.2.1 pc = .ok (.getstatic idx, 3)) (k1 : am_Wf D cy base bn μ h0 p l e s m args below meth c R Q (pc + 3, lo, .ref am_ext :: st, h)) : am_Wf D cy base bn μ h0 p l e s m args below meth c R Q (pc, lo, st, h) := by
  obtain ⟨hx, hb, hml, hown, hts, hr, hlocks, hnm, hU, hsz⟩ := K
  intro H locs ls cells slots hP hS hl hc hs
  have hc : cells + h0.1.length = h.1.length := hc
  have hs : slots + am_ns h0.1 = am_ns h.1 := hs
  simp only [am_sta, Bool.and_eq_true, beq_iff_eq] at hf
  have hw := am_w_sta
  rw [← hf.1, ← hf.2] at hw
  have k2 := k1 H locs ls cells slots hP hS hl hc hs
  have e1 : am_tr base bn (.ref am_ext) = .ref bn := by simp [am_tr]
  have k3 : W p l e R s m args below meth c H locs cells slots Q (F0 m (pc + 3) ls (am_tr base bn (.ref am_ext) :: st.map (am_tr base bn))) := k2
  rw [e1] at k3
  exact va_gets hx hb hU.2.2.2.2.2.1 hS hown (hts _ hw) (fun x hx => hx) hd k3
end
