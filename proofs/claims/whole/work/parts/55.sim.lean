-- THE LITTLE MACHINE IS THE MACHINE: a run of it gives a walk (W), an end of a method gives its contract (Met)
def am_tr (base bn : Nat) : Value → Value
  | .ref b => .ref (if b = am_ext then bn else base + b)
  | v => v
def am_t2 (base bn : Nat) (q : Nat × Value) : Nat × Value := (q.1, am_tr base bn q.2)
def am_fe (base bn : Nat) (g : am_G) (a k : Nat) (v : Value) : Value := match v with
  | .int _ => .int (g.1 a k)
  | .long _ => .long (g.2 a k)
  | v => am_tr base bn v
def am_ce (cy : Nat → ClassId) (base bn : Nat) (g : am_G) (a : Nat) : am_AC → va_E
  | .inl (ci, fs) => .inr (ci, fs.mapIdx (am_fe base bn g a))
  | .inr (bk, n, rs) => if bk = 2 ∨ bk = 3 then .inl (cy bk, n, .inr (.inr (.inr (.inr (fun i => (rs.getD i none).map (fun b => base + b)))))) else .inl (cy bk, n, .inl (g.1 a))
def am_w (cy : Nat → ClassId) (base bn : Nat) (h : am_H) : va_W := h.1.mapIdx (fun a c => (base + a, am_ce cy base bn h.2 a c))
def am_tys (cy : Nat → ClassId) : List (ClassId × FieldType) := [(cy 0, .int), (cy 1, .boolean), (cy 2, .object RX2), (cy 3, .object RX3)]
theorem am_w_at {cy : Nat → ClassId} {base bn : Nat} {h : am_H} {a : Nat} {c : am_AC} (ha : h.1[a]? = some c) : (am_w cy base bn h)[a]? = some (base + a, am_ce cy base bn h.2 a c) := by
  simp [am_w, List.getElem?_mapIdx, ha]
theorem am_w_inv {cy : Nat → ClassId} {base bn : Nat} {h : am_H} {a : Nat} {q : Nat × va_E} (hq : (am_w cy base bn h)[a]? = some q) : ∃ c, h.1[a]? = some c ∧ q = (base + a, am_ce cy base bn h.2 a c) := by
  simp only [am_w, List.getElem?_mapIdx, Option.map_eq_some_iff] at hq
  obtain ⟨c, h1, h2⟩ := hq
  exact ⟨c, h1, h2.symm⟩
theorem am_w_len {cy : Nat → ClassId} {base bn : Nat} {h : am_H} : (am_w cy base bn h).length = h.1.length := by simp [am_w]
theorem am_w_D {cy : Nat → ClassId} {base bn : Nat} {h : am_H} : va_D (fun q => base ≤ q) (am_w cy base bn h) := by
  refine ⟨fun i j p q hp hq e => ?_, fun k q hq => ?_⟩
  · obtain ⟨_, -, rfl⟩ := am_w_inv hp
    obtain ⟨_, -, rfl⟩ := am_w_inv hq
    have e : base + i = base + j := e
    omega
  · obtain ⟨_, -, rfl⟩ := am_w_inv hq
    exact Nat.le_add_right _ _
theorem am_ce_congr {cy : Nat → ClassId} {base bn : Nat} {g g' : am_G} {a : Nat} (h1 : g'.1 a = g.1 a) (h2 : g'.2 a = g.2 a) (c : am_AC) : am_ce cy base bn g' a c = am_ce cy base bn g a c := by
  have e : am_fe base bn g' a = am_fe base bn g a := by
    funext k v
    cases v <;> simp [am_fe, h1, h2]
  rcases c with ⟨ci, fs⟩ | ⟨bk, n, rs⟩
  · simp [am_ce, e]
  · simp [am_ce, h1]
theorem am_w_set {cy : Nat → ClassId} {base bn : Nat} {h h' : am_H} {a : Nat} {c : am_AC} {e : va_E} (ha : a < h.1.length) (hs : h'.1 = h.1.set a c) (hg : ∀ b, b ≠ a → h'.2.1 b = h.2.1 b ∧ h'.2.2 b = h.2.2 b) (he : e = am_ce cy base bn h'.2 a c) :
    (am_w cy base bn h).set a (base + a, e) = am_w cy base bn h' := by
  subst he
  apply List.ext_getElem?
  intro i
  by_cases hi : i = a
  · subst hi
    have h1 : h'.1[i]? = some c := by rw [hs]; simp [ha]
    rw [am_w_at h1, List.getElem?_set_self (by rw [am_w_len]; exact ha)]
  · rw [List.getElem?_set_ne (fun e => hi e.symm)]
    simp only [am_w, List.getElem?_mapIdx, hs, List.getElem?_set_ne (fun e => hi e.symm)]
    cases h.1[i]? with
    | none => rfl
    | some x => simp [am_ce_congr (hg i hi).1 (hg i hi).2]
theorem am_set_same {α : Type} {l : List α} {a : Nat} {c : α} (h : l[a]? = some c) : l = l.set a c := by
  apply List.ext_getElem?
  intro i
  by_cases hi : i = a
  · subst hi
    rw [List.getElem?_set_self (List.getElem?_eq_some_iff.mp h).1, h]
  · rw [List.getElem?_set_ne (fun e => hi e.symm)]
theorem am_w_push {cy : Nat → ClassId} {base bn : Nat} {h : am_H} {g : am_G} {c : am_AC} (hg : ∀ b, b ≠ h.1.length → g.1 b = h.2.1 b ∧ g.2 b = h.2.2 b) :
    am_w cy base bn (h.1 ++ [c], g) = am_w cy base bn h ++ [(base + h.1.length, am_ce cy base bn g h.1.length c)] := by
  apply List.ext_getElem?
  intro i
  rcases Nat.lt_trichotomy i h.1.length with hi | hi | hi
  · rw [List.getElem?_append_left (by rw [am_w_len]; exact hi)]
    simp only [am_w, List.getElem?_mapIdx, List.getElem?_append_left hi]
    cases h.1[i]? with
    | none => rfl
    | some x => simp [am_ce_congr (hg i (by omega)).1 (hg i (by omega)).2]
  · subst hi
    rw [List.getElem?_append_right (by rw [am_w_len]; exact Nat.le_refl _), am_w_len]
    simp [am_w, List.getElem?_mapIdx]
  · rw [List.getElem?_eq_none (by simp [am_w]; omega), List.getElem?_eq_none (by simp [am_w]; omega)]
theorem am_wr_row {g : am_G} {a k : Nat} {v : Int32} : (am_wr g a k v).1 a = upd (g.1 a) k v := by
  funext j
  simp [am_wr, upd]
theorem am_wr_ne {g : am_G} {a k b : Nat} {v : Int32} (h : b ≠ a) : (am_wr g a k v).1 b = g.1 b ∧ (am_wr g a k v).2 b = g.2 b := by
  refine ⟨?_, rfl⟩
  funext j
  simp [am_wr, h]
theorem am_wL_ne {g : am_G} {a k b : Nat} {v : Int64} (h : b ≠ a) : (am_wL g a k v).1 b = g.1 b ∧ (am_wL g a k v).2 b = g.2 b := by
  refine ⟨rfl, ?_⟩
  funext j
  simp [am_wL, h]
theorem am_cp_ne {g : am_G} {a b sp dp n q : Nat} (h : q ≠ b) : (am_cp g a b sp dp n).1 q = g.1 q ∧ (am_cp g a b sp dp n).2 q = g.2 q := by
  refine ⟨?_, rfl⟩
  funext j
  simp [am_cp, h]
theorem am_cp_row {g : am_G} {a b sp dp n : Nat} : (am_cp g a b sp dp n).1 b = va_cpy (g.1 a) (g.1 b) sp dp n := by
  funext j
  simp [am_cp, va_cpy]
theorem am_z_ne {g : am_G} {a b : Nat} (h : b ≠ a) : (am_z g a).1 b = g.1 b ∧ (am_z g a).2 b = g.2 b := by
  refine ⟨?_, ?_⟩ <;> funext j <;> simp [am_z, h]
theorem am_tr_cat (base bn : Nat) (v : Value) : (am_tr base bn v).category = v.category := by cases v <;> rfl
theorem am_cw_tr (base bn : Nat) (st : List Value) : ((st.map (am_tr base bn)).map fun v => v.category).sum = am_cw st := by
  simp only [am_cw, List.map_map]
  congr 2
  funext v
  exact am_tr_cat base bn v
theorem am_in_vp {i : Int32} {n : Nat} (h : am_in i n = true) : vp_in i n := by
  intro q
  simp only [am_in, Bool.not_eq_true', Bool.or_eq_false_iff, decide_eq_false_iff_not] at h
  rcases q with q | q
  · exact h.1 q
  · exact h.2 q
theorem am_lv_get {ls : Array Slot} {nL base bn i : Nat} {lo : List (Nat × Value)} {v : Value} (h : lv_has ls nL (lo.map (am_t2 base bn))) (hg : am_get lo i = some v) : ls[i]? = some (.val (am_tr base bn v)) := by
  simp only [am_get, Option.map_eq_some_iff] at hg
  obtain ⟨q, h1, rfl⟩ := hg
  have h2 := List.mem_of_find?_eq_some h1
  have h3 : q.1 = i := by simpa using List.find?_some h1
  have h4 := h.2.2 (am_t2 base bn q) (List.mem_map.mpr ⟨q, h2, rfl⟩)
  rw [← h3]
  exact h4
theorem am_ins_mem {x q : Nat × Value} {l : List (Nat × Value)} (h : q ∈ am_ins x l) : q = x ∨ q ∈ l := by
  induction l with
  | nil => simp [am_ins] at h; exact Or.inl h
  | cons a t ih =>
    simp only [am_ins] at h
    split at h
    · rcases List.mem_cons.mp h with h | h
      · exact Or.inl h
      · exact Or.inr h
    · rcases List.mem_cons.mp h with h | h
      · exact Or.inr (by rw [h]; exact List.mem_cons_self)
      · rcases ih h with h | h
        · exact Or.inl h
        · exact Or.inr (List.mem_cons_of_mem _ h)
theorem am_lv_set {ls : Array Slot} {nL base bn i : Nat} {lo : List (Nat × Value)} {v w : Value} (hw : w = am_tr base bn v) (h : lv_has ls nL ((i, w) :: (lo.map (am_t2 base bn)).filter (fun q => !(q.1 == i) && !(q.1 + 1 == i && q.2.category == 2)))) : lv_has ls nL ((am_set i v lo).map (am_t2 base bn)) := by
  subst hw
  refine ⟨h.1, h.2.1, fun q hq => ?_⟩
  obtain ⟨x, hx, rfl⟩ := List.mem_map.mp hq
  rcases am_ins_mem hx with rfl | hx
  · exact h.2.2 _ List.mem_cons_self
  · obtain ⟨h1, h2⟩ := List.mem_filter.mp hx
    refine h.2.2 _ (List.mem_cons_of_mem _ (List.mem_filter.mpr ⟨List.mem_map.mpr ⟨x, h1, rfl⟩, ?_⟩))
    simpa [am_keep, am_t2, am_tr_cat] using h2
theorem am_lv_set2 {ls : Array Slot} {nL base bn i : Nat} {lo : List (Nat × Value)} {v w : Value} (hw : w = am_tr base bn v) (h : lv_has ls nL ((i, w) :: (lo.map (am_t2 base bn)).filter (fun q => !(q.1 == i) && (!(q.1 == i + 1) && !(q.1 + 1 == i && q.2.category == 2))))) : lv_has ls nL ((am_set2 i v lo).map (am_t2 base bn)) := by
  subst hw
  refine ⟨h.1, h.2.1, fun q hq => ?_⟩
  obtain ⟨x, hx, rfl⟩ := List.mem_map.mp hq
  rcases am_ins_mem hx with rfl | hx
  · exact h.2.2 _ List.mem_cons_self
  · obtain ⟨h1, h2⟩ := List.mem_filter.mp hx
    refine h.2.2 _ (List.mem_cons_of_mem _ (List.mem_filter.mpr ⟨List.mem_map.mpr ⟨x, h1, rfl⟩, ?_⟩))
    simpa [am_keep2, am_t2, am_tr_cat] using h2
/-- what the tables say at a state -/
def am_U (D : va_G) (cy : Nat → ClassId) (base bn : Nat) (s : State) : Prop :=
  va_K D vwCl (am_tys cy) s ∧ va_AO RX2 s ∧ va_AO RX3 s ∧ (∀ e ∈ am_ctab, (e.2.2.1 = 3 ∨ e.2.2.1 = 4) → ∀ ζ, am_ms[e.2.2.2.1]? = some ζ → va_Nw (.methodLinkNest (am_cn e.1) e.2.1 ζ.1 RX8) s) ∧ base ≤ s.heap.size ∧
  va_Z RX2 "BY_NUMBERS" "[I" (.ref bn) (fun q => base ≤ q) s s.heap ∧ va_T .int bn 7 (fun j => .int (nI j)) (fun q => base ≤ q) s s.heap
def am_rm (d mc ms : Nat) : Room := { frames := d + 1, cells := mc, slots := ms, locals := 200 * (d + 1) }
def am_Pc (D : va_G) (cy : Nat → ClassId) (base bn : Nat) (h : am_H) (as : List Value) : Array Value → State → Prop := va_Pc (as.map (am_tr base bn)) (fun U => U.heap.size = base + h.1.length ∧ va_P D vwCl (am_w cy base bn h) U.heap ∧ am_U D cy base bn U)
def am_Qc (D : va_G) (cy : Nat → ClassId) (base bn : Nat) (h1 : am_H) (r : Option Value) : Array Value → State → Outcome → State → Prop := fun _ st oc t => (oc = .returned (r.map (am_tr base bn)) ∧ va_P D vwCl (am_w cy base bn h1) t.heap) ∧ va_F (fun q => base ≤ q) st t
def am_ws (ζ : am_M) : List Cond := .code ζ.1 ζ.2.1 ζ.2.2.1 ζ.2.2.2.1 :: am_gt
/-- all that the little machine does in d calls' depth, the machine does -/
def am_MT (l : Launch) (d : Nat) : Prop := ∀ z ζ as h h1 r, am_ms[z]? = some ζ → am_Ev d z as h h1 r → h1.1.length ≤ am_ext → ∀ D cy base bn, Met l ζ.1 (am_ws ζ) (am_rm d (h1.1.length - h.1.length) (am_ns h1.1 - am_ns h.1)) (am_Pc D cy base bn h as) (am_Qc D cy base bn h1 r) (h1.1.length - h.1.length) (am_ns h1.1 - am_ns h.1) (fun q => base ≤ q)
theorem am_le_rf (h : am_H) : am_le h h := ⟨Nat.le_refl _, Nat.le_refl _⟩
theorem am_Fin_le {C : Nat → List Value → am_H → am_H → Option Value → Prop} {μ : am_M} : ∀ n f h' r, am_Fin C μ n f h' r → am_le f.2.2.2 h'
  | 0, _, _, _, h => h.elim
  | n + 1, f, h', r, h => by
    rcases h with ⟨lo', -, h⟩ | ⟨f', -, hl, h⟩ | ⟨-, rfl⟩ | ⟨z, as, f', h1, r1, -, -, hl, h⟩
    · exact am_Fin_le n (f.1, lo', f.2.2) h' r h
    · have h2 := am_Fin_le n f' h' r h
      exact ⟨Nat.le_trans hl.1 h2.1, Nat.le_trans hl.2 h2.2⟩
    · exact am_le_rf _
    · have h2 := am_Fin_le n _ h' r h
      exact ⟨Nat.le_trans hl.1 h2.1, Nat.le_trans hl.2 h2.2⟩
/-- the machine stands in the method μ, at depth d, since the heap h0 -/
def am_K (D : va_G) (cy : Nat → ClassId) (base bn : Nat) (μ : am_M) (h0 : am_H) (p : Program) (s : State) (m : MethodId) (args : Array Value) (meth : Method) (c : Code) : Prop :=
  p.tables.exec = Jvm.exec ∧ c.code = μ.2.1 ∧ c.maxLocals = μ.2.2.1 ∧ s.vm.findClass (am_cn μ.2.2.2.2) = some m.cls ∧ (∀ w ∈ am_gt, w.before args s = true) ∧ meth.sig.returnType = μ.2.2.2.1 ∧ meth.locks = false ∧ meth.name = μ.1.name ∧ am_U D cy base bn s ∧ s.heap.size = base + h0.1.length
/-- the walk from a frame of the little machine -/
def am_Wf (D : va_G) (cy : Nat → ClassId) (base bn : Nat) (μ : am_M) (h0 : am_H) (p : Program) (l : Launch) (e : Env) (s : State) (m : MethodId) (args : Array Value) (below : List Frame) (meth : Method) (c : Code) (R : Room) (Q : State → Prop) (f : am_F) : Prop :=
  ∀ H locs ls cells slots, va_P D vwCl (am_w cy base bn f.2.2.2) H → va_S (fun q => base ≤ q) s.heap H locs → lv_has ls μ.2.2.1 (f.2.1.map (am_t2 base bn)) → cells + h0.1.length = f.2.2.2.1.length → slots + am_ns h0.1 = am_ns f.2.2.2.1 →
    W p l e R s m args below meth c H locs cells slots Q (F0 m f.1 ls (f.2.2.1.map (am_tr base bn)))
section
variable {D : va_G} {cy : Nat → ClassId} {base bn : Nat} {μ : am_M} {h0 : am_H} {p : Program} {l : Launch} {e : Env} {s : State} {m : MethodId} {args : Array Value} {below : List Frame} {meth : Method} {c : Code} {R : Room} {Q : State → Prop}
variable {pc : Nat} {lo : List (Nat × Value)} {st : List Value} {h : am_H}
theorem sm_li (K : am_K D cy base bn μ h0 p s m args meth c) {k len : Nat} {x : Int32} (hg : am_get lo k = some (.int x)) (hd : decode μ.2.1 pc = .ok (.iload k, 2)) (k1 : am_Wf D cy base bn μ h0 p l e s m args below meth c R Q (pc + 2, lo, .int x :: st, h)) : am_Wf D cy base bn μ h0 p l e s m args below meth c R Q (pc, lo, st, h) := by
  obtain ⟨hx, hb, hml, hown, hts, hr, hlocks, hnm, hU, hsz⟩ := K
  intro H locs ls cells slots hP hS hl hc hs
  exact lv_iload hx hb hd (am_lv_get hl hg) (k1 H locs ls cells slots hP hS hl hc hs)
theorem sm_lin (K : am_K D cy base bn μ h0 p s m args meth c) {k : Fin 4} {x : Int32} (hg : am_get lo k.val = some (.int x)) (hd : decode μ.2.1 pc = .ok (.iload_n k, 1)) (k1 : am_Wf D cy base bn μ h0 p l e s m args below meth c R Q (pc + 1, lo, .int x :: st, h)) : am_Wf D cy base bn μ h0 p l e s m args below meth c R Q (pc, lo, st, h) := by
  obtain ⟨hx, hb, hml, hown, hts, hr, hlocks, hnm, hU, hsz⟩ := K
  intro H locs ls cells slots hP hS hl hc hs
  exact lv_iload_n hx hb hd rfl (am_lv_get hl hg) (k1 H locs ls cells slots hP hS hl hc hs)
theorem sm_ll (K : am_K D cy base bn μ h0 p s m args meth c) {k : Nat} {x : Int64} (hg : am_get lo k = some (.long x)) (hd : decode μ.2.1 pc = .ok (.lload k, 2)) (k1 : am_Wf D cy base bn μ h0 p l e s m args below meth c R Q (pc + 2, lo, .long x :: st, h)) : am_Wf D cy base bn μ h0 p l e s m args below meth c R Q (pc, lo, st, h) := by
  obtain ⟨hx, hb, hml, hown, hts, hr, hlocks, hnm, hU, hsz⟩ := K
  intro H locs ls cells slots hP hS hl hc hs
  exact lv_lload hx hb hd (am_lv_get hl hg) (k1 H locs ls cells slots hP hS hl hc hs)
theorem sm_lln (K : am_K D cy base bn μ h0 p s m args meth c) {k : Fin 4} {x : Int64} (hg : am_get lo k.val = some (.long x)) (hd : decode μ.2.1 pc = .ok (.lload_n k, 1)) (k1 : am_Wf D cy base bn μ h0 p l e s m args below meth c R Q (pc + 1, lo, .long x :: st, h)) : am_Wf D cy base bn μ h0 p l e s m args below meth c R Q (pc, lo, st, h) := by
  obtain ⟨hx, hb, hml, hown, hts, hr, hlocks, hnm, hU, hsz⟩ := K
  intro H locs ls cells slots hP hS hl hc hs
  exact lv_lload_n hx hb hd rfl (am_lv_get hl hg) (k1 H locs ls cells slots hP hS hl hc hs)
theorem sm_la (K : am_K D cy base bn μ h0 p s m args meth c) {k : Nat} {x : Nat} (hg : am_get lo k = some (.ref x)) (hd : decode μ.2.1 pc = .ok (.aload k, 2)) (k1 : am_Wf D cy base bn μ h0 p l e s m args below meth c R Q (pc + 2, lo, .ref x :: st, h)) : am_Wf D cy base bn μ h0 p l e s m args below meth c R Q (pc, lo, st, h) := by
  obtain ⟨hx, hb, hml, hown, hts, hr, hlocks, hnm, hU, hsz⟩ := K
  intro H locs ls cells slots hP hS hl hc hs
  exact lv_aload hx hb hd (am_lv_get hl hg) (k1 H locs ls cells slots hP hS hl hc hs)
theorem sm_lan (K : am_K D cy base bn μ h0 p s m args meth c) {k : Fin 4} {x : Nat} (hg : am_get lo k.val = some (.ref x)) (hd : decode μ.2.1 pc = .ok (.aload_n k, 1)) (k1 : am_Wf D cy base bn μ h0 p l e s m args below meth c R Q (pc + 1, lo, .ref x :: st, h)) : am_Wf D cy base bn μ h0 p l e s m args below meth c R Q (pc, lo, st, h) := by
  obtain ⟨hx, hb, hml, hown, hts, hr, hlocks, hnm, hU, hsz⟩ := K
  intro H locs ls cells slots hP hS hl hc hs
  exact lv_aload_n hx hb hd rfl (am_lv_get hl hg) (k1 H locs ls cells slots hP hS hl hc hs)
theorem sm_si (K : am_K D cy base bn μ h0 p s m args meth c) {k : Nat} {x : Int32} (hn : k < μ.2.2.1) (hd : decode μ.2.1 pc = .ok (.istore k, 2)) (k1 : am_Wf D cy base bn μ h0 p l e s m args below meth c R Q (pc + 2, am_set k (.int x) lo, st, h)) : am_Wf D cy base bn μ h0 p l e s m args below meth c R Q (pc, lo, .int x :: st, h) := by
  obtain ⟨hx, hb, hml, hown, hts, hr, hlocks, hnm, hU, hsz⟩ := K
  intro H locs ls cells slots hP hS hl hc hs
  exact lv_istore hx hb hd hl hn rfl (fun ls' hl' => k1 H locs ls' cells slots hP hS (am_lv_set rfl hl') hc hs)
theorem sm_sin (K : am_K D cy base bn μ h0 p s m args meth c) {k : Fin 4} {x : Int32} (hn : k.val < μ.2.2.1) (hd : decode μ.2.1 pc = .ok (.istore_n k, 1)) (k1 : am_Wf D cy base bn μ h0 p l e s m args below meth c R Q (pc + 1, am_set k.val (.int x) lo, st, h)) : am_Wf D cy base bn μ h0 p l e s m args below meth c R Q (pc, lo, .int x :: st, h) := by
  obtain ⟨hx, hb, hml, hown, hts, hr, hlocks, hnm, hU, hsz⟩ := K
  intro H locs ls cells slots hP hS hl hc hs
  exact lv_istore_n hx hb hd rfl hl hn rfl (fun ls' hl' => k1 H locs ls' cells slots hP hS (am_lv_set rfl hl') hc hs)
theorem sm_sl (K : am_K D cy base bn μ h0 p s m args meth c) {k : Nat} {x : Int64} (hn : k + 1 < μ.2.2.1) (hd : decode μ.2.1 pc = .ok (.lstore k, 2)) (k1 : am_Wf D cy base bn μ h0 p l e s m args below meth c R Q (pc + 2, am_set2 k (.long x) lo, st, h)) : am_Wf D cy base bn μ h0 p l e s m args below meth c R Q (pc, lo, .long x :: st, h) := by
  obtain ⟨hx, hb, hml, hown, hts, hr, hlocks, hnm, hU, hsz⟩ := K
  intro H locs ls cells slots hP hS hl hc hs
  exact lv_lstore hx hb hd hl hn rfl (fun ls' hl' => k1 H locs ls' cells slots hP hS (am_lv_set2 rfl hl') hc hs)
theorem sm_sln (K : am_K D cy base bn μ h0 p s m args meth c) {k : Fin 4} {x : Int64} (hn : k.val + 1 < μ.2.2.1) (hd : decode μ.2.1 pc = .ok (.lstore_n k, 1)) (k1 : am_Wf D cy base bn μ h0 p l e s m args below meth c R Q (pc + 1, am_set2 k.val (.long x) lo, st, h)) : am_Wf D cy base bn μ h0 p l e s m args below meth c R Q (pc, lo, .long x :: st, h) := by
  obtain ⟨hx, hb, hml, hown, hts, hr, hlocks, hnm, hU, hsz⟩ := K
  intro H locs ls cells slots hP hS hl hc hs
  exact lv_lstore_n hx hb hd rfl hl hn rfl (fun ls' hl' => k1 H locs ls' cells slots hP hS (am_lv_set2 rfl hl') hc hs)
theorem sm_sa (K : am_K D cy base bn μ h0 p s m args meth c) {k : Nat} {x : Nat} (hn : k < μ.2.2.1) (hd : decode μ.2.1 pc = .ok (.astore k, 2)) (k1 : am_Wf D cy base bn μ h0 p l e s m args below meth c R Q (pc + 2, am_set k (.ref x) lo, st, h)) : am_Wf D cy base bn μ h0 p l e s m args below meth c R Q (pc, lo, .ref x :: st, h) := by
  obtain ⟨hx, hb, hml, hown, hts, hr, hlocks, hnm, hU, hsz⟩ := K
  intro H locs ls cells slots hP hS hl hc hs
  exact lv_astore hx hb hd hl hn rfl (fun ls' hl' => k1 H locs ls' cells slots hP hS (am_lv_set rfl hl') hc hs)
theorem sm_san (K : am_K D cy base bn μ h0 p s m args meth c) {k : Fin 4} {x : Nat} (hn : k.val < μ.2.2.1) (hd : decode μ.2.1 pc = .ok (.astore_n k, 1)) (k1 : am_Wf D cy base bn μ h0 p l e s m args below meth c R Q (pc + 1, am_set k.val (.ref x) lo, st, h)) : am_Wf D cy base bn μ h0 p l e s m args below meth c R Q (pc, lo, .ref x :: st, h) := by
  obtain ⟨hx, hb, hml, hown, hts, hr, hlocks, hnm, hU, hsz⟩ := K
  intro H locs ls cells slots hP hS hl hc hs
  exact lv_astore_n hx hb hd rfl hl hn rfl (fun ls' hl' => k1 H locs ls' cells slots hP hS (am_lv_set rfl hl') hc hs)
theorem sm_inc (K : am_K D cy base bn μ h0 p s m args meth c) {k : Nat} {n : Int} {x : Int32} (hn : k < μ.2.2.1) (hg : am_get lo k = some (.int x)) (hd : decode μ.2.1 pc = .ok (.iinc k n, 3)) (k1 : am_Wf D cy base bn μ h0 p l e s m args below meth c R Q (pc + 3, am_set k (.int (x + Int32.ofInt n)) lo, st, h)) : am_Wf D cy base bn μ h0 p l e s m args below meth c R Q (pc, lo, st, h) := by
  obtain ⟨hx, hb, hml, hown, hts, hr, hlocks, hnm, hU, hsz⟩ := K
  intro H locs ls cells slots hP hS hl hc hs
  simp only [am_get, Option.map_eq_some_iff] at hg
  obtain ⟨q, g1, g2⟩ := hg
  obtain ⟨j, hj⟩ := List.getElem?_of_mem (List.mem_of_find?_eq_some g1)
  have g3 : q.1 = k := by simpa using List.find?_some g1
  have g4 : (lo.map (am_t2 base bn))[j]? = some (k, .int x) := by
    rw [List.getElem?_map, hj]
    simp [am_t2, g2, g3, am_tr]
  exact lv_iinc hx hb hd hl g4 rfl hn rfl (fun ls' hl' => k1 H locs ls' cells slots hP hS (am_lv_set rfl hl') hc hs)
theorem sm_jmp {off : Int} {f f' : am_F} (hj : am_jmp pc off lo st h = some (.inl f')) (kk : ∀ tgt : Nat, (pc : Int) + off = (tgt : Int) → am_Wf D cy base bn μ h0 p l e s m args below meth c R Q (tgt, lo, st, h) → am_Wf D cy base bn μ h0 p l e s m args below meth c R Q f) (k1 : am_Wf D cy base bn μ h0 p l e s m args below meth c R Q f') : am_Wf D cy base bn μ h0 p l e s m args below meth c R Q f := by
  unfold am_jmp at hj
  split at hj
  · cases hj
  · rename_i hn
    cases hj
    exact kk _ (by omega) k1
theorem sm_go (K : am_K D cy base bn μ h0 p s m args meth c) {off : Int} {tgt : Nat} (hd : decode μ.2.1 pc = .ok (.goto off, 3)) (ht : (pc : Int) + off = (tgt : Int)) (k1 : am_Wf D cy base bn μ h0 p l e s m args below meth c R Q (tgt, lo, st, h)) : am_Wf D cy base bn μ h0 p l e s m args below meth c R Q (pc, lo, st, h) := by
  obtain ⟨hx, hb, hml, hown, hts, hr, hlocks, hnm, hU, hsz⟩ := K
  intro H locs ls cells slots hP hS hl hc hs
  exact lv_goto hx hb hd ht (k1 H locs ls cells slots hP hS hl hc hs)
theorem sm_icT (K : am_K D cy base bn μ h0 p s m args meth c) {cd : Jvm.ClassFile.Cond} {off : Int} {tgt : Nat} {x y : Int32} (hd : decode μ.2.1 pc = .ok (.if_icmp cd off, 3)) (ht : (pc : Int) + off = (tgt : Int)) (hc0 : am_ci cd x y = true) (k1 : am_Wf D cy base bn μ h0 p l e s m args below meth c R Q (tgt, lo, st, h)) : am_Wf D cy base bn μ h0 p l e s m args below meth c R Q (pc, lo, .int y :: .int x :: st, h) := by
  obtain ⟨hx, hb, hml, hown, hts, hr, hlocks, hnm, hU, hsz⟩ := K
  intro H locs ls cells slots hP hS hl hc hs
  have k2 := k1 H locs ls cells slots hP hS hl hc hs
  cases cd <;> simp only [am_ci, decide_eq_true_eq, Bool.not_eq_true', decide_eq_false_iff_not] at hc0
  · exact lv_icmp_eq hx hb hd ht (fun _ => k2) (fun q => absurd hc0 q)
  · exact lv_icmp_ne hx hb hd ht (fun _ => k2) (fun q => absurd q hc0)
  · exact lv_icmp_lt hx hb hd ht (fun _ => k2) (fun q => absurd hc0 q)
  · exact lv_icmp_ge hx hb hd ht (fun _ => k2) (fun q => absurd hc0 q)
  · exact lv_icmp_gt hx hb hd ht (fun _ => k2) (fun q => absurd hc0 q)
  · exact lv_icmp_le hx hb hd ht (fun _ => k2) (fun q => absurd hc0 q)
theorem sm_icF (K : am_K D cy base bn μ h0 p s m args meth c) {cd : Jvm.ClassFile.Cond} {off : Int} {x y : Int32} (hd : decode μ.2.1 pc = .ok (.if_icmp cd off, 3)) (hc0 : ¬ am_ci cd x y = true) (tgt : Nat) (ht : (pc : Int) + off = (tgt : Int)) (k1 : am_Wf D cy base bn μ h0 p l e s m args below meth c R Q (pc + 3, lo, st, h)) : am_Wf D cy base bn μ h0 p l e s m args below meth c R Q (pc, lo, .int y :: .int x :: st, h) := by
  obtain ⟨hx, hb, hml, hown, hts, hr, hlocks, hnm, hU, hsz⟩ := K
  intro H locs ls cells slots hP hS hl hc hs
  have k2 := k1 H locs ls cells slots hP hS hl hc hs
  cases cd <;> simp only [am_ci, decide_eq_true_eq, Bool.not_eq_true', decide_eq_false_iff_not] at hc0
  · exact lv_icmp_eq hx hb hd ht (fun q => absurd q hc0) (fun _ => k2)
  · exact lv_icmp_ne hx hb hd ht (fun q => absurd q hc0) (fun _ => k2)
  · exact lv_icmp_lt hx hb hd ht (fun q => absurd q hc0) (fun _ => k2)
  · exact lv_icmp_ge hx hb hd ht (fun q => absurd q hc0) (fun _ => k2)
  · exact lv_icmp_gt hx hb hd ht (fun q => absurd q hc0) (fun _ => k2)
  · exact lv_icmp_le hx hb hd ht (fun q => absurd q hc0) (fun _ => k2)
theorem sm_ifT (K : am_K D cy base bn μ h0 p s m args meth c) {cd : Jvm.ClassFile.Cond} {off : Int} {tgt : Nat} {x : Int32} (hd : decode μ.2.1 pc = .ok (.ifCond cd off, 3)) (ht : (pc : Int) + off = (tgt : Int)) (hc0 : am_ci cd x 0 = true) (k1 : am_Wf D cy base bn μ h0 p l e s m args below meth c R Q (tgt, lo, st, h)) : am_Wf D cy base bn μ h0 p l e s m args below meth c R Q (pc, lo, .int x :: st, h) := by
  obtain ⟨hx, hb, hml, hown, hts, hr, hlocks, hnm, hU, hsz⟩ := K
  intro H locs ls cells slots hP hS hl hc hs
  have k2 := k1 H locs ls cells slots hP hS hl hc hs
  cases cd <;> simp only [am_ci, decide_eq_true_eq, Bool.not_eq_true', decide_eq_false_iff_not] at hc0
  · exact lv_if_eq hx hb hd ht (fun _ => k2) (fun q => absurd hc0 q)
  · exact lv_if_ne hx hb hd ht (fun _ => k2) (fun q => absurd q hc0)
  · exact lv_if_lt hx hb hd ht (fun _ => k2) (fun q => absurd hc0 q)
  · exact lv_if_ge hx hb hd ht (fun _ => k2) (fun q => absurd hc0 q)
  · exact lv_if_gt hx hb hd ht (fun _ => k2) (fun q => absurd hc0 q)
  · exact lv_if_le hx hb hd ht (fun _ => k2) (fun q => absurd hc0 q)
theorem sm_ifF (K : am_K D cy base bn μ h0 p s m args meth c) {cd : Jvm.ClassFile.Cond} {off : Int} {x : Int32} (hd : decode μ.2.1 pc = .ok (.ifCond cd off, 3)) (hc0 : ¬ am_ci cd x 0 = true) (tgt : Nat) (ht : (pc : Int) + off = (tgt : Int)) (k1 : am_Wf D cy base bn μ h0 p l e s m args below meth c R Q (pc + 3, lo, st, h)) : am_Wf D cy base bn μ h0 p l e s m args below meth c R Q (pc, lo, .int x :: st, h) := by
  obtain ⟨hx, hb, hml, hown, hts, hr, hlocks, hnm, hU, hsz⟩ := K
  intro H locs ls cells slots hP hS hl hc hs
  have k2 := k1 H locs ls cells slots hP hS hl hc hs
  cases cd <;> simp only [am_ci, decide_eq_true_eq, Bool.not_eq_true', decide_eq_false_iff_not] at hc0
  · exact lv_if_eq hx hb hd ht (fun q => absurd q hc0) (fun _ => k2)
  · exact lv_if_ne hx hb hd ht (fun q => absurd q hc0) (fun _ => k2)
  · exact lv_if_lt hx hb hd ht (fun q => absurd q hc0) (fun _ => k2)
  · exact lv_if_ge hx hb hd ht (fun q => absurd q hc0) (fun _ => k2)
  · exact lv_if_gt hx hb hd ht (fun q => absurd q hc0) (fun _ => k2)
  · exact lv_if_le hx hb hd ht (fun q => absurd q hc0) (fun _ => k2)
end
