def R_law : String := "TentBearersLaw"
def lw_P (b : Addr) (xs : List Int32) (args : Array Value) (s : State) : Prop := args = #[.ref b] ∧ s.IntsAt b xs ∧ xs.length ≤ 320 ∧ (Jvm.Cond.and given_1 narrow_1).before args s = true
def lw_Q (_ : Array Value) (s : State) (o : Outcome) (t : State) : Prop := o = .returned (some (.int 1)) ∧ Framed s o t [] 600000 7302250
def lw_Z (below : List Frame) (a : Array Value) (s : State) : State → Prop := fun t => ∃ o, t.status = .running ∧ Ended t below o ∧ lw_Q a s o t
/-- the law's own end, with 1 on the stack, nothing written that was there before, its room as the claim has it -/
theorem lw_ret {p : Program} {l : Launch} {e : Env} {s : State} {m : MethodId} {below : List Frame} {meth : Method} {c : Code} {b : Nat} (hx : p.tables.exec = Jvm.exec) (hb : c.code = code) (hr : meth.sig.returnType = ret) (hlocks : meth.locks = false) {pc : Nat} {H : Heap} {ls : Array Slot} (hdg : decode code pc = .ok (.ireturn, 1)) : W p l e room_1 s m #[Value.ref b] below meth c H [] 600000 7302250 (lw_Z below #[Value.ref b] s) (F0 m pc ls [.int 1]) := by
  intro T hT X
  obtain ⟨fs, hret, hrun, hended, hW, hframe⟩ := X.leave (v := some (.int 1)) (hlocks := hlocks) (fun h => by rw [hr] at h; cases h)
  have hmeth' : T.vm.method? m = some meth := X.method'
  refine ⟨T.setFrames fs, ?_, .returned (some (.int 1)), hrun, hended, rfl, ⟨_, rfl⟩, hW, hframe⟩
  jvm_step X.here [X.here.top, hx, hb, hdg, hmeth', hr, ret, narrow_b1]
  (try refine ⟨rfl, ?_⟩); (try refine ⟨rfl, ?_⟩)
  first | (intro acts; rw [hret _ acts rfl rfl rfl]) | rw [hret _ _ rfl rfl rfl]
  exact Steps.refl _
/-- what holds at the law's entry: the machine, the code, the tables' words (any of lw_tbl by 'hts w (by decide +kernel)'), the script of L ints xs at the cell b, what the Statement gives of the start (any of its parts by flat_of_before) -/
def lw_At (p : Program) (s : State) (m : MethodId) (meth : Method) (c : Code) (b L : Nat) (xs : Nat → Int32) : Prop :=
  p.tables.exec = Jvm.exec ∧ c.code = code ∧ meth.sig.returnType = ret ∧ c.maxLocals = 4 ∧ s.vm.findClass R_law = some m.cls ∧ (∀ w ∈ lw_tbl, w.before #[Value.ref b] s = true) ∧ va_X b L xs s s.heap ∧ b < s.heap.size ∧ meth.locks = false ∧ (Jvm.Cond.and given_1 narrow_1).before #[Value.ref b] s = true
-- the law from its entry, over an invariant
theorem st_zr : zr gT 221 := by
  intro a ha k
  have h1 : a ≠ 81 := by omega
  have h2 : a ≠ 121 := by omega
  simp [gT, gz, am_wr, am_wL, h1, h2]
theorem st_z1 : am_z gz 0 = gz := by
  unfold am_z gz
  ext <;> simp
theorem st_z2 : am_z gT 221 = gT := by
  have h := st_zr 221 (Nat.le_refl _)
  unfold am_z
  ext1
  · funext a k
    show (if a = 221 then 0 else gT.1 a k) = gT.1 a k
    split
    · rename_i q; subst q; exact (h k).1.symm
    · rfl
  · funext a k
    show (if a = 221 then 0 else gT.2 a k) = gT.2 a k
    split
    · rename_i q; subst q; exact (h k).2.symm
    · rfl
theorem st_n1 : am_new ([], gz) 8 = ([.inl (8, [.null, .null, .null, .null, .null, .null, .null, .null, .null, .null, .long 0])], gz) := by
  show (([] : List am_AC) ++ [.inl (8, am_def 8)], am_z gz 0) = _
  rw [st_z1]
  rfl
theorem st_ln : shT.length = 221 := by rw [shT_ok]; decide +kernel
theorem st_n2 : am_new (shT, gT) 9 = (shT ++ [.inl (9, [.long 0, .null, .int 0, .null, .null, .null, .null, .null, .null, .int 0, .int 0, .int 0, .int 0, .int 0, .null, .null, .null])], gT) := by
  show (shT ++ [.inl (9, am_def 9)], am_z gT shT.length) = _
  rw [st_ln, st_z2]
  rfl
theorem st_s1 : am_ns sh0 = 3074 := by decide +kernel
theorem st_s0 : am_ns shT ≤ 3000 := by rw [shT_ok]; decide +kernel
theorem st_m1 : am_ms[79]? = some mX8_init := by rfl
theorem st_m2 : am_ms[118]? = some mX9_init := by rfl
theorem st_w1 : Cond.classLink RL 7 (am_cn 8) ∈ am_gt := am_in_gt (i := 81) (by decide +kernel) rfl
theorem st_w2 : Cond.initialized (am_cn 8) ∈ am_gt := am_in_gt (i := 69) (by decide +kernel) rfl
theorem st_w3 : Cond.methodLink RL 9 mX8_init.1 ∈ am_gt := am_in_gt (i := 83) (by decide +kernel) rfl
theorem st_w4 : Cond.instanceMethod mX8_init.1 ∈ am_gt := am_in_gt (i := 84) (by decide +kernel) rfl
theorem st_w5 : Cond.classLink RL 10 (am_cn 9) ∈ am_gt := am_in_gt (i := 951) (by decide +kernel) rfl
theorem st_w6 : Cond.initialized (am_cn 9) ∈ am_gt := am_in_gt (i := 78) (by decide +kernel) rfl
theorem st_w7 : Cond.methodLink RL 12 mX9_init.1 ∈ am_gt := am_in_gt (i := 953) (by decide +kernel) rfl
theorem st_w8 : Cond.instanceMethod mX9_init.1 ∈ am_gt := am_in_gt (i := 954) (by decide +kernel) rfl
set_option maxHeartbeats 4000000 in
set_option maxRecDepth 100000 in
theorem whole_of {I : am_G → Prop} (hsp : Sp_all I) {w : am_G × Bool} {g2 : am_G} (h1 : Mo_reads gT = some w) (h2 : Mo_tells w.1 = some g2) (hI : I g2) {p : Program} {e : Env} {s : State} {m : MethodId} {below : List Frame} {meth : Method} {c : Code} (l : Launch) {b L : Nat} {xs : Nat → Int32} (hL : L ≤ 320) (C0 : lw_At p s m meth c b L xs) : W p l e room_1 s m #[Value.ref b] below meth c s.heap [] 0 0 (lw_Z below #[Value.ref b] s) (entryFrame m ([Value.ref b] : List Value).toArray 4) := by
  obtain ⟨hx, hb, hr, hml, hown, hts, hX, hbl, hlocks, hgv⟩ := id C0
  obtain ⟨D, cy, bn, hU⟩ := st_U hts hgv
  have K : lw_K D cy bn p s m meth c b L xs := ⟨hx, hb, hr, hml, hown, fun w hw => hts w (List.mem_filter.mp hw).1, hX, hbl, hlocks, hU⟩
  have hS : va_S (fun q : Nat => s.heap.size ≤ q) s.heap s.heap [] := va_S.rf
  have hP : va_P D vwCl (am_w cy s.heap.size bn ([], gz)) s.heap := fun k q h => by simp [am_w] at h
  have hl := lv_entry ([.ref b]) (n := 4) (Nat.le_of_ble_eq_true rfl)
  rw [lg_entry_eq]
  generalize (lg_sl ([.ref b]) ++ List.replicate (4 - (lg_sl ([.ref b])).length) Slot.unset).toArray = ls at hl ⊢
  have hl : lv_has ls 4 [(0, .ref b)] := hl
  refine lw_new (h := ([], gz)) (ci := 8) K hP hS st_w1 (st_inst (by decide)) st_w2 (by decide) ⟨by simp, by show 0 + 11 ≤ _; omega⟩ dL_law_0 (fun H hP hS => ?_)
  rw [st_n1] at hP
  refine lv_dup hx hb dL_law_3 rfl ?_
  refine lw_init (b0 := 0) (h1 := (shT, gT)) (rest := [.ref (s.heap.size + 0)]) K hP hS hl.1 st_m1 rfl rfl st_w3 st_w4 (by decide +kernel) ct_TentBearers (by decide) (by decide) (by show shT.length ≤ _; rw [st_ln]; decide) ⟨by show 1 ≤ shT.length; rw [st_ln]; decide, by show am_ns _ ≤ am_ns shT; rw [shT_ok]; decide +kernel⟩ ⟨by show shT.length ≤ _; rw [st_ln]; decide, by have := st_s0; show am_ns shT ≤ _; omega⟩ (Nat.le_of_ble_eq_true rfl) dL_law_4 rfl rfl (fun H locs hP hS => ?_)
  refine lv_astore_n (i := 1) hx hb dL_law_7 rfl hl (by decide) rfl (fun ls hl => ?_)
  refine lw_new (h := (shT, gT)) (ci := 9) K hP hS st_w5 (st_inst (by decide)) st_w6 (by decide) ⟨by show shT.length + 1 ≤ _; rw [st_ln]; decide, by have := st_s0; show am_ns shT + 17 ≤ _; omega⟩ dL_law_8 (fun H hP hS => ?_)
  rw [st_n2] at hP
  have e1 : (shT, gT).1.length = 221 := st_ln
  refine lv_dup hx hb dL_law_11 rfl ?_
  rw [e1]
  refine lw_init (b0 := 221) (h1 := (sh0, g2)) (rest := [.ref (s.heap.size + 221)]) K hP hS hl.1 st_m2 rfl rfl st_w7 st_w8 (by decide +kernel) (ct_Model st_zr h1 h2) (by decide) (by decide) (by show sh0.length ≤ _; decide +kernel) ⟨by show (shT ++ _).length ≤ sh0.length; rw [shT_ok]; decide +kernel, by show am_ns (shT ++ _) ≤ am_ns sh0; rw [shT_ok]; decide +kernel⟩ ⟨by show sh0.length ≤ _; decide +kernel, by have := st_s1; show am_ns sh0 ≤ _; omega⟩ (Nat.le_of_ble_eq_true rfl) dL_law_12 (by show 222 = (shT ++ _).length; simp [st_ln]) (by show am_ns shT + 17 = am_ns (shT ++ _); rw [am_ns_app]; rfl) (fun H locs hP hS => ?_)
  have e2 : (sh0, g2).1.length = 232 := by show sh0.length = 232; decide +kernel
  have e3 : am_ns (sh0, g2).1 = 3074 := st_s1
  rw [e2, e3]
  refine lv_astore_n (i := 2) hx hb dL_law_15 rfl hl (by decide) rfl (fun ls hl => ?_)
  refine lv_iconst (v := 0) hx hb dL_law_16 (by decide) ?_
  refine lv_istore_n (i := 3) hx hb dL_law_17 rfl hl (by decide) rfl (fun ls hl => ?_)
  exact lw_loop hsp K hL (fun H ls => lv_iconst (v := 1) hx hb dL_law_845 (by decide) (lw_ret hx hb hr hlocks dL_law_846)) L 0 g2 H locs ls (by omega) (by omega) hI ⟨hP, hS⟩ (lv_sub hl [3, 2, 1, 0] rfl)
