-- THE LAW, over the little machine
/-- what holds all through the law's body -/
def lw_K (D : va_G) (cy : Nat → ClassId) (bn : Nat) (p : Program) (s : State) (m : MethodId) (meth : Method) (c : Code) (b L : Nat) (xs : Nat → Int32) : Prop :=
  p.tables.exec = Jvm.exec ∧ c.code = code ∧ meth.sig.returnType = ret ∧ c.maxLocals = 4 ∧ s.vm.findClass RL = some m.cls ∧ (∀ w ∈ am_gt, w.before #[Value.ref b] s = true) ∧ va_X b L xs s s.heap ∧ b < s.heap.size ∧ meth.locks = false ∧ am_U D cy s.heap.size bn s
/-- the world of the two objects -/
def lw_W (D : va_G) (cy : Nat → ClassId) (bn : Nat) (s : State) (g : am_G) (H : Heap) (locs : List Loc) : Prop := va_P D vwCl (am_w cy s.heap.size bn (sh0, g)) H ∧ va_S (fun q => s.heap.size ≤ q) s.heap H locs
theorem am_met0 {l : Launch} {d z : Nat} {ζ : am_M} {as : List Value} {g g' : am_G} {r : Option Value} (hz : am_ms[z]? = some ζ) (hE : am_Ev d z as (sh0, g) (sh0, g') r) (D : va_G) (cy : Nat → ClassId) (base bn : Nat) : Met l ζ.1 (am_ws ζ) (am_rm d 0 0) (am_Pc D cy base bn (sh0, g) as) (am_Qc D cy base bn (sh0, g') r) 0 0 (fun q => base ≤ q) := by
  have h := am_all l d z ζ as (sh0, g) (sh0, g') r hz hE (by show sh0.length ≤ am_ext; decide +kernel) D cy base bn
  have e1 : (sh0, g').1.length - (sh0, g).1.length = 0 := Nat.sub_self _
  have e2 : am_ns (sh0, g').1 - am_ns (sh0, g).1 = 0 := Nat.sub_self _
  rw [e1, e2] at h
  exact h
section
variable {D : va_G} {cy : Nat → ClassId} {bn : Nat} {p : Program} {l : Launch} {e : Env} {s : State} {m : MethodId} {below : List Frame} {meth : Method} {c : Code} {b L : Nat} {xs : Nat → Int32} {Q : State → Prop}
theorem lw_call (K : lw_K D cy bn p s m meth c b L xs) {pc idx z n b0 cb : Nat} {ζ : am_M} {fs : List Value} {as : List Value} {g g' : am_G} {r : Option Value} {H : Heap} {locs : List Loc} {ls : Array Slot} {st0 rest : List Value} (hW : lw_W D cy bn s g H locs) (hls : ls.size = 4) (hz : am_ms[z]? = some ζ) (hb0 : sh0[b0]? = some (.inl (cb, fs))) (hcb : cb = ζ.2.2.2.2) (hcb10 : cb < 10) (hbe : b0 ≠ am_ext)
    (w1 : Cond.methodLink RL idx ζ.1 ∈ am_gt) (w2 : Cond.instanceMethod ζ.1 ∈ am_gt) (w3 : Cond.selects ζ.1.cls ζ.1 ζ.1 ∈ am_gt) (hn : (parseMethodDescriptor ζ.1.desc).map (fun d => d.parameters.length) = some n) (hE : am_Ev 60 z (.ref b0 :: as) (sh0, g) (sh0, g') r) (hal : as.length = n) (hst : st0 = (as.map (am_tr s.heap.size bn)).reverse ++ .ref (s.heap.size + b0) :: rest) (hcw : (rest.map fun v => v.category).sum ≤ 8) (hdg : decode code pc = .ok (.invokevirtual idx, 3))
    (kk : ∀ (H1 : Heap) (locs1 : List Loc), lw_W D cy bn s g' H1 locs1 → W p l e room_1 s m #[Value.ref b] below meth c H1 locs1 232 3074 Q (F0 m (pc + 3) ls ((r.map (am_tr s.heap.size bn)).toList ++ rest))) : W p l e room_1 s m #[Value.ref b] below meth c H locs 232 3074 Q (F0 m pc ls st0) := by
  obtain ⟨hx, hb, hr, hml, hown, hts, hX, hbl, hlocks, hU⟩ := K
  obtain ⟨hP, hS⟩ := hW
  subst hst
  have hM := am_met0 (l := l) hz hE D cy s.heap.size bn
  obtain ⟨v1, v2, v3, v4, v5, v6⟩ := am_mok_spec hz
  have hcB := am_w_at (cy := cy) (base := s.heap.size) (bn := bn) (h := (sh0, g)) hb0
  rw [am_ce_obj] at hcB
  refine W.size (fun hsz => ?_)
  have hzz : H.size = s.heap.size + (sh0, g).1.length := am_size (h0 := ([], g)) (h := (sh0, g)) (cells := 232) hP hS (by simp) (by show 232 + 0 = sh0.length; decide +kernel) hsz
  refine sm_back (D := D) (cy := cy) (base := s.heap.size) (bn := bn) (h1 := (sh0, g')) (r := r) (mc := 0) (ms := 0) (a := ((.ref (s.heap.size + b0) :: as.map (am_tr s.heap.size bn)) : List Value).toArray) hS (va_runV (C := ζ.1.cls) (bytes := ζ.2.1) (maxL := ζ.2.2.1) (ret := ζ.2.2.2.1) (b := s.heap.size + b0) (As := as.map (am_tr s.heap.size bn)) (n := n) (index := idx) ⟨hx, hb, hml, hown, hts⟩ hM ?_ ⟨am_blind, ?_, ?_⟩ rfl (by simp [hal]) hls rfl (lv_room hcw) hdg ⟨by decide, by decide⟩) (fun H1 locs1 hP1 hS1 => kk H1 locs1 ⟨hP1, hS1⟩)
  · refine cwV (Ts := am_gt) n hts (am_gt_good (fun w hw => ?_)) rfl rfl rfl ⟨rfl, v5, v6, hn⟩ ⟨?_, ?_⟩
    · rcases List.mem_append.mp hw with hw | hw
      · simp only [List.mem_cons, List.not_mem_nil, or_false] at hw
        rcases hw with rfl | rfl | rfl | rfl
        · exact w1
        · exact w2
        · exact w3
        · exact v1
      · exact am_ws_good hz w hw
    · show 60 + 1 + 1 ≤ 2048; omega
    · show 8 + (ζ.2.2.1 + 11) + 200 * (60 + 1) ≤ 84000; omega
  · obtain ⟨cell, g1, g2, g3⟩ := va_recv hU.1 hP (am_clok hcb10) hcB
    exact ⟨cell, g1, g2, by rw [v3, ← hcb]; exact g3⟩
  · intro U hUh hWm
    refine ⟨?_, ?_, by rw [hUh]; exact hP, am_U_moved hU hUh hWm hS⟩
    · simp [am_tr, hbe]
    · rw [hUh]; exact hzz
end
