-- THE LAW'S BEGINNING: the two objects made; the tables' words at its entry
def st_ix : List Nat := [340, 388, 239, 232, 213, 120, 90, 303, 82, 952]
theorem st_inst_ok : (List.range 10).all (fun ci => decide (lw_tbl[st_ix.getD ci 0]? = some (.instantiable (am_cn ci) (am_N ci)))) = true := by decide +kernel
theorem st_inst {ci : Nat} (h : ci < 10) : Cond.instantiable (am_cn ci) (am_N ci) ∈ am_gt := by
  have := List.all_eq_true.mp st_inst_ok ci (List.mem_range.mpr h)
  exact am_in_gt (by simpa using this) rfl
theorem st_U {s : State} {b : Nat} (hts : ∀ w ∈ lw_tbl, w.before #[Value.ref b] s = true) (hgv : (Jvm.Cond.and given_1 narrow_1).before #[Value.ref b] s = true) : ∃ (D : va_G) (cy : Nat → ClassId) (bn : Nat), am_U D cy s.heap.size bn s := by
  have htg : ∀ w ∈ am_gt, w.before #[Value.ref b] s = true := fun w hw => hts w (List.mem_filter.mp hw).1
  have hA : ∀ a : Nat, a < s.heap.size → ¬ (fun q : Nat => s.heap.size ≤ q) a := fun a ha h => Nat.not_le.mpr ha h
  have hcl : ∀ ci : Nat, ∃ r : ClassId × (Nat → Nat), ci < 10 → u_Kn s (am_cn ci) (am_T ci) (am_N ci) r.1 r.2 := by
    intro ci
    by_cases h : ci < 10
    · obtain ⟨cC, iS, h1⟩ := u_known htg (am_lay h) (htg _ (st_inst h))
      exact ⟨(cC, iS), fun _ => h1⟩
    · exact ⟨(0, fun _ => 0), fun q => absurd q h⟩
  obtain ⟨r, hr⟩ := Classical.skolem.mp hcl
  obtain ⟨c0, k0, m0, a1, a2, a3⟩ := Cond.arrayClass_spec (htg _ am_w_ai)
  obtain ⟨c1, k1, m1, b1, b2, b3⟩ := Cond.arrayClass_spec (htg _ am_w_az)
  have hoC := hts _ (List.mem_of_getElem? am_w_aoC)
  have hoJ := hts _ (List.mem_of_getElem? am_w_aoJ)
  obtain ⟨m2, c2, k2, d1, d2, d3, d4, d5⟩ := Cond.arrayOver_spec hoC
  obtain ⟨m3, c3, k3, e1, e2, e3, e4, e5⟩ := Cond.arrayOver_spec hoJ
  have hs := flat_of_before _ hgv
  have harr : (Cond.arrayOf (.static "TentBearers$Camp" "BY_NUMBERS" "[I") .int).before #[Value.ref b] s = true := hs _ (by decide +kernel)
  have hlen : (Term.length (.static "TentBearers$Camp" "BY_NUMBERS" "[I")).eval #[Value.ref b] s none [] s = some (.int (Int32.ofNat 7)) := va_eqt (z := 7) (hs _ (by decide +kernel))
  have hel : ∀ j : Nat, j < 7 → (Term.elem (.static "TentBearers$Camp" "BY_NUMBERS" "[I") (.int (Int32.ofNat j))).eval #[Value.ref b] s none [] s = some (.int (nI j)) := by
    intro j hj
    rcases (show j = 0 ∨ j = 1 ∨ j = 2 ∨ j = 3 ∨ j = 4 ∨ j = 5 ∨ j = 6 by omega) with rfl | rfl | rfl | rfl | rfl | rfl | rfl
    · exact va_eqt (z := 0) (hs _ (by decide +kernel))
    · exact va_eqt (z := 1) (hs _ (by decide +kernel))
    · exact va_eqt (z := 2) (hs _ (by decide +kernel))
    · exact va_eqt (z := 3) (hs _ (by decide +kernel))
    · exact va_eqt (z := 4) (hs _ (by decide +kernel))
    · exact va_eqt (z := 5) (hs _ (by decide +kernel))
    · exact va_eqt (z := 6) (hs _ (by decide +kernel))
  obtain ⟨bn, hbn, hT⟩ := va_Tof (ty := .int) (N := 7) (f := fun j => .int (nI j)) (A := fun q : Nat => s.heap.size ≤ q) (by decide) harr hlen hel hA
  refine ⟨(fun ci => (r ci).1, fun ci => (r ci).2), fun k => match k with | 0 => c0 | 1 => c1 | 2 => c2 | _ => c3, bn, ⟨fun c q hq => ?_, fun k q hk => ?_⟩, va_AO.of hoC, va_AO.of hoJ, fun q hq hk ζ hζ => ?_, Nat.le_refl _, ?_, hT⟩
  · have hc : c < 10 := (List.getElem?_eq_some_iff.mp hq).1
    rw [am_clok hc] at hq
    cases hq
    exact hr c hc
  · match k, hk with
    | 0, hk => cases hk; exact ⟨fun n z => ⟨fun k h => (by cases h), k0, a2, m0, a3⟩, a1⟩
    | 1, hk => cases hk; exact ⟨fun n z => ⟨fun k h => (by cases h), k1, b2, m1, b3⟩, b1⟩
    | 2, hk => cases hk; exact ⟨fun n z => ⟨fun k h => (by cases h), k2, d3, m2, d4⟩, k2, m2, d3, d4, d1, d5⟩
    | 3, hk => cases hk; exact ⟨fun n z => ⟨fun k h => (by cases h), k3, e3, m3, e4⟩, k3, m3, e3, e4, e1, e5⟩
    | k + 4, hk => simp [am_tys] at hk
  · have h1 := List.all_eq_true.mp am_ctab_ok q hq
    unfold am_cok at h1
    rw [hζ] at h1
    refine va_Nw.of rfl (hts _ ?_)
    rcases hk with hk | hk
    · rw [hk] at h1
      simp only [Bool.and_eq_true, decide_eq_true_eq] at h1
      exact List.mem_of_getElem? h1.2.1
    · rw [hk] at h1
      simp only [Bool.and_eq_true, decide_eq_true_eq] at h1
      exact List.mem_of_getElem? h1.2.1
  · exact va_Zref (hts _ (List.mem_of_getElem? am_w_ls)) (htg _ (am_cln_ok (own := 3) (idx := 9) (ci := 2) rfl).2.2.1) hbn hA
section
variable {D : va_G} {cy : Nat → ClassId} {bn : Nat} {p : Program} {l : Launch} {e : Env} {s : State} {m : MethodId} {below : List Frame} {meth : Method} {c : Code} {b L : Nat} {xs : Nat → Int32} {Q : State → Prop}
theorem lw_new (K : lw_K D cy bn p s m meth c b L xs) {h : am_H} {pc idx ci : Nat} {H : Heap} {locs : List Loc} {ls : Array Slot} {rest : List Value} (hP : va_P D vwCl (am_w cy s.heap.size bn h) H) (hS : va_S (fun q => s.heap.size ≤ q) s.heap H locs) (w1 : Cond.classLink RL idx (am_cn ci) ∈ am_gt) (w2 : Cond.instantiable (am_cn ci) (am_N ci) ∈ am_gt) (w3 : Cond.initialized (am_cn ci) ∈ am_gt) (w4 : ci < 10) (hR : h.1.length + 1 ≤ 600000 ∧ am_ns h.1 + am_N ci ≤ 7302250) (hd : decode code pc = .ok (.new idx, 3))
    (kk : ∀ H1 : Heap, va_P D vwCl (am_w cy s.heap.size bn (am_new h ci)) H1 → va_S (fun q => s.heap.size ≤ q) s.heap H1 locs → W p l e room_1 s m #[Value.ref b] below meth c H1 locs (h.1.length + 1) (am_ns h.1 + am_N ci) Q (F0 m (pc + 3) ls (.ref (s.heap.size + h.1.length) :: rest))) : W p l e room_1 s m #[Value.ref b] below meth c H locs h.1.length (am_ns h.1) Q (F0 m pc ls rest) := by
  obtain ⟨hx, hb, hr, hml, hown, hts, hX, hbl, hlocks, hU⟩ := K
  refine W.size (fun hz => ?_)
  have hzz : H.size = s.heap.size + h.1.length := am_size (h0 := ([], h.2)) (h := h) (cells := h.1.length) hP hS (by simp) (by simp) hz
  have hKn := hU.1.1 ci _ (am_clok w4)
  refine W.newcK hx hb hown (hts _ w1) (hts _ w2) (hts _ w3) rfl hd hR.1 hR.2 hKn.2.1 hzz fun H1 kC hkC e1 z1 o1 => ?_
  have hk : ∀ (k : Nat) (x : Nat × va_E), (am_w cy s.heap.size bn h)[k]? = some x → H1[x.1]? = H[x.1]? := fun k x hx => o1 x.1 (by rw [← hzz]; exact (hP k x hx).lt)
  refine kk H1 ?_ ⟨by have := hS.1; omega, fun x h1 h2 => (o1 x (by have := hS.1; omega)).trans (hS.2.1 x h1 h2), hS.2.2⟩
  show va_P D vwCl (am_w cy s.heap.size bn (h.1 ++ [.inl (ci, am_def ci)], am_z h.2 h.1.length)) H1
  rw [am_w_push (fun b hb => am_z_ne hb), am_def_ce (am_z_0 _ _)]
  refine (hP.kept hk).app (fun k x hx => ?_)
  have hz1 : k < 1 := (List.getElem?_eq_some_iff.mp hx).1
  rw [show k = 0 by omega] at hx
  cases hx
  refine ⟨_, am_clok w4, (u_born (am_ty ci) hts (am_lay w4) hKn hkC e1 (am_tyok w4)).to (fun j hj => ?_)⟩
  rw [vp_V, List.getD_eq_getElem?_getD, am_def_at hj]
  rfl
theorem lw_init (K : lw_K D cy bn p s m meth c b L xs) {h h1 : am_H} {pc idx z b0 d : Nat} {ζ : am_M} {H : Heap} {locs : List Loc} {ls : Array Slot} {rest : List Value} (hP : va_P D vwCl (am_w cy s.heap.size bn h) H) (hS : va_S (fun q => s.heap.size ≤ q) s.heap H locs) (hls : ls.size = 4) (hz : am_ms[z]? = some ζ) (hret : ζ.2.2.2.1 = none) (hnm : ζ.1.name = "<init>") (w1 : Cond.methodLink RL idx ζ.1 ∈ am_gt) (w2 : Cond.instanceMethod ζ.1 ∈ am_gt) (hn : (parseMethodDescriptor ζ.1.desc).map (fun d => d.parameters.length) = some 0) (hE : am_Ev d z [.ref b0] h h1 none) (hbe : b0 ≠ am_ext) (hd6 : d ≤ 60) (hsm : h1.1.length ≤ am_ext) (hle : h.1.length ≤ h1.1.length ∧ am_ns h.1 ≤ am_ns h1.1) (hR : h1.1.length ≤ 600000 ∧ am_ns h1.1 ≤ 7302250) (hcw : (rest.map fun v => v.category).sum ≤ 8) (hdg : decode code pc = .ok (.invokespecial idx, 3)) {cells slots : Nat} (hc : cells = h.1.length) (hs : slots = am_ns h.1)
    (kk : ∀ (H1 : Heap) (locs1 : List Loc), va_P D vwCl (am_w cy s.heap.size bn h1) H1 → va_S (fun q => s.heap.size ≤ q) s.heap H1 locs1 → W p l e room_1 s m #[Value.ref b] below meth c H1 locs1 h1.1.length (am_ns h1.1) Q (F0 m (pc + 3) ls rest)) : W p l e room_1 s m #[Value.ref b] below meth c H locs cells slots Q (F0 m pc ls (.ref (s.heap.size + b0) :: rest)) := by
  obtain ⟨hx, hb, hr, hml, hown, hts, hX, hbl, hlocks, hU⟩ := K
  subst hc
  subst hs
  refine W.size (fun hz0 => ?_)
  have hzz : H.size = s.heap.size + h.1.length := am_size (h0 := ([], h.2)) (h := h) (cells := h.1.length) hP hS (by simp) (by simp) hz0
  have hM := am_all l d z ζ [.ref b0] h h1 none hz hE hsm D cy s.heap.size bn
  obtain ⟨v1, v2, v3, v4, v5, v6⟩ := am_mok_spec hz
  have hw0 : am_ws ζ = Cond.code ζ.1 ζ.2.1 ζ.2.2.1 none :: am_gt := by rw [am_ws, hret]
  have e2 : am_tr s.heap.size bn (.ref b0) = .ref (s.heap.size + b0) := by simp [am_tr, hbe]
  have hPc2 : ∀ U : State, U.heap = H → s.WarmedH U.vm → am_Pc D cy s.heap.size bn h [.ref b0] ([Value.ref (s.heap.size + b0)] : List Value).toArray U := fun U hUh hW => ⟨by simp [e2], by rw [hUh]; exact hzz, by rw [hUh]; exact hP, am_U_moved hU hUh hW hS⟩
  have hroom : (am_rm d (h1.1.length - h.1.length) (am_ns h1.1 - am_ns h.1)).frames + 1 ≤ room_1.frames ∧ 8 + (ζ.2.2.1 + 11) + (am_rm d (h1.1.length - h.1.length) (am_ns h1.1 - am_ns h.1)).locals ≤ room_1.locals := ⟨by show d + 1 + 1 ≤ 2048; omega, by show 8 + (ζ.2.2.1 + 11) + 200 * (d + 1) ≤ 84000; omega⟩
  have hrun := va_runI (b := s.heap.size + b0) (As := []) (n := 0) (index := idx) (rest := rest) (g := F0 m pc ls (.ref (s.heap.size + b0) :: rest)) (e := e) (below := below) (meth := meth) (locs := locs) ⟨hx, hb, hml, hown, hts⟩ hM ⟨callB_of (Ts := am_gt) 0 hts (am_gt_good (am_ws_good hz)) hw0 rfl rfl (hts _ v1) (hts _ w1) ⟨v5, v6, hn⟩ hroom, hnm, hts _ w2⟩ ⟨am_blind, hPc2⟩ rfl rfl hls rfl (lv_room hcw) hdg ⟨by show h.1.length + (h1.1.length - h.1.length) ≤ 600000; omega, by show am_ns h.1 + (am_ns h1.1 - am_ns h.1) ≤ 7302250; omega⟩
  refine sm_back hS hrun (fun H1 locs1 hP1 hS1 => ?_)
  have k := kk H1 locs1 hP1 hS1
  rw [show h.1.length + (h1.1.length - h.1.length) = h1.1.length by omega, show am_ns h.1 + (am_ns h1.1 - am_ns h.1) = am_ns h1.1 by omega]
  exact k
end
