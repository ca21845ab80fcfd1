-- calls, ends, the step, the simulation
section
variable {D : va_G} {cy : Nat → ClassId} {base bn : Nat} {μ : am_M} {h0 : am_H} {p : Program} {l : Launch} {e : Env} {s : State} {m : MethodId} {args : Array Value} {below : List Frame} {meth : Method} {c : Code} {R : Room} {Q : State → Prop}
variable {pc : Nat} {lo : List (Nat × Value)} {st : List Value} {h : am_H}
theorem am_U_moved {U : State} (hU : am_U D cy base bn s) {H : Heap} (hH : U.heap = H) (hW : s.WarmedH U.vm) {locs : List Loc} (hS : va_S (fun q => base ≤ q) s.heap H locs) : am_U D cy base bn U := by
  obtain ⟨h1, h2, h3, h4, h5, h6, h7⟩ := hU
  have hk : ∀ a : Nat, a < s.heap.size → ¬ base ≤ a → U.heap[a]? = s.heap[a]? := fun a ha hn => by rw [hH]; exact hS.2.1 a ha hn
  refine ⟨va_K.moved hW.alike h1, h2.moved hW.alike, h3.moved hW.alike, fun q hq hk ζ hζ => (h4 q hq hk ζ hζ).warmM hW, by rw [hH]; exact Nat.le_trans h5 hS.1, ?_, ?_⟩
  · exact (h6.moved hW.alike).kept hk
  · exact (h7.moved hW.alike).kept hk
theorem am_blind {hh : am_H} {as : List Value} : FrameBlind (am_Pc D cy base bn hh as) := by
  intro a U g mk q
  obtain ⟨q0, q1, q2, q3⟩ := q
  refine ⟨q0, q1, q2, ?_⟩
  obtain ⟨h1, h2, h3, h4, h5, h6, h7⟩ := q3
  exact ⟨va_K.moved (u := U) (U := U.calling g mk a) (Vm.Alike.refl U.vm) h1, h2.moved (u := U) (U := U.calling g mk a) (Vm.Alike.refl U.vm), h3.moved (u := U) (U := U.calling g mk a) (Vm.Alike.refl U.vm), fun q hq hk ζ hζ => (h4 q hq hk ζ hζ).same (u := U) (U := U.calling g mk a) rfl rfl, h5, h6.moved (u := U) (U := U.calling g mk a) (Vm.Alike.refl U.vm), h7.moved (u := U) (U := U.calling g mk a) (Vm.Alike.refl U.vm)⟩
/-- behind a call -/
theorem sm_back {H : Heap} {locs : List Loc} {cells slots mc ms : Nat} {ls : Array Slot} {st0 rest : List Value} {a : Array Value} {h1 : am_H} {r : Option Value} (hS : va_S (fun q => base ≤ q) s.heap H locs)
    (hr : va_Run p l e R s m args below meth c H locs cells slots mc ms (F0 m pc ls st0) rest (am_Qc D cy base bn h1 r a) (fun q => base ≤ q))
    (kk : ∀ (H1 : Heap) (locs1 : List Loc), va_P D vwCl (am_w cy base bn h1) H1 → va_S (fun q => base ≤ q) s.heap H1 locs1 → W p l e R s m args below meth c H1 locs1 (cells + mc) (slots + ms) Q (F0 m (pc + 3) ls ((r.map (am_tr base bn)).toList ++ rest))) : W p l e R s m args below meth c H locs cells slots Q (F0 m pc ls st0) := by
  intro T hT X
  obtain ⟨v, st₀, t, T', L, g0, X', hL, e1, e2, ⟨⟨hv, hp⟩, hz, hk⟩, stp⟩ := hr T hT X
  cases hv
  rw [g0] at hz hk
  obtain ⟨t2, a1, b1⟩ := kk T'.heap (locs ++ L) (by rw [e1]; exact hp) ⟨Nat.le_trans hS.1 (by rw [e1]; exact hz), fun q q1 q2 => by rw [e1, hk q (Nat.lt_of_lt_of_le q1 hS.1) q2]; exact hS.2.1 q q1 q2, fun q hq => by
      rcases List.mem_append.mp hq with h | h
      · exact hS.2.2 q h
      · exact hL q h⟩ T' rfl X'
  exact ⟨t2, stp t2 a1, b1⟩
theorem am_ws_good {z : Nat} {ζ : am_M} (hz : am_ms[z]? = some ζ) : ∀ w ∈ am_ws ζ, w ∈ am_gt := by
  intro w hw
  rcases List.mem_cons.mp hw with rfl | hw
  · exact am_code hz
  · exact hw
theorem am_mok_spec {z : Nat} {ζ : am_M} (hz : am_ms[z]? = some ζ) : Cond.initialized ζ.1.cls ∈ am_gt ∧ Jvm.plainName ζ.1.cls = true ∧ ζ.1.cls = am_cn ζ.2.2.2.2 ∧ ζ.2.2.1 ≤ 100 ∧ ζ.1.cls ≠ "java/lang/invoke/MethodHandle" ∧ ζ.1.cls ≠ "java/lang/invoke/VarHandle" := by
  obtain ⟨w, hw⟩ := am_at hz
  simp only [am_mok, Bool.and_eq_true, decide_eq_true_eq] at hw
  exact ⟨am_in_gt hw.1 rfl, hw.2.1, hw.2.2.1, hw.2.2.2.1, hw.2.2.2.2.1, hw.2.2.2.2.2⟩
theorem am_split {n : Nat} {b : Nat} {r : List Value} (hn : n ≤ st.length) (hd : st.drop n = .ref b :: r) (hb : b ≠ am_ext) : st.map (am_tr base bn) = ((st.take n).reverse.map (am_tr base bn)).reverse ++ .ref (base + b) :: r.map (am_tr base bn) := by
  have e1 : st = st.take n ++ (.ref b :: r) := by rw [← hd]; exact (List.take_append_drop n st).symm
  have e2 : am_tr base bn (.ref b) = .ref (base + b) := by simp [am_tr, hb]
  rw [List.map_reverse, List.reverse_reverse, ← e2, ← List.map_cons (f := am_tr base bn), ← List.map_append, ← e1]
theorem am_splitS {n : Nat} : st.map (am_tr base bn) = ((st.take n).reverse.map (am_tr base bn)).reverse ++ (st.drop n).map (am_tr base bn) := by
  rw [List.map_reverse, List.reverse_reverse, ← List.map_append, List.take_append_drop]
variable {d : Nat}
theorem sm_call (K : am_K D cy base bn μ h0 p s m args meth c) (IH : am_MT l d) (hRf : R.frames = d + 2) (hRl : R.locals = 200 * (d + 2)) {z : Nat} {as : List Value} {f' : am_F} {i : Instr} {len : Nat} {h1 : am_H} {r1 : Option Value} (hd : decode μ.2.1 pc = .ok (i, len)) (hln : am_ln i = 0 ∨ am_ln i = len)
    (hex : am_ex μ i pc lo st h = some (.inr (.inr (z, as, f')))) (hEv : am_Ev d z as h h1 r1) (hsm : h1.1.length ≤ am_ext) (hle : am_le h h1) (hR : h1.1.length ≤ h0.1.length + R.cells ∧ am_ns h1.1 ≤ am_ns h0.1 + R.slots)
    (k1 : am_Wf D cy base bn μ h0 p l e s m args below meth c R Q (f'.1, f'.2.1, r1.toList ++ f'.2.2.1, h1)) : am_Wf D cy base bn μ h0 p l e s m args below meth c R Q (pc, lo, st, h) := by
  obtain ⟨hx, hb, hml, hown, hts, hr, hlocks, hnm, hU, hsz⟩ := K
  intro H locs ls cells slots hP hS hl hc hs
  have hc : cells + h0.1.length = h.1.length := hc
  have hs : slots + am_ns h0.1 = am_ns h.1 := hs
  refine W.size (fun hz => ?_)
  have hzz := am_size hP hS hsz hc hz
  have hfix : CallFix p m c μ.2.1 μ.2.2.1 s args am_gt (am_cn μ.2.2.2.2) := ⟨hx, hb, hml, hown, hts⟩
  have hPc : ∀ U : State, U.heap = H → s.WarmedH U.vm → am_Pc D cy base bn h as (as.map (am_tr base bn)).toArray U := fun U hUh hW => ⟨rfl, by rw [hUh]; exact hzz, by rw [hUh]; exact hP, am_U_moved hU hUh hW hS⟩
  have hcells : cells + (h1.1.length - h.1.length) ≤ R.cells ∧ slots + (am_ns h1.1 - am_ns h.1) ≤ R.slots := by
    have := hle.1; have := hle.2
    omega
  have hback : ∀ (rest : List Value) (st0 : List Value), f' = (pc + 3, lo, rest, h) → va_Run p l e R s m args below meth c H locs cells slots (h1.1.length - h.1.length) (am_ns h1.1 - am_ns h.1) (F0 m pc ls st0) (rest.map (am_tr base bn)) (am_Qc D cy base bn h1 r1 (as.map (am_tr base bn)).toArray) (fun q => base ≤ q) → W p l e R s m args below meth c H locs cells slots Q (F0 m pc ls st0) := by
    intro rest st0 hf' hrun
    refine sm_back hS hrun (fun H1 locs1 hP1 hS1 => ?_)
    subst hf'
    have k2 := k1 H1 locs1 ls (cells + (h1.1.length - h.1.length)) (slots + (am_ns h1.1 - am_ns h.1)) hP1 hS1 hl (by have := hle.1; show cells + (h1.1.length - h.1.length) + h0.1.length = h1.1.length; omega) (by have := hle.2; show slots + (am_ns h1.1 - am_ns h.1) + am_ns h0.1 = am_ns h1.1; omega)
    have e3 : (r1.toList ++ rest).map (am_tr base bn) = (r1.map (am_tr base bn)).toList ++ rest.map (am_tr base bn) := by cases r1 <;> simp
    have k3 : W p l e R s m args below meth c H1 locs1 (cells + (h1.1.length - h.1.length)) (slots + (am_ns h1.1 - am_ns h.1)) Q (F0 m (pc + 3) ls ((r1.toList ++ rest).map (am_tr base bn))) := k2
    rw [e3] at k3
    exact k3
  unfold am_ex at hex
  split at hex
  all_goals first
    | ((try simp only [am_la, am_li, am_ll, am_si, am_sl, am_sa, am_bi, am_bl, am_bz, am_blz, am_jmp, am_tsw] at hex); (repeat' (split at hex)); all_goals (cases hex; done))
    | skip
  · rename_i idx
    have hl3 : len = 3 := by have q := hln; simp [am_ln] at q; exact q.symm
    subst hl3
    unfold am_iv at hex
    split at hex
    · rename_i z' n hcal
      split at hex
      · rename_i b rr hdrop
        split at hex
        · rename_i cb fs ζ hcb hms
          split at hex
          · rename_i hcond
            obtain ⟨hbe, hcbz, hcb10, hcw, hnl⟩ := hcond
            cases hex
            obtain ⟨w1, w2, w3, w4, w5, w6⟩ := am_mok_spec hms
            obtain ⟨q, -, rfl', rfl'', hk5, hzq, hnq, hk⟩ := am_cal_in hcal
            unfold am_cok at hk
            rw [hk5, hzq, hms, rfl', rfl'', hnq] at hk
            simp only [Bool.and_eq_true, decide_eq_true_eq] at hk
            have hM := IH z ζ _ h h1 r1 hms hEv hsm D cy base bn
            refine hback rr _ rfl (va_runV (C := ζ.1.cls) (bytes := ζ.2.1) (maxL := ζ.2.2.1) (ret := ζ.2.2.2.1) (b := base + b) (As := (st.take n).reverse.map (am_tr base bn)) (n := n) (index := idx) hfix hM ?_ ⟨am_blind, ?_, ?_⟩ rfl ?_ hl.1 (am_split hnl hdrop hbe) ?_ hd hcells)
            · refine cwV (Ts := am_gt) n hts (am_gt_good (fun w hw => ?_)) rfl rfl rfl ⟨rfl, w5, w6, hk.1⟩ ⟨?_, ?_⟩
              · rcases List.mem_append.mp hw with hw | hw
                · simp only [List.mem_cons, List.not_mem_nil, or_false] at hw
                  rcases hw with rfl | rfl | rfl | rfl
                  · exact am_in_gt hk.2.1 rfl
                  · exact am_in_gt hk.2.2.1 rfl
                  · exact am_in_gt hk.2.2.2 rfl
                  · exact w1
                · exact am_ws_good hms w hw
              · rw [hRf]; exact Nat.le_refl _
              · rw [hRl]; show 8 + (ζ.2.2.1 + 11) + 200 * (d + 1) ≤ _; omega
            · have hcB := am_w_at (cy := cy) (base := base) (bn := bn) hcb
              rw [am_ce_obj] at hcB
              obtain ⟨cell, g1, g2, g3⟩ := va_recv hU.1 hP (am_clok hcb10) hcB
              exact ⟨cell, g1, g2, by rw [w3, ← hcbz]; exact g3⟩
            · intro U hUh hW
              have := hPc U hUh hW
              simp only [List.map_cons] at this
              have e2 : am_tr base bn (.ref b) = .ref (base + b) := by simp [am_tr, hbe]
              rw [e2] at this
              exact this
            · simp [List.length_take, Nat.min_eq_left hnl]
            · exact lv_room (by rw [am_cw_tr]; exact hcw)
          · cases hex
        · cases hex
      · cases hex
    · cases hex
  · rename_i idx
    have hl3 : len = 3 := by have q := hln; simp [am_ln] at q; exact q.symm
    subst hl3
    unfold am_is at hex
    split at hex
    · split at hex
      · split at hex
        · cases hex
        · split at hex
          · split at hex <;> cases hex
          · cases hex
      · cases hex
    · split at hex
      · split at hex <;> cases hex
      · cases hex
    · split at hex
      · split at hex <;> cases hex
      · cases hex
    · rename_i kd z' n _ _ _ hcal
      split at hex
      · rename_i hcond
        obtain ⟨hkd, hcw, hnl⟩ := hcond
        cases hex
        obtain ⟨q, hq, rfl', rfl'', hk5, hzq, hnq, hk⟩ := am_cal_in hcal
        cases hms : am_ms[z]? with
        | none =>
          unfold am_cok at hk
          rcases hkd with rfl | rfl <;> (rw [hk5, hzq, hms] at hk; cases hk)
        | some ζ =>
          obtain ⟨w1, w2, w3, w4, w5, w6⟩ := am_mok_spec hms
          have hM := IH z ζ _ h h1 r1 hms hEv hsm D cy base bn
          have hroom : (am_rm d (h1.1.length - h.1.length) (am_ns h1.1 - am_ns h.1)).frames + 1 ≤ R.frames ∧ 8 + (ζ.2.2.1 + 11) + (am_rm d (h1.1.length - h.1.length) (am_ns h1.1 - am_ns h.1)).locals ≤ R.locals := ⟨by rw [hRf]; exact Nat.le_refl _, by rw [hRl]; show 8 + (ζ.2.2.1 + 11) + 200 * (d + 1) ≤ _; omega⟩
          rcases hkd with rfl | rfl
          · unfold am_cok at hk
            rw [hk5, hzq, hms, rfl', rfl'', hnq] at hk
            simp only [Bool.and_eq_true, decide_eq_true_eq] at hk
            refine hback (st.drop n) _ rfl (va_runS (As := (st.take n).reverse.map (am_tr base bn)) (n := n) (index := idx) hfix hM (va_cwS (Ts := am_gt) n hts (am_gt_good (fun w hw => ?_)) rfl rfl rfl ⟨w5, w6, hk.1⟩ hroom) ⟨am_blind, hPc⟩ rfl ?_ hl.1 am_splitS ?_ hd hcells)
            · rcases List.mem_append.mp hw with hw | hw
              · simp only [List.mem_cons, List.not_mem_nil, or_false] at hw
                rcases hw with rfl | rfl | rfl
                · exact am_in_gt hk.2.1 rfl
                · exact am_in_gt hk.2.2 rfl
                · exact w1
              · exact am_ws_good hms w hw
            · simp [List.length_take, Nat.min_eq_left hnl]
            · exact lv_room (by rw [am_cw_tr]; exact hcw)
          · have hnest := hU.2.2.2.1 q hq (Or.inl hk5) ζ (by rw [hzq]; exact hms)
            rw [rfl', rfl''] at hnest
            unfold am_cok at hk
            rw [hk5, hzq, hms, rfl', rfl'', hnq] at hk
            simp only [Bool.and_eq_true, decide_eq_true_eq] at hk
            refine hback (st.drop n) _ rfl (va_runSN (As := (st.take n).reverse.map (am_tr base bn)) (n := n) (index := idx) hfix hM ⟨va_cnB (Ts := am_gt) n hts (am_gt_good (am_ws_good hms)) rfl rfl rfl hnest (hts _ w1) ⟨w5, w6, hk.1⟩ hroom, hts _ (am_in_gt hk.2.2 rfl), trivial⟩ ⟨am_blind, hPc⟩ rfl ?_ hl.1 am_splitS ?_ hd hcells)
            · simp [List.length_take, Nat.min_eq_left hnl]
            · exact lv_room (by rw [am_cw_tr]; exact hcw)
      · cases hex
    · cases hex
  · rename_i idx
    have hl3 : len = 3 := by have q := hln; simp [am_ln] at q; exact q.symm
    subst hl3
    unfold am_ii at hex
    split at hex
    · split at hex
      · split at hex <;> cases hex
      · cases hex
    · rename_i kd z' n _ hcal
      split at hex
      · rename_i b rr hdrop
        split at hex
        · rename_i hcond
          obtain ⟨hkd, hbe, hcw, hnl⟩ := hcond
          cases hex
          obtain ⟨q, hq, rfl', rfl'', hk5, hzq, hnq, hk⟩ := am_cal_in hcal
          cases hms : am_ms[z]? with
          | none =>
            unfold am_cok at hk
            rcases hkd with rfl | rfl <;> (rw [hk5, hzq, hms] at hk; cases hk)
          | some ζ =>
            obtain ⟨w1, w2, w3, w4, w5, w6⟩ := am_mok_spec hms
            have hM := IH z ζ _ h h1 r1 hms hEv hsm D cy base bn
            have hroom : (am_rm d (h1.1.length - h.1.length) (am_ns h1.1 - am_ns h.1)).frames + 1 ≤ R.frames ∧ 8 + (ζ.2.2.1 + 11) + (am_rm d (h1.1.length - h.1.length) (am_ns h1.1 - am_ns h.1)).locals ≤ R.locals := ⟨by rw [hRf]; exact Nat.le_refl _, by rw [hRl]; show 8 + (ζ.2.2.1 + 11) + 200 * (d + 1) ≤ _; omega⟩
            have e2 : am_tr base bn (.ref b) = .ref (base + b) := by simp [am_tr, hbe]
            have hPc2 : ∀ U : State, U.heap = H → s.WarmedH U.vm → am_Pc D cy base bn h (.ref b :: (st.take n).reverse) (Value.ref (base + b) :: (st.take n).reverse.map (am_tr base bn)).toArray U := by
              intro U hUh hW
              have := hPc U hUh hW
              simp only [List.map_cons] at this
              rw [e2] at this
              exact this
            rcases hkd with rfl | rfl
            · unfold am_cok at hk
              rw [hk5, hzq, hms, rfl', rfl'', hnq] at hk
              simp only [Bool.and_eq_true, decide_eq_true_eq] at hk
              have hw0 : am_ws ζ = Cond.code ζ.1 ζ.2.1 ζ.2.2.1 none :: am_gt := by rw [am_ws, hk.2.2.2.2]
              have hrun := va_runI (b := base + b) (As := (st.take n).reverse.map (am_tr base bn)) (n := n) (index := idx) (rest := rr.map (am_tr base bn)) (g := F0 m pc ls (st.map (am_tr base bn))) (e := e) (below := below) (meth := meth) (locs := locs) hfix hM ⟨callB_of (Ts := am_gt) n hts (am_gt_good (am_ws_good hms)) hw0 rfl rfl (hts _ w1) (hts _ (am_in_gt hk.2.1 rfl)) ⟨w5, w6, hk.1⟩ hroom, hk.2.2.2.1, hts _ (am_in_gt hk.2.2.1 rfl)⟩ ⟨am_blind, hPc2⟩ rfl (by simp [List.length_take, Nat.min_eq_left hnl]) hl.1 (am_split hnl hdrop hbe) (lv_room (by rw [am_cw_tr]; exact hcw)) hd hcells
              rw [← e2, ← List.map_cons (f := am_tr base bn)] at hrun
              exact hback rr _ rfl hrun
            · have hnest := hU.2.2.2.1 q hq (Or.inr hk5) ζ (by rw [hzq]; exact hms)
              rw [rfl', rfl''] at hnest
              unfold am_cok at hk
              rw [hk5, hzq, hms, rfl', rfl'', hnq] at hk
              simp only [Bool.and_eq_true, decide_eq_true_eq] at hk
              have hw0 : am_ws ζ = Cond.code ζ.1 ζ.2.1 ζ.2.2.1 none :: am_gt := by rw [am_ws, hk.2.2.2.2]
              have hrun := va_runIN (b := base + b) (As := (st.take n).reverse.map (am_tr base bn)) (n := n) (index := idx) (rest := rr.map (am_tr base bn)) (g := F0 m pc ls (st.map (am_tr base bn))) (e := e) (below := below) (meth := meth) (locs := locs) hfix hM ⟨va_cnB (Ts := am_gt) n hts (am_gt_good (am_ws_good hms)) hw0 rfl rfl hnest (hts _ w1) ⟨w5, w6, hk.1⟩ hroom, hk.2.2.2.1, hts _ (am_in_gt hk.2.2.1 rfl)⟩ ⟨am_blind, hPc2⟩ rfl (by simp [List.length_take, Nat.min_eq_left hnl]) hl.1 (am_split hnl hdrop hbe) (lv_room (by rw [am_cw_tr]; exact hcw)) hd hcells
              rw [← e2, ← List.map_cons (f := am_tr base bn)] at hrun
              exact hback rr _ rfl hrun
        · cases hex
      · cases hex
    · cases hex
end
