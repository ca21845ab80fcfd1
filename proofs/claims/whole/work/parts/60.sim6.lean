-- THE SIMULATION
section
variable {D : va_G} {cy : Nat → ClassId} {base bn : Nat} {μ : am_M} {h0 : am_H} {p : Program} {l : Launch} {e : Env} {s : State} {m : MethodId} {args : Array Value} {below : List Frame} {meth : Method} {c : Code}
theorem am_act_in {μ : am_M} {f : am_F} {a : am_A} (h : am_act μ f = some a) : ∃ i len, decode μ.2.1 f.1 = .ok (i, len) ∧ (am_ln i = 0 ∨ am_ln i = len) ∧ am_ex μ i f.1 f.2.1 f.2.2.1 f.2.2.2 = some a := by
  unfold am_act at h
  split at h
  · rename_i i len hd
    split at h
    · rename_i hln
      exact ⟨i, len, hd, hln, h⟩
    · cases h
  · cases h
theorem am_sim {d : Nat} (IH : am_MT l d) (K : am_K D cy base bn μ h0 p s m args meth c) {hE : am_H} {r : Option Value} (hsm : hE.1.length ≤ am_ext) : ∀ n f, am_Fin (am_Ev d) μ n f hE r → am_le h0 f.2.2.2 →
    am_Wf D cy base bn μ h0 p l e s m args below meth c (am_rm (d + 1) (hE.1.length - h0.1.length) (am_ns hE.1 - am_ns h0.1)) (MQ below (am_Qc D cy base bn hE r) args s (hE.1.length - h0.1.length) (am_ns hE.1 - am_ns h0.1) (fun q => base ≤ q)) f := by
  intro n
  induction n with
  | zero => exact fun f h => h.elim
  | succ n ih =>
    intro f hF hle0
    have hle := am_Fin_le _ _ _ _ hF
    rcases hF with ⟨lo', hsub, hF⟩ | ⟨f', hact, hl1, hF⟩ | ⟨hact, rfl⟩ | ⟨z, as, f', h1, r1, hact, hEv, hl1, hF⟩
    · intro H locs ls cells slots hP hS hl hc hs
      refine ih (f.1, lo', f.2.2) hF hle0 H locs ls cells slots hP hS ⟨hl.1, hl.2.1, fun q hq => ?_⟩ hc hs
      obtain ⟨x, hx, rfl⟩ := List.mem_map.mp hq
      exact hl.2.2 _ (List.mem_map.mpr ⟨x, hsub x hx, rfl⟩)
    · obtain ⟨i, len, hd, hln, hex⟩ := am_act_in hact
      have hl2 := am_Fin_le _ _ _ _ hF
      refine sm_step (pc := f.1) (lo := f.2.1) (st := f.2.2.1) (h := f.2.2.2) K ?_ ?_ hd hln hex hl1 ⟨?_, ?_⟩ (Nat.le_trans hl2.1 hsm) (ih f' hF ⟨Nat.le_trans hle0.1 hl1.1, Nat.le_trans hle0.2 hl1.2⟩)
      · show 1 ≤ d + 1 + 1; omega
      · show 30 ≤ 200 * (d + 1 + 1); omega
      · show _ ≤ h0.1.length + (hE.1.length - h0.1.length)
        have := hl2.1; have := hle0.1; have := hl1.1
        omega
      · show _ ≤ am_ns h0.1 + (am_ns hE.1 - am_ns h0.1)
        have := hl2.2; have := hle0.2; have := hl1.2
        omega
    · obtain ⟨i, len, hd, hln, hex⟩ := am_act_in hact
      exact sm_end (pc := f.1) (lo := f.2.1) (st := f.2.2.1) (h := f.2.2.2) K hd hln hex
    · obtain ⟨i, len, hd, hln, hex⟩ := am_act_in hact
      have hl2 := am_Fin_le _ _ _ _ hF
      have hl2 : am_le h1 hE := hl2
      refine sm_call (pc := f.1) (lo := f.2.1) (st := f.2.2.1) (h := f.2.2.2) K IH rfl rfl hd hln hex hEv (Nat.le_trans hl2.1 hsm) hl1 ⟨?_, ?_⟩ (ih _ hF ⟨Nat.le_trans hle0.1 hl1.1, Nat.le_trans hle0.2 hl1.2⟩)
      · show _ ≤ h0.1.length + (hE.1.length - h0.1.length)
        have := hl2.1; have := hle0.1; have := hl1.1
        omega
      · show _ ≤ am_ns h0.1 + (am_ns hE.1 - am_ns h0.1)
        have := hl2.2; have := hle0.2; have := hl1.2
        omega
theorem am_sl_tr (as : List Value) : (lg_sl (as.map (am_tr base bn))).length = (lg_sl as).length := by
  induction as with
  | nil => rfl
  | cons v t ih =>
    simp only [lg_sl, List.map_cons, List.flatMap_cons, List.length_append, am_tr_cat] at ih ⊢
    rw [ih]
    congr 1
    split <;> rfl
theorem am_args_tr (as : List Value) : ∀ i, lv_args i (as.map (am_tr base bn)) = (lv_args i as).map (am_t2 base bn) := by
  induction as with
  | nil => exact fun _ => rfl
  | cons v t ih =>
    intro i
    simp only [List.map_cons, lv_args, am_tr_cat]
    rw [ih]
    rfl
end
/-- all that the little machine does, the machine does -/
theorem am_all (l : Launch) : ∀ d, am_MT l d
  | 0 => fun _ _ _ _ _ _ _ h => h.elim
  | d + 1 => by
    intro z ζ as h h1 r hz hEv hsm D cy base bn
    obtain ⟨μ, hμ, hlen, n, hF⟩ := hEv
    obtain rfl : μ = ζ := Option.some.inj (hμ.symm.trans hz)
    obtain ⟨w1, w2, w3, w4, w5, w6⟩ := am_mok_spec hz
    refine Met.ofW (cc := μ.2.1) (maxL := μ.2.2.1) (ret := μ.2.2.2.1) w2 rfl ?_
    intro p e s m args below meth c s₁ B hml hv
    obtain ⟨rfl, hsz, hP, hU⟩ := hv
    have hts := atoms_spec (ws := am_ws μ) B.pre
    have hown : s.vm.findClass μ.1.cls = some m.cls := findClass_of_methodNamed B.named
    have K : am_K D cy base bn μ h p s m (as.map (am_tr base bn)).toArray meth c := ⟨B.exec, B.bytes, hml, by rw [← w3]; exact hown, fun w hw => hts w (List.mem_cons_of_mem _ hw), B.returns, B.notSynchronized, (name_of_methodNamed B.named B.method).1, hU, hsz⟩
    have hl := lv_entry (as.map (am_tr base bn)) (n := μ.2.2.1) (by rw [am_sl_tr]; exact hlen)
    rw [lg_entry_eq]
    generalize (lg_sl (as.map (am_tr base bn)) ++ List.replicate (μ.2.2.1 - (lg_sl (as.map (am_tr base bn))).length) Slot.unset).toArray = ls at hl ⊢
    rw [am_args_tr] at hl
    exact am_sim (am_all l d) K hsm n _ hF (am_le_rf _) s.heap [] ls 0 0 hP va_S.rf hl (Nat.zero_add _) (Nat.zero_add _)
