-- ends, the step, the simulation
section
variable {D : va_G} {cy : Nat → ClassId} {base bn : Nat} {μ : am_M} {h0 : am_H} {p : Program} {l : Launch} {e : Env} {s : State} {m : MethodId} {args : Array Value} {below : List Frame} {meth : Method} {c : Code} {R : Room} {Q : State → Prop}
variable {pc : Nat} {lo : List (Nat × Value)} {st : List Value} {h : am_H}
theorem sm_end (K : am_K D cy base bn μ h0 p s m args meth c) {i : Instr} {len : Nat} {r : Option Value} (hd : decode μ.2.1 pc = .ok (i, len)) (hln : am_ln i = 0 ∨ am_ln i = len) (hex : am_ex μ i pc lo st h = some (.inr (.inl r))) :
    am_Wf D cy base bn μ h0 p l e s m args below meth c R (MQ below (am_Qc D cy base bn h r) args s (h.1.length - h0.1.length) (am_ns h.1 - am_ns h0.1) (fun q => base ≤ q)) (pc, lo, st, h) := by
  obtain ⟨hx, hb, hml, hown, hts, hr, hlocks, hnm, hU, hsz⟩ := K
  intro H locs ls cells slots hP hS hl hc hs
  have hc : cells + h0.1.length = h.1.length := hc
  have hs : slots + am_ns h0.1 = am_ns h.1 := hs
  have hq : ∀ t : State, t.heap = H → s.WarmedH t.vm → am_Qc D cy base bn h r args s (.returned (r.map (am_tr base bn))) t := fun t ht _ => ⟨⟨rfl, by rw [ht]; exact hP⟩, hS.F ht⟩
  have ec : h.1.length - h0.1.length = cells := by omega
  have es : am_ns h.1 - am_ns h0.1 = slots := by omega
  rw [ec, es]
  unfold am_ex at hex
  split at hex
  all_goals first
    | ((try simp only [am_la, am_li, am_ll, am_si, am_sl, am_sa, am_bi, am_bl, am_bz, am_blz, am_jmp, am_tsw, am_iv, am_is, am_ii] at hex); (repeat' (split at hex)); all_goals (cases hex; done))
    | skip
  · have hl1 : len = 1 := by have q := hln; simp [am_ln] at q; exact q.symm
    subst hl1
    split at hex
    · rename_i hret
      cases hex
      unfold am_ri at hret
      split at hret
      · rename_i v hrt
        cases hret
        exact W.iret (v := v) hx hb (by rw [hr, hrt]) hq hS.2.2 hd
      · rename_i v hrt
        split at hret
        · rename_i hv
          cases hret
          exact W.zret (v := v) (ty := .boolean) hx hb (by rw [hr, hrt]) (by rcases hv with rfl | rfl <;> rfl) hq hS.2.2 hd
        · cases hret
      · cases hret
    · cases hex
  · have hl1 : len = 1 := by have q := hln; simp [am_ln] at q; exact q.symm
    subst hl1
    split at hex
    · rename_i hret
      cases hex
      unfold am_rL at hret
      split at hret
      · rename_i v hrt
        cases hret
        exact W.lret (v := v) hx hb (by rw [hr, hrt]) hq hS.2.2 hd
      · cases hret
    · cases hex
  · have hl1 : len = 1 := by have q := hln; simp [am_ln] at q; exact q.symm
    subst hl1
    split at hex
    · rename_i hret
      cases hex
      unfold am_rA at hret
      split at hret
      · rename_i nm b hrt
        split at hret
        · cases hret
        · cases hret
          exact W.aret (v := am_tr base bn (.ref b)) (rt := .object nm) hx hb (by rw [hr, hrt]) (Or.inl ⟨_, rfl⟩) (Or.inr ⟨_, rfl⟩) hq hS.2.2 hd
      · cases hret
    · cases hex
  · have hl1 : len = 1 := by have q := hln; simp [am_ln] at q; exact q.symm
    subst hl1
    split at hex
    · rename_i hrt
      cases hex
      exact W.vret hx hb (by rw [hr, hrt]) hq hS.2.2 hd
    · cases hex
theorem sm_jmp2 (K : am_K D cy base bn μ h0 p s m args meth c) {off : Int} {f' : am_F} (hj : am_jmp pc off lo st h = some (.inl f')) : ∃ tgt : Nat, (pc : Int) + off = (tgt : Int) ∧ f' = (tgt, lo, st, h) := by
  unfold am_jmp at hj
  split at hj
  · cases hj
  · cases hj
    exact ⟨_, by omega, rfl⟩
theorem am_kst_ok {own idx : Nat} {v : Int32} (hf : am_kst own idx = some v) : Cond.constant (am_cn own) idx v ∈ am_gt := by
  simp only [am_kst, Option.map_eq_some_iff] at hf
  obtain ⟨q, g1, rfl⟩ := hf
  have g3 := List.find?_some g1
  simp only [Bool.and_eq_true, beq_iff_eq] at g3
  have hk := List.all_eq_true.mp am_ktab_ok q (List.mem_of_find?_eq_some g1)
  simp only [am_kok, decide_eq_true_eq] at hk
  obtain ⟨rfl, rfl⟩ := g3
  exact am_in_gt hk rfl
theorem am_ksl_ok {own idx : Nat} {v : Int64} (hf : am_ksl own idx = some v) : Cond.constantLong (am_cn own) idx v ∈ am_gt := by
  simp only [am_ksl, Option.map_eq_some_iff] at hf
  obtain ⟨q, g1, rfl⟩ := hf
  have g3 := List.find?_some g1
  simp only [Bool.and_eq_true, beq_iff_eq] at g3
  have hk := List.all_eq_true.mp am_ltab_ok q (List.mem_of_find?_eq_some g1)
  simp only [am_lok, decide_eq_true_eq] at hk
  obtain ⟨rfl, rfl⟩ := g3
  exact am_in_gt hk rfl
/-- one step of the little machine is a step of the machine -/
theorem sm_step (K : am_K D cy base bn μ h0 p s m args meth c) (hRf : 1 ≤ R.frames) (hRl : 30 ≤ R.locals) {i : Instr} {len : Nat} {f' : am_F} (hd : decode μ.2.1 pc = .ok (i, len)) (hln : am_ln i = 0 ∨ am_ln i = len) (hex : am_ex μ i pc lo st h = some (.inl f'))
    (hle : am_le h f'.2.2.2) (hR : f'.2.2.2.1.length ≤ h0.1.length + R.cells ∧ am_ns f'.2.2.2.1 ≤ am_ns h0.1 + R.slots) (hsmall : f'.2.2.2.1.length ≤ am_ext) (k1 : am_Wf D cy base bn μ h0 p l e s m args below meth c R Q f') : am_Wf D cy base bn μ h0 p l e s m args below meth c R Q (pc, lo, st, h) := by
  have K0 := K
  obtain ⟨hx, hb, hml, hown, hts, hr, hlocks, hnm, hU, hsz⟩ := K0
  unfold am_ex at hex
  split at hex
  -- loads and stores of locals
  · have hl1 : len = 1 := by have q := hln; simp [am_ln] at q; exact q.symm
    subst hl1
    unfold am_la at hex
    split at hex
    · rename_i hg; cases hex; exact sm_lan K hg hd k1
    · cases hex
  · have hl1 : len = 2 := by have q := hln; simp [am_ln] at q; exact q.symm
    subst hl1
    unfold am_la at hex
    split at hex
    · rename_i hg; cases hex; exact sm_la K hg hd k1
    · cases hex
  · have hl1 : len = 1 := by have q := hln; simp [am_ln] at q; exact q.symm
    subst hl1
    unfold am_li at hex
    split at hex
    · rename_i hg; cases hex; exact sm_lin K hg hd k1
    · cases hex
  · have hl1 : len = 2 := by have q := hln; simp [am_ln] at q; exact q.symm
    subst hl1
    unfold am_li at hex
    split at hex
    · rename_i hg; cases hex; exact sm_li K (len := 2) hg hd k1
    · cases hex
  · have hl1 : len = 1 := by have q := hln; simp [am_ln] at q; exact q.symm
    subst hl1
    unfold am_ll at hex
    split at hex
    · rename_i hg; cases hex; exact sm_lln K hg hd k1
    · cases hex
  · have hl1 : len = 2 := by have q := hln; simp [am_ln] at q; exact q.symm
    subst hl1
    unfold am_ll at hex
    split at hex
    · rename_i hg; cases hex; exact sm_ll K hg hd k1
    · cases hex
  · have hl1 : len = 1 := by have q := hln; simp [am_ln] at q; exact q.symm
    subst hl1
    unfold am_si at hex
    split at hex
    · split at hex
      · rename_i hn; cases hex; exact sm_sin K hn hd k1
      · cases hex
    · cases hex
  · have hl1 : len = 2 := by have q := hln; simp [am_ln] at q; exact q.symm
    subst hl1
    unfold am_si at hex
    split at hex
    · split at hex
      · rename_i hn; cases hex; exact sm_si K hn hd k1
      · cases hex
    · cases hex
  · have hl1 : len = 1 := by have q := hln; simp [am_ln] at q; exact q.symm
    subst hl1
    unfold am_sl at hex
    split at hex
    · split at hex
      · rename_i hn; cases hex; exact sm_sln K hn hd k1
      · cases hex
    · cases hex
  · have hl1 : len = 2 := by have q := hln; simp [am_ln] at q; exact q.symm
    subst hl1
    unfold am_sl at hex
    split at hex
    · split at hex
      · rename_i hn; cases hex; exact sm_sl K hn hd k1
      · cases hex
    · cases hex
  · have hl1 : len = 1 := by have q := hln; simp [am_ln] at q; exact q.symm
    subst hl1
    unfold am_sa at hex
    split at hex
    · split at hex
      · rename_i hn; cases hex; exact sm_san K hn hd k1
      · cases hex
    · cases hex
  · have hl1 : len = 2 := by have q := hln; simp [am_ln] at q; exact q.symm
    subst hl1
    unfold am_sa at hex
    split at hex
    · split at hex
      · rename_i hn; cases hex; exact sm_sa K hn hd k1
      · cases hex
    · cases hex
  · have hl1 : len = 3 := by have q := hln; simp [am_ln] at q; exact q.symm
    subst hl1
    split at hex
    · rename_i hg
      split at hex
      · rename_i hn; cases hex; exact sm_inc K hn hg hd k1
      · cases hex
    · cases hex
  -- constants
  · have hl1 : len = 1 := by have q := hln; simp [am_ln] at q; exact q.symm
    subst hl1
    cases hex
    intro H locs ls cells slots hP hS hl hc hs
    exact lv_iconst hx hb hd rfl (k1 H locs ls cells slots hP hS hl hc hs)
  · have hl1 : len = 2 := by have q := hln; simp [am_ln] at q; exact q.symm
    subst hl1
    cases hex
    intro H locs ls cells slots hP hS hl hc hs
    exact lv_bipush hx hb hd rfl (k1 H locs ls cells slots hP hS hl hc hs)
  · have hl1 : len = 3 := by have q := hln; simp [am_ln] at q; exact q.symm
    subst hl1
    cases hex
    intro H locs ls cells slots hP hS hl hc hs
    exact lv_sipush hx hb hd rfl (k1 H locs ls cells slots hP hS hl hc hs)
  · have hl1 : len = 1 := by have q := hln; simp [am_ln] at q; exact q.symm
    subst hl1
    cases hex
    intro H locs ls cells slots hP hS hl hc hs
    exact lv_lconst hx hb hd rfl (k1 H locs ls cells slots hP hS hl hc hs)
  · have hl1 : len = 2 := by have q := hln; simp [am_ln] at q; exact q.symm
    subst hl1
    split at hex
    · rename_i hg
      cases hex
      intro H locs ls cells slots hP hS hl hc hs
      exact lv_ldc hx hb hown (hts _ (am_kst_ok hg)) hd (k1 H locs ls cells slots hP hS hl hc hs)
    · cases hex
  · have hl1 : len = 3 := by have q := hln; simp [am_ln] at q; exact q.symm
    subst hl1
    split at hex
    · rename_i hg
      cases hex
      intro H locs ls cells slots hP hS hl hc hs
      exact lv_ldcw hx hb hown (hts _ (am_kst_ok hg)) hd (k1 H locs ls cells slots hP hS hl hc hs)
    · cases hex
  · have hl1 : len = 3 := by have q := hln; simp [am_ln] at q; exact q.symm
    subst hl1
    split at hex
    · rename_i hg
      cases hex
      intro H locs ls cells slots hP hS hl hc hs
      exact lv_ldc2 hx hb hown (hts _ (am_ksl_ok hg)) hd (k1 H locs ls cells slots hP hS hl hc hs)
    · cases hex
  · have hl1 : len = 1 := by have q := hln; simp [am_ln] at q; exact q.symm
    subst hl1
    unfold am_bi at hex
    split at hex
    · cases hex
      intro H locs ls cells slots hP hS hl hc hs
      exact lv_iadd hx hb hd (k1 H locs ls cells slots hP hS hl hc hs)
    · cases hex
  · have hl1 : len = 1 := by have q := hln; simp [am_ln] at q; exact q.symm
    subst hl1
    unfold am_bi at hex
    split at hex
    · cases hex
      intro H locs ls cells slots hP hS hl hc hs
      exact lv_isub hx hb hd (k1 H locs ls cells slots hP hS hl hc hs)
    · cases hex
  · have hl1 : len = 1 := by have q := hln; simp [am_ln] at q; exact q.symm
    subst hl1
    unfold am_bi at hex
    split at hex
    · cases hex
      intro H locs ls cells slots hP hS hl hc hs
      exact lv_imul hx hb hd (k1 H locs ls cells slots hP hS hl hc hs)
    · cases hex
  · have hl1 : len = 1 := by have q := hln; simp [am_ln] at q; exact q.symm
    subst hl1
    unfold am_bi at hex
    split at hex
    · cases hex
      intro H locs ls cells slots hP hS hl hc hs
      exact lv_iand hx hb hd (k1 H locs ls cells slots hP hS hl hc hs)
    · cases hex
  · have hl1 : len = 1 := by have q := hln; simp [am_ln] at q; exact q.symm
    subst hl1
    unfold am_bi at hex
    split at hex
    · cases hex
      intro H locs ls cells slots hP hS hl hc hs
      exact lv_ior hx hb hd (k1 H locs ls cells slots hP hS hl hc hs)
    · cases hex
  · have hl1 : len = 1 := by have q := hln; simp [am_ln] at q; exact q.symm
    subst hl1
    unfold am_bi at hex
    split at hex
    · cases hex
      intro H locs ls cells slots hP hS hl hc hs
      exact lv_ishl hx hb hd (k1 H locs ls cells slots hP hS hl hc hs)
    · cases hex
  · have hl1 : len = 1 := by have q := hln; simp [am_ln] at q; exact q.symm
    subst hl1
    unfold am_bi at hex
    split at hex
    · cases hex
      intro H locs ls cells slots hP hS hl hc hs
      exact lv_ishr hx hb hd (k1 H locs ls cells slots hP hS hl hc hs)
    · cases hex
  · have hl1 : len = 1 := by have q := hln; simp [am_ln] at q; exact q.symm
    subst hl1
    unfold am_bz at hex
    split at hex
    · split at hex
      · cases hex
      · rename_i hz
        cases hex
        intro H locs ls cells slots hP hS hl hc hs
        exact lv_idiv hx hb hd hz (k1 H locs ls cells slots hP hS hl hc hs)
    · cases hex
  · have hl1 : len = 1 := by have q := hln; simp [am_ln] at q; exact q.symm
    subst hl1
    unfold am_bz at hex
    split at hex
    · split at hex
      · cases hex
      · rename_i hz
        cases hex
        intro H locs ls cells slots hP hS hl hc hs
        exact lv_irem hx hb hd hz (k1 H locs ls cells slots hP hS hl hc hs)
    · cases hex
  · have hl1 : len = 1 := by have q := hln; simp [am_ln] at q; exact q.symm
    subst hl1
    unfold am_bl at hex
    split at hex
    · cases hex
      intro H locs ls cells slots hP hS hl hc hs
      exact lv_ladd hx hb hd (k1 H locs ls cells slots hP hS hl hc hs)
    · cases hex
  · have hl1 : len = 1 := by have q := hln; simp [am_ln] at q; exact q.symm
    subst hl1
    unfold am_bl at hex
    split at hex
    · cases hex
      intro H locs ls cells slots hP hS hl hc hs
      exact lv_lmul hx hb hd (k1 H locs ls cells slots hP hS hl hc hs)
    · cases hex
  · have hl1 : len = 1 := by have q := hln; simp [am_ln] at q; exact q.symm
    subst hl1
    unfold am_blz at hex
    split at hex
    · split at hex
      · cases hex
      · rename_i hz
        cases hex
        intro H locs ls cells slots hP hS hl hc hs
        exact lv_ldiv hx hb hd hz (k1 H locs ls cells slots hP hS hl hc hs)
    · cases hex
  · have hl1 : len = 1 := by have q := hln; simp [am_ln] at q; exact q.symm
    subst hl1
    unfold am_blz at hex
    split at hex
    · split at hex
      · cases hex
      · rename_i hz
        cases hex
        intro H locs ls cells slots hP hS hl hc hs
        exact lv_lrem hx hb hd hz (k1 H locs ls cells slots hP hS hl hc hs)
    · cases hex
  -- lcmp, i2l, dup, dup2, pop
  · have hl1 : len = 1 := by have q := hln; simp [am_ln] at q; exact q.symm
    subst hl1
    split at hex
    · cases hex
      intro H locs ls cells slots hP hS hl hc hs
      exact W.lcmp hx hb hd (k1 H locs ls cells slots hP hS hl hc hs)
    · cases hex
  · have hl1 : len = 1 := by have q := hln; simp [am_ln] at q; exact q.symm
    subst hl1
    split at hex
    · cases hex
      intro H locs ls cells slots hP hS hl hc hs
      exact lv_i2l hx hb hd rfl (k1 H locs ls cells slots hP hS hl hc hs)
    · cases hex
  · have hl1 : len = 1 := by have q := hln; simp [am_ln] at q; exact q.symm
    subst hl1
    split at hex
    · split at hex
      · rename_i hcat
        cases hex
        intro H locs ls cells slots hP hS hl hc hs
        exact lv_dup hx hb hd (by rw [am_tr_cat]; exact hcat) (k1 H locs ls cells slots hP hS hl hc hs)
      · cases hex
    · cases hex
  · have hl1 : len = 1 := by have q := hln; simp [am_ln] at q; exact q.symm
    subst hl1
    split at hex
    · split at hex
      · rename_i hcat
        cases hex
        intro H locs ls cells slots hP hS hl hc hs
        exact lv_dup2_11 hx hb hd (by rw [am_tr_cat]; exact hcat.1) (by rw [am_tr_cat]; exact hcat.2) (k1 H locs ls cells slots hP hS hl hc hs)
      · cases hex
    · cases hex
  · have hl1 : len = 1 := by have q := hln; simp [am_ln] at q; exact q.symm
    subst hl1
    split at hex
    · split at hex
      · rename_i hcat
        cases hex
        intro H locs ls cells slots hP hS hl hc hs
        exact lv_pop hx hb hd (by rw [am_tr_cat]; exact hcat) (k1 H locs ls cells slots hP hS hl hc hs)
      · cases hex
    · cases hex
  -- jumps
  · have hl1 : len = 3 := by have q := hln; simp [am_ln] at q; exact q.symm
    subst hl1
    obtain ⟨tgt, ht, rfl⟩ := sm_jmp2 K hex
    exact sm_go K hd ht k1
  · have hl1 : len = 3 := by have q := hln; simp [am_ln] at q; exact q.symm
    subst hl1
    split at hex
    · split at hex
      · cases hex
      rename_i hneg
      split at hex
      · rename_i hc0
        cases hex
        exact sm_ifT K hd (by omega) hc0 k1
      · rename_i hc0
        cases hex
        exact sm_ifF K hd hc0 _ (Int.toNat_of_nonneg (by omega)).symm k1
    · cases hex
  · have hl1 : len = 3 := by have q := hln; simp [am_ln] at q; exact q.symm
    subst hl1
    split at hex
    · split at hex
      · cases hex
      rename_i hneg
      split at hex
      · rename_i hc0
        cases hex
        exact sm_icT K hd (by omega) hc0 k1
      · rename_i hc0
        cases hex
        exact sm_icF K hd hc0 _ (Int.toNat_of_nonneg (by omega)).symm k1
    · cases hex
  · split at hex
    · unfold am_tsw at hex
      split at hex
      · rename_i hc0
        obtain ⟨tgt, ht, rfl⟩ := sm_jmp2 K hex
        intro H locs ls cells slots hP hS hl hc hs
        exact lv_tableOut hx hb hd hc0 ht (k1 H locs ls cells slots hP hS hl hc hs)
      · rename_i hc0
        split at hex
        · rename_i off ho
          obtain ⟨tgt, ht, rfl⟩ := sm_jmp2 K hex
          intro H locs ls cells slots hP hS hl hc hs
          exact lv_tableIn hx hb hd (fun q => hc0 (Or.inl q)) (fun q => hc0 (Or.inr q)) ho ht (k1 H locs ls cells slots hP hS hl hc hs)
        · cases hex
    · cases hex
  -- memory
  · have hl1 : len = 3 := by have q := hln; simp [am_ln] at q; exact q.symm
    subst hl1
    split at hex
    · rename_i hf
      split at hex
      · cases hex
      · rename_i ha
        split at hex
        · rename_i hg; cases hex; exact sm_gf K hf ha hg hd k1
        · cases hex
    · cases hex
  · have hl1 : len = 3 := by have q := hln; simp [am_ln] at q; exact q.symm
    subst hl1
    split at hex
    · rename_i hf
      split at hex
      · cases hex
      · rename_i ha
        split at hex
        · rename_i hg; cases hex; exact sm_pf K hf ha hg hd k1
        · cases hex
    · cases hex
  · have hl1 : len = 3 := by have q := hln; simp [am_ln] at q; exact q.symm
    subst hl1
    split at hex
    · rename_i hf; cases hex; exact sm_sta K hf hd k1
    · cases hex
  · have hl1 : len = 1 := by have q := hln; simp [am_ln] at q; exact q.symm
    subst hl1
    split at hex
    · split at hex
      · rename_i hg; cases hex; exact sm_al K hg hd k1
      · cases hex
    · cases hex
  · have hl1 : len = 1 := by have q := hln; simp [am_ln] at q; exact q.symm
    subst hl1
    split at hex
    · split at hex
      · rename_i hg; cases hex; exact sm_zl K hg hd k1
      · cases hex
    · cases hex
  · have hl1 : len = 1 := by have q := hln; simp [am_ln] at q; exact q.symm
    subst hl1
    split at hex
    · split at hex
      · rename_i hg; cases hex; exact sm_as K hg hd k1
      · cases hex
    · cases hex
  · have hl1 : len = 1 := by have q := hln; simp [am_ln] at q; exact q.symm
    subst hl1
    split at hex
    · split at hex
      · rename_i hg; cases hex; exact sm_zs K hg hd k1
      · cases hex
    · cases hex
  · have hl1 : len = 1 := by have q := hln; simp [am_ln] at q; exact q.symm
    subst hl1
    split at hex
    · split at hex
      · rename_i hg; cases hex; exact sm_rl K hg hd k1
      · cases hex
    · cases hex
  · have hl1 : len = 1 := by have q := hln; simp [am_ln] at q; exact q.symm
    subst hl1
    split at hex
    · split at hex
      · rename_i hg; cases hex; exact sm_rs K hg hd k1
      · cases hex
    · cases hex
  · have hl1 : len = 3 := by have q := hln; simp [am_ln] at q; exact q.symm
    subst hl1
    split at hex
    · rename_i hf
      cases hex
      refine sm_new K hf hR (fun q => ?_) hd k1
      simp [am_new] at hsmall
      omega
    · cases hex
  · have hl1 : len = 2 := by have q := hln; simp [am_ln] at q; exact q.symm
    subst hl1
    split at hex
    · split at hex
      · cases hex
      · rename_i hn
        cases hex
        refine sm_nwa K (Or.inl ⟨rfl, rfl⟩) hn hR (fun q => ?_) hd k1
        simp [am_nwa] at hsmall
        omega
    · split at hex
      · cases hex
      · rename_i hn
        cases hex
        refine sm_nwa K (Or.inr ⟨rfl, rfl⟩) hn hR (fun q => ?_) hd k1
        simp [am_nwa] at hsmall
        omega
    · cases hex
  · have hl1 : len = 3 := by have q := hln; simp [am_ln] at q; exact q.symm
    subst hl1
    split at hex
    · rename_i hf
      split at hex
      · cases hex
      · rename_i hn
        cases hex
        refine sm_anw K hf (Classical.byContradiction fun q => hn (Or.inr (Or.inr q))) (fun q => hn (Or.inl q)) (Nat.not_lt.mp fun q => hn (Or.inr (Or.inl q))) hR (fun q => ?_) hd k1
        simp [am_nwa] at hsmall
        omega
    · cases hex
  -- calls that stay here
  · unfold am_iv at hex
    (repeat' (split at hex)) <;> cases hex
  · have hl1 : len = 3 := by have q := hln; simp [am_ln] at q; exact q.symm
    subst hl1
    unfold am_is at hex
    split at hex
    · rename_i hcal
      split at hex
      · split at hex
        · cases hex
        · rename_i hab
          split at hex
          · rename_i hca hcb
            split at hex
            · rename_i hcond
              cases hex
              exact sm_ac K hcal (fun q => hab (Or.inl q)) (fun q => hab (Or.inr q)) hca hcb hcond ⟨hRf, hRl⟩ hd k1
            · cases hex
          · cases hex
      · cases hex
    · rename_i hcal
      split at hex
      · split at hex
        · rename_i hcw; cases hex; exact sm_mx K hcal hcw ⟨hRf, hRl⟩ ⟨Nat.le_trans hle.1 hR.1, Nat.le_trans hle.2 hR.2⟩ hd k1
        · cases hex
      · cases hex
    · rename_i hcal
      split at hex
      · split at hex
        · rename_i hcw; cases hex; exact sm_mi K hcal hcw ⟨hRf, hRl⟩ ⟨Nat.le_trans hle.1 hR.1, Nat.le_trans hle.2 hR.2⟩ hd k1
        · cases hex
      · cases hex
    · split at hex <;> cases hex
    · cases hex
  · have hl1 : len = 3 := by have q := hln; simp [am_ln] at q; exact q.symm
    subst hl1
    unfold am_ii at hex
    split at hex
    · rename_i hcal
      split at hex
      · split at hex
        · rename_i hcw; cases hex; exact sm_oi K hcal hcw ⟨hRf, by omega⟩ hd k1
        · cases hex
      · cases hex
    · (repeat' (split at hex)) <;> cases hex
    · cases hex
  all_goals ((repeat' (split at hex)) <;> cases hex)
end
