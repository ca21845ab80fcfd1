-- RULES: a frame's run, goal first, an instruction a rule
section
variable {C : Nat → List Value → am_H → am_H → Option Value → Prop} {d : Nat} {μ : am_M} {pc pc' : Nat} {lo lo' : List (Nat × Value)} {st : List Value} {h h' : am_H} {r : Option Value}
theorem fe_i {i : Instr} {len : Nat} {f' : am_F} (hd : decode μ.2.1 pc = .ok (i, len)) (hln : am_ln i = 0 ∨ am_ln i = len) (hx : am_ex μ i pc lo st h = some (.inl f')) (hl : am_le h f'.2.2.2) (k : am_E d μ f' h' r) : am_E d μ (pc, lo, st, h) h' r := by
  obtain ⟨n, hn⟩ := k
  refine ⟨n + 1, Or.inr (Or.inl ⟨f', ?_, hl, hn⟩)⟩
  simp only [am_act, hd, if_pos hln, hx]
theorem fe_r {i : Instr} {len : Nat} (hd : decode μ.2.1 pc = .ok (i, len)) (hln : am_ln i = 0 ∨ am_ln i = len) (hx : am_ex μ i pc lo st h = some (.inr (.inl r))) : am_E d μ (pc, lo, st, h) h r := by
  refine ⟨1, Or.inr (Or.inr (Or.inl ⟨?_, rfl⟩))⟩
  simp only [am_act, hd, if_pos hln, hx]
theorem fe_c {i : Instr} {len z : Nat} {as : List Value} {f' : am_F} {h1 : am_H} {r1 : Option Value} (hd : decode μ.2.1 pc = .ok (i, len)) (hln : am_ln i = 0 ∨ am_ln i = len) (hx : am_ex μ i pc lo st h = some (.inr (.inr (z, as, f')))) (hE : am_Ev d z as h h1 r1) (hl : am_le h h1) (k : am_E d μ (f'.1, f'.2.1, r1.toList ++ f'.2.2.1, h1) h' r) : am_E d μ (pc, lo, st, h) h' r := by
  obtain ⟨n, hn⟩ := k
  refine ⟨n + 1, Or.inr (Or.inr (Or.inr ⟨z, as, f', h1, r1, ?_, hE, hl, hn⟩))⟩
  simp only [am_act, hd, if_pos hln, hx]
theorem fe_drop (lo' : List (Nat × Value)) (hs : ∀ q ∈ lo', q ∈ lo) (k : am_E d μ (pc, lo', st, h) h' r) : am_E d μ (pc, lo, st, h) h' r := by
  obtain ⟨n, hn⟩ := k
  exact ⟨n + 1, Or.inl ⟨lo', hs, hn⟩⟩
/-- fewer locals, by their places -/
theorem fe_pick (ks : List Nat) (hs : ks.filterMap (fun k => lo[k]?) = lo') (k : am_E d μ (pc, lo', st, h) h' r) : am_E d μ (pc, lo, st, h) h' r := by
  refine fe_drop lo' (fun q hq => ?_) k
  rw [← hs] at hq
  obtain ⟨j, -, hj⟩ := List.mem_filterMap.mp hq
  exact List.mem_of_getElem? hj
theorem am_Fin_mono {C C' : Nat → List Value → am_H → am_H → Option Value → Prop} (hC : ∀ z as a b r, C z as a b r → C' z as a b r) : ∀ n f h' r, am_Fin C μ n f h' r → am_Fin C' μ n f h' r
  | 0, _, _, _, h => h
  | n + 1, f, h', r, h => by
    rcases h with ⟨lo', hs, h⟩ | ⟨f', ha, hl, h⟩ | h | ⟨z, as, f', h1, r1, ha, hc, hl, h⟩
    · exact Or.inl ⟨lo', hs, am_Fin_mono hC n _ _ _ h⟩
    · exact Or.inr (Or.inl ⟨f', ha, hl, am_Fin_mono hC n _ _ _ h⟩)
    · exact Or.inr (Or.inr (Or.inl h))
    · exact Or.inr (Or.inr (Or.inr ⟨z, as, f', h1, r1, ha, hC _ _ _ _ _ hc, hl, am_Fin_mono hC n _ _ _ h⟩))
theorem am_Ev_succ : ∀ (d z : Nat) (as : List Value) (h h' : am_H) (r : Option Value), am_Ev d z as h h' r → am_Ev (d + 1) z as h h' r
  | 0, _, _, _, _, _, h => h.elim
  | d + 1, z, as, h, h', r, hE => by
    obtain ⟨μ, hμ, hl, n, hF⟩ := hE
    exact ⟨μ, hμ, hl, n, am_Fin_mono (fun z as a b r q => am_Ev_succ d z as a b r q) n _ _ _ hF⟩
theorem am_up {d d' z : Nat} {as : List Value} {h h' : am_H} {r : Option Value} (hd : d ≤ d') (hE : am_Ev d z as h h' r) : am_Ev d' z as h h' r := by
  induction hd with
  | refl => exact hE
  | step _ ih => exact am_Ev_succ _ _ _ _ _ _ ih
theorem am_ev {z : Nat} {as : List Value} (μ : am_M) (hμ : am_ms[z]? = some μ) (hl : (lg_sl as).length ≤ μ.2.2.1) (lo : List (Nat × Value)) (hlo : lv_args 0 as = lo) (k : am_E d μ (0, lo, [], h) h' r) : am_Ev (d + 1) z as h h' r := by
  obtain ⟨n, hn⟩ := k
  subst hlo
  exact ⟨μ, hμ, hl, n, hn⟩
theorem am_gd {α : Type} {b : Prop} {inst : Decidable b} {x y : Option α} {v : α} (hy : y = none) (h : (@ite _ b inst x y) = some v) : b ∧ x = some v := by
  subst hy
  split at h
  · exact ⟨by assumption, h⟩
  · cases h
theorem am_bd {α β : Type} {x : Option α} {f : α → Option β} {v : β} (h : x.bind f = some v) : ∃ q, x = some q ∧ f q = some v := Option.bind_eq_some_iff.mp h
-- locals
theorem fe_la {k : Nat} {x : Nat} (hd : decode μ.2.1 pc = .ok (.aload k, 2)) (hp : pc + 2 = pc') (hg : am_get lo k = some (.ref x)) (kk : am_E d μ (pc', lo, .ref x :: st, h) h' r) : am_E d μ (pc, lo, st, h) h' r :=
  fe_i (f' := (pc', lo, .ref x :: st, h)) hd (Or.inr rfl) (by simp only [am_ex, am_la, hg, hp]) (am_le_rf _) kk
theorem fe_lan {k : Fin 4} {x : Nat} (hd : decode μ.2.1 pc = .ok (.aload_n k, 1)) (hp : pc + 1 = pc') (hg : am_get lo k.val = some (.ref x)) (kk : am_E d μ (pc', lo, .ref x :: st, h) h' r) : am_E d μ (pc, lo, st, h) h' r :=
  fe_i (f' := (pc', lo, .ref x :: st, h)) hd (Or.inr rfl) (by simp only [am_ex, am_la, hg, hp]) (am_le_rf _) kk
theorem fe_li {k : Nat} {x : Int32} (hd : decode μ.2.1 pc = .ok (.iload k, 2)) (hp : pc + 2 = pc') (hg : am_get lo k = some (.int x)) (kk : am_E d μ (pc', lo, .int x :: st, h) h' r) : am_E d μ (pc, lo, st, h) h' r :=
  fe_i (f' := (pc', lo, .int x :: st, h)) hd (Or.inr rfl) (by simp only [am_ex, am_li, hg, hp]) (am_le_rf _) kk
theorem fe_lin {k : Fin 4} {x : Int32} (hd : decode μ.2.1 pc = .ok (.iload_n k, 1)) (hp : pc + 1 = pc') (hg : am_get lo k.val = some (.int x)) (kk : am_E d μ (pc', lo, .int x :: st, h) h' r) : am_E d μ (pc, lo, st, h) h' r :=
  fe_i (f' := (pc', lo, .int x :: st, h)) hd (Or.inr rfl) (by simp only [am_ex, am_li, hg, hp]) (am_le_rf _) kk
theorem fe_ll {k : Nat} {x : Int64} (hd : decode μ.2.1 pc = .ok (.lload k, 2)) (hp : pc + 2 = pc') (hg : am_get lo k = some (.long x)) (kk : am_E d μ (pc', lo, .long x :: st, h) h' r) : am_E d μ (pc, lo, st, h) h' r :=
  fe_i (f' := (pc', lo, .long x :: st, h)) hd (Or.inr rfl) (by simp only [am_ex, am_ll, hg, hp]) (am_le_rf _) kk
theorem fe_lln {k : Fin 4} {x : Int64} (hd : decode μ.2.1 pc = .ok (.lload_n k, 1)) (hp : pc + 1 = pc') (hg : am_get lo k.val = some (.long x)) (kk : am_E d μ (pc', lo, .long x :: st, h) h' r) : am_E d μ (pc, lo, st, h) h' r :=
  fe_i (f' := (pc', lo, .long x :: st, h)) hd (Or.inr rfl) (by simp only [am_ex, am_ll, hg, hp]) (am_le_rf _) kk
theorem fe_si {k : Nat} {x : Int32} (hd : decode μ.2.1 pc = .ok (.istore k, 2)) (hp : pc + 2 = pc') (hn : k < μ.2.2.1) (hs : am_set k (.int x) lo = lo') (kk : am_E d μ (pc', lo', st, h) h' r) : am_E d μ (pc, lo, .int x :: st, h) h' r :=
  fe_i (f' := (pc', lo', st, h)) hd (Or.inr rfl) (by simp only [am_ex, am_si, if_pos hn, hs, hp]) (am_le_rf _) kk
theorem fe_sin {k : Fin 4} {x : Int32} (hd : decode μ.2.1 pc = .ok (.istore_n k, 1)) (hp : pc + 1 = pc') (hn : k.val < μ.2.2.1) (hs : am_set k.val (.int x) lo = lo') (kk : am_E d μ (pc', lo', st, h) h' r) : am_E d μ (pc, lo, .int x :: st, h) h' r :=
  fe_i (f' := (pc', lo', st, h)) hd (Or.inr rfl) (by simp only [am_ex, am_si, if_pos hn, hs, hp]) (am_le_rf _) kk
theorem fe_sl {k : Nat} {x : Int64} (hd : decode μ.2.1 pc = .ok (.lstore k, 2)) (hp : pc + 2 = pc') (hn : k + 1 < μ.2.2.1) (hs : am_set2 k (.long x) lo = lo') (kk : am_E d μ (pc', lo', st, h) h' r) : am_E d μ (pc, lo, .long x :: st, h) h' r :=
  fe_i (f' := (pc', lo', st, h)) hd (Or.inr rfl) (by simp only [am_ex, am_sl, if_pos hn, hs, hp]) (am_le_rf _) kk
theorem fe_sln {k : Fin 4} {x : Int64} (hd : decode μ.2.1 pc = .ok (.lstore_n k, 1)) (hp : pc + 1 = pc') (hn : k.val + 1 < μ.2.2.1) (hs : am_set2 k.val (.long x) lo = lo') (kk : am_E d μ (pc', lo', st, h) h' r) : am_E d μ (pc, lo, .long x :: st, h) h' r :=
  fe_i (f' := (pc', lo', st, h)) hd (Or.inr rfl) (by simp only [am_ex, am_sl, if_pos hn, hs, hp]) (am_le_rf _) kk
theorem fe_sa {k : Nat} {x : Nat} (hd : decode μ.2.1 pc = .ok (.astore k, 2)) (hp : pc + 2 = pc') (hn : k < μ.2.2.1) (hs : am_set k (.ref x) lo = lo') (kk : am_E d μ (pc', lo', st, h) h' r) : am_E d μ (pc, lo, .ref x :: st, h) h' r :=
  fe_i (f' := (pc', lo', st, h)) hd (Or.inr rfl) (by simp only [am_ex, am_sa, if_pos hn, hs, hp]) (am_le_rf _) kk
theorem fe_san {k : Fin 4} {x : Nat} (hd : decode μ.2.1 pc = .ok (.astore_n k, 1)) (hp : pc + 1 = pc') (hn : k.val < μ.2.2.1) (hs : am_set k.val (.ref x) lo = lo') (kk : am_E d μ (pc', lo', st, h) h' r) : am_E d μ (pc, lo, .ref x :: st, h) h' r :=
  fe_i (f' := (pc', lo', st, h)) hd (Or.inr rfl) (by simp only [am_ex, am_sa, if_pos hn, hs, hp]) (am_le_rf _) kk
theorem fe_inc {k : Nat} {n : Int} {v x : Int32} (hd : decode μ.2.1 pc = .ok (.iinc k n, 3)) (hp : pc + 3 = pc') (hv : Int32.ofInt n = v) (hn : k < μ.2.2.1) (hg : am_get lo k = some (.int x)) (hs : am_set k (.int (x + v)) lo = lo') (kk : am_E d μ (pc', lo', st, h) h' r) : am_E d μ (pc, lo, st, h) h' r :=
  fe_i (f' := (pc', lo', st, h)) hd (Or.inr rfl) (by simp only [am_ex, hg, if_pos hn, hv, hs, hp]) (am_le_rf _) kk
-- constants
theorem fe_ic {n : Int} {v : Int32} (hd : decode μ.2.1 pc = .ok (.iconst n, 1)) (hp : pc + 1 = pc') (hv : Int32.ofInt n = v) (kk : am_E d μ (pc', lo, .int v :: st, h) h' r) : am_E d μ (pc, lo, st, h) h' r :=
  fe_i (f' := (pc', lo, .int v :: st, h)) hd (Or.inr rfl) (by simp only [am_ex, hv, hp]) (am_le_rf _) kk
theorem fe_bp {n : Int} {v : Int32} (hd : decode μ.2.1 pc = .ok (.bipush n, 2)) (hp : pc + 2 = pc') (hv : (Int8.ofInt n).toInt32 = v) (kk : am_E d μ (pc', lo, .int v :: st, h) h' r) : am_E d μ (pc, lo, st, h) h' r :=
  fe_i (f' := (pc', lo, .int v :: st, h)) hd (Or.inr rfl) (by simp only [am_ex, hv, hp]) (am_le_rf _) kk
theorem fe_sp {n : Int} {v : Int32} (hd : decode μ.2.1 pc = .ok (.sipush n, 3)) (hp : pc + 3 = pc') (hv : (Int16.ofInt n).toInt32 = v) (kk : am_E d μ (pc', lo, .int v :: st, h) h' r) : am_E d μ (pc, lo, st, h) h' r :=
  fe_i (f' := (pc', lo, .int v :: st, h)) hd (Or.inr rfl) (by simp only [am_ex, hv, hp]) (am_le_rf _) kk
theorem fe_lc {n : Fin 2} {v : Int64} (hd : decode μ.2.1 pc = .ok (.lconst n, 1)) (hp : pc + 1 = pc') (hv : Int64.ofNat n.val = v) (kk : am_E d μ (pc', lo, .long v :: st, h) h' r) : am_E d μ (pc, lo, st, h) h' r :=
  fe_i (f' := (pc', lo, .long v :: st, h)) hd (Or.inr rfl) (by simp only [am_ex, hv, hp]) (am_le_rf _) kk
theorem fe_ldc {k : Nat} {v : Int32} (hd : decode μ.2.1 pc = .ok (.ldc k, 2)) (hp : pc + 2 = pc') (hv : am_kst μ.2.2.2.2 k = some v) (kk : am_E d μ (pc', lo, .int v :: st, h) h' r) : am_E d μ (pc, lo, st, h) h' r :=
  fe_i (f' := (pc', lo, .int v :: st, h)) hd (Or.inr rfl) (by simp only [am_ex, hv, hp]) (am_le_rf _) kk
theorem fe_ldw {k : Nat} {v : Int32} (hd : decode μ.2.1 pc = .ok (.ldc_w k, 3)) (hp : pc + 3 = pc') (hv : am_kst μ.2.2.2.2 k = some v) (kk : am_E d μ (pc', lo, .int v :: st, h) h' r) : am_E d μ (pc, lo, st, h) h' r :=
  fe_i (f' := (pc', lo, .int v :: st, h)) hd (Or.inr rfl) (by simp only [am_ex, hv, hp]) (am_le_rf _) kk
theorem fe_ld2 {k : Nat} {v : Int64} (hd : decode μ.2.1 pc = .ok (.ldc2_w k, 3)) (hp : pc + 3 = pc') (hv : am_ksl μ.2.2.2.2 k = some v) (kk : am_E d μ (pc', lo, .long v :: st, h) h' r) : am_E d μ (pc, lo, st, h) h' r :=
  fe_i (f' := (pc', lo, .long v :: st, h)) hd (Or.inr rfl) (by simp only [am_ex, hv, hp]) (am_le_rf _) kk
theorem fe_iadd {x y : Int32} (hd : decode μ.2.1 pc = .ok (.iadd, 1)) (hp : pc + 1 = pc') (kk : am_E d μ (pc', lo, .int (x + y) :: st, h) h' r) : am_E d μ (pc, lo, .int y :: .int x :: st, h) h' r :=
  fe_i (f' := (pc', lo, .int (x + y) :: st, h)) hd (Or.inr rfl) (by simp only [am_ex, am_bi, hp]) (am_le_rf _) kk
theorem fe_isub {x y : Int32} (hd : decode μ.2.1 pc = .ok (.isub, 1)) (hp : pc + 1 = pc') (kk : am_E d μ (pc', lo, .int (x - y) :: st, h) h' r) : am_E d μ (pc, lo, .int y :: .int x :: st, h) h' r :=
  fe_i (f' := (pc', lo, .int (x - y) :: st, h)) hd (Or.inr rfl) (by simp only [am_ex, am_bi, hp]) (am_le_rf _) kk
theorem fe_imul {x y : Int32} (hd : decode μ.2.1 pc = .ok (.imul, 1)) (hp : pc + 1 = pc') (kk : am_E d μ (pc', lo, .int (x * y) :: st, h) h' r) : am_E d μ (pc, lo, .int y :: .int x :: st, h) h' r :=
  fe_i (f' := (pc', lo, .int (x * y) :: st, h)) hd (Or.inr rfl) (by simp only [am_ex, am_bi, hp]) (am_le_rf _) kk
theorem fe_iand {x y : Int32} (hd : decode μ.2.1 pc = .ok (.iand, 1)) (hp : pc + 1 = pc') (kk : am_E d μ (pc', lo, .int (x &&& y) :: st, h) h' r) : am_E d μ (pc, lo, .int y :: .int x :: st, h) h' r :=
  fe_i (f' := (pc', lo, .int (x &&& y) :: st, h)) hd (Or.inr rfl) (by simp only [am_ex, am_bi, hp]) (am_le_rf _) kk
theorem fe_ior {x y : Int32} (hd : decode μ.2.1 pc = .ok (.ior, 1)) (hp : pc + 1 = pc') (kk : am_E d μ (pc', lo, .int (x ||| y) :: st, h) h' r) : am_E d μ (pc, lo, .int y :: .int x :: st, h) h' r :=
  fe_i (f' := (pc', lo, .int (x ||| y) :: st, h)) hd (Or.inr rfl) (by simp only [am_ex, am_bi, hp]) (am_le_rf _) kk
theorem fe_ishl {x y : Int32} (hd : decode μ.2.1 pc = .ok (.ishl, 1)) (hp : pc + 1 = pc') (kk : am_E d μ (pc', lo, .int (x <<< (y &&& 31)) :: st, h) h' r) : am_E d μ (pc, lo, .int y :: .int x :: st, h) h' r :=
  fe_i (f' := (pc', lo, .int (x <<< (y &&& 31)) :: st, h)) hd (Or.inr rfl) (by simp only [am_ex, am_bi, hp]) (am_le_rf _) kk
theorem fe_ishr {x y : Int32} (hd : decode μ.2.1 pc = .ok (.ishr, 1)) (hp : pc + 1 = pc') (kk : am_E d μ (pc', lo, .int (x >>> (y &&& 31)) :: st, h) h' r) : am_E d μ (pc, lo, .int y :: .int x :: st, h) h' r :=
  fe_i (f' := (pc', lo, .int (x >>> (y &&& 31)) :: st, h)) hd (Or.inr rfl) (by simp only [am_ex, am_bi, hp]) (am_le_rf _) kk
theorem fe_idiv {x y : Int32} (hd : decode μ.2.1 pc = .ok (.idiv, 1)) (hp : pc + 1 = pc') (hz : ¬ y = 0) (kk : am_E d μ (pc', lo, .int (x / y) :: st, h) h' r) : am_E d μ (pc, lo, .int y :: .int x :: st, h) h' r :=
  fe_i (f' := (pc', lo, .int (x / y) :: st, h)) hd (Or.inr rfl) (by simp only [am_ex, am_bz, if_neg hz, hp]) (am_le_rf _) kk
theorem fe_irem {x y : Int32} (hd : decode μ.2.1 pc = .ok (.irem, 1)) (hp : pc + 1 = pc') (hz : ¬ y = 0) (kk : am_E d μ (pc', lo, .int (x - x / y * y) :: st, h) h' r) : am_E d μ (pc, lo, .int y :: .int x :: st, h) h' r :=
  fe_i (f' := (pc', lo, .int (x - x / y * y) :: st, h)) hd (Or.inr rfl) (by simp only [am_ex, am_bz, if_neg hz, hp]) (am_le_rf _) kk
theorem fe_ladd {x y : Int64} (hd : decode μ.2.1 pc = .ok (.ladd, 1)) (hp : pc + 1 = pc') (kk : am_E d μ (pc', lo, .long (x + y) :: st, h) h' r) : am_E d μ (pc, lo, .long y :: .long x :: st, h) h' r :=
  fe_i (f' := (pc', lo, .long (x + y) :: st, h)) hd (Or.inr rfl) (by simp only [am_ex, am_bl, hp]) (am_le_rf _) kk
theorem fe_lmul {x y : Int64} (hd : decode μ.2.1 pc = .ok (.lmul, 1)) (hp : pc + 1 = pc') (kk : am_E d μ (pc', lo, .long (x * y) :: st, h) h' r) : am_E d μ (pc, lo, .long y :: .long x :: st, h) h' r :=
  fe_i (f' := (pc', lo, .long (x * y) :: st, h)) hd (Or.inr rfl) (by simp only [am_ex, am_bl, hp]) (am_le_rf _) kk
theorem fe_ldiv {x y : Int64} (hd : decode μ.2.1 pc = .ok (.ldiv, 1)) (hp : pc + 1 = pc') (hz : ¬ y = 0) (kk : am_E d μ (pc', lo, .long (x / y) :: st, h) h' r) : am_E d μ (pc, lo, .long y :: .long x :: st, h) h' r :=
  fe_i (f' := (pc', lo, .long (x / y) :: st, h)) hd (Or.inr rfl) (by simp only [am_ex, am_blz, if_neg hz, hp]) (am_le_rf _) kk
theorem fe_lrem {x y : Int64} (hd : decode μ.2.1 pc = .ok (.lrem, 1)) (hp : pc + 1 = pc') (hz : ¬ y = 0) (kk : am_E d μ (pc', lo, .long (x - x / y * y) :: st, h) h' r) : am_E d μ (pc, lo, .long y :: .long x :: st, h) h' r :=
  fe_i (f' := (pc', lo, .long (x - x / y * y) :: st, h)) hd (Or.inr rfl) (by simp only [am_ex, am_blz, if_neg hz, hp]) (am_le_rf _) kk
-- stack
theorem fe_lcmp {x y : Int64} (hd : decode μ.2.1 pc = .ok (.lcmp, 1)) (hp : pc + 1 = pc') (kk : am_E d μ (pc', lo, .int (lg_cmp x y) :: st, h) h' r) : am_E d μ (pc, lo, .long y :: .long x :: st, h) h' r :=
  fe_i (f' := (pc', lo, .int (lg_cmp x y) :: st, h)) hd (Or.inr rfl) (by simp only [am_ex, hp]) (am_le_rf _) kk
theorem fe_i2l {x : Int32} (hd : decode μ.2.1 pc = .ok (.i2l, 1)) (hp : pc + 1 = pc') (kk : am_E d μ (pc', lo, .long x.toInt64 :: st, h) h' r) : am_E d μ (pc, lo, .int x :: st, h) h' r :=
  fe_i (f' := (pc', lo, .long x.toInt64 :: st, h)) hd (Or.inr rfl) (by simp only [am_ex, hp]) (am_le_rf _) kk
theorem fe_dup {v : Value} (hd : decode μ.2.1 pc = .ok (.dup, 1)) (hp : pc + 1 = pc') (hv : v.category = 1) (kk : am_E d μ (pc', lo, v :: v :: st, h) h' r) : am_E d μ (pc, lo, v :: st, h) h' r :=
  fe_i (f' := (pc', lo, v :: v :: st, h)) hd (Or.inr rfl) (by simp only [am_ex, if_pos hv, hp]) (am_le_rf _) kk
theorem fe_dup2 {v w : Value} (hd : decode μ.2.1 pc = .ok (.dup2, 1)) (hp : pc + 1 = pc') (hv : v.category = 1 ∧ w.category = 1) (kk : am_E d μ (pc', lo, v :: w :: v :: w :: st, h) h' r) : am_E d μ (pc, lo, v :: w :: st, h) h' r :=
  fe_i (f' := (pc', lo, v :: w :: v :: w :: st, h)) hd (Or.inr rfl) (by simp only [am_ex, if_pos hv, hp]) (am_le_rf _) kk
theorem fe_pop {v : Value} (hd : decode μ.2.1 pc = .ok (.pop, 1)) (hp : pc + 1 = pc') (hv : v.category = 1) (kk : am_E d μ (pc', lo, st, h) h' r) : am_E d μ (pc, lo, v :: st, h) h' r :=
  fe_i (f' := (pc', lo, st, h)) hd (Or.inr rfl) (by simp only [am_ex, if_pos hv, hp]) (am_le_rf _) kk
-- jumps
theorem am_jmp_eq {off : Int} {tgt : Nat} (ht : (pc : Int) + off = (tgt : Int)) : am_jmp pc off lo st h = some (.inl (tgt, lo, st, h)) := by
  simp only [am_jmp, ht]
  rw [if_neg (by omega)]
  simp
theorem fe_go {off : Int} {tgt : Nat} (hd : decode μ.2.1 pc = .ok (.goto off, 3)) (ht : (pc : Int) + off = (tgt : Int)) (kk : am_E d μ (tgt, lo, st, h) h' r) : am_E d μ (pc, lo, st, h) h' r :=
  fe_i (f' := (tgt, lo, st, h)) hd (Or.inr rfl) (by simp only [am_ex, am_jmp_eq ht]) (am_le_rf _) kk
theorem fe_ift {c : Jvm.ClassFile.Cond} {off : Int} {tgt : Nat} {x : Int32} (hd : decode μ.2.1 pc = .ok (.ifCond c off, 3)) (ht : (pc : Int) + off = (tgt : Int)) (hc : am_ci c x 0 = true) (kk : am_E d μ (tgt, lo, st, h) h' r) : am_E d μ (pc, lo, .int x :: st, h) h' r :=
  fe_i (f' := (tgt, lo, st, h)) hd (Or.inr rfl) (by simp only [am_ex, ht, hc]; rw [if_neg (by omega)]; simp) (am_le_rf _) kk
theorem fe_iff {c : Jvm.ClassFile.Cond} {off : Int} {tgt : Nat} {x : Int32} (hd : decode μ.2.1 pc = .ok (.ifCond c off, 3)) (ht : (pc : Int) + off = (tgt : Int)) (hp : pc + 3 = pc') (hc : ¬ am_ci c x 0 = true) (kk : am_E d μ (pc', lo, st, h) h' r) : am_E d μ (pc, lo, .int x :: st, h) h' r :=
  fe_i (f' := (pc', lo, st, h)) hd (Or.inr rfl) (by simp only [am_ex, ht, hp]; rw [if_neg (by omega), if_neg hc]) (am_le_rf _) kk
theorem fe_ict {c : Jvm.ClassFile.Cond} {off : Int} {tgt : Nat} {x y : Int32} (hd : decode μ.2.1 pc = .ok (.if_icmp c off, 3)) (ht : (pc : Int) + off = (tgt : Int)) (hc : am_ci c x y = true) (kk : am_E d μ (tgt, lo, st, h) h' r) : am_E d μ (pc, lo, .int y :: .int x :: st, h) h' r :=
  fe_i (f' := (tgt, lo, st, h)) hd (Or.inr rfl) (by simp only [am_ex, ht, hc]; rw [if_neg (by omega)]; simp) (am_le_rf _) kk
theorem fe_icf {c : Jvm.ClassFile.Cond} {off : Int} {tgt : Nat} {x y : Int32} (hd : decode μ.2.1 pc = .ok (.if_icmp c off, 3)) (ht : (pc : Int) + off = (tgt : Int)) (hp : pc + 3 = pc') (hc : ¬ am_ci c x y = true) (kk : am_E d μ (pc', lo, st, h) h' r) : am_E d μ (pc, lo, .int y :: .int x :: st, h) h' r :=
  fe_i (f' := (pc', lo, st, h)) hd (Or.inr rfl) (by simp only [am_ex, ht, hp]; rw [if_neg (by omega), if_neg hc]) (am_le_rf _) kk
theorem fe_ic_eq {off : Int} {tgt : Nat} {x y : Int32} (hd : decode μ.2.1 pc = .ok (.if_icmp .eq off, 3)) (ht : (pc : Int) + off = (tgt : Int)) (hp : pc + 3 = pc') (kt : x = y → am_E d μ (tgt, lo, st, h) h' r) (kf : ¬ x = y → am_E d μ (pc', lo, st, h) h' r) : am_E d μ (pc, lo, .int y :: .int x :: st, h) h' r := by
  by_cases hc : x = y
  · exact fe_ict hd ht (by simpa [am_ci] using hc) (kt hc)
  · exact fe_icf hd ht hp (by simpa [am_ci] using hc) (kf hc)
theorem fe_if_eq {off : Int} {tgt : Nat} {x : Int32} (hd : decode μ.2.1 pc = .ok (.ifCond .eq off, 3)) (ht : (pc : Int) + off = (tgt : Int)) (hp : pc + 3 = pc') (kt : x = 0 → am_E d μ (tgt, lo, st, h) h' r) (kf : ¬ x = 0 → am_E d μ (pc', lo, st, h) h' r) : am_E d μ (pc, lo, .int x :: st, h) h' r := by
  by_cases hc : x = 0
  · exact fe_ift hd ht (by simpa [am_ci] using hc) (kt hc)
  · exact fe_iff hd ht hp (by simpa [am_ci] using hc) (kf hc)
theorem fe_ic_ne {off : Int} {tgt : Nat} {x y : Int32} (hd : decode μ.2.1 pc = .ok (.if_icmp .ne off, 3)) (ht : (pc : Int) + off = (tgt : Int)) (hp : pc + 3 = pc') (kt : x = y → am_E d μ (pc', lo, st, h) h' r) (kf : ¬ x = y → am_E d μ (tgt, lo, st, h) h' r) : am_E d μ (pc, lo, .int y :: .int x :: st, h) h' r := by
  by_cases hc : x = y
  · exact fe_icf hd ht hp (by simpa [am_ci] using hc) (kt hc)
  · exact fe_ict hd ht (by simpa [am_ci] using hc) (kf hc)
theorem fe_if_ne {off : Int} {tgt : Nat} {x : Int32} (hd : decode μ.2.1 pc = .ok (.ifCond .ne off, 3)) (ht : (pc : Int) + off = (tgt : Int)) (hp : pc + 3 = pc') (kt : x = 0 → am_E d μ (pc', lo, st, h) h' r) (kf : ¬ x = 0 → am_E d μ (tgt, lo, st, h) h' r) : am_E d μ (pc, lo, .int x :: st, h) h' r := by
  by_cases hc : x = 0
  · exact fe_iff hd ht hp (by simpa [am_ci] using hc) (kt hc)
  · exact fe_ift hd ht (by simpa [am_ci] using hc) (kf hc)
theorem fe_ic_lt {off : Int} {tgt : Nat} {x y : Int32} (hd : decode μ.2.1 pc = .ok (.if_icmp .lt off, 3)) (ht : (pc : Int) + off = (tgt : Int)) (hp : pc + 3 = pc') (kt : x < y → am_E d μ (tgt, lo, st, h) h' r) (kf : ¬ x < y → am_E d μ (pc', lo, st, h) h' r) : am_E d μ (pc, lo, .int y :: .int x :: st, h) h' r := by
  by_cases hc : x < y
  · exact fe_ict hd ht (by simpa [am_ci] using hc) (kt hc)
  · exact fe_icf hd ht hp (by simpa [am_ci] using hc) (kf hc)
theorem fe_if_lt {off : Int} {tgt : Nat} {x : Int32} (hd : decode μ.2.1 pc = .ok (.ifCond .lt off, 3)) (ht : (pc : Int) + off = (tgt : Int)) (hp : pc + 3 = pc') (kt : x < 0 → am_E d μ (tgt, lo, st, h) h' r) (kf : ¬ x < 0 → am_E d μ (pc', lo, st, h) h' r) : am_E d μ (pc, lo, .int x :: st, h) h' r := by
  by_cases hc : x < 0
  · exact fe_ift hd ht (by simpa [am_ci] using hc) (kt hc)
  · exact fe_iff hd ht hp (by simpa [am_ci] using hc) (kf hc)
theorem fe_ic_ge {off : Int} {tgt : Nat} {x y : Int32} (hd : decode μ.2.1 pc = .ok (.if_icmp .ge off, 3)) (ht : (pc : Int) + off = (tgt : Int)) (hp : pc + 3 = pc') (kt : y ≤ x → am_E d μ (tgt, lo, st, h) h' r) (kf : ¬ y ≤ x → am_E d μ (pc', lo, st, h) h' r) : am_E d μ (pc, lo, .int y :: .int x :: st, h) h' r := by
  by_cases hc : y ≤ x
  · exact fe_ict hd ht (by simpa [am_ci] using hc) (kt hc)
  · exact fe_icf hd ht hp (by simpa [am_ci] using hc) (kf hc)
theorem fe_if_ge {off : Int} {tgt : Nat} {x : Int32} (hd : decode μ.2.1 pc = .ok (.ifCond .ge off, 3)) (ht : (pc : Int) + off = (tgt : Int)) (hp : pc + 3 = pc') (kt : 0 ≤ x → am_E d μ (tgt, lo, st, h) h' r) (kf : ¬ 0 ≤ x → am_E d μ (pc', lo, st, h) h' r) : am_E d μ (pc, lo, .int x :: st, h) h' r := by
  by_cases hc : 0 ≤ x
  · exact fe_ift hd ht (by simpa [am_ci] using hc) (kt hc)
  · exact fe_iff hd ht hp (by simpa [am_ci] using hc) (kf hc)
theorem fe_ic_gt {off : Int} {tgt : Nat} {x y : Int32} (hd : decode μ.2.1 pc = .ok (.if_icmp .gt off, 3)) (ht : (pc : Int) + off = (tgt : Int)) (hp : pc + 3 = pc') (kt : y < x → am_E d μ (tgt, lo, st, h) h' r) (kf : ¬ y < x → am_E d μ (pc', lo, st, h) h' r) : am_E d μ (pc, lo, .int y :: .int x :: st, h) h' r := by
  by_cases hc : y < x
  · exact fe_ict hd ht (by simpa [am_ci] using hc) (kt hc)
  · exact fe_icf hd ht hp (by simpa [am_ci] using hc) (kf hc)
theorem fe_if_gt {off : Int} {tgt : Nat} {x : Int32} (hd : decode μ.2.1 pc = .ok (.ifCond .gt off, 3)) (ht : (pc : Int) + off = (tgt : Int)) (hp : pc + 3 = pc') (kt : 0 < x → am_E d μ (tgt, lo, st, h) h' r) (kf : ¬ 0 < x → am_E d μ (pc', lo, st, h) h' r) : am_E d μ (pc, lo, .int x :: st, h) h' r := by
  by_cases hc : 0 < x
  · exact fe_ift hd ht (by simpa [am_ci] using hc) (kt hc)
  · exact fe_iff hd ht hp (by simpa [am_ci] using hc) (kf hc)
theorem fe_ic_le {off : Int} {tgt : Nat} {x y : Int32} (hd : decode μ.2.1 pc = .ok (.if_icmp .le off, 3)) (ht : (pc : Int) + off = (tgt : Int)) (hp : pc + 3 = pc') (kt : x ≤ y → am_E d μ (tgt, lo, st, h) h' r) (kf : ¬ x ≤ y → am_E d μ (pc', lo, st, h) h' r) : am_E d μ (pc, lo, .int y :: .int x :: st, h) h' r := by
  by_cases hc : x ≤ y
  · exact fe_ict hd ht (by simpa [am_ci] using hc) (kt hc)
  · exact fe_icf hd ht hp (by simpa [am_ci] using hc) (kf hc)
theorem fe_if_le {off : Int} {tgt : Nat} {x : Int32} (hd : decode μ.2.1 pc = .ok (.ifCond .le off, 3)) (ht : (pc : Int) + off = (tgt : Int)) (hp : pc + 3 = pc') (kt : x ≤ 0 → am_E d μ (tgt, lo, st, h) h' r) (kf : ¬ x ≤ 0 → am_E d μ (pc', lo, st, h) h' r) : am_E d μ (pc, lo, .int x :: st, h) h' r := by
  by_cases hc : x ≤ 0
  · exact fe_ift hd ht (by simpa [am_ci] using hc) (kt hc)
  · exact fe_iff hd ht hp (by simpa [am_ci] using hc) (kf hc)
theorem fe_bT {c : Jvm.ClassFile.Cond} {off : Int} {tgt : Nat} {q : Bool} (hd : decode μ.2.1 pc = .ok (.ifCond c off, 3)) (ht : (pc : Int) + off = (tgt : Int)) (hp : pc + 3 = pc') (hc : c = .eq) (kt : q = true → am_E d μ (pc', lo, st, h) h' r) (kf : ¬ q = true → am_E d μ (tgt, lo, st, h) h' r) : am_E d μ (pc, lo, .int (am_b q) :: st, h) h' r := by
  subst hc
  cases q with
  | true => exact fe_iff hd ht hp (by decide) (kt rfl)
  | false => exact fe_ift hd ht (by decide) (kf (by decide))
theorem fe_bF {c : Jvm.ClassFile.Cond} {off : Int} {tgt : Nat} {q : Bool} (hd : decode μ.2.1 pc = .ok (.ifCond c off, 3)) (ht : (pc : Int) + off = (tgt : Int)) (hp : pc + 3 = pc') (hc : c = .ne) (kt : q = true → am_E d μ (tgt, lo, st, h) h' r) (kf : ¬ q = true → am_E d μ (pc', lo, st, h) h' r) : am_E d μ (pc, lo, .int (am_b q) :: st, h) h' r := by
  subst hc
  cases q with
  | true => exact fe_ift hd ht (by decide) (kt rfl)
  | false => exact fe_iff hd ht hp (by decide) (kf (by decide))
theorem fe_tsI {dflt l hi : Int} {offs : Array Int} {len : Nat} {x : Int32} {off : Int} {tgt : Nat} (hd : decode μ.2.1 pc = .ok (.tableswitch dflt l hi offs, len)) (k : Int32) (hk : x = k) (h1 : ¬ (k.toInt < l ∨ hi < k.toInt)) (ho : offs[(k.toInt - l).toNat]? = some off) (ht : (pc : Int) + off = (tgt : Int)) (kk : am_E d μ (tgt, lo, st, h) h' r) : am_E d μ (pc, lo, .int x :: st, h) h' r := by
  subst hk
  exact fe_i (f' := (tgt, lo, st, h)) hd (Or.inl rfl) (by simp only [am_ex, am_tsw, if_neg h1, ho, am_jmp_eq ht]) (am_le_rf _) kk
theorem fe_tsO {dflt l hi : Int} {offs : Array Int} {len : Nat} {x : Int32} {tgt : Nat} (hd : decode μ.2.1 pc = .ok (.tableswitch dflt l hi offs, len)) (h1 : x.toInt < l ∨ hi < x.toInt) (ht : (pc : Int) + dflt = (tgt : Int)) (kk : am_E d μ (tgt, lo, st, h) h' r) : am_E d μ (pc, lo, .int x :: st, h) h' r :=
  fe_i (f' := (tgt, lo, st, h)) hd (Or.inl rfl) (by simp only [am_ex, am_tsw, if_pos h1, am_jmp_eq ht]) (am_le_rf _) kk
theorem am_tsO {x : Int32} (n : Nat) (hn : n < 1000) (h : ∀ k, k < n → x ≠ nI k) : x.toInt < 0 ∨ (n : Int) - 1 < x.toInt := by
  rcases Int.lt_or_le x.toInt 0 with q | q
  · exact Or.inl q
  · refine Or.inr (Int.not_le.mp fun q2 => ?_)
    obtain ⟨j, hj⟩ := Int.eq_ofNat_of_zero_le q
    refine h j (by omega) ?_
    apply Int32.toInt_inj.mp
    rw [nI_toInt (by omega)]
    omega
-- memory
theorem fe_gf {k a ci j : Nat} {v : Value} (hd : decode μ.2.1 pc = .ok (.getfield k, 3)) (hp : pc + 3 = pc') (hf : am_fld μ.2.2.2.2 k = some (ci, j)) (ha : a ≠ am_ext) (hg : am_gf h a ci j = some v) (kk : am_E d μ (pc', lo, v :: st, h) h' r) : am_E d μ (pc, lo, .ref a :: st, h) h' r :=
  fe_i (f' := (pc', lo, v :: st, h)) hd (Or.inr rfl) (by simp only [am_ex, hf, if_neg ha, hg, hp]) (am_le_rf _) kk
theorem fe_pi {k a ci j : Nat} {x : Int32} {sh : List am_AC} {g : am_G} {fs : List Value} {z : Int32} (hd : decode μ.2.1 pc = .ok (.putfield k, 3)) (hp : pc + 3 = pc') (hf : am_fld μ.2.2.2.2 k = some (ci, j)) (ha : a ≠ am_ext) (hs : sh[a]? = some (.inl (ci, fs))) (hj : fs[j]? = some (.int z)) (ht : (am_T ci j).2.2.2 = false ∧ (am_ty ci j = .int ∨ am_ty ci j = .boolean ∧ (x = 0 ∨ x = 1))) (kk : am_E d μ (pc', lo, st, (sh, am_wr g a j x)) h' r) : am_E d μ (pc, lo, .int x :: .ref a :: st, (sh, g)) h' r :=
  fe_i (f' := (pc', lo, st, (sh, am_wr g a j x))) hd (Or.inr rfl) (by simp only [am_ex, hf, if_neg ha, am_pf, hs, hj, if_pos ht, hp, if_true]) ⟨Nat.le_refl _, Nat.le_refl _⟩ kk
theorem fe_pl {k a ci j : Nat} {x : Int64} {sh : List am_AC} {g : am_G} {fs : List Value} {z : Int64} (hd : decode μ.2.1 pc = .ok (.putfield k, 3)) (hp : pc + 3 = pc') (hf : am_fld μ.2.2.2.2 k = some (ci, j)) (ha : a ≠ am_ext) (hs : sh[a]? = some (.inl (ci, fs))) (hj : fs[j]? = some (.long z)) (ht : (am_T ci j).2.2.2 = false ∧ am_ty ci j = .long) (kk : am_E d μ (pc', lo, st, (sh, am_wL g a j x)) h' r) : am_E d μ (pc, lo, .long x :: .ref a :: st, (sh, g)) h' r :=
  fe_i (f' := (pc', lo, st, (sh, am_wL g a j x))) hd (Or.inr rfl) (by simp only [am_ex, hf, if_neg ha, am_pf, hs, hj, if_pos ht, hp, if_true]) ⟨Nat.le_refl _, Nat.le_refl _⟩ kk
theorem fe_sta {k : Nat} (hd : decode μ.2.1 pc = .ok (.getstatic k, 3)) (hp : pc + 3 = pc') (hf : am_sta μ.2.2.2.2 k = true) (kk : am_E d μ (pc', lo, .ref am_ext :: st, h) h' r) : am_E d μ (pc, lo, st, h) h' r :=
  fe_i (f' := (pc', lo, .ref am_ext :: st, h)) hd (Or.inr rfl) (by simp only [am_ex, hf, if_true, hp]) (am_le_rf _) kk
theorem fe_al {a n j : Nat} {i : Int32} {sh : List am_AC} {g : am_G} {rs : List (Option Nat)} (hd : decode μ.2.1 pc = .ok (.iaload, 1)) (hp : pc + 1 = pc') (ha : a ≠ am_ext) (hs : sh[a]? = some (.inr (0, n, rs))) (hi : am_in i n = true) (hj : i.toNatClampNeg = j) (kk : am_E d μ (pc', lo, .int (g.1 a j) :: st, (sh, g)) h' r) : am_E d μ (pc, lo, .int i :: .ref a :: st, (sh, g)) h' r :=
  fe_i (f' := (pc', lo, .int (g.1 a j) :: st, (sh, g))) hd (Or.inr rfl) (by simp only [am_ex, am_al, if_neg ha, hs, hi, hp, hj, and_self, if_true]) (am_le_rf _) kk
theorem fe_xl {i : Int32} {sh : List am_AC} {g : am_G} (hd : decode μ.2.1 pc = .ok (.iaload, 1)) (hp : pc + 1 = pc') (hi : am_in i 7 = true) (kk : am_E d μ (pc', lo, .int (nI i.toNatClampNeg) :: st, (sh, g)) h' r) : am_E d μ (pc, lo, .int i :: .ref am_ext :: st, (sh, g)) h' r :=
  fe_i (f' := (pc', lo, .int (nI i.toNatClampNeg) :: st, (sh, g))) hd (Or.inr rfl) (by simp only [am_ex, am_al, hi, hp, and_self, if_true]) (am_le_rf _) kk
theorem fe_bl {a n j : Nat} {i : Int32} {sh : List am_AC} {g : am_G} {rs : List (Option Nat)} (hd : decode μ.2.1 pc = .ok (.baload, 1)) (hp : pc + 1 = pc') (ha : a ≠ am_ext) (hs : sh[a]? = some (.inr (1, n, rs))) (hi : am_in i n = true) (hj : i.toNatClampNeg = j) (kk : am_E d μ (pc', lo, .int (g.1 a j) :: st, (sh, g)) h' r) : am_E d μ (pc, lo, .int i :: .ref a :: st, (sh, g)) h' r :=
  fe_i (f' := (pc', lo, .int (g.1 a j) :: st, (sh, g))) hd (Or.inr rfl) (by simp only [am_ex, am_al, if_neg ha, hs, hi, hp, hj, and_self, if_true]) (am_le_rf _) kk
theorem fe_as {a n j : Nat} {i x : Int32} {sh : List am_AC} {g : am_G} {rs : List (Option Nat)} (hd : decode μ.2.1 pc = .ok (.iastore, 1)) (hp : pc + 1 = pc') (ha : a ≠ am_ext) (hs : sh[a]? = some (.inr (0, n, rs))) (hi : am_in i n = true) (hj : i.toNatClampNeg = j) (kk : am_E d μ (pc', lo, st, (sh, am_wr g a j x)) h' r) : am_E d μ (pc, lo, .int x :: .int i :: .ref a :: st, (sh, g)) h' r :=
  fe_i (f' := (pc', lo, st, (sh, am_wr g a j x))) hd (Or.inr rfl) (by simp [am_ex, am_as, if_neg ha, hs, hi, hp, hj]) ⟨Nat.le_refl _, Nat.le_refl _⟩ kk
theorem fe_bs {a n j : Nat} {i x : Int32} {sh : List am_AC} {g : am_G} {rs : List (Option Nat)} (hd : decode μ.2.1 pc = .ok (.bastore, 1)) (hp : pc + 1 = pc') (ha : a ≠ am_ext) (hs : sh[a]? = some (.inr (1, n, rs))) (hi : am_in i n = true) (hj : i.toNatClampNeg = j) (hz : x &&& 1 = x) (kk : am_E d μ (pc', lo, st, (sh, am_wr g a j x)) h' r) : am_E d μ (pc, lo, .int x :: .int i :: .ref a :: st, (sh, g)) h' r :=
  fe_i (f' := (pc', lo, st, (sh, am_wr g a j x))) hd (Or.inr rfl) (by simp [am_ex, am_as, if_neg ha, hs, hi, hp, hj, hz]) ⟨Nat.le_refl _, Nat.le_refl _⟩ kk
theorem fe_rl {a n b bk : Nat} {i : Int32} {sh : List am_AC} {g : am_G} {rs : List (Option Nat)} (hd : decode μ.2.1 pc = .ok (.aaload, 1)) (hp : pc + 1 = pc') (ha : a ≠ am_ext) (hs : sh[a]? = some (.inr (bk, n, rs))) (hb : bk = 2 ∨ bk = 3) (hi : am_in i n = true) (hr : rs[i.toNatClampNeg]? = some (some b)) (hbe : b ≠ am_ext) (kk : am_E d μ (pc', lo, .ref b :: st, (sh, g)) h' r) : am_E d μ (pc, lo, .int i :: .ref a :: st, (sh, g)) h' r :=
  fe_i (f' := (pc', lo, .ref b :: st, (sh, g))) hd (Or.inr rfl) (by simp only [am_ex, am_rl, if_neg ha, hs, hb, hi, hr, if_neg hbe, hp, and_self, if_true]) (am_le_rf _) kk
-- calls that stay
theorem fe_mx {k z n : Nat} {x y : Int32} (hd : decode μ.2.1 pc = .ok (.invokestatic k, 3)) (hp : pc + 3 = pc') (hc : am_cal μ.2.2.2.2 k = some (7, z, n)) (hw : am_cw st ≤ 8) (kk : am_E d μ (pc', lo, .int (am_mx x y) :: st, h) h' r) : am_E d μ (pc, lo, .int y :: .int x :: st, h) h' r :=
  fe_i (f' := (pc', lo, .int (am_mx x y) :: st, h)) hd (Or.inr rfl) (by simp only [am_ex, am_is, hc, if_pos hw, hp, am_mx]) (am_le_rf _) kk
theorem fe_mn {k z n : Nat} {x y : Int32} (hd : decode μ.2.1 pc = .ok (.invokestatic k, 3)) (hp : pc + 3 = pc') (hc : am_cal μ.2.2.2.2 k = some (8, z, n)) (hw : am_cw st ≤ 8) (kk : am_E d μ (pc', lo, .int (am_mn x y) :: st, h) h' r) : am_E d μ (pc, lo, .int y :: .int x :: st, h) h' r :=
  fe_i (f' := (pc', lo, .int (am_mn x y) :: st, h)) hd (Or.inr rfl) (by simp only [am_ex, am_is, hc, if_pos hw, hp, am_mn]) (am_le_rf _) kk
theorem fe_ac {k z m a b na nb : Nat} {n sp dp : Int32} {sh : List am_AC} {g : am_G} {ra rb : List (Option Nat)} (hd : decode μ.2.1 pc = .ok (.invokestatic k, 3)) (hp : pc + 3 = pc') (hc : am_cal μ.2.2.2.2 k = some (6, z, m)) (ha : a ≠ am_ext) (hb : b ≠ am_ext) (hsa : sh[a]? = some (.inr (0, na, ra))) (hsb : sh[b]? = some (.inr (0, nb, rb)))
    (hq : ¬ sp < 0 ∧ ¬ dp < 0 ∧ ¬ n < 0 ∧ sp.toNatClampNeg + n.toNatClampNeg ≤ na ∧ dp.toNatClampNeg + n.toNatClampNeg ≤ nb ∧ am_cw st ≤ 8) (kk : am_E d μ (pc', lo, st, (sh, am_cp g a b sp.toNatClampNeg dp.toNatClampNeg n.toNatClampNeg)) h' r) : am_E d μ (pc, lo, .int n :: .int dp :: .ref b :: .int sp :: .ref a :: st, (sh, g)) h' r :=
  fe_i (f' := (pc', lo, st, (sh, am_cp g a b sp.toNatClampNeg dp.toNatClampNeg n.toNatClampNeg))) hd (Or.inr rfl) (by simp only [am_ex, am_is, hc, hsa, hsb, if_neg (fun q : a = am_ext ∨ b = am_ext => q.elim ha hb), if_pos hq, hp]) ⟨Nat.le_refl _, Nat.le_refl _⟩ kk
-- calls
theorem fe_iv {k z n b cb : Nat} {rr as : List Value} {fs : List Value} {ζ : am_M} {h1 : am_H} {r1 : Option Value} (hd : decode μ.2.1 pc = .ok (.invokevirtual k, 3)) (hp : pc + 3 = pc') (hc : am_cal μ.2.2.2.2 k = some (0, z, n)) (hs : st.drop n = .ref b :: rr) (ha : .ref b :: (st.take n).reverse = as) (hb : h.1[b]? = some (.inl (cb, fs))) (hz : am_ms[z]? = some ζ) (hq : b ≠ am_ext ∧ cb = ζ.2.2.2.2 ∧ cb < 10 ∧ am_cw rr ≤ 8 ∧ n ≤ st.length)
    (hl : am_le h h1) (hE : am_Ev d z as h h1 r1) {st' : List Value} (hst : r1.toList ++ rr = st') (kk : am_E d μ (pc', lo, st', h1) h' r) : am_E d μ (pc, lo, st, h) h' r :=
  fe_c (f' := (pc', lo, rr, h)) hd (Or.inr rfl) (by simp only [am_ex, am_iv, hc, hs, hb, hz, if_pos hq, hp, ha]) hE hl (by subst hst; exact kk)
theorem fe_is {k z n kd : Nat} {rr as : List Value} {h1 : am_H} {r1 : Option Value} (hd : decode μ.2.1 pc = .ok (.invokestatic k, 3)) (hp : pc + 3 = pc') (hc : am_cal μ.2.2.2.2 k = some (kd, z, n)) (hk : kd = 1 ∨ kd = 3) (hs : st.drop n = rr) (ha : (st.take n).reverse = as) (hq : am_cw rr ≤ 8 ∧ n ≤ st.length)
    (hl : am_le h h1) (hE : am_Ev d z as h h1 r1) {st' : List Value} (hst : r1.toList ++ rr = st') (kk : am_E d μ (pc', lo, st', h1) h' r) : am_E d μ (pc, lo, st, h) h' r := by
  subst hs; subst ha; subst hst
  refine fe_c (f' := (pc', lo, st.drop n, h)) hd (Or.inr rfl) ?_ hE hl kk
  rcases hk with rfl | rfl
  · simp only [am_ex, am_is, hc, hp]
    rw [if_pos ⟨by simp, hq.1, hq.2⟩]
  · simp only [am_ex, am_is, hc, hp]
    rw [if_pos ⟨by simp, hq.1, hq.2⟩]
theorem am_le0 (sh : List am_AC) (g g' : am_G) : am_le (sh, g) (sh, g') := ⟨Nat.le_refl _, Nat.le_refl _⟩
-- ends
theorem fe_ri {v : Int32} (hd : decode μ.2.1 pc = .ok (.ireturn, 1)) (hr : μ.2.2.2.1 = some .int) : am_E d μ (pc, lo, [.int v], h) h (some (.int v)) := fe_r hd (Or.inr rfl) (by simp only [am_ex, am_ri, hr])
theorem fe_rz {v : Int32} (q : Bool) (hd : decode μ.2.1 pc = .ok (.ireturn, 1)) (hr : μ.2.2.2.1 = some .boolean) (hv : v = am_b q) : am_E d μ (pc, lo, [.int v], h) h (some (.int (am_b q))) := by
  subst hv
  exact fe_r hd (Or.inr rfl) (by simp only [am_ex, am_ri, hr]; rw [if_pos (by cases q <;> decide)])
theorem am_bzz {v : Int32} (h : v = 0 ∨ v = 1) : v = am_b (decide (v = 1)) := by rcases h with rfl | rfl <;> decide
theorem fe_rl' {v : Int64} (hd : decode μ.2.1 pc = .ok (.lreturn, 1)) (hr : μ.2.2.2.1 = some .long) : am_E d μ (pc, lo, [.long v], h) h (some (.long v)) := fe_r hd (Or.inr rfl) (by simp only [am_ex, am_rL, hr])
theorem fe_ra {b : Nat} {nm : String} (hd : decode μ.2.1 pc = .ok (.areturn, 1)) (hr : μ.2.2.2.1 = some (.object nm)) (hb : b ≠ am_ext) : am_E d μ (pc, lo, [.ref b], h) h (some (.ref b)) := fe_r hd (Or.inr rfl) (by simp only [am_ex, am_rA, hr, if_neg hb])
theorem fe_rv (hd : decode μ.2.1 pc = .ok (.return_, 1)) (hr : μ.2.2.2.1 = none) : am_E d μ (pc, lo, [], h) h none := fe_r hd (Or.inr rfl) (by simp only [am_ex, hr])
end
