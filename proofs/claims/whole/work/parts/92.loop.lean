-- THE LAW'S LOOP, over an invariant
theorem lp_cmp {L t : Nat} (hL : L ≤ 320) (ht : t ≤ 400) : (Int32.ofNat L - 5 < nI t) = (L < t + 5) := by
  have h1 : (nI L - nI 5).toInt = (L : Int) - (5 : Nat) := pk_sub_toInt (by omega) (by omega)
  have h2 : (nI t).toInt = (t : Int) := nI_toInt (by omega)
  refine propext ?_
  show nI L - nI 5 < nI t ↔ _
  rw [Int32.lt_iff_toInt_lt, h1, h2]
  omega
section
variable {D : va_G} {cy : Nat → ClassId} {bn : Nat} {p : Program} {l : Launch} {e : Env} {s : State} {m : MethodId} {below : List Frame} {meth : Method} {c : Code} {b L : Nat} {xs : Nat → Int32} {Q : State → Prop}
set_option maxHeartbeats 4000000 in
set_option maxRecDepth 100000 in
theorem lw_sw {I : am_G → Prop} (hsp : Sp_all I) (K : lw_K D cy bn p s m meth c b L xs) {x3 : Int32} (hi1 : vp_in (x3 + 1) L) (hi2 : vp_in (x3 + 2) L) (hi3 : vp_in (x3 + 3) L) (hi4 : vp_in (x3 + 4) L) {g : am_G} (hI : I g) {H : Heap} {locs : List Loc} (hW : lw_W D cy bn s g H locs) {ls : Array Slot} (hl : lv_has ls 4 [(0, .ref b), (1, .ref (s.heap.size + 0)), (2, .ref (s.heap.size + 221)), (3, .int x3)]) {j : Nat} (hj : j < 32)
    (kk : ∀ (g : am_G) (H : Heap) (locs : List Loc), I g → lw_W D cy bn s g H locs → W p l e room_1 s m #[Value.ref b] below meth c H locs 232 3074 Q (F0 m 839 ls [])) : W p l e room_1 s m #[Value.ref b] below meth c H locs 232 3074 Q (F0 m 32 ls [.int (nI j)]) := by
  have hx := K.1
  have hb := K.2.1
  by_cases h26 : 26 < j
  · exact lv_tableOut (tgt := 839) hx hb dL_law_32 (Or.inr (by rw [nI_toInt (by omega)]; omega)) (by decide) (kk g H locs hI hW)
  have hc : j = 0 ∨ j = 1 ∨ j = 2 ∨ j = 3 ∨ j = 4 ∨ j = 5 ∨ j = 6 ∨ j = 7 ∨ j = 8 ∨ j = 9 ∨ j = 10 ∨ j = 11 ∨ j = 12 ∨ j = 13 ∨ j = 14 ∨ j = 15 ∨ j = 16 ∨ j = 17 ∨ j = 18 ∨ j = 19 ∨ j = 20 ∨ j = 21 ∨ j = 22 ∨ j = 23 ∨ j = 24 ∨ j = 25 ∨ j = 26 := by omega
  rcases hc with rfl | rfl | rfl | rfl | rfl | rfl | rfl | rfl | rfl | rfl | rfl | rfl | rfl | rfl | rfl | rfl | rfl | rfl | rfl | rfl | rfl | rfl | rfl | rfl | rfl | rfl | rfl
  · exact lv_tableIn (off := 124) (tgt := 156) hx hb dL_law_32 (by decide) (by decide) (by decide) (by decide) (lw_c0 hsp.1 K hi1 hi2 hi3 hi4 hI hW hl kk)
  · exact lv_tableIn (off := 147) (tgt := 179) hx hb dL_law_32 (by decide) (by decide) (by decide) (by decide) (lw_c1 hsp.2.1 K hi1 hi2 hi3 hi4 hI hW hl kk)
  · exact lv_tableIn (off := 160) (tgt := 192) hx hb dL_law_32 (by decide) (by decide) (by decide) (by decide) (lw_c2 hsp.2.2.1 K hi1 hi2 hi3 hi4 hI hW hl kk)
  · exact lv_tableIn (off := 173) (tgt := 205) hx hb dL_law_32 (by decide) (by decide) (by decide) (by decide) (lw_c3 hsp.2.2.2.1 K hi1 hi2 hi3 hi4 hI hW hl kk)
  · exact lv_tableIn (off := 206) (tgt := 238) hx hb dL_law_32 (by decide) (by decide) (by decide) (by decide) (lw_c4 hsp.2.2.2.2.1 K hi1 hi2 hi3 hi4 hI hW hl kk)
  · exact lv_tableIn (off := 239) (tgt := 271) hx hb dL_law_32 (by decide) (by decide) (by decide) (by decide) (lw_c5 hsp.2.2.2.2.2.1 K hi1 hi2 hi3 hi4 hI hW hl kk)
  · exact lv_tableIn (off := 272) (tgt := 304) hx hb dL_law_32 (by decide) (by decide) (by decide) (by decide) (lw_c6 hsp.2.2.2.2.2.2.1 K hi1 hi2 hi3 hi4 hI hW hl kk)
  · exact lv_tableIn (off := 305) (tgt := 337) hx hb dL_law_32 (by decide) (by decide) (by decide) (by decide) (lw_c7 hsp.2.2.2.2.2.2.2.1 K hi1 hi2 hi3 hi4 hI hW hl kk)
  · exact lv_tableIn (off := 328) (tgt := 360) hx hb dL_law_32 (by decide) (by decide) (by decide) (by decide) (lw_c8 hsp.2.2.2.2.2.2.2.2.1 K hi1 hi2 hi3 hi4 hI hW hl kk)
  · exact lv_tableIn (off := 341) (tgt := 373) hx hb dL_law_32 (by decide) (by decide) (by decide) (by decide) (lw_c9 hsp.2.2.2.2.2.2.2.2.2.1 K hi1 hi2 hi3 hi4 hI hW hl kk)
  · exact lv_tableIn (off := 354) (tgt := 386) hx hb dL_law_32 (by decide) (by decide) (by decide) (by decide) (lw_c10 hsp.2.2.2.2.2.2.2.2.2.2.1 K hi1 hi2 hi3 hi4 hI hW hl kk)
  · exact lv_tableIn (off := 377) (tgt := 409) hx hb dL_law_32 (by decide) (by decide) (by decide) (by decide) (lw_c11 hsp.2.2.2.2.2.2.2.2.2.2.2.1 K hi1 hi2 hi3 hi4 hI hW hl kk)
  · exact lv_tableIn (off := 400) (tgt := 432) hx hb dL_law_32 (by decide) (by decide) (by decide) (by decide) (lw_c12 hsp.2.2.2.2.2.2.2.2.2.2.2.2.1 K hi1 hi2 hi3 hi4 hI hW hl kk)
  · exact lv_tableIn (off := 423) (tgt := 455) hx hb dL_law_32 (by decide) (by decide) (by decide) (by decide) (lw_c13 hsp.2.2.2.2.2.2.2.2.2.2.2.2.2.1 K hi1 hi2 hi3 hi4 hI hW hl kk)
  · exact lv_tableIn (off := 446) (tgt := 478) hx hb dL_law_32 (by decide) (by decide) (by decide) (by decide) (lw_c14 hsp.2.2.2.2.2.2.2.2.2.2.2.2.2.2.1 K hi1 hi2 hi3 hi4 hI hW hl kk)
  · exact lv_tableIn (off := 459) (tgt := 491) hx hb dL_law_32 (by decide) (by decide) (by decide) (by decide) (lw_c15 hsp.2.2.2.2.2.2.2.2.2.2.2.2.2.2.2.1 K hi1 hi2 hi3 hi4 hI hW hl kk)
  · exact lv_tableIn (off := 492) (tgt := 524) hx hb dL_law_32 (by decide) (by decide) (by decide) (by decide) (lw_c16 hsp.2.2.2.2.2.2.2.2.2.2.2.2.2.2.2.2.1 K hi1 hi2 hi3 hi4 hI hW hl kk)
  · exact lv_tableIn (off := 515) (tgt := 547) hx hb dL_law_32 (by decide) (by decide) (by decide) (by decide) (lw_c17 hsp.2.2.2.2.2.2.2.2.2.2.2.2.2.2.2.2.2.1 K hi1 hi2 hi3 hi4 hI hW hl kk)
  · exact lv_tableIn (off := 568) (tgt := 600) hx hb dL_law_32 (by decide) (by decide) (by decide) (by decide) (lw_c18 hsp.2.2.2.2.2.2.2.2.2.2.2.2.2.2.2.2.2.2.1 K hi1 hi2 hi3 hi4 hI hW hl kk)
  · exact lv_tableIn (off := 612) (tgt := 644) hx hb dL_law_32 (by decide) (by decide) (by decide) (by decide) (lw_c19 hsp.2.2.2.2.2.2.2.2.2.2.2.2.2.2.2.2.2.2.2.1 K hi1 hi2 hi3 hi4 hI hW hl kk)
  · exact lv_tableIn (off := 655) (tgt := 687) hx hb dL_law_32 (by decide) (by decide) (by decide) (by decide) (lw_c20 hsp.2.2.2.2.2.2.2.2.2.2.2.2.2.2.2.2.2.2.2.2.1 K hi1 hi2 hi3 hi4 hI hW hl kk)
  · exact lv_tableIn (off := 668) (tgt := 700) hx hb dL_law_32 (by decide) (by decide) (by decide) (by decide) (lw_c21 hsp.2.2.2.2.2.2.2.2.2.2.2.2.2.2.2.2.2.2.2.2.2.1 K hi1 hi2 hi3 hi4 hI hW hl kk)
  · exact lv_tableIn (off := 691) (tgt := 723) hx hb dL_law_32 (by decide) (by decide) (by decide) (by decide) (lw_c22 hsp.2.2.2.2.2.2.2.2.2.2.2.2.2.2.2.2.2.2.2.2.2.2.1 K hi1 hi2 hi3 hi4 hI hW hl kk)
  · exact lv_tableIn (off := 724) (tgt := 756) hx hb dL_law_32 (by decide) (by decide) (by decide) (by decide) (lw_c23 hsp.2.2.2.2.2.2.2.2.2.2.2.2.2.2.2.2.2.2.2.2.2.2.2.1 K hi1 hi2 hi3 hi4 hI hW hl kk)
  · exact lv_tableIn (off := 747) (tgt := 779) hx hb dL_law_32 (by decide) (by decide) (by decide) (by decide) (lw_c24 hsp.2.2.2.2.2.2.2.2.2.2.2.2.2.2.2.2.2.2.2.2.2.2.2.2.1 K hi1 hi2 hi3 hi4 hI hW hl kk)
  · exact lv_tableIn (off := 770) (tgt := 802) hx hb dL_law_32 (by decide) (by decide) (by decide) (by decide) (lw_c25 hsp.2.2.2.2.2.2.2.2.2.2.2.2.2.2.2.2.2.2.2.2.2.2.2.2.2.1 K hi1 hi2 hi3 hi4 hI hW hl kk)
  · exact lv_tableIn (off := 793) (tgt := 825) hx hb dL_law_32 (by decide) (by decide) (by decide) (by decide) (lw_c26 hsp.2.2.2.2.2.2.2.2.2.2.2.2.2.2.2.2.2.2.2.2.2.2.2.2.2.2 K hi1 hi2 hi3 hi4 hI hW hl kk)
set_option maxHeartbeats 4000000 in
set_option maxRecDepth 100000 in
theorem lw_loop {I : am_G → Prop} (hsp : Sp_all I) (K : lw_K D cy bn p s m meth c b L xs) (hL : L ≤ 320) (kend : ∀ (H : Heap) (ls : Array Slot), W p l e room_1 s m #[Value.ref b] below meth c H [] 600000 7302250 Q (F0 m 845 ls [])) :
    ∀ (n t : Nat) (g : am_G) (H : Heap) (locs : List Loc) (ls : Array Slot), L ≤ t + n → t ≤ L + 5 → I g → lw_W D cy bn s g H locs → lv_has ls 4 [(0, .ref b), (1, .ref (s.heap.size + 0)), (2, .ref (s.heap.size + 221)), (3, .int (nI t))] → W p l e room_1 s m #[Value.ref b] below meth c H locs 232 3074 Q (F0 m 18 ls []) := by
  intro n
  induction n with
  | zero =>
    intro t g H locs ls h1 h2 hI hW hl
    obtain ⟨hx, hb, hr, hml, hown, hts, hX, hbl, hlocks, hU⟩ := K
    have hbA : ¬ (fun q : Nat => s.heap.size ≤ q) b := Nat.not_le.mpr hbl
    refine lv_iload_n hx hb dL_law_18 rfl (lv_at hl 3 rfl) ?_
    refine lv_aload_n hx hb dL_law_19 rfl (lv_at hl 0 rfl) ?_
    refine va_slen hx hb hX hbl hbA hW.2 dL_law_20 ?_
    refine lv_iconst (v := 5) hx hb dL_law_21 (by decide) ?_
    refine lv_isub hx hb dL_law_22 ?_
    refine lv_icmp_gt (tgt := 845) hx hb dL_law_23 (by decide) (fun _ => ?_) (fun q => ?_)
    · exact va_forget hW.2.2.2 (W.widen (k := 600000) (n := 7302250) (by omega) (by omega) (kend H ls))
    · rw [lp_cmp hL (by omega)] at q
      omega
  | succ n ih =>
    intro t g H locs ls h1 h2 hI hW hl
    have K0 := K
    obtain ⟨hx, hb, hr, hml, hown, hts, hX, hbl, hlocks, hU⟩ := K
    have hbA : ¬ (fun q : Nat => s.heap.size ≤ q) b := Nat.not_le.mpr hbl
    refine lv_iload_n hx hb dL_law_18 rfl (lv_at hl 3 rfl) ?_
    refine lv_aload_n hx hb dL_law_19 rfl (lv_at hl 0 rfl) ?_
    refine va_slen hx hb hX hbl hbA hW.2 dL_law_20 ?_
    refine lv_iconst (v := 5) hx hb dL_law_21 (by decide) ?_
    refine lv_isub hx hb dL_law_22 ?_
    refine lv_icmp_gt (tgt := 845) hx hb dL_law_23 (by decide) (fun _ => ?_) (fun q => ?_)
    · exact va_forget hW.2.2.2 (W.widen (k := 600000) (n := 7302250) (by omega) (by omega) (kend H ls))
    · rw [lp_cmp hL (by omega)] at q
      have hq : t + 5 ≤ L := by omega
      refine lv_aload_n hx hb dL_law_26 rfl (lv_at hl 0 rfl) ?_
      refine lv_iload_n hx hb dL_law_27 rfl (lv_at hl 3 rfl) ?_
      refine va_sld hx hb hX hbl hbA hW.2 (vp_in_nI (by omega) (by omega)) dL_law_28 ?_
      refine lv_bipush (v := 31) hx hb dL_law_29 (by decide) ?_
      refine lv_iand hx hb dL_law_31 ?_
      obtain ⟨j, hj, ej⟩ := pk_andE (xs (nI t).toNatClampNeg) (m := 31) 5 (by decide)
      rw [ej]
      have e1 : nI t + 1 = nI (t + 1) := nI_add t 1
      have e2 : nI t + 2 = nI (t + 2) := nI_add t 2
      have e3 : nI t + 3 = nI (t + 3) := nI_add t 3
      have e4 : nI t + 4 = nI (t + 4) := nI_add t 4
      refine lw_sw hsp K0 (x3 := nI t) (by rw [e1]; exact vp_in_nI (by omega) (by omega)) (by rw [e2]; exact vp_in_nI (by omega) (by omega)) (by rw [e3]; exact vp_in_nI (by omega) (by omega)) (by rw [e4]; exact vp_in_nI (by omega) (by omega)) hI hW hl hj (fun g H locs hI hW => ?_)
      refine lv_iinc (k := 3) (x := nI t) (v := nI (t + 5)) hx hb dL_law_839 hl rfl (nI_add t 5) (by decide) rfl (fun ls hl => ?_)
      refine lv_goto (tgt := 18) hx hb dL_law_842 (by decide) ?_
      exact ih (t + 5) g H locs ls (by omega) (by omega) hI hW (lv_sub hl [1, 2, 3, 0] rfl)
end
