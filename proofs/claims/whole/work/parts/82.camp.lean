-- THE CLASS'S CAMPS, what is read of them
def CI (T : Nat → Nat) (g : am_G) (c : Nat) (S : Nat → Nat) : Prop := TW T ∧ TC T g ∧ SW T S ∧ CC T g c S
/-- the bits of the things of which p holds -/
def ob (p : Nat → Prop) [DecidablePred p] : Nat → Int32
  | 0 => 0
  | n + 1 => if p n then ob p n ||| (1 <<< (nI n &&& 31)) else ob p n
def pt1 (T S : Nat → Nat) (t : Nat) (a : Int32) : Nat → Int32
  | 0 => a
  | u + 1 => if 0 < T (33 + t) ∧ T (33 + t) = T (33 + u) ∧ S (8 + t) ≠ S (8 + u) then pt1 T S t a u ||| (1 <<< (nI (T (33 + t)) &&& 31)) else pt1 T S t a u
def pts (T S : Nat → Nat) : Nat → Int32
  | 0 => 0
  | t + 1 => pt1 T S t (pts T S t) t
def lof (S : Nat → Nat) (x t : Nat) : Nat := if x / 2 ^ t % 2 = 1 then S (15 + t) else 0
def gI (f : Nat → Int) : Nat → Int
  | 0 => -1000000000
  | n + 1 => max (gI f n) (f n)
def lI (f : Nat → Int) : Nat → Int
  | 0 => 1000000000
  | n + 1 => min (lI f n) (f n)
def zI (x : Int) : Int32 := Int32.ofInt x
theorem zI_n (n : Nat) : nI n = zI n := Int32.ofInt_eq_ofNat.symm
theorem zI_sub (a b : Int) : zI a - zI b = zI (a - b) := (Int32.ofInt_sub a b).symm
theorem zI_add (a b : Int) : zI a + zI b = zI (a + b) := (Int32.ofInt_add a b).symm
theorem zI_lt {a b : Int} (ha : -2000000000 ≤ a ∧ a ≤ 2000000000) (hb : -2000000000 ≤ b ∧ b ≤ 2000000000) : (zI a < zI b) = (a < b) := by
  rw [Int32.lt_iff_toInt_lt, zI, zI, Int32.toInt_ofInt_of_le (by omega) (by omega), Int32.toInt_ofInt_of_le (by omega) (by omega)]
theorem zI_le {a b : Int} (ha : -2000000000 ≤ a ∧ a ≤ 2000000000) (hb : -2000000000 ≤ b ∧ b ≤ 2000000000) : (zI a ≤ zI b) = (a ≤ b) := by
  rw [Int32.le_iff_toInt_le, zI, zI, Int32.toInt_ofInt_of_le (by omega) (by omega), Int32.toInt_ofInt_of_le (by omega) (by omega)]
theorem zI_mx {a b : Int} (ha : -2000000000 ≤ a ∧ a ≤ 2000000000) (hb : -2000000000 ≤ b ∧ b ≤ 2000000000) : am_mx (zI a) (zI b) = zI (max a b) := by
  by_cases h : a < b
  · rw [am_mx, if_pos (by rw [zI_lt ha hb]; exact h)]; congr 1; omega
  · rw [am_mx, if_neg (by rw [zI_lt ha hb]; exact h)]; congr 1; omega
theorem zI_mn {a b : Int} (ha : -2000000000 ≤ a ∧ a ≤ 2000000000) (hb : -2000000000 ≤ b ∧ b ≤ 2000000000) : am_mn (zI a) (zI b) = zI (min a b) := by
  by_cases h : b < a
  · rw [am_mn, if_pos (by rw [zI_lt hb ha]; exact h)]; congr 1; omega
  · rw [am_mn, if_neg (by rw [zI_lt hb ha]; exact h)]; congr 1; omega
theorem gI_b {f : Nat → Int} {n : Nat} (h : ∀ i, i < n → -1000000 ≤ f i ∧ f i ≤ 1000000) : -1000000000 ≤ gI f n ∧ gI f n ≤ 1000000 := by
  induction n with
  | zero => simp [gI]
  | succ n ih =>
    have h1 := ih (fun i hi => h i (by omega))
    have h2 := h n (by omega)
    simp only [gI]; omega
theorem lI_b {f : Nat → Int} {n : Nat} (h : ∀ i, i < n → -1000000 ≤ f i ∧ f i ≤ 1000000) : -1000000 ≤ lI f n ∧ lI f n ≤ 1000000000 := by
  induction n with
  | zero => simp [lI]
  | succ n ih =>
    have h1 := ih (fun i hi => h i (by omega))
    have h2 := h n (by omega)
    simp only [lI]; omega
/-- the burden: by pounds, by breath -/
def bur (T S : Nat → Nat) (b : Bool) (w : Nat) : Int := if b then (lod T S w : Int) - ((T (4 + w) : Int) - S (4 + w)) else lod T S w
section
variable {T S : Nat → Nat} {g g' : am_G} {c t w d : Nat}
theorem CI.bb (h : CI T g c S) : T 0 ≤ 4 ∧ T 1 ≤ 7 ∧ T 2 ≤ 8 ∧ S 0 ≤ T 2 := ⟨h.1.1, h.1.2.1, h.1.2.2.1, h.2.2.1.1⟩
theorem CI.n (h : CI T g c S) : g.1 3 0 = nI (T 0) ∧ g.1 3 3 = nI (T 1) ∧ g.1 3 9 = nI (T 2) := ⟨h.2.1.1, h.2.1.2.1, h.2.1.2.2.1⟩
theorem CI.ww (h : CI T g c S) (hw : w < T 0) : g.1 4 w = nI (T (4 + w)) ∧ g.1 5 w = nI (T (8 + w)) ∧ g.1 (c + 3) w = nI (S (4 + w)) ∧ T (4 + w) ≤ 40 ∧ T (8 + w) ≤ 5 ∧ S (4 + w) ≤ 20 :=
  ⟨(h.2.1.2.2.2.1 w hw).1, (h.2.1.2.2.2.1 w hw).2, h.2.2.2.2.2.2.2.2.2 w hw, (h.1.2.2.2.1 w hw).1, (h.1.2.2.2.1 w hw).2, h.2.2.1.2.1 w hw⟩
theorem CI.tt (h : CI T g c S) (ht : t < T 1) : g.1 6 t = nI (T (12 + t)) ∧ g.1 7 t = nI (T (19 + t)) ∧ g.1 8 t = nI (T (26 + t)) ∧ g.1 9 t = nI (T (33 + t)) ∧ g.1 (c + 1) t = nI (S (8 + t)) ∧ g.1 (c + 2) t = nI (S (15 + t)) :=
  ⟨(h.2.1.2.2.2.2.1 t ht).1, (h.2.1.2.2.2.2.1 t ht).2.1, (h.2.1.2.2.2.2.1 t ht).2.2.1, (h.2.1.2.2.2.2.1 t ht).2.2.2.1, (h.2.2.2.2.2.2.2.2.1 t ht).1, (h.2.2.2.2.2.2.2.2.1 t ht).2⟩
theorem CI.tb (h : CI T g c S) (ht : t < T 1) : T (12 + t) ≤ 20 ∧ T (19 + t) ≤ 9 ∧ T (26 + t) ≤ 1 ∧ T (33 + t) ≤ 3 ∧ S (8 + t) ≤ 9 ∧ S (15 + t) ≤ 20 ∧ S (22 + t) ≤ 1 := by
  have h1 := h.1.2.2.2.2.1 t ht
  have h2 := h.2.2.1.2.2 t ht
  have h3 := h.1.1
  omega
theorem CI.dd (h : CI T g c S) (hd : d < T 2) : g.1 11 d = nI (T (47 + d)) ∧ g.1 12 d = nI (T (55 + d)) ∧ g.1 13 d = nI (T (63 + d)) ∧ T (47 + d) ≤ 20 ∧ T (55 + d) ≤ 1 ∧ T (63 + d) ≤ 1 :=
  ⟨(h.2.1.2.2.2.2.2 d hd).1, (h.2.1.2.2.2.2.2 d hd).2.1, (h.2.1.2.2.2.2.2 d hd).2.2, (h.1.2.2.2.2.2 d hd).1, (h.1.2.2.2.2.2 d hd).2.1, (h.1.2.2.2.2.2 d hd).2.2⟩
theorem CI.s (h : CI T g c S) : g.1 c 1 = nI (S 0) ∧ g.1 c 2 = nI (S 1) ∧ g.1 c 3 = nI (S 2) ∧ g.1 c 4 = nI (S 3) := ⟨h.2.2.2.1, h.2.2.2.2.1, h.2.2.2.2.2.1, h.2.2.2.2.2.2.1⟩
theorem CI.x (h : CI T g c S) : ∃ x, x < 128 ∧ g.1 c 5 = nI x ∧ ∀ t, t < T 1 → x / 2 ^ t % 2 = S (22 + t) := h.2.2.2.2.2.2.2.1
theorem CI.ld (h : CI T g c S) (w : Nat) : lod T S w ≤ 203 := lod_le h.1 h.2.2.1 w
theorem ca_isWet (h : CI T g c S) (ht : t < T 1) : Ca_isWet g c (nI t) = some (decide (S (22 + t) = 1)) := by
  obtain ⟨x, hx, h1, h2⟩ := h.x
  have hb := h.bb
  have h3 := h2 t ht
  have h4 := h.tb ht
  unfold Ca_isWet
  by_cases q : S (22 + t) = 1
  · simp (disch := omega) only [h1, b_get, h3, q, z_lt, z_le, z_eq, z_in, z_cl, z_add, z_mul, z_mx, z_mn, zl12, zl18, zl19, zl30, zl115, zl116, zl119, zl291, zl640, zl999, zl9999, zl0, zl1, zl2, zl3, zl4, zl5, zl6, zl7, zl8, zl9, zl10, zl15, zl20, zl22, zl26, zl29, zl32, zl33, zl40, zl47, zl48, zl55, zl57, zl59, zl60, zl63, zl71, zl97, zl99, zl100, zl122, zl200, zl255, zl320, zl1000, zl1024, zl5040, zl1000000000, decide_true, ↓reduceIte]
  · simp (disch := omega) only [h1, b_get, h3, q, z_lt, z_le, z_eq, z_in, z_cl, z_add, z_mul, z_mx, z_mn, zl12, zl18, zl19, zl30, zl115, zl116, zl119, zl291, zl640, zl999, zl9999, zl0, zl1, zl2, zl3, zl4, zl5, zl6, zl7, zl8, zl9, zl10, zl15, zl20, zl22, zl26, zl29, zl32, zl33, zl40, zl47, zl48, zl55, zl57, zl59, zl60, zl63, zl71, zl97, zl99, zl100, zl122, zl200, zl255, zl320, zl1000, zl1024, zl5040, zl1000000000, decide_false, ↓reduceIte]
theorem ca_weight (h : CI T g c S) (ht : t < T 1) : Ca_weight g c (nI t) = some (nI (wgh T S t)) := by
  have hb := h.bb
  have h3 := h.tt ht
  have h4 := h.tb ht
  unfold Ca_weight wgh
  by_cases q0 : S (15 + t) ≤ 0
  · rw [if_neg (show ¬ (S (22 + t) = 1 ∧ 0 < S (15 + t)) by omega)]
    simp (disch := omega) only [z_lt, z_le, z_eq, z_in, z_cl, z_add, z_mul, z_mx, z_mn, zl12, zl18, zl19, zl30, zl115, zl116, zl119, zl291, zl640, zl999, zl9999, zl0, zl1, zl2, zl3, zl4, zl5, zl6, zl7, zl8, zl9, zl10, zl15, zl20, zl22, zl26, zl29, zl32, zl33, zl40, zl47, zl48, zl55, zl57, zl59, zl60, zl63, zl71, zl97, zl99, zl100, zl122, zl200, zl255, zl320, zl1000, zl1024, zl5040, zl1000000000, h3, q0, ↓reduceIte, Nat.add_zero]
  · by_cases q : S (22 + t) = 1
    · rw [if_pos (show (S (22 + t) = 1 ∧ 0 < S (15 + t)) by omega)]
      simp (disch := omega) only [z_lt, z_le, z_eq, z_in, z_cl, z_add, z_mul, z_mx, z_mn, zl12, zl18, zl19, zl30, zl115, zl116, zl119, zl291, zl640, zl999, zl9999, zl0, zl1, zl2, zl3, zl4, zl5, zl6, zl7, zl8, zl9, zl10, zl15, zl20, zl22, zl26, zl29, zl32, zl33, zl40, zl47, zl48, zl55, zl57, zl59, zl60, zl63, zl71, zl97, zl99, zl100, zl122, zl200, zl255, zl320, zl1000, zl1024, zl5040, zl1000000000, h3, q0, ca_isWet h ht, q, Option.bind_some, Option.bind_none, ↓reduceIte, Bool.false_eq_true, reduceCtorEq, decide_true]
    · rw [if_neg (show ¬ (S (22 + t) = 1 ∧ 0 < S (15 + t)) by omega)]
      simp (disch := omega) only [z_lt, z_le, z_eq, z_in, z_cl, z_add, z_mul, z_mx, z_mn, zl12, zl18, zl19, zl30, zl115, zl116, zl119, zl291, zl640, zl999, zl9999, zl0, zl1, zl2, zl3, zl4, zl5, zl6, zl7, zl8, zl9, zl10, zl15, zl20, zl22, zl26, zl29, zl32, zl33, zl40, zl47, zl48, zl55, zl57, zl59, zl60, zl63, zl71, zl97, zl99, zl100, zl122, zl200, zl255, zl320, zl1000, zl1024, zl5040, zl1000000000, h3, q0, ca_isWet h ht, q, Option.bind_some, Option.bind_none, ↓reduceIte, Bool.false_eq_true, reduceCtorEq, decide_false, Nat.add_zero]
theorem ca_load (h : CI T g c S) (hw : w < 100) : Ca_load g c (nI w) = some (nI (lod T S w)) := by
  have hb := h.bb
  obtain ⟨b, h1, h2⟩ := lp_up (fun n a k => Ca_load_L4 n g c (nI w) a (nI k)) (T 1) (fun k a => a = nI (sm (lodf T S w) k)) (fun b => b = nI (lod T S w))
    (fun n a ha => ⟨_, by rw [Ca_load_L4]; simp (disch := omega) only [h.n, z_lt, z_le, z_eq, z_in, z_cl, z_add, z_mul, z_mx, z_mn, zl12, zl18, zl19, zl30, zl115, zl116, zl119, zl291, zl640, zl999, zl9999, zl0, zl1, zl2, zl3, zl4, zl5, zl6, zl7, zl8, zl9, zl10, zl15, zl20, zl22, zl26, zl29, zl32, zl33, zl40, zl47, zl48, zl55, zl57, zl59, zl60, zl63, zl71, zl97, zl99, zl100, zl122, zl200, zl255, zl320, zl1000, zl1024, zl5040, zl1000000000, Nat.le_refl, ↓reduceIte], ha⟩)
    (fun n k a hk ha => by
      have h3 := h.tt hk
      have h4 := h.tb hk
      have h5 := smlod_le h.1 h.2.2.1 w (Nat.le_of_lt hk)
      have h6 : ¬ T 1 ≤ k := by omega
      refine ⟨_, ?_, rfl⟩
      rw [Ca_load_L4, ha, sm_s, lodf]
      by_cases q : S (8 + k) = w
      · simp (disch := omega) only [h.n, h3, h6, z_lt, z_le, z_eq, z_in, z_cl, z_add, z_mul, z_mx, z_mn, zl12, zl18, zl19, zl30, zl115, zl116, zl119, zl291, zl640, zl999, zl9999, zl0, zl1, zl2, zl3, zl4, zl5, zl6, zl7, zl8, zl9, zl10, zl15, zl20, zl22, zl26, zl29, zl32, zl33, zl40, zl47, zl48, zl55, zl57, zl59, zl60, zl63, zl71, zl97, zl99, zl100, zl122, zl200, zl255, zl320, zl1000, zl1024, zl5040, zl1000000000, ca_weight h hk, q, Option.bind_some, Option.bind_none, ↓reduceIte, Bool.false_eq_true, reduceCtorEq]
      · simp (disch := omega) only [h.n, h3, h6, z_lt, z_le, z_eq, z_in, z_cl, z_add, z_mul, z_mx, z_mn, zl12, zl18, zl19, zl30, zl115, zl116, zl119, zl291, zl640, zl999, zl9999, zl0, zl1, zl2, zl3, zl4, zl5, zl6, zl7, zl8, zl9, zl10, zl15, zl20, zl22, zl26, zl29, zl32, zl33, zl40, zl47, zl48, zl55, zl57, zl59, zl60, zl63, zl71, zl97, zl99, zl100, zl122, zl200, zl255, zl320, zl1000, zl1024, zl5040, zl1000000000, q, Option.bind_some, Option.bind_none, ↓reduceIte, Bool.false_eq_true, reduceCtorEq, Nat.add_zero])
    am_fuel 0 0 (by omega) (z_fuel (by omega)) rfl
  rw [Ca_load]
  rw [show Ca_load_L4 am_fuel g c (nI w) 0 0 = some b from h1, h2]; rfl
theorem ca_force (h : CI T g c S) (hw : w < T 0) : Ca_force g c (nI w) = some (nI (T (4 + w)) - nI (S (4 + w))) := by
  have hb := h.bb
  have h3 := h.ww hw
  unfold Ca_force
  simp (disch := omega) only [z_lt, z_le, z_eq, z_in, z_cl, z_add, z_mul, z_mx, z_mn, zl12, zl18, zl19, zl30, zl115, zl116, zl119, zl291, zl640, zl999, zl9999, zl0, zl1, zl2, zl3, zl4, zl5, zl6, zl7, zl8, zl9, zl10, zl15, zl20, zl22, zl26, zl29, zl32, zl33, zl40, zl47, zl48, zl55, zl57, zl59, zl60, zl63, zl71, zl97, zl99, zl100, zl122, zl200, zl255, zl320, zl1000, zl1024, zl5040, zl1000000000, h3, ↓reduceIte]
theorem ca_pace (h : CI T g c S) (hw : w < T 0) {l : Nat} (hl : l ≤ 1000) : Ca_pace g c (nI w) (nI l) = some (nI (pac T S w l)) := by
  have h3 := h.ww hw
  rw [Ca_pace, ca_force h hw, Option.bind_some, z_pace h3.2.2.2.1 h3.2.2.2.2.2 hl]; rfl
theorem ca_minutesFor (h : CI T g c S) (hw : w < T 0) {l L : Nat} (hl : l ≤ 1000) (hL : L ≤ 20) : Ca_minutesFor g c (nI w) (nI l) (nI L) = some (nI (tks L (pac T S w l))) := by
  have hp := pac_le T S w l
  have h1 : ¬ pac T S w l = 0 := by omega
  rw [Ca_minutesFor, ca_pace h hw hl, Option.bind_some]
  have e := z_tks hL hp.1 hp.2
  simp (disch := omega) only [z_lt, z_le, z_eq, z_in, z_cl, z_add, z_mul, z_mx, z_mn, zl12, zl18, zl19, zl30, zl115, zl116, zl119, zl291, zl640, zl999, zl9999, zl0, zl1, zl2, zl3, zl4, zl5, zl6, zl7, zl8, zl9, zl10, zl15, zl20, zl22, zl26, zl29, zl32, zl33, zl40, zl47, zl48, zl55, zl57, zl59, zl60, zl63, zl71, zl97, zl99, zl100, zl122, zl200, zl255, zl320, zl1000, zl1024, zl5040, zl1000000000, hp.1, h1, not_false_eq_true, ↓reduceIte] at e ⊢
  rw [e]
theorem ca_tkw (h : CI T g c S) (hw : w < T 0) {L : Nat} (hL : L ≤ 20) : Ca_minutesFor g c (nI w) (nI (lod T S w)) (nI L) = some (nI (tkw T S L w)) := ca_minutesFor h hw (by have := h.ld w; omega) hL
theorem ca_slowest (h : CI T g c S) {L : Nat} (hL : L ≤ 20) : Ca_slowest g c (nI L) = some (nI (slo T S L)) := by
  have hb := h.bb
  obtain ⟨b, h1, h2⟩ := lp_up (fun n a k => Ca_slowest_L4 n g c (nI L) a (nI k)) (T 0) (fun k a => a = nI (gr (tkw T S L) k)) (fun b => b = nI (slo T S L))
    (fun n a ha => ⟨_, by rw [Ca_slowest_L4]; simp (disch := omega) only [h.n, z_lt, z_le, z_eq, z_in, z_cl, z_add, z_mul, z_mx, z_mn, zl12, zl18, zl19, zl30, zl115, zl116, zl119, zl291, zl640, zl999, zl9999, zl0, zl1, zl2, zl3, zl4, zl5, zl6, zl7, zl8, zl9, zl10, zl15, zl20, zl22, zl26, zl29, zl32, zl33, zl40, zl47, zl48, zl55, zl57, zl59, zl60, zl63, zl71, zl97, zl99, zl100, zl122, zl200, zl255, zl320, zl1000, zl1024, zl5040, zl1000000000, Nat.le_refl, ↓reduceIte], ha⟩)
    (fun n k a hk ha => by
      have h6 : ¬ T 0 ≤ k := by omega
      have h7 := slo_le (T := T) (S := S) hL k
      have h8 := tkw_le (T := T) (S := S) hL k
      refine ⟨_, ?_, rfl⟩
      rw [Ca_slowest_L4, ha, gr_zs]
      simp (disch := omega) only [h.n, h6, z_lt, z_le, z_eq, z_in, z_cl, z_add, z_mul, z_mx, z_mn, zl12, zl18, zl19, zl30, zl115, zl116, zl119, zl291, zl640, zl999, zl9999, zl0, zl1, zl2, zl3, zl4, zl5, zl6, zl7, zl8, zl9, zl10, zl15, zl20, zl22, zl26, zl29, zl32, zl33, zl40, zl47, zl48, zl55, zl57, zl59, zl60, zl63, zl71, zl97, zl99, zl100, zl122, zl200, zl255, zl320, zl1000, zl1024, zl5040, zl1000000000, ca_load h, ca_tkw h hk hL, Option.bind_some, Option.bind_none, ↓reduceIte, Bool.false_eq_true, reduceCtorEq])
    am_fuel 0 0 (by omega) (z_fuel (by omega)) rfl
  rw [Ca_slowest]
  rw [show Ca_slowest_L4 am_fuel g c (nI L) 0 0 = some b from h1, h2]; rfl
theorem ca_thingsWith (h : CI T g c S) (hw : w < 100) : Ca_thingsWith g c (nI w) = some (ob (fun t => S (8 + t) = w) (T 1)) := by
  have hb := h.bb
  obtain ⟨b, h1, h2⟩ := lp_up (fun n a k => Ca_thingsWith_L4 n g c (nI w) a (nI k)) (T 1) (fun k a => a = ob (fun t => S (8 + t) = w) k) (fun b => b = ob (fun t => S (8 + t) = w) (T 1))
    (fun n a ha => ⟨_, by rw [Ca_thingsWith_L4]; simp (disch := omega) only [h.n, z_lt, z_le, z_eq, z_in, z_cl, z_add, z_mul, z_mx, z_mn, zl12, zl18, zl19, zl30, zl115, zl116, zl119, zl291, zl640, zl999, zl9999, zl0, zl1, zl2, zl3, zl4, zl5, zl6, zl7, zl8, zl9, zl10, zl15, zl20, zl22, zl26, zl29, zl32, zl33, zl40, zl47, zl48, zl55, zl57, zl59, zl60, zl63, zl71, zl97, zl99, zl100, zl122, zl200, zl255, zl320, zl1000, zl1024, zl5040, zl1000000000, Nat.le_refl, ↓reduceIte], ha⟩)
    (fun n k a hk ha => by
      have h3 := h.tt hk
      have h4 := h.tb hk
      have h6 : ¬ T 1 ≤ k := by omega
      refine ⟨_, ?_, rfl⟩
      rw [Ca_thingsWith_L4, ha, ob]
      by_cases q : S (8 + k) = w
      · simp (disch := omega) only [h.n, h3, h6, z_lt, z_le, z_eq, z_in, z_cl, z_add, z_mul, z_mx, z_mn, zl12, zl18, zl19, zl30, zl115, zl116, zl119, zl291, zl640, zl999, zl9999, zl0, zl1, zl2, zl3, zl4, zl5, zl6, zl7, zl8, zl9, zl10, zl15, zl20, zl22, zl26, zl29, zl32, zl33, zl40, zl47, zl48, zl55, zl57, zl59, zl60, zl63, zl71, zl97, zl99, zl100, zl122, zl200, zl255, zl320, zl1000, zl1024, zl5040, zl1000000000, q, Option.bind_some, Option.bind_none, ↓reduceIte, Bool.false_eq_true, reduceCtorEq]
      · simp (disch := omega) only [h.n, h3, h6, z_lt, z_le, z_eq, z_in, z_cl, z_add, z_mul, z_mx, z_mn, zl12, zl18, zl19, zl30, zl115, zl116, zl119, zl291, zl640, zl999, zl9999, zl0, zl1, zl2, zl3, zl4, zl5, zl6, zl7, zl8, zl9, zl10, zl15, zl20, zl22, zl26, zl29, zl32, zl33, zl40, zl47, zl48, zl55, zl57, zl59, zl60, zl63, zl71, zl97, zl99, zl100, zl122, zl200, zl255, zl320, zl1000, zl1024, zl5040, zl1000000000, q, Option.bind_some, Option.bind_none, ↓reduceIte, Bool.false_eq_true, reduceCtorEq])
    am_fuel 0 0 (by omega) (z_fuel (by omega)) rfl
  rw [Ca_thingsWith]
  rw [show Ca_thingsWith_L4 am_fuel g c (nI w) 0 0 = some b from h1, h2]; rfl
theorem lof_le (h : CI T g c S) (x : Nat) {k : Nat} (hk : k ≤ T 1) : sm (lof S x) k ≤ 140 := by
  have hb := h.bb
  have := sm_le (n := k) (f := lof S x) (c := 20) (fun i hi => by
    have := h.tb (t := i) (by omega)
    unfold lof
    split <;> omega)
  omega
theorem ca_leftOf (h : CI T g c S) {x : Nat} (hx : x < 256) : Ca_leftOf g c (nI x) = some (nI (sm (lof S x) (T 1))) := by
  have hb := h.bb
  obtain ⟨b, h1, h2⟩ := lp_up (fun n a k => Ca_leftOf_L4 n g c (nI x) a (nI k)) (T 1) (fun k a => a = nI (sm (lof S x) k)) (fun b => b = nI (sm (lof S x) (T 1)))
    (fun n a ha => ⟨_, by rw [Ca_leftOf_L4]; simp (disch := omega) only [h.n, z_lt, z_le, z_eq, z_in, z_cl, z_add, z_mul, z_mx, z_mn, zl12, zl18, zl19, zl30, zl115, zl116, zl119, zl291, zl640, zl999, zl9999, zl0, zl1, zl2, zl3, zl4, zl5, zl6, zl7, zl8, zl9, zl10, zl15, zl20, zl22, zl26, zl29, zl32, zl33, zl40, zl47, zl48, zl55, zl57, zl59, zl60, zl63, zl71, zl97, zl99, zl100, zl122, zl200, zl255, zl320, zl1000, zl1024, zl5040, zl1000000000, Nat.le_refl, ↓reduceIte], ha⟩)
    (fun n k a hk ha => by
      have h3 := h.tt hk
      have h4 := h.tb hk
      have h5 := lof_le h x (Nat.le_of_lt hk)
      have h6 : ¬ T 1 ≤ k := by omega
      refine ⟨_, ?_, rfl⟩
      rw [Ca_leftOf_L4, ha, sm_s, lof]
      by_cases q : x / 2 ^ k % 2 = 1
      · simp (disch := omega) only [h.n, h3, h6, b_get, z_lt, z_le, z_eq, z_in, z_cl, z_add, z_mul, z_mx, z_mn, zl12, zl18, zl19, zl30, zl115, zl116, zl119, zl291, zl640, zl999, zl9999, zl0, zl1, zl2, zl3, zl4, zl5, zl6, zl7, zl8, zl9, zl10, zl15, zl20, zl22, zl26, zl29, zl32, zl33, zl40, zl47, zl48, zl55, zl57, zl59, zl60, zl63, zl71, zl97, zl99, zl100, zl122, zl200, zl255, zl320, zl1000, zl1024, zl5040, zl1000000000, q, Option.bind_some, Option.bind_none, ↓reduceIte, Bool.false_eq_true, reduceCtorEq]
      · simp (disch := omega) only [h.n, h3, h6, b_get, z_lt, z_le, z_eq, z_in, z_cl, z_add, z_mul, z_mx, z_mn, zl12, zl18, zl19, zl30, zl115, zl116, zl119, zl291, zl640, zl999, zl9999, zl0, zl1, zl2, zl3, zl4, zl5, zl6, zl7, zl8, zl9, zl10, zl15, zl20, zl22, zl26, zl29, zl32, zl33, zl40, zl47, zl48, zl55, zl57, zl59, zl60, zl63, zl71, zl97, zl99, zl100, zl122, zl200, zl255, zl320, zl1000, zl1024, zl5040, zl1000000000, q, Option.bind_some, Option.bind_none, ↓reduceIte, Bool.false_eq_true, reduceCtorEq, Nat.add_zero])
    am_fuel 0 0 (by omega) (z_fuel (by omega)) rfl
  rw [Ca_leftOf]
  rw [show Ca_leftOf_L4 am_fuel g c (nI x) 0 0 = some b from h1, h2]; rfl
theorem ca_isCarried (h : CI T g c S) (ht : t < T 1) : Ca_isCarried g c (nI t) = some (decide (S (8 + t) ≠ 9)) := by
  have hb := h.bb
  have h3 := h.tt ht
  have h4 := h.tb ht
  unfold Ca_isCarried
  by_cases q : S (8 + t) = 9
  · simp (disch := omega) only [z_lt, z_le, z_eq, z_in, z_cl, z_add, z_mul, z_mx, z_mn, zl12, zl18, zl19, zl30, zl115, zl116, zl119, zl291, zl640, zl999, zl9999, zl0, zl1, zl2, zl3, zl4, zl5, zl6, zl7, zl8, zl9, zl10, zl15, zl20, zl22, zl26, zl29, zl32, zl33, zl40, zl47, zl48, zl55, zl57, zl59, zl60, zl63, zl71, zl97, zl99, zl100, zl122, zl200, zl255, zl320, zl1000, zl1024, zl5040, zl1000000000, h3, q, ↓reduceIte, ne_eq, not_true_eq_false, decide_false]
  · simp (disch := omega) only [z_lt, z_le, z_eq, z_in, z_cl, z_add, z_mul, z_mx, z_mn, zl12, zl18, zl19, zl30, zl115, zl116, zl119, zl291, zl640, zl999, zl9999, zl0, zl1, zl2, zl3, zl4, zl5, zl6, zl7, zl8, zl9, zl10, zl15, zl20, zl22, zl26, zl29, zl32, zl33, zl40, zl47, zl48, zl55, zl57, zl59, zl60, zl63, zl71, zl97, zl99, zl100, zl122, zl200, zl255, zl320, zl1000, zl1024, zl5040, zl1000000000, h3, q, ↓reduceIte, ne_eq, not_false_eq_true, decide_true]
theorem ca_canBeGiven (h : CI T g c S) (ht : t < T 1) (hw : w < 100) : Ca_canBeGiven g c (nI t) (nI w) = some (decide (S (8 + t) ≠ 9 ∧ S (8 + t) ≠ w)) := by
  have hb := h.bb
  have h3 := h.tt ht
  have h4 := h.tb ht
  rw [Ca_canBeGiven, ca_isCarried h ht, Option.bind_some]
  by_cases q : S (8 + t) = 9
  · simp [q]
  · by_cases q2 : S (8 + t) = w
    · have q3 : ¬ w = 9 := by omega
      simp (disch := omega) only [z_lt, z_le, z_eq, z_in, z_cl, z_add, z_mul, z_mx, z_mn, zl12, zl18, zl19, zl30, zl115, zl116, zl119, zl291, zl640, zl999, zl9999, zl0, zl1, zl2, zl3, zl4, zl5, zl6, zl7, zl8, zl9, zl10, zl15, zl20, zl22, zl26, zl29, zl32, zl33, zl40, zl47, zl48, zl55, zl57, zl59, zl60, zl63, zl71, zl97, zl99, zl100, zl122, zl200, zl255, zl320, zl1000, zl1024, zl5040, zl1000000000, h3, q, q3, ↓reduceIte, ne_eq, not_false_eq_true, decide_true, q2, not_true_eq_false, and_false, decide_false]
    · simp (disch := omega) only [z_lt, z_le, z_eq, z_in, z_cl, z_add, z_mul, z_mx, z_mn, zl12, zl18, zl19, zl30, zl115, zl116, zl119, zl291, zl640, zl999, zl9999, zl0, zl1, zl2, zl3, zl4, zl5, zl6, zl7, zl8, zl9, zl10, zl15, zl20, zl22, zl26, zl29, zl32, zl33, zl40, zl47, zl48, zl55, zl57, zl59, zl60, zl63, zl71, zl97, zl99, zl100, zl122, zl200, zl255, zl320, zl1000, zl1024, zl5040, zl1000000000, h3, q, ↓reduceIte, ne_eq, not_false_eq_true, decide_true, q2, and_self]
theorem ca_isAtHut (h : CI T g c S) : Ca_isAtHut g c = some (decide (S 0 = 0 ∨ T (62 + S 0) = 1)) := by
  have hb := h.bb
  have hs := h.s
  unfold Ca_isAtHut
  by_cases q : S 0 = 0
  · simp (disch := omega) only [hs, h.n, q, z_lt, z_le, z_eq, z_in, z_cl, z_add, z_mul, z_mx, z_mn, zl12, zl18, zl19, zl30, zl115, zl116, zl119, zl291, zl640, zl999, zl9999, zl0, zl1, zl2, zl3, zl4, zl5, zl6, zl7, zl8, zl9, zl10, zl15, zl20, zl22, zl26, zl29, zl32, zl33, zl40, zl47, zl48, zl55, zl57, zl59, zl60, zl63, zl71, zl97, zl99, zl100, zl122, zl200, zl255, zl320, zl1000, zl1024, zl5040, zl1000000000, Nat.le_refl, ↓reduceIte, true_or, decide_true]
  · have h3 := h.dd (d := S 0 - 1) (by omega)
    have e : 63 + (S 0 - 1) = 62 + S 0 := by omega
    rw [e] at h3
    have q1 : ¬ S 0 ≤ 0 := by omega
    have q2 : ¬ T 2 < S 0 := by omega
    by_cases q3 : T (62 + S 0) = 1
    · simp (disch := omega) only [hs, h.n, z_lt, z_le, z_eq, z_in, z_cl, z_add, z_mul, z_mx, z_mn, zl12, zl18, zl19, zl30, zl115, zl116, zl119, zl291, zl640, zl999, zl9999, zl0, zl1, zl2, zl3, zl4, zl5, zl6, zl7, zl8, zl9, zl10, zl15, zl20, zl22, zl26, zl29, zl32, zl33, zl40, zl47, zl48, zl55, zl57, zl59, zl60, zl63, zl71, zl97, zl99, zl100, zl122, zl200, zl255, zl320, zl1000, zl1024, zl5040, zl1000000000, z_sub, h3, q1, q2, q3, ↓reduceIte, or_true, decide_true]
    · simp (disch := omega) only [hs, h.n, z_lt, z_le, z_eq, z_in, z_cl, z_add, z_mul, z_mx, z_mn, zl12, zl18, zl19, zl30, zl115, zl116, zl119, zl291, zl640, zl999, zl9999, zl0, zl1, zl2, zl3, zl4, zl5, zl6, zl7, zl8, zl9, zl10, zl15, zl20, zl22, zl26, zl29, zl32, zl33, zl40, zl47, zl48, zl55, zl57, zl59, zl60, zl63, zl71, zl97, zl99, zl100, zl122, zl200, zl255, zl320, zl1000, zl1024, zl5040, zl1000000000, z_sub, h3, q1, q2, q3, q, ↓reduceIte, or_self, decide_false]
theorem ca_hasStage (h : CI T g c S) : Ca_hasStage g c = some (decide (S 0 < T 2)) := by
  have hb := h.bb
  have hs := h.s
  unfold Ca_hasStage
  by_cases q : T 2 ≤ S 0
  · have q1 : ¬ S 0 < T 2 := by omega
    simp (disch := omega) only [hs, h.n, q, q1, z_lt, z_le, z_eq, z_in, z_cl, z_add, z_mul, z_mx, z_mn, zl12, zl18, zl19, zl30, zl115, zl116, zl119, zl291, zl640, zl999, zl9999, zl0, zl1, zl2, zl3, zl4, zl5, zl6, zl7, zl8, zl9, zl10, zl15, zl20, zl22, zl26, zl29, zl32, zl33, zl40, zl47, zl48, zl55, zl57, zl59, zl60, zl63, zl71, zl97, zl99, zl100, zl122, zl200, zl255, zl320, zl1000, zl1024, zl5040, zl1000000000, ↓reduceIte, decide_false]
  · have q1 : S 0 < T 2 := by omega
    simp (disch := omega) only [hs, h.n, q, q1, z_lt, z_le, z_eq, z_in, z_cl, z_add, z_mul, z_mx, z_mn, zl12, zl18, zl19, zl30, zl115, zl116, zl119, zl291, zl640, zl999, zl9999, zl0, zl1, zl2, zl3, zl4, zl5, zl6, zl7, zl8, zl9, zl10, zl15, zl20, zl22, zl26, zl29, zl32, zl33, zl40, zl47, zl48, zl55, zl57, zl59, zl60, zl63, zl71, zl97, zl99, zl100, zl122, zl200, zl255, zl320, zl1000, zl1024, zl5040, zl1000000000, ↓reduceIte, decide_true]
theorem ta_rains (h : CI T g c S) (hd : d < T 2) : Ta_rains g (nI d) = some (decide (T (55 + d) = 1)) := by
  have hb := h.bb
  have h3 := h.dd hd
  have q : ¬ T 2 ≤ d := by omega
  unfold Ta_rains
  by_cases q3 : T (55 + d) = 1
  · simp (disch := omega) only [h.n, z_lt, z_le, z_eq, z_in, z_cl, z_add, z_mul, z_mx, z_mn, zl12, zl18, zl19, zl30, zl115, zl116, zl119, zl291, zl640, zl999, zl9999, zl0, zl1, zl2, zl3, zl4, zl5, zl6, zl7, zl8, zl9, zl10, zl15, zl20, zl22, zl26, zl29, zl32, zl33, zl40, zl47, zl48, zl55, zl57, zl59, zl60, zl63, zl71, zl97, zl99, zl100, zl122, zl200, zl255, zl320, zl1000, zl1024, zl5040, zl1000000000, h3, q, q3, Nat.not_lt_zero, ↓reduceIte, decide_true]
  · simp (disch := omega) only [h.n, z_lt, z_le, z_eq, z_in, z_cl, z_add, z_mul, z_mx, z_mn, zl12, zl18, zl19, zl30, zl115, zl116, zl119, zl291, zl640, zl999, zl9999, zl0, zl1, zl2, zl3, zl4, zl5, zl6, zl7, zl8, zl9, zl10, zl15, zl20, zl22, zl26, zl29, zl32, zl33, zl40, zl47, zl48, zl55, zl57, zl59, zl60, zl63, zl71, zl97, zl99, zl100, zl122, zl200, zl255, zl320, zl1000, zl1024, zl5040, zl1000000000, h3, q, q3, Nat.not_lt_zero, ↓reduceIte, decide_false]
theorem bur_b (h : CI T g c S) (b : Bool) (hw : w < T 0) : -1000000 ≤ bur T S b w ∧ bur T S b w ≤ 1000000 := by
  have h1 := h.ld w
  have h2 := h.ww hw
  unfold bur
  split <;> omega
theorem ca_spread (h : CI T g c S) (b : Bool) : Ca_spread g c (am_b b) = some (if T 0 = 0 then 0 else zI (gI (bur T S b) (T 0) - lI (bur T S b) (T 0))) := by
  have hb := h.bb
  obtain ⟨r, h1, h2⟩ := lp_up (fun n (a : Int32 × Int32) k => Ca_spread_L9 n g c (am_b b) a.1 a.2 (nI k)) (T 0) (fun k a => a = (zI (gI (bur T S b) k), zI (lI (bur T S b) k))) (fun r => r = (zI (gI (bur T S b) (T 0)), zI (lI (bur T S b) (T 0))))
    (fun n a ha => ⟨a, by rw [Ca_spread_L9]; simp (disch := omega) only [h.n, z_lt, z_le, z_eq, z_in, z_cl, z_add, z_mul, z_mx, z_mn, zl12, zl18, zl19, zl30, zl115, zl116, zl119, zl291, zl640, zl999, zl9999, zl0, zl1, zl2, zl3, zl4, zl5, zl6, zl7, zl8, zl9, zl10, zl15, zl20, zl22, zl26, zl29, zl32, zl33, zl40, zl47, zl48, zl55, zl57, zl59, zl60, zl63, zl71, zl97, zl99, zl100, zl122, zl200, zl255, zl320, zl1000, zl1024, zl5040, zl1000000000, Nat.le_refl, ↓reduceIte], ha⟩)
    (fun n k a hk ha => by
      have h6 : ¬ T 0 ≤ k := by omega
      have h7 := gI_b (f := bur T S b) (n := k) (fun i hi => bur_b h b (by omega))
      have h8 := lI_b (f := bur T S b) (n := k) (fun i hi => bur_b h b (by omega))
      have h9 := bur_b h b hk
      refine ⟨_, ?_, rfl⟩
      rw [Ca_spread_L9, ha, gI, lI]
      have e : (if (am_b b) = 0 then (Ca_load g c (nI k)).bind fun q3 => some q3 else (Ca_load g c (nI k)).bind fun q5 => (Ca_force g c (nI k)).bind fun q7 => some (q5 - q7)) = some (zI (bur T S b k)) := by
        rw [ca_load h (by omega), ca_force h hk]
        cases b
        · rw [if_pos (show am_b false = 0 from rfl), bur]; simp only [Option.bind_some, Bool.false_eq_true, ↓reduceIte, zI_n]
        · rw [if_neg (show ¬ am_b true = 0 by decide), bur]; simp only [Option.bind_some, ↓reduceIte, zI_n, zI_sub]
      rw [e]
      simp (disch := omega) only [h.n, h6, z_lt, z_le, z_eq, z_in, z_cl, z_add, z_mul, z_mx, z_mn, zl12, zl18, zl19, zl30, zl115, zl116, zl119, zl291, zl640, zl999, zl9999, zl0, zl1, zl2, zl3, zl4, zl5, zl6, zl7, zl8, zl9, zl10, zl15, zl20, zl22, zl26, zl29, zl32, zl33, zl40, zl47, zl48, zl55, zl57, zl59, zl60, zl63, zl71, zl97, zl99, zl100, zl122, zl200, zl255, zl320, zl1000, zl1024, zl5040, zl1000000000, zI_mx, zI_mn, Option.bind_some, Option.bind_none, ↓reduceIte, Bool.false_eq_true, reduceCtorEq])
    am_fuel 0 (zI (-1000000000), zI 1000000000) (by omega) (z_fuel (by omega)) rfl
  rw [Ca_spread]
  rw [show Ca_spread_L9 am_fuel g c (am_b b) (-1000000000) 1000000000 0 = some r from h1, h2, Option.bind_some]
  by_cases q : T 0 = 0
  · simp (disch := omega) only [h.n, z_lt, z_le, z_eq, z_in, z_cl, z_add, z_mul, z_mx, z_mn, zl12, zl18, zl19, zl30, zl115, zl116, zl119, zl291, zl640, zl999, zl9999, zl0, zl1, zl2, zl3, zl4, zl5, zl6, zl7, zl8, zl9, zl10, zl15, zl20, zl22, zl26, zl29, zl32, zl33, zl40, zl47, zl48, zl55, zl57, zl59, zl60, zl63, zl71, zl97, zl99, zl100, zl122, zl200, zl255, zl320, zl1000, zl1024, zl5040, zl1000000000, q, ↓reduceIte]
  · simp (disch := omega) only [h.n, z_lt, z_le, z_eq, z_in, z_cl, z_add, z_mul, z_mx, z_mn, zl12, zl18, zl19, zl30, zl115, zl116, zl119, zl291, zl640, zl999, zl9999, zl0, zl1, zl2, zl3, zl4, zl5, zl6, zl7, zl8, zl9, zl10, zl15, zl20, zl22, zl26, zl29, zl32, zl33, zl40, zl47, zl48, zl55, zl57, zl59, zl60, zl63, zl71, zl97, zl99, zl100, zl122, zl200, zl255, zl320, zl1000, zl1024, zl5040, zl1000000000, q, ↓reduceIte, zI_sub]
theorem ca_parted (h : CI T g c S) : Ca_parted g c = some (pts T S (T 1)) := by
  have hb := h.bb
  have inner : ∀ t a, t < T 1 → Ca_parted_L17 am_fuel g c a (nI t) 0 = some (pt1 T S t a t) := by
    intro t a ht
    have h3 := h.tt ht
    have h4 := h.tb ht
    obtain ⟨r, h1, h2⟩ := lp_up (fun n (x : Int32) k => Ca_parted_L17 n g c x (nI t) (nI k)) t (fun k x => x = pt1 T S t a k) (fun r => r = pt1 T S t a t)
      (fun n x hx => ⟨_, by rw [Ca_parted_L17]; simp (disch := omega) only [z_lt, z_le, z_eq, z_in, z_cl, z_add, z_mul, z_mx, z_mn, zl12, zl18, zl19, zl30, zl115, zl116, zl119, zl291, zl640, zl999, zl9999, zl0, zl1, zl2, zl3, zl4, zl5, zl6, zl7, zl8, zl9, zl10, zl15, zl20, zl22, zl26, zl29, zl32, zl33, zl40, zl47, zl48, zl55, zl57, zl59, zl60, zl63, zl71, zl97, zl99, zl100, zl122, zl200, zl255, zl320, zl1000, zl1024, zl5040, zl1000000000, Nat.le_refl, ↓reduceIte], hx⟩)
      (fun n k x hk hx => by
        have h5 := h.tt (t := k) (by omega)
        have h6 := h.tb (t := k) (by omega)
        have h7 : ¬ t ≤ k := by omega
        refine ⟨_, ?_, rfl⟩
        rw [Ca_parted_L17, hx, pt1]
        by_cases q1 : T (33 + t) ≤ 0
        · have q1' : ¬ 0 < T (33 + t) := by omega
          simp (disch := omega) only [h3, h5, h7, z_lt, z_le, z_eq, z_in, z_cl, z_add, z_mul, z_mx, z_mn, zl12, zl18, zl19, zl30, zl115, zl116, zl119, zl291, zl640, zl999, zl9999, zl0, zl1, zl2, zl3, zl4, zl5, zl6, zl7, zl8, zl9, zl10, zl15, zl20, zl22, zl26, zl29, zl32, zl33, zl40, zl47, zl48, zl55, zl57, zl59, zl60, zl63, zl71, zl97, zl99, zl100, zl122, zl200, zl255, zl320, zl1000, zl1024, zl5040, zl1000000000, q1, q1', Option.bind_some, Option.bind_none, ↓reduceIte, Bool.false_eq_true, reduceCtorEq, false_and]
        · have q1' : 0 < T (33 + t) := by omega
          by_cases q2 : T (33 + t) = T (33 + k)
          · by_cases q3 : S (8 + t) = S (8 + k)
            · have q4 : ¬ T (33 + k) ≤ 0 := by omega
              simp (disch := omega) only [h3, h5, h7, z_lt, z_le, z_eq, z_in, z_cl, z_add, z_mul, z_mx, z_mn, zl12, zl18, zl19, zl30, zl115, zl116, zl119, zl291, zl640, zl999, zl9999, zl0, zl1, zl2, zl3, zl4, zl5, zl6, zl7, zl8, zl9, zl10, zl15, zl20, zl22, zl26, zl29, zl32, zl33, zl40, zl47, zl48, zl55, zl57, zl59, zl60, zl63, zl71, zl97, zl99, zl100, zl122, zl200, zl255, zl320, zl1000, zl1024, zl5040, zl1000000000, q4, q1', Option.bind_some, Option.bind_none, ↓reduceIte, Bool.false_eq_true, reduceCtorEq, ne_eq, not_true_eq_false, and_false, q2, q3]
            · have q4 : ¬ T (33 + k) ≤ 0 := by omega
              have q4' : 0 < T (33 + k) := by omega
              simp (disch := omega) only [h3, h5, h7, z_lt, z_le, z_eq, z_in, z_cl, z_add, z_mul, z_mx, z_mn, zl12, zl18, zl19, zl30, zl115, zl116, zl119, zl291, zl640, zl999, zl9999, zl0, zl1, zl2, zl3, zl4, zl5, zl6, zl7, zl8, zl9, zl10, zl15, zl20, zl22, zl26, zl29, zl32, zl33, zl40, zl47, zl48, zl55, zl57, zl59, zl60, zl63, zl71, zl97, zl99, zl100, zl122, zl200, zl255, zl320, zl1000, zl1024, zl5040, zl1000000000, q4, q4', Option.bind_some, Option.bind_none, ↓reduceIte, Bool.false_eq_true, reduceCtorEq, ne_eq, not_false_eq_true, and_self, q2, q3]
          · simp (disch := omega) only [h3, h5, h7, z_lt, z_le, z_eq, z_in, z_cl, z_add, z_mul, z_mx, z_mn, zl12, zl18, zl19, zl30, zl115, zl116, zl119, zl291, zl640, zl999, zl9999, zl0, zl1, zl2, zl3, zl4, zl5, zl6, zl7, zl8, zl9, zl10, zl15, zl20, zl22, zl26, zl29, zl32, zl33, zl40, zl47, zl48, zl55, zl57, zl59, zl60, zl63, zl71, zl97, zl99, zl100, zl122, zl200, zl255, zl320, zl1000, zl1024, zl5040, zl1000000000, q1, q1', Option.bind_some, Option.bind_none, ↓reduceIte, Bool.false_eq_true, reduceCtorEq, false_and, and_false, q2])
      am_fuel 0 a (by omega) (z_fuel (by omega)) rfl
    rw [show Ca_parted_L17 am_fuel g c a (nI t) 0 = some r from h1, h2]
  obtain ⟨r, h1, h2⟩ := lp_up (fun n (x : Int32) k => Ca_parted_L4 n g c x (nI k)) (T 1) (fun k x => x = pts T S k) (fun r => r = pts T S (T 1))
    (fun n x hx => ⟨_, by rw [Ca_parted_L4]; simp (disch := omega) only [h.n, z_lt, z_le, z_eq, z_in, z_cl, z_add, z_mul, z_mx, z_mn, zl12, zl18, zl19, zl30, zl115, zl116, zl119, zl291, zl640, zl999, zl9999, zl0, zl1, zl2, zl3, zl4, zl5, zl6, zl7, zl8, zl9, zl10, zl15, zl20, zl22, zl26, zl29, zl32, zl33, zl40, zl47, zl48, zl55, zl57, zl59, zl60, zl63, zl71, zl97, zl99, zl100, zl122, zl200, zl255, zl320, zl1000, zl1024, zl5040, zl1000000000, Nat.le_refl, ↓reduceIte], hx⟩)
    (fun n k x hk hx => by
      have h7 : ¬ T 1 ≤ k := by omega
      refine ⟨_, ?_, rfl⟩
      rw [Ca_parted_L4, hx, pts, inner k _ hk]
      simp (disch := omega) only [h.n, h7, z_lt, z_le, z_eq, z_in, z_cl, z_add, z_mul, z_mx, z_mn, zl12, zl18, zl19, zl30, zl115, zl116, zl119, zl291, zl640, zl999, zl9999, zl0, zl1, zl2, zl3, zl4, zl5, zl6, zl7, zl8, zl9, zl10, zl15, zl20, zl22, zl26, zl29, zl32, zl33, zl40, zl47, zl48, zl55, zl57, zl59, zl60, zl63, zl71, zl97, zl99, zl100, zl122, zl200, zl255, zl320, zl1000, zl1024, zl5040, zl1000000000, Option.bind_some, Option.bind_none, ↓reduceIte, Bool.false_eq_true, reduceCtorEq])
    am_fuel 0 0 (by omega) (z_fuel (by omega)) rfl
  rw [Ca_parted]
  rw [show Ca_parted_L4 am_fuel g c 0 0 = some r from h1, h2]; rfl
end
