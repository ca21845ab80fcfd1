-- NUMBERS AND MEMORY: what the walks of the mathematics use
theorem zl12 : (12 : Int32) = nI 12 := rfl
theorem zl18 : (18 : Int32) = nI 18 := rfl
theorem zl19 : (19 : Int32) = nI 19 := rfl
theorem zl30 : (30 : Int32) = nI 30 := rfl
theorem zl115 : (115 : Int32) = nI 115 := rfl
theorem zl116 : (116 : Int32) = nI 116 := rfl
theorem zl119 : (119 : Int32) = nI 119 := rfl
theorem zl291 : (291 : Int32) = nI 291 := rfl
theorem zl640 : (640 : Int32) = nI 640 := rfl
theorem zl999 : (999 : Int32) = nI 999 := rfl
theorem zl9999 : (9999 : Int32) = nI 9999 := rfl
theorem zl0 : (0 : Int32) = nI 0 := rfl
theorem zl1 : (1 : Int32) = nI 1 := rfl
theorem zl2 : (2 : Int32) = nI 2 := rfl
theorem zl3 : (3 : Int32) = nI 3 := rfl
theorem zl4 : (4 : Int32) = nI 4 := rfl
theorem zl5 : (5 : Int32) = nI 5 := rfl
theorem zl6 : (6 : Int32) = nI 6 := rfl
theorem zl7 : (7 : Int32) = nI 7 := rfl
theorem zl8 : (8 : Int32) = nI 8 := rfl
theorem zl9 : (9 : Int32) = nI 9 := rfl
theorem zl10 : (10 : Int32) = nI 10 := rfl
theorem zl15 : (15 : Int32) = nI 15 := rfl
theorem zl20 : (20 : Int32) = nI 20 := rfl
theorem zl22 : (22 : Int32) = nI 22 := rfl
theorem zl26 : (26 : Int32) = nI 26 := rfl
theorem zl29 : (29 : Int32) = nI 29 := rfl
theorem zl32 : (32 : Int32) = nI 32 := rfl
theorem zl33 : (33 : Int32) = nI 33 := rfl
theorem zl40 : (40 : Int32) = nI 40 := rfl
theorem zl47 : (47 : Int32) = nI 47 := rfl
theorem zl48 : (48 : Int32) = nI 48 := rfl
theorem zl55 : (55 : Int32) = nI 55 := rfl
theorem zl57 : (57 : Int32) = nI 57 := rfl
theorem zl59 : (59 : Int32) = nI 59 := rfl
theorem zl60 : (60 : Int32) = nI 60 := rfl
theorem zl63 : (63 : Int32) = nI 63 := rfl
theorem zl71 : (71 : Int32) = nI 71 := rfl
theorem zl97 : (97 : Int32) = nI 97 := rfl
theorem zl99 : (99 : Int32) = nI 99 := rfl
theorem zl100 : (100 : Int32) = nI 100 := rfl
theorem zl122 : (122 : Int32) = nI 122 := rfl
theorem zl200 : (200 : Int32) = nI 200 := rfl
theorem zl255 : (255 : Int32) = nI 255 := rfl
theorem zl320 : (320 : Int32) = nI 320 := rfl
theorem zl1000 : (1000 : Int32) = nI 1000 := rfl
theorem zl1024 : (1024 : Int32) = nI 1024 := rfl
theorem zl5040 : (5040 : Int32) = nI 5040 := rfl
theorem zl1000000000 : (1000000000 : Int32) = nI 1000000000 := rfl
theorem z_in {t n : Nat} (h : t < n) (hn : n < 2 ^ 31) : am_in (nI t) n = true := by
  have h1 := vp_in_nI h hn
  simp only [am_in, Bool.not_eq_true', Bool.or_eq_false_iff, decide_eq_false_iff_not]
  exact ⟨fun q => h1 (Or.inl q), fun q => h1 (Or.inr q)⟩
theorem z_cl {t : Nat} (h : t < 2 ^ 31) : (nI t).toNatClampNeg = t := nI_clamp h
theorem z_lt {a b : Nat} (ha : a < 2 ^ 31) (hb : b < 2 ^ 31) : (nI a < nI b) = (a < b) := propext (nI_ltI ha hb)
theorem z_le {a b : Nat} (ha : a < 2 ^ 31) (hb : b < 2 ^ 31) : (nI a ≤ nI b) = (a ≤ b) := propext (nI_leI ha hb)
theorem z_eq {a b : Nat} (ha : a < 2 ^ 31) (hb : b < 2 ^ 31) : (nI a = nI b) = (a = b) := propext (nI_eq ha hb)
theorem z_add (a b : Nat) : nI a + nI b = nI (a + b) := nI_add a b
theorem z_mul (a b : Nat) : nI a * nI b = nI (a * b) := pk_mul a b
theorem z_sub {a b : Nat} (h : b ≤ a) : nI a - nI b = nI (a - b) := pk_sub h
theorem z_div {a d : Nat} (ha : a < 2 ^ 31) (h0 : 0 < d) (hd : d < 2 ^ 31) : nI a / nI d = nI (a / d) := pk_div ha h0 hd
theorem z_rem {a d : Nat} (ha : a < 2 ^ 31) (h0 : 0 < d) (hd : d < 2 ^ 31) : nI a - nI a / nI d * nI d = nI (a % d) := pk_rem ha h0 hd
theorem z_mx {a b : Nat} (ha : a < 2 ^ 31) (hb : b < 2 ^ 31) : am_mx (nI a) (nI b) = nI (max a b) := by
  by_cases h : a < b
  · rw [am_mx, if_pos ((nI_ltI ha hb).2 h)]
    congr 1; omega
  · rw [am_mx, if_neg (fun q => h ((nI_ltI ha hb).1 q))]
    congr 1; omega
theorem z_mn {a b : Nat} (ha : a < 2 ^ 31) (hb : b < 2 ^ 31) : am_mn (nI a) (nI b) = nI (min a b) := by
  by_cases h : b < a
  · rw [am_mn, if_pos ((nI_ltI hb ha).2 h)]
    congr 1; omega
  · rw [am_mn, if_neg (fun q => h ((nI_ltI hb ha).1 q))]
    congr 1; omega
/-- every int is below 0, or a number -/
theorem z_of (x : Int32) : x < 0 ∨ ∃ j : Nat, j < 2 ^ 31 ∧ x = nI j := by
  by_cases h : x < 0
  · exact Or.inl h
  · exact Or.inr (nI_of h)
theorem z_neg_in {x : Int32} {n : Nat} (h : x < 0) : am_in x n = false := by simp [am_in, h]
-- memory
theorem m_eq (g : am_G) (a k : Nat) (v : Int32) : (am_wr g a k v).1 a k = v := by simp [am_wr]
theorem m_ne {g : am_G} {a k b j : Nat} {v : Int32} (h : ¬ (b = a ∧ j = k)) : (am_wr g a k v).1 b j = g.1 b j := by simp [am_wr, h]
theorem m_na {g : am_G} {a k b j : Nat} {v : Int32} (h : b ≠ a) : (am_wr g a k v).1 b j = g.1 b j := by simp [am_wr, h]
theorem m_nk {g : am_G} {a k b j : Nat} {v : Int32} (h : j ≠ k) : (am_wr g a k v).1 b j = g.1 b j := by simp [am_wr, h]
theorem m_2 (g : am_G) (a k : Nat) (v : Int32) : (am_wr g a k v).2 = g.2 := rfl
theorem m_row {g : am_G} {a k b : Nat} {v : Int32} (h : b ≠ a) : (am_wr g a k v).1 b = g.1 b := by
  funext j
  exact m_na h
theorem m_L1 (g : am_G) (a k : Nat) (v : Int64) : (am_wL g a k v).1 = g.1 := rfl
theorem m_Leq (g : am_G) (a k : Nat) (v : Int64) : (am_wL g a k v).2 a k = v := by simp [am_wL]
theorem m_Lne {g : am_G} {a k b j : Nat} {v : Int64} (h : ¬ (b = a ∧ j = k)) : (am_wL g a k v).2 b j = g.2 b j := by simp [am_wL, h]
theorem m_cp2 (g : am_G) (a b sp dp n : Nat) : (am_cp g a b sp dp n).2 = g.2 := rfl
theorem m_cpi {g : am_G} {a b n k : Nat} (h : k < n) : (am_cp g a b 0 0 n).1 b k = g.1 a k := by simp [am_cp, h]
theorem m_cpo {g : am_G} {a b n q k : Nat} (h : q ≠ b) : (am_cp g a b 0 0 n).1 q k = g.1 q k := by simp [am_cp, h]
theorem m_cpr {g : am_G} {a b n q : Nat} (h : q ≠ b) : (am_cp g a b 0 0 n).1 q = g.1 q := by
  funext k
  exact m_cpo h
-- sums and greatest
def sm (f : Nat → Nat) : Nat → Nat
  | 0 => 0
  | n + 1 => sm f n + f n
def gr (f : Nat → Nat) : Nat → Nat
  | 0 => 0
  | n + 1 => max (gr f n) (f n)
theorem sm_le {f : Nat → Nat} {c : Nat} : ∀ {n : Nat}, (∀ i, i < n → f i ≤ c) → sm f n ≤ n * c
  | 0, _ => by simp [sm]
  | n + 1, h => by
    have h1 := sm_le (n := n) (fun i hi => h i (by omega))
    have h2 := h n (by omega)
    simp only [sm]
    rw [Nat.succ_mul]
    omega
theorem sm_cg {f f' : Nat → Nat} : ∀ {n : Nat}, (∀ i, i < n → f i = f' i) → sm f n = sm f' n
  | 0, _ => rfl
  | n + 1, h => by simp only [sm]; rw [sm_cg (fun i hi => h i (by omega)), h n (by omega)]
theorem gr_le {f : Nat → Nat} {c : Nat} : ∀ {n : Nat}, (∀ i, i < n → f i ≤ c) → gr f n ≤ c
  | 0, _ => by simp [gr]
  | n + 1, h => by
    have h1 := gr_le (n := n) (fun i hi => h i (by omega))
    have h2 := h n (by omega)
    simp only [gr]
    omega
theorem gr_cg {f f' : Nat → Nat} : ∀ {n : Nat}, (∀ i, i < n → f i = f' i) → gr f n = gr f' n
  | 0, _ => rfl
  | n + 1, h => by simp only [gr]; rw [gr_cg (fun i hi => h i (by omega)), h n (by omega)]
theorem gr_ge {f : Nat → Nat} : ∀ {n i : Nat}, i < n → f i ≤ gr f n
  | 0, _, h => absurd h (Nat.not_lt_zero _)
  | n + 1, i, h => by
    simp only [gr]
    by_cases hi : i = n
    · subst hi; omega
    · have := gr_ge (f := f) (n := n) (i := i) (by omega)
      omega

theorem sm_0 (f : Nat → Nat) : sm f 0 = 0 := rfl
theorem sm_s (f : Nat → Nat) (n : Nat) : sm f (n + 1) = sm f n + f n := rfl
theorem gr_z0 (f : Nat → Nat) : gr f 0 = 0 := rfl
theorem gr_zs (f : Nat → Nat) (n : Nat) : gr f (n + 1) = max (gr f n) (f n) := rfl
-- loops
theorem lp_up {α β : Type} (L : Nat → α → Nat → Option β) (N : Nat) (I : Nat → α → Prop) (R : β → Prop)
    (he : ∀ n a, I N a → ∃ b, L (n + 1) a N = some b ∧ R b)
    (hs : ∀ n k a, k < N → I k a → ∃ a', L (n + 1) a k = L n a' (k + 1) ∧ I (k + 1) a') :
    ∀ n k a, k ≤ N → N - k < n → I k a → ∃ b, L n a k = some b ∧ R b := by
  intro n
  induction n with
  | zero => intro k a _ h; omega
  | succ n ih =>
    intro k a hk hn hI
    by_cases h : k = N
    · subst h; exact he n a hI
    · obtain ⟨a', h1, h2⟩ := hs n k a (by omega) hI
      rw [h1]
      exact ih (k + 1) a' (by omega) (by omega) h2
/-- a loop that may leave early -/
theorem lp_ex {α β : Type} (L : Nat → α → Nat → Option β) (N : Nat) (I : Nat → α → Prop) (R : β → Prop)
    (he : ∀ n a, I N a → ∃ b, L (n + 1) a N = some b ∧ R b)
    (hs : ∀ n k a, k < N → I k a → (∃ a', L (n + 1) a k = L n a' (k + 1) ∧ I (k + 1) a') ∨ ∃ b, L (n + 1) a k = some b ∧ R b) :
    ∀ n k a, k ≤ N → N - k < n → I k a → ∃ b, L n a k = some b ∧ R b := by
  intro n
  induction n with
  | zero => intro k a _ h; omega
  | succ n ih =>
    intro k a hk hn hI
    by_cases h : k = N
    · subst h; exact he n a hI
    · rcases hs n k a (by omega) hI with ⟨a', h1, h2⟩ | h1
      · rw [h1]
        exact ih (k + 1) a' (by omega) (by omega) h2
      · exact h1
/-- downwards: place k stands for the number k - 1 -/
theorem lp_dn {α β : Type} (L : Nat → α → Nat → Option β) (I : Nat → α → Prop) (R : β → Prop)
    (he : ∀ n a, I 0 a → ∃ b, L (n + 1) a 0 = some b ∧ R b)
    (hs : ∀ n k a, I (k + 1) a → ∃ a', L (n + 1) a (k + 1) = L n a' k ∧ I k a') :
    ∀ n k a, k < n → I k a → ∃ b, L n a k = some b ∧ R b := by
  intro n
  induction n with
  | zero => intro k a h; omega
  | succ n ih =>
    intro k a hn hI
    cases k with
    | zero => exact he n a hI
    | succ k =>
      obtain ⟨a', h1, h2⟩ := hs n k a hI
      rw [h1]
      exact ih k a' (by omega) h2
theorem z_fuel {n : Nat} (h : n < 1000000) : n < am_fuel := h
-- bits, of few
theorem b_sh (n : Nat) (h : n < 9) : (nI 1 <<< (nI n &&& 31)) = nI (2 ^ n) := by
  have : ∀ i, i < 9 → (nI 1 <<< (nI i &&& 31)) = nI (2 ^ i) := by decide +kernel
  exact this n h
theorem b_get {x t : Nat} (hx : x < 256) (ht : t < 8) : ((nI x >>> (nI t &&& 31)) &&& nI 1) = nI (x / 2 ^ t % 2) := by
  have : ∀ i, i < 256 → ∀ j, j < 8 → ((nI i >>> (nI j &&& 31)) &&& nI 1) = nI (i / 2 ^ j % 2) := by decide +kernel
  exact this x hx t ht
theorem b_set {x t : Nat} (hx : x < 128) (ht : t < 7) : (nI x ||| nI (2 ^ t)) = nI (x ||| 2 ^ t) := by
  have : ∀ i, i < 128 → ∀ j, j < 7 → (nI i ||| nI (2 ^ j)) = nI (i ||| 2 ^ j) := by decide +kernel
  exact this x hx t ht
theorem b_or {x t : Nat} (hx : x < 128) (ht : t < 7) : (x ||| 2 ^ t) < 128 := by
  have : ∀ i, i < 128 → ∀ j, j < 7 → (i ||| 2 ^ j) < 128 := by decide +kernel
  exact this x hx t ht
theorem b_bit {x t u : Nat} (hx : x < 128) (ht : t < 7) (hu : u < 7) : (x ||| 2 ^ t) / 2 ^ u % 2 = if u = t then 1 else x / 2 ^ u % 2 := by
  have : ∀ i, i < 128 → ∀ j, j < 7 → ∀ k, k < 7 → (i ||| 2 ^ j) / 2 ^ k % 2 = if k = j then 1 else i / 2 ^ k % 2 := by decide +kernel
  exact this x hx t ht u hu
-- frames
def Fm (P : Nat → Nat → Prop) (g g' : am_G) : Prop := g'.2 = g.2 ∧ ∀ a k, ¬ P a k → g'.1 a k = g.1 a k
theorem Fm.rf (P : Nat → Nat → Prop) (g : am_G) : Fm P g g := ⟨rfl, fun _ _ _ => rfl⟩
theorem Fm.tr {P : Nat → Nat → Prop} {g g' g'' : am_G} (h : Fm P g g') (h' : Fm P g' g'') : Fm P g g'' := ⟨h'.1.trans h.1, fun a k q => (h'.2 a k q).trans (h.2 a k q)⟩
theorem Fm.mo {P Q : Nat → Nat → Prop} {g g' : am_G} (h : Fm P g g') (hq : ∀ a k, P a k → Q a k) : Fm Q g g' := ⟨h.1, fun a k q => h.2 a k (fun p => q (hq a k p))⟩
theorem Fm.wr {P : Nat → Nat → Prop} {g g' : am_G} (h : Fm P g g') {a k : Nat} {v : Int32} (hp : P a k) : Fm P g (am_wr g' a k v) :=
  ⟨h.1, fun b j q => by rw [← h.2 b j q]; exact m_ne (fun e => q (e.1 ▸ e.2 ▸ hp))⟩
theorem Fm.cp {P : Nat → Nat → Prop} {g g' : am_G} (h : Fm P g g') {a b n : Nat} (hp : ∀ k, k < n → P b k) : Fm P g (am_cp g' a b 0 0 n) :=
  ⟨h.1, fun c j q => by
    rw [← h.2 c j q]
    by_cases e : c = b ∧ j < n
    · exact absurd (e.1 ▸ hp j e.2) q
    · simp [am_cp]; intro e1 e2; exact absurd ⟨e1, e2⟩ e⟩
