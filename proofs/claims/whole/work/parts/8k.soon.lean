-- SOONEST: all ways of bearers, in their order
def vld (T R f : Nat → Nat) : Prop := ∀ t, t < T 1 → (R (8 + t) = 9 → f t = 9) ∧ (R (8 + t) ≠ 9 → f t < T 0)
def stp (T R f : Nat → Nat) (t p : Nat) : Nat := if R (8 + t) = 9 then p else p * T 0 + f t
def sn (T R f : Nat → Nat) (k : Nat) : Nat → Nat → Nat
  | 0, p => p
  | j + 1, p => stp T R f (k + j) (sn T R f k j p)
def fc (T R : Nat → Nat) (t : Nat) : Nat := if R (8 + t) = 9 then 1 else T 0
def Wn (T R : Nat → Nat) (k : Nat) : Nat → Nat
  | 0 => 1
  | j + 1 => Wn T R k j * fc T R (k + j)
def pn (T R f : Nat → Nat) (t : Nat) : Nat := sn T R f 0 t 0
def pl (T R f : Nat → Nat) (t w : Nat) : Nat := sm (fun t' => if f t' = w then wgh T R t' else 0) t
def mi (f : Nat → Nat) : Nat → Nat
  | 0 => 1000000000
  | n + 1 => min (mi f n) (f n)
def fai (T R f : Nat → Nat) : Nat := gr (pl T R f (T 1)) (T 0) - mi (pl T R f (T 1)) (T 0)
def mnt (T R f : Nat → Nat) (L t : Nat) : Nat := gr (fun w => tks L (pac T R w (pl T R f t w))) (T 0)
def Ky (T R f : Nat → Nat) (L : Nat) : Nat := 1024 * mnt T R f L (T 1) + fai T R f
/-- of the ways with a number below N, z is the first of the best -/
def FB (T R : Nat → Nat) (L N : Nat) (r : Option (Nat → Nat)) : Prop := (r = none ∧ ∀ y, vld T R y → ¬ pn T R y (T 1) < N) ∨ ∃ z, r = some z ∧ vld T R z ∧ pn T R z (T 1) < N ∧ (∀ y, vld T R y → pn T R y (T 1) < N → Ky T R z L ≤ Ky T R y L) ∧ (∀ y, vld T R y → pn T R y (T 1) < pn T R z (T 1) → Ky T R z L < Ky T R y L)
section
variable {T R f y z : Nat → Nat} {L N N' t j k p : Nat}
theorem sn_split (k i j p : Nat) : sn T R f k (i + j) p = sn T R f (k + i) j (sn T R f k i p) := by
  induction j with
  | zero => rfl
  | succ j ih => rw [show i + (j + 1) = (i + j) + 1 by omega, sn, ih, sn, show k + (i + j) = k + i + j by omega]
theorem Wn_split (k i j : Nat) : Wn T R k (i + j) = Wn T R k i * Wn T R (k + i) j := by
  induction j with
  | zero => simp [Wn]
  | succ j ih => rw [show i + (j + 1) = (i + j) + 1 by omega, Wn, ih, Wn, show k + (i + j) = k + i + j by omega, Nat.mul_assoc]
theorem fc_pos (h0 : 0 < T 0) (t : Nat) : 0 < fc T R t := by unfold fc; split <;> omega
theorem Wn_pos (h0 : 0 < T 0) (k j : Nat) : 0 < Wn T R k j := by
  induction j with
  | zero => exact Nat.one_pos
  | succ j ih => exact Nat.mul_pos ih (fc_pos h0 _)
theorem stp_b (h : vld T R f) (ht : t < T 1) (p : Nat) : p * fc T R t ≤ stp T R f t p ∧ stp T R f t p < (p + 1) * fc T R t := by
  have hv := h t ht
  unfold stp fc
  by_cases q : R (8 + t) = 9
  · rw [if_pos q, if_pos q]; omega
  · rw [if_neg q, if_neg q, Nat.add_mul]
    have := hv.2 q
    omega
theorem sn_b (h : vld T R f) (hk : k + j ≤ T 1) (p : Nat) : p * Wn T R k j ≤ sn T R f k j p ∧ sn T R f k j p < (p + 1) * Wn T R k j := by
  induction j with
  | zero => simp [sn, Wn]
  | succ j ih =>
    obtain ⟨h1, h2⟩ := ih (by omega)
    obtain ⟨h3, h4⟩ := stp_b h (show k + j < T 1 by omega) (sn T R f k j p)
    rw [sn, Wn, ← Nat.mul_assoc, ← Nat.mul_assoc]
    refine ⟨Nat.le_trans (Nat.mul_le_mul_right _ h1) h3, Nat.lt_of_lt_of_le h4 (Nat.mul_le_mul_right _ h2)⟩
theorem pn_s (t : Nat) : pn T R f (t + 1) = stp T R f t (pn T R f t) := by
  unfold pn
  rw [sn, Nat.zero_add]
/-- a way whose number begins so, begins so -/
theorem pn_inj (hf : vld T R f) (hy : vld T R y) : ∀ t, t ≤ T 1 → pn T R f t = pn T R y t → ∀ u, u < t → f u = y u := by
  intro t
  induction t with
  | zero => intro _ _ u hu; omega
  | succ t ih =>
    intro ht he u hu
    rw [pn_s, pn_s] at he
    have v1 := hf t (by omega)
    have v2 := hy t (by omega)
    unfold stp at he
    by_cases q : R (8 + t) = 9
    · rw [if_pos q, if_pos q] at he
      by_cases e : u = t
      · subst e; rw [v1.1 q, v2.1 q]
      · exact ih (by omega) he u (by omega)
    · rw [if_neg q, if_neg q] at he
      have a1 := v1.2 q
      have a2 := v2.2 q
      have d1 : (pn T R f t * T 0 + f t) / T 0 = pn T R f t := by
        rw [Nat.mul_comm, Nat.mul_add_div (by omega), Nat.div_eq_of_lt a1, Nat.add_zero]
      have d2 : (pn T R y t * T 0 + y t) / T 0 = pn T R y t := by
        rw [Nat.mul_comm, Nat.mul_add_div (by omega), Nat.div_eq_of_lt a2, Nat.add_zero]
      have ep : pn T R f t = pn T R y t := by rw [← d1, he, d2]
      by_cases e : u = t
      · subst e; rw [ep] at he; omega
      · exact ih (by omega) ep u (by omega)
theorem pn_at (hy : vld T R y) (ht : t ≤ T 1) : pn T R y t * Wn T R t (T 1 - t) ≤ pn T R y (T 1) ∧ pn T R y (T 1) < (pn T R y t + 1) * Wn T R t (T 1 - t) := by
  have e : pn T R y (T 1) = sn T R y t (T 1 - t) (pn T R y t) := by
    have := sn_split (T := T) (R := R) (f := y) 0 t (T 1 - t) 0
    rw [show t + (T 1 - t) = T 1 by omega, Nat.zero_add] at this
    exact this
  rw [e]
  exact sn_b hy (by omega) _
theorem pn_of (hy : vld T R y) (h0 : 0 < T 0) (ht : t ≤ T 1) (h1 : p * Wn T R t (T 1 - t) ≤ pn T R y (T 1)) (h2 : pn T R y (T 1) < (p + 1) * Wn T R t (T 1 - t)) : pn T R y t = p := by
  obtain ⟨h3, h4⟩ := pn_at hy ht
  have hw := Wn_pos (R := R) h0 t (T 1 - t)
  have a1 : pn T R y t < p + 1 := by
    refine Nat.lt_of_not_le (fun q => ?_)
    have := Nat.mul_le_mul_right (Wn T R t (T 1 - t)) q
    omega
  have a2 : p < pn T R y t + 1 := by
    refine Nat.lt_of_not_le (fun q => ?_)
    have := Nat.mul_le_mul_right (Wn T R t (T 1 - t)) q
    omega
  omega
-- loads
theorem pl_cg (h : ∀ u, u < t → f u = y u) (w : Nat) : pl T R f t w = pl T R y t w := sm_cg (fun u hu => by rw [h u hu])
theorem pl_mono (f : Nat → Nat) {t t' : Nat} (h : t ≤ t') (w : Nat) : pl T R f t w ≤ pl T R f t' w := by
  induction t' with
  | zero => have : t = 0 := by omega
            subst this; exact Nat.le_refl _
  | succ n ih =>
    by_cases e : t = n + 1
    · subst e; exact Nat.le_refl _
    · have := ih (by omega)
      unfold pl at this ⊢
      rw [sm_s]; omega
theorem pac_mono (w : Nat) {a b : Nat} (h : a ≤ b) : pac T R w b ≤ pac T R w a := by unfold pac; omega
theorem tks_mono {a b : Nat} (ha : 1 ≤ a) (h : a ≤ b) : tks L b ≤ tks L a := by
  unfold tks
  rw [Nat.le_div_iff_mul_le (by omega)]
  -- the least number whose product with b reaches 60 L
  have hb : (60 * L + b - 1) / b * b ≤ 60 * L + b - 1 := Nat.div_mul_le_self _ _
  by_cases q : (60 * L + b - 1) / b = 0
  · rw [q]; omega
  · have h1 : ((60 * L + b - 1) / b - 1) * b + b = (60 * L + b - 1) / b * b := by
      rw [Nat.sub_mul, Nat.one_mul, Nat.sub_add_cancel]
      exact Nat.le_mul_of_pos_left _ (Nat.pos_of_ne_zero q)
    have h2 : ((60 * L + b - 1) / b - 1) * a ≤ ((60 * L + b - 1) / b - 1) * b := Nat.mul_le_mul_left _ h
    have h3 : ((60 * L + b - 1) / b - 1) * a + a = (60 * L + b - 1) / b * a := by
      rw [Nat.sub_mul, Nat.one_mul, Nat.sub_add_cancel]
      exact Nat.le_mul_of_pos_left _ (Nat.pos_of_ne_zero q)
    omega
theorem tp_mono (w : Nat) {a b : Nat} (h : a ≤ b) : tks L (pac T R w a) ≤ tks L (pac T R w b) := tks_mono (pac_le _ _ _ _).1 (pac_mono w h)
theorem gr_mono {f h : Nat → Nat} {n : Nat} (e : ∀ i, i < n → f i ≤ h i) : gr f n ≤ gr h n := by
  induction n with
  | zero => exact Nat.le_refl _
  | succ n ih =>
    have h1 := ih (fun i hi => e i (by omega))
    have h2 := e n (by omega)
    rw [gr_zs, gr_zs]; omega
theorem mnt_ge (h : ∀ u, u < t → f u = y u) (ht : t ≤ T 1) : mnt T R f L t ≤ mnt T R y L (T 1) := by
  unfold mnt
  refine gr_mono (fun w hw => tp_mono w ?_)
  rw [pl_cg h w]
  exact pl_mono y ht w
theorem gr_up {f h : Nat → Nat} {n w : Nat} (hw : w < n) (h1 : ∀ i, i ≠ w → f i = h i) (h2 : h w ≤ f w) : gr f n = max (gr h n) (f w) := by
  induction n with
  | zero => omega
  | succ n ih =>
    rw [gr_zs, gr_zs]
    by_cases e : w = n
    · subst e
      have : gr f w = gr h w := gr_cg (fun i hi => h1 i (by omega))
      rw [this]; omega
    · rw [ih (by omega), h1 n (by omega)]; omega
theorem pl_up (hf : ∀ u, u < t → f u = y u) (w w' : Nat) : pl T R (up y t w) (t + 1) w' = pl T R f t w' + (if w = w' then wgh T R t else 0) := by
  unfold pl
  rw [sm_s, up_eq]
  congr 1
  exact sm_cg (fun u hu => by rw [up_ne (by omega), hf u hu])
theorem mnt_up {w : Nat} (hf : ∀ u, u < t → f u = y u) (hw : w < T 0) : mnt T R (up y t w) L (t + 1) = max (mnt T R f L t) (tks L (pac T R w (pl T R f t w + wgh T R t))) := by
  unfold mnt
  have e : tks L (pac T R w (pl T R (up y t w) (t + 1) w)) = tks L (pac T R w (pl T R f t w + wgh T R t)) := by rw [pl_up hf, if_pos rfl]
  rw [← e]
  refine gr_up hw (fun i hi => ?_) ?_
  · rw [pl_up hf, if_neg (by omega), Nat.add_zero]
  · rw [pl_up hf]; exact tp_mono w (by omega)
theorem sm_pt (a : Nat → Nat) (x c n : Nat) : sm (fun w => a w + (if x = w then c else 0)) n = sm a n + (if x < n then c else 0) := by
  induction n with
  | zero => simp [sm]
  | succ n ih =>
    rw [sm_s, sm_s, ih]
    by_cases e : x = n
    · subst e; rw [if_pos rfl, if_neg (by omega), if_pos (by omega)]; omega
    · rw [if_neg e]
      by_cases e2 : x < n
      · rw [if_pos e2, if_pos (by omega)]; omega
      · rw [if_neg e2, if_neg (by omega)]; omega
def AP (T R : Nat → Nat) (t : Nat) : Nat := sm (fun t' => if R (8 + t') = 9 then 0 else wgh T R t') t
theorem AP_eq (hT : TW T) (hy : vld T R y) (ht : t ≤ T 1) : sm (pl T R y t) (T 0) = AP T R t := by
  induction t with
  | zero =>
    have : ∀ n, sm (pl T R y 0) n = 0 := fun n => by
      induction n with
      | zero => rfl
      | succ n ih => rw [sm_s, ih]; rfl
    exact this _
  | succ t ih =>
    have h1 := ih (by omega)
    have v := hy t (by omega)
    have a1 := hT.1
    have e : sm (pl T R y (t + 1)) (T 0) = sm (fun w => pl T R y t w + (if y t = w then wgh T R t else 0)) (T 0) := sm_cg (fun w _ => by unfold pl; rw [sm_s])
    rw [e, sm_pt, h1]
    unfold AP
    rw [sm_s]
    congr 1
    by_cases q : R (8 + t) = 9
    · rw [if_pos q, if_neg (by have := v.1 q; omega)]
    · rw [if_neg q, if_pos (v.2 q)]
theorem mi_le {f : Nat → Nat} {n i : Nat} (h : i < n) : mi f n ≤ f i := by
  induction n with
  | zero => omega
  | succ n ih =>
    simp only [mi]
    by_cases e : i = n
    · subst e; omega
    · have := ih (by omega); omega
theorem sm_ge {f : Nat → Nat} {n c : Nat} (h : ∀ i, i < n → c ≤ f i) : n * c ≤ sm f n := by
  induction n with
  | zero => simp
  | succ n ih =>
    have h1 := ih (fun i hi => h i (by omega))
    have h2 := h n (by omega)
    rw [sm_s, Nat.succ_mul]; omega
theorem mi_avg (hT : TW T) (h0 : 0 < T 0) (hy : vld T R y) : mi (pl T R y (T 1)) (T 0) ≤ AP T R (T 1) / T 0 := by
  rw [Nat.le_div_iff_mul_le h0, ← AP_eq hT hy (Nat.le_refl _), Nat.mul_comm]
  exact sm_ge (fun i hi => mi_le hi)
theorem pl_le (hT : TW T) (hR : SW T R) (f : Nat → Nat) (ht : t ≤ T 1) (w : Nat) : pl T R f t w ≤ 203 := by
  have h := sm_le (n := t) (f := fun t' => if f t' = w then wgh T R t' else 0) (c := 29) (fun i hi => by
    have := wgh_le hT hR (t := i) (by omega)
    split <;> omega)
  have := hT.2.1
  unfold pl
  omega
theorem fai_le (hT : TW T) (hR : SW T R) (f : Nat → Nat) : fai T R f ≤ 203 := by
  have := gr_le (n := T 0) (f := pl T R f (T 1)) (c := 203) (fun i _ => pl_le hT hR f (Nat.le_refl _) i)
  unfold fai
  omega
theorem mnt_le (hL : L ≤ 20) (f : Nat → Nat) (t : Nat) : mnt T R f L t ≤ 1200 := gr_le (fun i _ => tks_le hL (pac_le _ _ _ _).1)
theorem Ky_cg (h : ∀ u, u < T 1 → f u = y u) : Ky T R f L = Ky T R y L := by
  have e : pl T R f (T 1) = pl T R y (T 1) := funext (fun w => pl_cg h w)
  unfold Ky mnt fai
  rw [e]
/-- the numbers' order -/
theorem Ky_lt (hT : TW T) (hR : SW T R) (a b : Nat → Nat) : Ky T R a L < Ky T R b L ↔ mnt T R a L (T 1) < mnt T R b L (T 1) ∨ (mnt T R a L (T 1) = mnt T R b L (T 1) ∧ fai T R a < fai T R b) := by
  have h1 := fai_le hT hR a
  have h2 := fai_le hT hR b
  unfold Ky
  omega
theorem FB_prune {z : Nat → Nat} (h : FB T R L N (some z)) (hN : N ≤ N') (hp : ∀ y, vld T R y → N ≤ pn T R y (T 1) → pn T R y (T 1) < N' → Ky T R z L ≤ Ky T R y L) : FB T R L N' (some z) := by
  rcases h with ⟨h, -⟩ | ⟨z', h1, h2, h3, h4, h5⟩
  · cases h
  · cases h1
    refine Or.inr ⟨z, rfl, h2, by omega, fun y hy q => ?_, h5⟩
    by_cases e : pn T R y (T 1) < N
    · exact h4 y hy e
    · exact hp y hy (by omega) q
theorem FB_add {r : Option (Nat → Nat)} (h : FB T R L N r) (hf : vld T R f) (hN : pn T R f (T 1) = N) : (∀ z, r = some z → ¬ Ky T R f L < Ky T R z L → FB T R L (N + 1) r) ∧ ((∀ z, r = some z → Ky T R f L < Ky T R z L) → FB T R L (N + 1) (some f)) := by
  have key : ∀ y, vld T R y → pn T R y (T 1) = N → Ky T R y L = Ky T R f L := fun y hy e => Ky_cg (pn_inj hy hf (T 1) (Nat.le_refl _) (by rw [e, hN]))
  constructor
  · intro z hz hlt
    subst hz
    refine FB_prune h (by omega) (fun y hy q1 q2 => ?_)
    rw [key y hy (by omega)]; omega
  · intro hlt
    refine Or.inr ⟨f, rfl, hf, by omega, fun y hy q => ?_, fun y hy q => ?_⟩
    · by_cases e : pn T R y (T 1) = N
      · rw [key y hy e]; exact Nat.le_refl _
      · rcases h with ⟨-, h2⟩ | ⟨z, h1, h2, h3, h4, h5⟩
        · exact absurd (show pn T R y (T 1) < N by omega) (h2 y hy)
        · have := h4 y hy (by omega)
          have := hlt z h1
          omega
    · rcases h with ⟨-, h2⟩ | ⟨z, h1, h2, h3, h4, h5⟩
      · exact absurd (show pn T R y (T 1) < N by omega) (h2 y hy)
      · have := h4 y hy (by omega)
        have := hlt z h1
        omega
end
