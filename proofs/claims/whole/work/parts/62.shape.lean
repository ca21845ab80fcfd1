-- the cells behind the two constructors; camps and journeys among them
def sh0 : List am_AC := [
  .inl (8, [.ref 1, .ref 3, .ref 14, .ref 26, .ref 28, .ref 72, .ref 73, .ref 74, .ref 81, .ref 121, .long 0]),
  .inl (6, [.ref 2, .int 0, .int 0, .int 0, .int 0, .int 0]),
  .inr (0, 200, []),
  .inl (5, [.int 0, .ref 4, .ref 5, .int 0, .ref 6, .ref 7, .ref 8, .ref 9, .ref 10, .int 0, .ref 11, .ref 12, .ref 13]),
  .inr (0, 4, []),
  .inr (0, 4, []),
  .inr (0, 7, []),
  .inr (0, 7, []),
  .inr (0, 7, []),
  .inr (0, 7, []),
  .inr (0, 7, []),
  .inr (0, 8, []),
  .inr (0, 8, []),
  .inr (0, 8, []),
  .inl (4, [.ref 1, .ref 15, .int 0]),
  .inl (5, [.int 0, .ref 16, .ref 17, .int 0, .ref 18, .ref 19, .ref 20, .ref 21, .ref 22, .int 0, .ref 23, .ref 24, .ref 25]),
  .inr (0, 4, []),
  .inr (0, 4, []),
  .inr (0, 7, []),
  .inr (0, 7, []),
  .inr (0, 7, []),
  .inr (0, 7, []),
  .inr (0, 7, []),
  .inr (0, 8, []),
  .inr (0, 8, []),
  .inr (0, 8, []),
  .inl (3, [.ref 28, .ref 27, .int 0, .int 0]),
  .inr (2, 10, [some 32, some 36, some 40, some 44, some 48, some 52, some 56, some 60, some 64, some 68]),
  .inl (2, [.ref 3, .int 0, .int 0, .int 0, .int 0, .int 0, .ref 29, .ref 30, .ref 31]),
  .inr (0, 7, []),
  .inr (0, 7, []),
  .inr (0, 4, []),
  .inl (2, [.ref 3, .int 0, .int 0, .int 0, .int 0, .int 0, .ref 33, .ref 34, .ref 35]),
  .inr (0, 7, []),
  .inr (0, 7, []),
  .inr (0, 4, []),
  .inl (2, [.ref 3, .int 0, .int 0, .int 0, .int 0, .int 0, .ref 37, .ref 38, .ref 39]),
  .inr (0, 7, []),
  .inr (0, 7, []),
  .inr (0, 4, []),
  .inl (2, [.ref 3, .int 0, .int 0, .int 0, .int 0, .int 0, .ref 41, .ref 42, .ref 43]),
  .inr (0, 7, []),
  .inr (0, 7, []),
  .inr (0, 4, []),
  .inl (2, [.ref 3, .int 0, .int 0, .int 0, .int 0, .int 0, .ref 45, .ref 46, .ref 47]),
  .inr (0, 7, []),
  .inr (0, 7, []),
  .inr (0, 4, []),
  .inl (2, [.ref 3, .int 0, .int 0, .int 0, .int 0, .int 0, .ref 49, .ref 50, .ref 51]),
  .inr (0, 7, []),
  .inr (0, 7, []),
  .inr (0, 4, []),
  .inl (2, [.ref 3, .int 0, .int 0, .int 0, .int 0, .int 0, .ref 53, .ref 54, .ref 55]),
  .inr (0, 7, []),
  .inr (0, 7, []),
  .inr (0, 4, []),
  .inl (2, [.ref 3, .int 0, .int 0, .int 0, .int 0, .int 0, .ref 57, .ref 58, .ref 59]),
  .inr (0, 7, []),
  .inr (0, 7, []),
  .inr (0, 4, []),
  .inl (2, [.ref 3, .int 0, .int 0, .int 0, .int 0, .int 0, .ref 61, .ref 62, .ref 63]),
  .inr (0, 7, []),
  .inr (0, 7, []),
  .inr (0, 4, []),
  .inl (2, [.ref 3, .int 0, .int 0, .int 0, .int 0, .int 0, .ref 65, .ref 66, .ref 67]),
  .inr (0, 7, []),
  .inr (0, 7, []),
  .inr (0, 4, []),
  .inl (2, [.ref 3, .int 0, .int 0, .int 0, .int 0, .int 0, .ref 69, .ref 70, .ref 71]),
  .inr (0, 7, []),
  .inr (0, 7, []),
  .inr (0, 4, []),
  .inr (3, 2, [some 129, some 175]),
  .inr (1, 2, []),
  .inl (7, [.ref 3, .ref 77, .int 0, .int 0, .int 0, .ref 75, .ref 76, .int 0]),
  .inr (0, 7, []),
  .inr (0, 4, []),
  .inl (2, [.ref 3, .int 0, .int 0, .int 0, .int 0, .int 0, .ref 78, .ref 79, .ref 80]),
  .inr (0, 7, []),
  .inr (0, 7, []),
  .inr (0, 4, []),
  .inl (0, [.ref 3, .ref 82, .int 0, .int 0, .long 0, .long 0, .int 0, .int 0, .ref 83, .int 0, .ref 84]),
  .inr (2, 9, [some 85, some 89, some 93, some 97, some 101, some 105, some 109, some 113, some 117]),
  .inr (0, 7, []),
  .inr (0, 9, []),
  .inl (2, [.ref 3, .int 0, .int 0, .int 0, .int 0, .int 0, .ref 86, .ref 87, .ref 88]),
  .inr (0, 7, []),
  .inr (0, 7, []),
  .inr (0, 4, []),
  .inl (2, [.ref 3, .int 0, .int 0, .int 0, .int 0, .int 0, .ref 90, .ref 91, .ref 92]),
  .inr (0, 7, []),
  .inr (0, 7, []),
  .inr (0, 4, []),
  .inl (2, [.ref 3, .int 0, .int 0, .int 0, .int 0, .int 0, .ref 94, .ref 95, .ref 96]),
  .inr (0, 7, []),
  .inr (0, 7, []),
  .inr (0, 4, []),
  .inl (2, [.ref 3, .int 0, .int 0, .int 0, .int 0, .int 0, .ref 98, .ref 99, .ref 100]),
  .inr (0, 7, []),
  .inr (0, 7, []),
  .inr (0, 4, []),
  .inl (2, [.ref 3, .int 0, .int 0, .int 0, .int 0, .int 0, .ref 102, .ref 103, .ref 104]),
  .inr (0, 7, []),
  .inr (0, 7, []),
  .inr (0, 4, []),
  .inl (2, [.ref 3, .int 0, .int 0, .int 0, .int 0, .int 0, .ref 106, .ref 107, .ref 108]),
  .inr (0, 7, []),
  .inr (0, 7, []),
  .inr (0, 4, []),
  .inl (2, [.ref 3, .int 0, .int 0, .int 0, .int 0, .int 0, .ref 110, .ref 111, .ref 112]),
  .inr (0, 7, []),
  .inr (0, 7, []),
  .inr (0, 4, []),
  .inl (2, [.ref 3, .int 0, .int 0, .int 0, .int 0, .int 0, .ref 114, .ref 115, .ref 116]),
  .inr (0, 7, []),
  .inr (0, 7, []),
  .inr (0, 4, []),
  .inl (2, [.ref 3, .int 0, .int 0, .int 0, .int 0, .int 0, .ref 118, .ref 119, .ref 120]),
  .inr (0, 7, []),
  .inr (0, 7, []),
  .inr (0, 4, []),
  .inl (1, [.ref 3, .ref 125, .int 0, .ref 122, .ref 123, .ref 124, .int 0, .int 0]),
  .inr (0, 6, []),
  .inr (0, 6, []),
  .inr (0, 6, []),
  .inl (2, [.ref 3, .int 0, .int 0, .int 0, .int 0, .int 0, .ref 126, .ref 127, .ref 128]),
  .inr (0, 7, []),
  .inr (0, 7, []),
  .inr (0, 4, []),
  .inl (3, [.ref 131, .ref 130, .int 0, .int 0]),
  .inr (2, 10, [some 135, some 139, some 143, some 147, some 151, some 155, some 159, some 163, some 167, some 171]),
  .inl (2, [.ref 3, .int 0, .int 0, .int 0, .int 0, .int 0, .ref 132, .ref 133, .ref 134]),
  .inr (0, 7, []),
  .inr (0, 7, []),
  .inr (0, 4, []),
  .inl (2, [.ref 3, .int 0, .int 0, .int 0, .int 0, .int 0, .ref 136, .ref 137, .ref 138]),
  .inr (0, 7, []),
  .inr (0, 7, []),
  .inr (0, 4, []),
  .inl (2, [.ref 3, .int 0, .int 0, .int 0, .int 0, .int 0, .ref 140, .ref 141, .ref 142]),
  .inr (0, 7, []),
  .inr (0, 7, []),
  .inr (0, 4, []),
  .inl (2, [.ref 3, .int 0, .int 0, .int 0, .int 0, .int 0, .ref 144, .ref 145, .ref 146]),
  .inr (0, 7, []),
  .inr (0, 7, []),
  .inr (0, 4, []),
  .inl (2, [.ref 3, .int 0, .int 0, .int 0, .int 0, .int 0, .ref 148, .ref 149, .ref 150]),
  .inr (0, 7, []),
  .inr (0, 7, []),
  .inr (0, 4, []),
  .inl (2, [.ref 3, .int 0, .int 0, .int 0, .int 0, .int 0, .ref 152, .ref 153, .ref 154]),
  .inr (0, 7, []),
  .inr (0, 7, []),
  .inr (0, 4, []),
  .inl (2, [.ref 3, .int 0, .int 0, .int 0, .int 0, .int 0, .ref 156, .ref 157, .ref 158]),
  .inr (0, 7, []),
  .inr (0, 7, []),
  .inr (0, 4, []),
  .inl (2, [.ref 3, .int 0, .int 0, .int 0, .int 0, .int 0, .ref 160, .ref 161, .ref 162]),
  .inr (0, 7, []),
  .inr (0, 7, []),
  .inr (0, 4, []),
  .inl (2, [.ref 3, .int 0, .int 0, .int 0, .int 0, .int 0, .ref 164, .ref 165, .ref 166]),
  .inr (0, 7, []),
  .inr (0, 7, []),
  .inr (0, 4, []),
  .inl (2, [.ref 3, .int 0, .int 0, .int 0, .int 0, .int 0, .ref 168, .ref 169, .ref 170]),
  .inr (0, 7, []),
  .inr (0, 7, []),
  .inr (0, 4, []),
  .inl (2, [.ref 3, .int 0, .int 0, .int 0, .int 0, .int 0, .ref 172, .ref 173, .ref 174]),
  .inr (0, 7, []),
  .inr (0, 7, []),
  .inr (0, 4, []),
  .inl (3, [.ref 177, .ref 176, .int 0, .int 0]),
  .inr (2, 10, [some 181, some 185, some 189, some 193, some 197, some 201, some 205, some 209, some 213, some 217]),
  .inl (2, [.ref 3, .int 0, .int 0, .int 0, .int 0, .int 0, .ref 178, .ref 179, .ref 180]),
  .inr (0, 7, []),
  .inr (0, 7, []),
  .inr (0, 4, []),
  .inl (2, [.ref 3, .int 0, .int 0, .int 0, .int 0, .int 0, .ref 182, .ref 183, .ref 184]),
  .inr (0, 7, []),
  .inr (0, 7, []),
  .inr (0, 4, []),
  .inl (2, [.ref 3, .int 0, .int 0, .int 0, .int 0, .int 0, .ref 186, .ref 187, .ref 188]),
  .inr (0, 7, []),
  .inr (0, 7, []),
  .inr (0, 4, []),
  .inl (2, [.ref 3, .int 0, .int 0, .int 0, .int 0, .int 0, .ref 190, .ref 191, .ref 192]),
  .inr (0, 7, []),
  .inr (0, 7, []),
  .inr (0, 4, []),
  .inl (2, [.ref 3, .int 0, .int 0, .int 0, .int 0, .int 0, .ref 194, .ref 195, .ref 196]),
  .inr (0, 7, []),
  .inr (0, 7, []),
  .inr (0, 4, []),
  .inl (2, [.ref 3, .int 0, .int 0, .int 0, .int 0, .int 0, .ref 198, .ref 199, .ref 200]),
  .inr (0, 7, []),
  .inr (0, 7, []),
  .inr (0, 4, []),
  .inl (2, [.ref 3, .int 0, .int 0, .int 0, .int 0, .int 0, .ref 202, .ref 203, .ref 204]),
  .inr (0, 7, []),
  .inr (0, 7, []),
  .inr (0, 4, []),
  .inl (2, [.ref 3, .int 0, .int 0, .int 0, .int 0, .int 0, .ref 206, .ref 207, .ref 208]),
  .inr (0, 7, []),
  .inr (0, 7, []),
  .inr (0, 4, []),
  .inl (2, [.ref 3, .int 0, .int 0, .int 0, .int 0, .int 0, .ref 210, .ref 211, .ref 212]),
  .inr (0, 7, []),
  .inr (0, 7, []),
  .inr (0, 4, []),
  .inl (2, [.ref 3, .int 0, .int 0, .int 0, .int 0, .int 0, .ref 214, .ref 215, .ref 216]),
  .inr (0, 7, []),
  .inr (0, 7, []),
  .inr (0, 4, []),
  .inl (2, [.ref 3, .int 0, .int 0, .int 0, .int 0, .int 0, .ref 218, .ref 219, .ref 220]),
  .inr (0, 7, []),
  .inr (0, 7, []),
  .inr (0, 4, []),
  .inl (9, [.long 0, .ref 222, .int 0, .ref 223, .ref 224, .ref 225, .ref 226, .ref 227, .ref 228, .int 0, .int 0, .int 0, .int 0, .int 0, .ref 229, .ref 230, .ref 231]),
  .inr (0, 200, []),
  .inr (0, 71, []),
  .inr (0, 71, []),
  .inr (0, 320, []),
  .inr (0, 640, []),
  .inr (1, 2, []),
  .inr (0, 18, []),
  .inr (0, 7, []),
  .inr (0, 4, []),
  .inr (0, 29, [])]
def am_camps : List Nat := [28, 32, 36, 40, 44, 48, 52, 56, 60, 64, 68, 77, 85, 89, 93, 97, 101, 105, 109, 113, 117, 125, 131, 135, 139, 143, 147, 151, 155, 159, 163, 167, 171, 177, 181, 185, 189, 193, 197, 201, 205, 209, 213, 217]
def am_jours : List Nat := [26, 129, 175]
def am_cf (c : Nat) : List Value := [.ref 3, .int 0, .int 0, .int 0, .int 0, .int 0, .ref (c + 1), .ref (c + 2), .ref (c + 3)]
def am_jf (j : Nat) : List Value := [.ref (j + 2), .ref (j + 1), .int 0, .int 0]
theorem sc_ck : am_camps.all (fun c => decide (sh0[c]? = some (.inl (2, am_cf c))) && (decide (sh0[c + 1]? = some (.inr (0, 7, []))) && (decide (sh0[c + 2]? = some (.inr (0, 7, []))) && (decide (sh0[c + 3]? = some (.inr (0, 4, []))) && decide (c + 3 < 221))))) = true := by decide +kernel
theorem sc_all : ∀ c ∈ am_camps, sh0[c]? = some (.inl (2, am_cf c)) ∧ sh0[c + 1]? = some (.inr (0, 7, [])) ∧ sh0[c + 2]? = some (.inr (0, 7, [])) ∧ sh0[c + 3]? = some (.inr (0, 4, [])) ∧ c + 3 < 221 := by
  intro c hc
  have h := List.all_eq_true.mp sc_ck c hc
  simp only [Bool.and_eq_true, decide_eq_true_eq] at h
  exact h
theorem sc_o {c : Nat} (h : c ∈ am_camps) : sh0[c]? = some (.inl (2, am_cf c)) := (sc_all c h).1
theorem sc_1 {c : Nat} (h : c ∈ am_camps) : sh0[c + 1]? = some (.inr (0, 7, [])) := (sc_all c h).2.1
theorem sc_2 {c : Nat} (h : c ∈ am_camps) : sh0[c + 2]? = some (.inr (0, 7, [])) := (sc_all c h).2.2.1
theorem sc_3 {c : Nat} (h : c ∈ am_camps) : sh0[c + 3]? = some (.inr (0, 4, [])) := (sc_all c h).2.2.2.1
theorem sc_lt {c : Nat} (h : c ∈ am_camps) : c + 3 < 221 := (sc_all c h).2.2.2.2
theorem sc_ne {c : Nat} (h : c ∈ am_camps) : c ≠ am_ext := by have := sc_lt h; unfold am_ext; omega
theorem sc_n1 {c : Nat} (h : c ∈ am_camps) : c + 1 ≠ am_ext := by have := sc_lt h; unfold am_ext; omega
theorem sc_n2 {c : Nat} (h : c ∈ am_camps) : c + 2 ≠ am_ext := by have := sc_lt h; unfold am_ext; omega
theorem sc_n3 {c : Nat} (h : c ∈ am_camps) : c + 3 ≠ am_ext := by have := sc_lt h; unfold am_ext; omega
theorem sj_ck : am_jours.all (fun j => decide (sh0[j]? = some (.inl (3, am_jf j))) && (decide (sh0[j + 1]? = some (.inr (2, 10, (List.range 10).map (fun i => some (j + 6 + 4 * i))))) && (decide (j + 2 ∈ am_camps) && ((List.range 10).all (fun i => decide (j + 6 + 4 * i ∈ am_camps)) && decide (j + 45 < 221))))) = true := by decide +kernel
theorem sj_all : ∀ j ∈ am_jours, sh0[j]? = some (.inl (3, am_jf j)) ∧ sh0[j + 1]? = some (.inr (2, 10, (List.range 10).map (fun i => some (j + 6 + 4 * i)))) ∧ j + 2 ∈ am_camps ∧ (∀ i, i < 10 → j + 6 + 4 * i ∈ am_camps) ∧ j + 45 < 221 := by
  intro j hj
  have h := List.all_eq_true.mp sj_ck j hj
  simp only [Bool.and_eq_true, decide_eq_true_eq] at h
  exact ⟨h.1, h.2.1, h.2.2.1, fun i hi => by simpa using List.all_eq_true.mp h.2.2.2.1 i (List.mem_range.mpr hi), h.2.2.2.2⟩
theorem sj_o {j : Nat} (h : j ∈ am_jours) : sh0[j]? = some (.inl (3, am_jf j)) := (sj_all j h).1
theorem sj_1 {j : Nat} (h : j ∈ am_jours) : sh0[j + 1]? = some (.inr (2, 10, (List.range 10).map (fun i => some (j + 6 + 4 * i)))) := (sj_all j h).2.1
theorem sj_c {j : Nat} (h : j ∈ am_jours) : j + 2 ∈ am_camps := (sj_all j h).2.2.1
theorem sj_lt {j : Nat} (h : j ∈ am_jours) : j + 45 < 221 := (sj_all j h).2.2.2.2
theorem sj_ne {j : Nat} (h : j ∈ am_jours) : j ≠ am_ext := by have := sj_lt h; unfold am_ext; omega
theorem sj_n1 {j : Nat} (h : j ∈ am_jours) : j + 1 ≠ am_ext := by have := sj_lt h; unfold am_ext; omega
theorem am_in_lt {i : Int32} {n : Nat} (h : am_in i n = true) : i.toNatClampNeg < n := Nat.not_le.mp fun q => am_in_vp h (Or.inr q)
theorem sj_p {j : Nat} (h : j ∈ am_jours) {i : Int32} (hi : am_in i 10 = true) : j + 6 + 4 * i.toNatClampNeg ∈ am_camps := (sj_all j h).2.2.2.1 _ (am_in_lt hi)
theorem sj_r {j : Nat} {i : Int32} (hi : am_in i 10 = true) : ((List.range 10).map (fun i => some (j + 6 + 4 * i)))[i.toNatClampNeg]? = some (some (j + 6 + 4 * i.toNatClampNeg)) := by
  rw [List.getElem?_map, List.getElem?_range (am_in_lt hi)]
  rfl
theorem ss_all : ∀ i, i < 9 → 85 + 4 * i ∈ am_camps ∧ ([some 85, some 89, some 93, some 97, some 101, some 105, some 109, some 113, some 117] : List (Option Nat))[i]? = some (some (85 + 4 * i)) := by decide +kernel
theorem ss_c {i : Int32} (hi : am_in i 9 = true) : 85 + 4 * i.toNatClampNeg ∈ am_camps := (ss_all _ (am_in_lt hi)).1
theorem ss_r {i : Int32} (hi : am_in i 9 = true) : ([some 85, some 89, some 93, some 97, some 101, some 105, some 109, some 113, some 117] : List (Option Nat))[i.toNatClampNeg]? = some (some (85 + 4 * i.toNatClampNeg)) := (ss_all _ (am_in_lt hi)).2
theorem si_all : ∀ i, i < 2 → 129 + 46 * i ∈ am_jours ∧ ([some 129, some 175] : List (Option Nat))[i]? = some (some (129 + 46 * i)) := by decide +kernel
theorem si_j {i : Int32} (hi : am_in i 2 = true) : 129 + 46 * i.toNatClampNeg ∈ am_jours := (si_all _ (am_in_lt hi)).1
theorem si_r {i : Int32} (hi : am_in i 2 = true) : ([some 129, some 175] : List (Option Nat))[i.toNatClampNeg]? = some (some (129 + 46 * i.toNatClampNeg)) := (si_all _ (am_in_lt hi)).2
theorem s_0 : sh0[0]? = some (.inl (8, [.ref 1, .ref 3, .ref 14, .ref 26, .ref 28, .ref 72, .ref 73, .ref 74, .ref 81, .ref 121, .long 0])) := by decide +kernel
theorem s_1 : sh0[1]? = some (.inl (6, [.ref 2, .int 0, .int 0, .int 0, .int 0, .int 0])) := by decide +kernel
theorem s_2 : sh0[2]? = some (.inr (0, 200, [])) := by decide +kernel
theorem s_3 : sh0[3]? = some (.inl (5, [.int 0, .ref 4, .ref 5, .int 0, .ref 6, .ref 7, .ref 8, .ref 9, .ref 10, .int 0, .ref 11, .ref 12, .ref 13])) := by decide +kernel
theorem s_4 : sh0[4]? = some (.inr (0, 4, [])) := by decide +kernel
theorem s_5 : sh0[5]? = some (.inr (0, 4, [])) := by decide +kernel
theorem s_6 : sh0[6]? = some (.inr (0, 7, [])) := by decide +kernel
theorem s_7 : sh0[7]? = some (.inr (0, 7, [])) := by decide +kernel
theorem s_8 : sh0[8]? = some (.inr (0, 7, [])) := by decide +kernel
theorem s_9 : sh0[9]? = some (.inr (0, 7, [])) := by decide +kernel
theorem s_10 : sh0[10]? = some (.inr (0, 7, [])) := by decide +kernel
theorem s_11 : sh0[11]? = some (.inr (0, 8, [])) := by decide +kernel
theorem s_12 : sh0[12]? = some (.inr (0, 8, [])) := by decide +kernel
theorem s_13 : sh0[13]? = some (.inr (0, 8, [])) := by decide +kernel
theorem s_14 : sh0[14]? = some (.inl (4, [.ref 1, .ref 15, .int 0])) := by decide +kernel
theorem s_15 : sh0[15]? = some (.inl (5, [.int 0, .ref 16, .ref 17, .int 0, .ref 18, .ref 19, .ref 20, .ref 21, .ref 22, .int 0, .ref 23, .ref 24, .ref 25])) := by decide +kernel
theorem s_16 : sh0[16]? = some (.inr (0, 4, [])) := by decide +kernel
theorem s_17 : sh0[17]? = some (.inr (0, 4, [])) := by decide +kernel
theorem s_18 : sh0[18]? = some (.inr (0, 7, [])) := by decide +kernel
theorem s_19 : sh0[19]? = some (.inr (0, 7, [])) := by decide +kernel
theorem s_20 : sh0[20]? = some (.inr (0, 7, [])) := by decide +kernel
theorem s_21 : sh0[21]? = some (.inr (0, 7, [])) := by decide +kernel
theorem s_22 : sh0[22]? = some (.inr (0, 7, [])) := by decide +kernel
theorem s_23 : sh0[23]? = some (.inr (0, 8, [])) := by decide +kernel
theorem s_24 : sh0[24]? = some (.inr (0, 8, [])) := by decide +kernel
theorem s_25 : sh0[25]? = some (.inr (0, 8, [])) := by decide +kernel
theorem s_26 : sh0[26]? = some (.inl (3, [.ref 28, .ref 27, .int 0, .int 0])) := by decide +kernel
theorem s_27 : sh0[27]? = some (.inr (2, 10, [some 32, some 36, some 40, some 44, some 48, some 52, some 56, some 60, some 64, some 68])) := by decide +kernel
theorem s_28 : sh0[28]? = some (.inl (2, [.ref 3, .int 0, .int 0, .int 0, .int 0, .int 0, .ref 29, .ref 30, .ref 31])) := by decide +kernel
theorem s_29 : sh0[29]? = some (.inr (0, 7, [])) := by decide +kernel
theorem s_30 : sh0[30]? = some (.inr (0, 7, [])) := by decide +kernel
theorem s_31 : sh0[31]? = some (.inr (0, 4, [])) := by decide +kernel
theorem s_72 : sh0[72]? = some (.inr (3, 2, [some 129, some 175])) := by decide +kernel
theorem s_73 : sh0[73]? = some (.inr (1, 2, [])) := by decide +kernel
theorem s_74 : sh0[74]? = some (.inl (7, [.ref 3, .ref 77, .int 0, .int 0, .int 0, .ref 75, .ref 76, .int 0])) := by decide +kernel
theorem s_75 : sh0[75]? = some (.inr (0, 7, [])) := by decide +kernel
theorem s_76 : sh0[76]? = some (.inr (0, 4, [])) := by decide +kernel
theorem s_77 : sh0[77]? = some (.inl (2, [.ref 3, .int 0, .int 0, .int 0, .int 0, .int 0, .ref 78, .ref 79, .ref 80])) := by decide +kernel
theorem s_78 : sh0[78]? = some (.inr (0, 7, [])) := by decide +kernel
theorem s_79 : sh0[79]? = some (.inr (0, 7, [])) := by decide +kernel
theorem s_80 : sh0[80]? = some (.inr (0, 4, [])) := by decide +kernel
theorem s_81 : sh0[81]? = some (.inl (0, [.ref 3, .ref 82, .int 0, .int 0, .long 0, .long 0, .int 0, .int 0, .ref 83, .int 0, .ref 84])) := by decide +kernel
theorem s_82 : sh0[82]? = some (.inr (2, 9, [some 85, some 89, some 93, some 97, some 101, some 105, some 109, some 113, some 117])) := by decide +kernel
theorem s_83 : sh0[83]? = some (.inr (0, 7, [])) := by decide +kernel
theorem s_84 : sh0[84]? = some (.inr (0, 9, [])) := by decide +kernel
theorem s_85 : sh0[85]? = some (.inl (2, [.ref 3, .int 0, .int 0, .int 0, .int 0, .int 0, .ref 86, .ref 87, .ref 88])) := by decide +kernel
theorem s_121 : sh0[121]? = some (.inl (1, [.ref 3, .ref 125, .int 0, .ref 122, .ref 123, .ref 124, .int 0, .int 0])) := by decide +kernel
theorem s_122 : sh0[122]? = some (.inr (0, 6, [])) := by decide +kernel
theorem s_123 : sh0[123]? = some (.inr (0, 6, [])) := by decide +kernel
theorem s_124 : sh0[124]? = some (.inr (0, 6, [])) := by decide +kernel
theorem s_125 : sh0[125]? = some (.inl (2, [.ref 3, .int 0, .int 0, .int 0, .int 0, .int 0, .ref 126, .ref 127, .ref 128])) := by decide +kernel
theorem s_126 : sh0[126]? = some (.inr (0, 7, [])) := by decide +kernel
theorem s_127 : sh0[127]? = some (.inr (0, 7, [])) := by decide +kernel
theorem s_128 : sh0[128]? = some (.inr (0, 4, [])) := by decide +kernel
theorem s_221 : sh0[221]? = some (.inl (9, [.long 0, .ref 222, .int 0, .ref 223, .ref 224, .ref 225, .ref 226, .ref 227, .ref 228, .int 0, .int 0, .int 0, .int 0, .int 0, .ref 229, .ref 230, .ref 231])) := by decide +kernel
theorem s_222 : sh0[222]? = some (.inr (0, 200, [])) := by decide +kernel
theorem s_223 : sh0[223]? = some (.inr (0, 71, [])) := by decide +kernel
theorem s_224 : sh0[224]? = some (.inr (0, 71, [])) := by decide +kernel
theorem s_225 : sh0[225]? = some (.inr (0, 320, [])) := by decide +kernel
theorem s_226 : sh0[226]? = some (.inr (0, 640, [])) := by decide +kernel
theorem s_227 : sh0[227]? = some (.inr (1, 2, [])) := by decide +kernel
theorem s_228 : sh0[228]? = some (.inr (0, 18, [])) := by decide +kernel
theorem s_229 : sh0[229]? = some (.inr (0, 7, [])) := by decide +kernel
theorem s_230 : sh0[230]? = some (.inr (0, 4, [])) := by decide +kernel
theorem s_231 : sh0[231]? = some (.inr (0, 29, [])) := by decide +kernel
theorem sc_28 : 28 ∈ am_camps := by decide +kernel
theorem sc_77 : 77 ∈ am_camps := by decide +kernel
theorem sc_85 : 85 ∈ am_camps := by decide +kernel
theorem sc_125 : 125 ∈ am_camps := by decide +kernel
theorem sj_26 : 26 ∈ am_jours := by decide +kernel
