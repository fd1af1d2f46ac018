/-! SAFETY, its words: ranges of what the cells hold (J), rules by which a function is seen to return -/
def FUL : Int × Int := (-2147483648, 2147483647)
def rgA : List (Nat × (Int × Int)) := [(2, (0, 255)), (9, (0, 35)), (12, (0, 35)), (13, (0, 1)), (16, (0, 35)), (17, (0, 35)), (19, (0, 35)), (20, (0, 1)), (23, (0, 35)), (24, (0, 35)), (26, (0, 35)), (27, (0, 1)), (30, (0, 35)), (31, (0, 35)), (35, (-1, 35)), (39, (-1, 35)), (50, (0, 35)), (51, (0, 1)), (54, (0, 35)), (55, (0, 35)), (57, (0, 35)), (58, (0, 1)), (61, (0, 35)), (62, (0, 35)), (64, (0, 35)), (65, (0, 1)), (68, (0, 35)), (69, (0, 35)), (71, (0, 35)), (72, (0, 1)), (75, (0, 35)), (76, (0, 35)), (78, (0, 35)), (79, (0, 1)), (82, (0, 35)), (83, (0, 35)), (85, (0, 35)), (86, (0, 1)), (89, (0, 35)), (90, (0, 35)), (92, (0, 35)), (93, (0, 1)), (96, (0, 35)), (97, (0, 35)), (99, (0, 35)), (100, (0, 1)), (103, (0, 35)), (104, (0, 35)), (106, (0, 35)), (107, (0, 1)), (110, (0, 35)), (111, (0, 35)), (113, (0, 35)), (114, (0, 1)), (117, (0, 35)), (118, (0, 35)), (120, (0, 35)), (121, (0, 1)), (124, (0, 35)), (125, (0, 35)), (127, (0, 35)), (128, (0, 1)), (131, (0, 35)), (132, (0, 35)), (134, (0, 35)), (135, (0, 1)), (138, (0, 35)), (139, (0, 35)), (141, (0, 35)), (142, (0, 1)), (145, (0, 35)), (146, (0, 35)), (160, (0, 179)), (166, (0, 9)), (177, (0, 1000000)), (179, (0, 1)), (180, (0, 1000000)), (181, (0, 1000000)), (182, (0, 1000000)), (183, (0, 1000000)), (185, (0, 1000000)), (186, (0, 1)), (187, (0, 1)), (188, (0, 1)), (190, (0, 1))]
def rgF (k i : Nat) : Int × Int :=
  if k = 1 ∧ i = 1 then (0, 80) else
  if k = 3 ∧ i = 2 then (1, 6) else
  if k = 3 ∧ i = 3 then (1, 36) else
  if k = 6 ∧ i = 4 then (0, 8) else
  if k = 46 ∧ i = 2 then (0, 12) else
  if k = 147 ∧ i = 3 then (0, 32) else
  if k = 162 ∧ i = 2 then (1, 6) else
  if k = 162 ∧ i = 3 then (1, 6) else
  if k = 162 ∧ i = 4 then (0, 8) else
  if k = 162 ∧ i = 8 then (-1, 35) else
  if k = 162 ∧ i = 10 then (0, 80) else
  if k = 162 ∧ i = 12 then (0, 16) else
  if k = 162 ∧ i = 15 then (0, 80) else
  if k = 162 ∧ i = 16 then (0, 80) else
  if k = 162 ∧ i = 17 then (0, 81) else
  if k = 162 ∧ i = 23 then (0, 40) else
  if k = 162 ∧ i = 25 then (0, 7) else
  if k = 162 ∧ i = 27 then (0, 12) else
  FUL
def stb (k : Nat) : Bool := k == 163 || (k == 173 || (k == 174 || (k == 176 || k == 189)))
def reg (i : Nat) : Int × Int :=
  if i < 8 then (0, 71) else if i < 16 then (0, 8) else if i < 80 then FUL else if i < 92 then (0, 35) else if i < 93 then (0, 6) else if i = 94 then (0, 1) else FUL
def rng (k i : Nat) : Int × Int := match stb k with
  | true => reg (i % 96)
  | false => match rgA.lookup k with
    | some p => p
    | none => rgF k i
def St (k : Nat) : Prop := k = 163 ∨ k = 174 ∨ k = 176
def S5 (k : Nat) : Prop := stb k = true
def K1 (M : Mem) : Prop := ∃ h : Int, (M.1 3 3).toInt = (M.1 3 2).toInt * h
def K2 (M : Mem) : Prop := (∀ i : Nat, i < 12 → ∃ k, M.2.2 47 i = some k ∧ kd k = 10 + 7) ∧ (∀ i : Nat, i < 2 → ∃ k, M.2.2 48 i = some k ∧ kd k = 10 + 7)
def Jr (M : Mem) : Prop := ∀ k i : Nat, (rng k i).1 ≤ (M.1 k i).toInt ∧ (M.1 k i).toInt ≤ (rng k i).2
def K3 (M : Mem) : Prop := (M.2.2 162 14 = some 167 ∨ (M.2.2 162 14 = some 172 ∧ (M.1 162 16).toInt ≤ 40) ∨ (M.2.2 162 14 = none ∧ (M.1 162 15).toInt ≤ 0)) ∧ (M.2.2 162 24 = none ∨ ∃ k, M.2.2 162 24 = some k ∧ St k) ∧ (∀ p : Nat, (p : Int) < (M.1 162 4).toInt → (1 : Int) ≤ (M.1 166 p).toInt)
def J (M : Mem) : Prop := Jr M ∧ K1 M ∧ K2 M ∧ K3 M
def fk (k i : Nat) : Bool := k != 3 && (k != 166 && !(k == 162 && (i == 4 || (i == 15 || i == 16))))
def fq (k : Nat) : Bool := k != 3 && (k != 166 && k != 162)
theorem fk_of {k : Nat} (h : fq k = true) (i : Nat) : fk k i = true := by
  simp only [fq, Bool.and_eq_true, bne_iff_ne] at h
  simp [fk, h.1, h.2.1, h.2.2]
theorem fk_3 {k i : Nat} (h : fk k i = true) : k ≠ 3 ∧ k ≠ 166 ∧ ¬ (k = 162 ∧ i = 4) ∧ ¬ (k = 162 ∧ i = 15) ∧ ¬ (k = 162 ∧ i = 16) := by
  simp only [fk, Bool.and_eq_true, bne_iff_ne, Bool.not_eq_true', Bool.and_eq_false_iff, beq_eq_false_iff_ne, Bool.or_eq_false_iff] at h
  obtain ⟨h1, h2, h3⟩ := h
  refine ⟨h1, h2, ?_, ?_, ?_⟩ <;> rintro ⟨a, b⟩ <;> rcases h3 with h3 | h3 <;> omega
theorem i32lo (v : Int32) : (-2147483648 : Int) ≤ v.toInt := by have := Int32.le_toInt v; omega
theorem i32hi (v : Int32) : v.toInt ≤ (2147483647 : Int) := by have := Int32.toInt_lt v; omega
theorem si_ne {M : Mem} {k i a b : Nat} {v : Int32} (h : ¬ (a = k ∧ b = i)) : (s_i M k i v).1 a b = M.1 a b := by simp only [s_i, if_neg h]
theorem si_eq {M : Mem} {k i : Nat} {v : Int32} : (s_i M k i v).1 k i = v := by simp [s_i]
theorem Jr_si {M : Mem} (h : Jr M) {k i : Nat} {v : Int32} (h1 : (rng k i).1 ≤ v.toInt) (h2 : v.toInt ≤ (rng k i).2) : Jr (s_i M k i v) := by
  intro a b
  by_cases e : a = k ∧ b = i
  · obtain ⟨rfl, rfl⟩ := e
    rw [si_eq]
    exact ⟨h1, h2⟩
  · rw [si_ne e]
    exact h a b
theorem K1_si {M : Mem} (h : K1 M) {k i : Nat} {v : Int32} (h3 : k ≠ 3) : K1 (s_i M k i v) := by
  obtain ⟨z, hz⟩ := h
  exact ⟨z, by rw [si_ne (fun e => h3 e.1.symm), si_ne (fun e => h3 e.1.symm), hz]⟩
theorem K3_si {M : Mem} (h : K3 M) {k i : Nat} {v : Int32} (hf : fk k i = true) : K3 (s_i M k i v) := by
  obtain ⟨h3, h6, a1, a2, a3⟩ := fk_3 hf
  obtain ⟨b1, b2, b3⟩ := h
  refine ⟨?_, b2, fun p hp => ?_⟩
  · rw [si_ne (fun e => a3 ⟨e.1.symm, e.2.symm⟩), si_ne (fun e => a2 ⟨e.1.symm, e.2.symm⟩)]
    exact b1
  · rw [si_ne (fun e => a1 ⟨e.1.symm, e.2.symm⟩)] at hp
    rw [si_ne (fun e => h6 e.1.symm)]
    exact b3 p hp
theorem J_si {M : Mem} (h : J M) {k i : Nat} {v : Int32} (hf : fk k i = true) (h1 : (rng k i).1 ≤ v.toInt) (h2 : v.toInt ≤ (rng k i).2) : J (s_i M k i v) := ⟨Jr_si h.1 h1 h2, K1_si h.2.1 (fk_3 hf).1, h.2.2.1, K3_si h.2.2.2 hf⟩
theorem Jl {M : Mem} (h : J M) {k i : Nat} {v : Int64} : J (s_l M k i v) := h
def okany (k : Nat) : Bool := ((rgA.lookup k).isNone && fq k && !([1, 3, 6, 46, 147, 162].contains k)) && !(stb k)
theorem ok_fq {k : Nat} (hk : okany k = true) : fq k = true := by
  simp only [okany, Bool.and_eq_true] at hk
  exact hk.1.1.2
theorem rng_any {k : Nat} (hk : okany k = true) (i : Nat) : rng k i = FUL := by
  simp only [okany, Bool.and_eq_true, Option.isNone_iff_eq_none, Bool.not_eq_true'] at hk
  have h2 : ∀ x ∈ [1, 3, 6, 46, 147, 162], k ≠ x := by
    intro x hx e
    subst e
    have := hk.1.2
    simp [List.contains_iff_mem] at this
    simp at hx
    omega
  unfold rng
  rw [hk.2, hk.1.1.1]
  unfold rgF
  simp only [h2 1 (by simp), h2 3 (by simp), h2 6 (by simp), h2 46 (by simp), h2 147 (by simp), h2 162 (by simp), false_and, if_false]
theorem Jw_any {M : Mem} {k : Nat} (hk : okany k = true) (h : J M) (i : Nat) (v : Int32) : J (s_i M k i v) := by
  refine J_si h (fk_of (ok_fq hk) i) ?_ ?_
  · rw [rng_any hk]; exact i32lo v
  · rw [rng_any hk]; exact i32hi v
theorem Jw_fld {M : Mem} {k i : Nat} (hk : (rng k i == FUL && fk k i) = true) (h : J M) (v : Int32) : J (s_i M k i v) := by
  simp only [Bool.and_eq_true, beq_iff_eq] at hk
  refine J_si h hk.2 ?_ ?_
  · rw [hk.1]; exact i32lo v
  · rw [hk.1]; exact i32hi v
theorem Jr_1_1 {M : Mem} (h : J M) : (0 : Int) ≤ (M.1 1 1).toInt ∧ (M.1 1 1).toInt ≤ 80 := h.1 1 1
theorem Jw_1_1 {M : Mem} (h : J M) (v : Int32) (h1 : (0 : Int) ≤ v.toInt) (h2 : v.toInt ≤ (80 : Int)) : J (s_i M 1 1 v) := J_si h (by decide) h1 h2
theorem Jr_2 {M : Mem} (h : J M) (i : Nat) : (0 : Int) ≤ (M.1 2 i).toInt ∧ (M.1 2 i).toInt ≤ 255 := h.1 2 i
theorem Jw_2 {M : Mem} (h : J M) (i : Nat) (v : Int32) (h1 : (0 : Int) ≤ v.toInt) (h2 : v.toInt ≤ (255 : Int)) : J (s_i M 2 i v) := J_si h (fk_of (by decide) i) h1 h2
theorem Jr_3_2 {M : Mem} (h : J M) : (1 : Int) ≤ (M.1 3 2).toInt ∧ (M.1 3 2).toInt ≤ 6 := h.1 3 2
theorem Jr_3_3 {M : Mem} (h : J M) : (1 : Int) ≤ (M.1 3 3).toInt ∧ (M.1 3 3).toInt ≤ 36 := h.1 3 3
theorem Jr_6_4 {M : Mem} (h : J M) : (0 : Int) ≤ (M.1 6 4).toInt ∧ (M.1 6 4).toInt ≤ 8 := h.1 6 4
theorem Jw_6_4 {M : Mem} (h : J M) (v : Int32) (h1 : (0 : Int) ≤ v.toInt) (h2 : v.toInt ≤ (8 : Int)) : J (s_i M 6 4 v) := J_si h (by decide) h1 h2
theorem Jr_9 {M : Mem} (h : J M) (i : Nat) : (0 : Int) ≤ (M.1 9 i).toInt ∧ (M.1 9 i).toInt ≤ 35 := h.1 9 i
theorem Jw_9 {M : Mem} (h : J M) (i : Nat) (v : Int32) (h1 : (0 : Int) ≤ v.toInt) (h2 : v.toInt ≤ (35 : Int)) : J (s_i M 9 i v) := J_si h (fk_of (by decide) i) h1 h2
theorem Jr_12 {M : Mem} (h : J M) (i : Nat) : (0 : Int) ≤ (M.1 12 i).toInt ∧ (M.1 12 i).toInt ≤ 35 := h.1 12 i
theorem Jw_12 {M : Mem} (h : J M) (i : Nat) (v : Int32) (h1 : (0 : Int) ≤ v.toInt) (h2 : v.toInt ≤ (35 : Int)) : J (s_i M 12 i v) := J_si h (fk_of (by decide) i) h1 h2
theorem Jr_13 {M : Mem} (h : J M) (i : Nat) : (0 : Int) ≤ (M.1 13 i).toInt ∧ (M.1 13 i).toInt ≤ 1 := h.1 13 i
theorem Jw_13 {M : Mem} (h : J M) (i : Nat) (v : Int32) (h1 : (0 : Int) ≤ v.toInt) (h2 : v.toInt ≤ (1 : Int)) : J (s_i M 13 i v) := J_si h (fk_of (by decide) i) h1 h2
theorem Jr_16 {M : Mem} (h : J M) (i : Nat) : (0 : Int) ≤ (M.1 16 i).toInt ∧ (M.1 16 i).toInt ≤ 35 := h.1 16 i
theorem Jw_16 {M : Mem} (h : J M) (i : Nat) (v : Int32) (h1 : (0 : Int) ≤ v.toInt) (h2 : v.toInt ≤ (35 : Int)) : J (s_i M 16 i v) := J_si h (fk_of (by decide) i) h1 h2
theorem Jr_17 {M : Mem} (h : J M) (i : Nat) : (0 : Int) ≤ (M.1 17 i).toInt ∧ (M.1 17 i).toInt ≤ 35 := h.1 17 i
theorem Jw_17 {M : Mem} (h : J M) (i : Nat) (v : Int32) (h1 : (0 : Int) ≤ v.toInt) (h2 : v.toInt ≤ (35 : Int)) : J (s_i M 17 i v) := J_si h (fk_of (by decide) i) h1 h2
theorem Jr_19 {M : Mem} (h : J M) (i : Nat) : (0 : Int) ≤ (M.1 19 i).toInt ∧ (M.1 19 i).toInt ≤ 35 := h.1 19 i
theorem Jw_19 {M : Mem} (h : J M) (i : Nat) (v : Int32) (h1 : (0 : Int) ≤ v.toInt) (h2 : v.toInt ≤ (35 : Int)) : J (s_i M 19 i v) := J_si h (fk_of (by decide) i) h1 h2
theorem Jr_20 {M : Mem} (h : J M) (i : Nat) : (0 : Int) ≤ (M.1 20 i).toInt ∧ (M.1 20 i).toInt ≤ 1 := h.1 20 i
theorem Jw_20 {M : Mem} (h : J M) (i : Nat) (v : Int32) (h1 : (0 : Int) ≤ v.toInt) (h2 : v.toInt ≤ (1 : Int)) : J (s_i M 20 i v) := J_si h (fk_of (by decide) i) h1 h2
theorem Jr_23 {M : Mem} (h : J M) (i : Nat) : (0 : Int) ≤ (M.1 23 i).toInt ∧ (M.1 23 i).toInt ≤ 35 := h.1 23 i
theorem Jw_23 {M : Mem} (h : J M) (i : Nat) (v : Int32) (h1 : (0 : Int) ≤ v.toInt) (h2 : v.toInt ≤ (35 : Int)) : J (s_i M 23 i v) := J_si h (fk_of (by decide) i) h1 h2
theorem Jr_24 {M : Mem} (h : J M) (i : Nat) : (0 : Int) ≤ (M.1 24 i).toInt ∧ (M.1 24 i).toInt ≤ 35 := h.1 24 i
theorem Jw_24 {M : Mem} (h : J M) (i : Nat) (v : Int32) (h1 : (0 : Int) ≤ v.toInt) (h2 : v.toInt ≤ (35 : Int)) : J (s_i M 24 i v) := J_si h (fk_of (by decide) i) h1 h2
theorem Jr_26 {M : Mem} (h : J M) (i : Nat) : (0 : Int) ≤ (M.1 26 i).toInt ∧ (M.1 26 i).toInt ≤ 35 := h.1 26 i
theorem Jw_26 {M : Mem} (h : J M) (i : Nat) (v : Int32) (h1 : (0 : Int) ≤ v.toInt) (h2 : v.toInt ≤ (35 : Int)) : J (s_i M 26 i v) := J_si h (fk_of (by decide) i) h1 h2
theorem Jr_27 {M : Mem} (h : J M) (i : Nat) : (0 : Int) ≤ (M.1 27 i).toInt ∧ (M.1 27 i).toInt ≤ 1 := h.1 27 i
theorem Jw_27 {M : Mem} (h : J M) (i : Nat) (v : Int32) (h1 : (0 : Int) ≤ v.toInt) (h2 : v.toInt ≤ (1 : Int)) : J (s_i M 27 i v) := J_si h (fk_of (by decide) i) h1 h2
theorem Jr_30 {M : Mem} (h : J M) (i : Nat) : (0 : Int) ≤ (M.1 30 i).toInt ∧ (M.1 30 i).toInt ≤ 35 := h.1 30 i
theorem Jw_30 {M : Mem} (h : J M) (i : Nat) (v : Int32) (h1 : (0 : Int) ≤ v.toInt) (h2 : v.toInt ≤ (35 : Int)) : J (s_i M 30 i v) := J_si h (fk_of (by decide) i) h1 h2
theorem Jr_31 {M : Mem} (h : J M) (i : Nat) : (0 : Int) ≤ (M.1 31 i).toInt ∧ (M.1 31 i).toInt ≤ 35 := h.1 31 i
theorem Jw_31 {M : Mem} (h : J M) (i : Nat) (v : Int32) (h1 : (0 : Int) ≤ v.toInt) (h2 : v.toInt ≤ (35 : Int)) : J (s_i M 31 i v) := J_si h (fk_of (by decide) i) h1 h2
theorem Jr_35 {M : Mem} (h : J M) (i : Nat) : (-1 : Int) ≤ (M.1 35 i).toInt ∧ (M.1 35 i).toInt ≤ 35 := h.1 35 i
theorem Jw_35 {M : Mem} (h : J M) (i : Nat) (v : Int32) (h1 : (-1 : Int) ≤ v.toInt) (h2 : v.toInt ≤ (35 : Int)) : J (s_i M 35 i v) := J_si h (fk_of (by decide) i) h1 h2
theorem Jr_39 {M : Mem} (h : J M) (i : Nat) : (-1 : Int) ≤ (M.1 39 i).toInt ∧ (M.1 39 i).toInt ≤ 35 := h.1 39 i
theorem Jw_39 {M : Mem} (h : J M) (i : Nat) (v : Int32) (h1 : (-1 : Int) ≤ v.toInt) (h2 : v.toInt ≤ (35 : Int)) : J (s_i M 39 i v) := J_si h (fk_of (by decide) i) h1 h2
theorem Jr_46_2 {M : Mem} (h : J M) : (0 : Int) ≤ (M.1 46 2).toInt ∧ (M.1 46 2).toInt ≤ 12 := h.1 46 2
theorem Jw_46_2 {M : Mem} (h : J M) (v : Int32) (h1 : (0 : Int) ≤ v.toInt) (h2 : v.toInt ≤ (12 : Int)) : J (s_i M 46 2 v) := J_si h (by decide) h1 h2
theorem Jr_50 {M : Mem} (h : J M) (i : Nat) : (0 : Int) ≤ (M.1 50 i).toInt ∧ (M.1 50 i).toInt ≤ 35 := h.1 50 i
theorem Jw_50 {M : Mem} (h : J M) (i : Nat) (v : Int32) (h1 : (0 : Int) ≤ v.toInt) (h2 : v.toInt ≤ (35 : Int)) : J (s_i M 50 i v) := J_si h (fk_of (by decide) i) h1 h2
theorem Jr_51 {M : Mem} (h : J M) (i : Nat) : (0 : Int) ≤ (M.1 51 i).toInt ∧ (M.1 51 i).toInt ≤ 1 := h.1 51 i
theorem Jw_51 {M : Mem} (h : J M) (i : Nat) (v : Int32) (h1 : (0 : Int) ≤ v.toInt) (h2 : v.toInt ≤ (1 : Int)) : J (s_i M 51 i v) := J_si h (fk_of (by decide) i) h1 h2
theorem Jr_54 {M : Mem} (h : J M) (i : Nat) : (0 : Int) ≤ (M.1 54 i).toInt ∧ (M.1 54 i).toInt ≤ 35 := h.1 54 i
theorem Jw_54 {M : Mem} (h : J M) (i : Nat) (v : Int32) (h1 : (0 : Int) ≤ v.toInt) (h2 : v.toInt ≤ (35 : Int)) : J (s_i M 54 i v) := J_si h (fk_of (by decide) i) h1 h2
theorem Jr_55 {M : Mem} (h : J M) (i : Nat) : (0 : Int) ≤ (M.1 55 i).toInt ∧ (M.1 55 i).toInt ≤ 35 := h.1 55 i
theorem Jw_55 {M : Mem} (h : J M) (i : Nat) (v : Int32) (h1 : (0 : Int) ≤ v.toInt) (h2 : v.toInt ≤ (35 : Int)) : J (s_i M 55 i v) := J_si h (fk_of (by decide) i) h1 h2
theorem Jr_57 {M : Mem} (h : J M) (i : Nat) : (0 : Int) ≤ (M.1 57 i).toInt ∧ (M.1 57 i).toInt ≤ 35 := h.1 57 i
theorem Jw_57 {M : Mem} (h : J M) (i : Nat) (v : Int32) (h1 : (0 : Int) ≤ v.toInt) (h2 : v.toInt ≤ (35 : Int)) : J (s_i M 57 i v) := J_si h (fk_of (by decide) i) h1 h2
theorem Jr_58 {M : Mem} (h : J M) (i : Nat) : (0 : Int) ≤ (M.1 58 i).toInt ∧ (M.1 58 i).toInt ≤ 1 := h.1 58 i
theorem Jw_58 {M : Mem} (h : J M) (i : Nat) (v : Int32) (h1 : (0 : Int) ≤ v.toInt) (h2 : v.toInt ≤ (1 : Int)) : J (s_i M 58 i v) := J_si h (fk_of (by decide) i) h1 h2
theorem Jr_61 {M : Mem} (h : J M) (i : Nat) : (0 : Int) ≤ (M.1 61 i).toInt ∧ (M.1 61 i).toInt ≤ 35 := h.1 61 i
theorem Jw_61 {M : Mem} (h : J M) (i : Nat) (v : Int32) (h1 : (0 : Int) ≤ v.toInt) (h2 : v.toInt ≤ (35 : Int)) : J (s_i M 61 i v) := J_si h (fk_of (by decide) i) h1 h2
theorem Jr_62 {M : Mem} (h : J M) (i : Nat) : (0 : Int) ≤ (M.1 62 i).toInt ∧ (M.1 62 i).toInt ≤ 35 := h.1 62 i
theorem Jw_62 {M : Mem} (h : J M) (i : Nat) (v : Int32) (h1 : (0 : Int) ≤ v.toInt) (h2 : v.toInt ≤ (35 : Int)) : J (s_i M 62 i v) := J_si h (fk_of (by decide) i) h1 h2
theorem Jr_64 {M : Mem} (h : J M) (i : Nat) : (0 : Int) ≤ (M.1 64 i).toInt ∧ (M.1 64 i).toInt ≤ 35 := h.1 64 i
theorem Jw_64 {M : Mem} (h : J M) (i : Nat) (v : Int32) (h1 : (0 : Int) ≤ v.toInt) (h2 : v.toInt ≤ (35 : Int)) : J (s_i M 64 i v) := J_si h (fk_of (by decide) i) h1 h2
theorem Jr_65 {M : Mem} (h : J M) (i : Nat) : (0 : Int) ≤ (M.1 65 i).toInt ∧ (M.1 65 i).toInt ≤ 1 := h.1 65 i
theorem Jw_65 {M : Mem} (h : J M) (i : Nat) (v : Int32) (h1 : (0 : Int) ≤ v.toInt) (h2 : v.toInt ≤ (1 : Int)) : J (s_i M 65 i v) := J_si h (fk_of (by decide) i) h1 h2
theorem Jr_68 {M : Mem} (h : J M) (i : Nat) : (0 : Int) ≤ (M.1 68 i).toInt ∧ (M.1 68 i).toInt ≤ 35 := h.1 68 i
theorem Jw_68 {M : Mem} (h : J M) (i : Nat) (v : Int32) (h1 : (0 : Int) ≤ v.toInt) (h2 : v.toInt ≤ (35 : Int)) : J (s_i M 68 i v) := J_si h (fk_of (by decide) i) h1 h2
theorem Jr_69 {M : Mem} (h : J M) (i : Nat) : (0 : Int) ≤ (M.1 69 i).toInt ∧ (M.1 69 i).toInt ≤ 35 := h.1 69 i
theorem Jw_69 {M : Mem} (h : J M) (i : Nat) (v : Int32) (h1 : (0 : Int) ≤ v.toInt) (h2 : v.toInt ≤ (35 : Int)) : J (s_i M 69 i v) := J_si h (fk_of (by decide) i) h1 h2
theorem Jr_71 {M : Mem} (h : J M) (i : Nat) : (0 : Int) ≤ (M.1 71 i).toInt ∧ (M.1 71 i).toInt ≤ 35 := h.1 71 i
theorem Jw_71 {M : Mem} (h : J M) (i : Nat) (v : Int32) (h1 : (0 : Int) ≤ v.toInt) (h2 : v.toInt ≤ (35 : Int)) : J (s_i M 71 i v) := J_si h (fk_of (by decide) i) h1 h2
theorem Jr_72 {M : Mem} (h : J M) (i : Nat) : (0 : Int) ≤ (M.1 72 i).toInt ∧ (M.1 72 i).toInt ≤ 1 := h.1 72 i
theorem Jw_72 {M : Mem} (h : J M) (i : Nat) (v : Int32) (h1 : (0 : Int) ≤ v.toInt) (h2 : v.toInt ≤ (1 : Int)) : J (s_i M 72 i v) := J_si h (fk_of (by decide) i) h1 h2
theorem Jr_75 {M : Mem} (h : J M) (i : Nat) : (0 : Int) ≤ (M.1 75 i).toInt ∧ (M.1 75 i).toInt ≤ 35 := h.1 75 i
theorem Jw_75 {M : Mem} (h : J M) (i : Nat) (v : Int32) (h1 : (0 : Int) ≤ v.toInt) (h2 : v.toInt ≤ (35 : Int)) : J (s_i M 75 i v) := J_si h (fk_of (by decide) i) h1 h2
theorem Jr_76 {M : Mem} (h : J M) (i : Nat) : (0 : Int) ≤ (M.1 76 i).toInt ∧ (M.1 76 i).toInt ≤ 35 := h.1 76 i
theorem Jw_76 {M : Mem} (h : J M) (i : Nat) (v : Int32) (h1 : (0 : Int) ≤ v.toInt) (h2 : v.toInt ≤ (35 : Int)) : J (s_i M 76 i v) := J_si h (fk_of (by decide) i) h1 h2
theorem Jr_78 {M : Mem} (h : J M) (i : Nat) : (0 : Int) ≤ (M.1 78 i).toInt ∧ (M.1 78 i).toInt ≤ 35 := h.1 78 i
theorem Jw_78 {M : Mem} (h : J M) (i : Nat) (v : Int32) (h1 : (0 : Int) ≤ v.toInt) (h2 : v.toInt ≤ (35 : Int)) : J (s_i M 78 i v) := J_si h (fk_of (by decide) i) h1 h2
theorem Jr_79 {M : Mem} (h : J M) (i : Nat) : (0 : Int) ≤ (M.1 79 i).toInt ∧ (M.1 79 i).toInt ≤ 1 := h.1 79 i
theorem Jw_79 {M : Mem} (h : J M) (i : Nat) (v : Int32) (h1 : (0 : Int) ≤ v.toInt) (h2 : v.toInt ≤ (1 : Int)) : J (s_i M 79 i v) := J_si h (fk_of (by decide) i) h1 h2
theorem Jr_82 {M : Mem} (h : J M) (i : Nat) : (0 : Int) ≤ (M.1 82 i).toInt ∧ (M.1 82 i).toInt ≤ 35 := h.1 82 i
theorem Jw_82 {M : Mem} (h : J M) (i : Nat) (v : Int32) (h1 : (0 : Int) ≤ v.toInt) (h2 : v.toInt ≤ (35 : Int)) : J (s_i M 82 i v) := J_si h (fk_of (by decide) i) h1 h2
theorem Jr_83 {M : Mem} (h : J M) (i : Nat) : (0 : Int) ≤ (M.1 83 i).toInt ∧ (M.1 83 i).toInt ≤ 35 := h.1 83 i
theorem Jw_83 {M : Mem} (h : J M) (i : Nat) (v : Int32) (h1 : (0 : Int) ≤ v.toInt) (h2 : v.toInt ≤ (35 : Int)) : J (s_i M 83 i v) := J_si h (fk_of (by decide) i) h1 h2
theorem Jr_85 {M : Mem} (h : J M) (i : Nat) : (0 : Int) ≤ (M.1 85 i).toInt ∧ (M.1 85 i).toInt ≤ 35 := h.1 85 i
theorem Jw_85 {M : Mem} (h : J M) (i : Nat) (v : Int32) (h1 : (0 : Int) ≤ v.toInt) (h2 : v.toInt ≤ (35 : Int)) : J (s_i M 85 i v) := J_si h (fk_of (by decide) i) h1 h2
theorem Jr_86 {M : Mem} (h : J M) (i : Nat) : (0 : Int) ≤ (M.1 86 i).toInt ∧ (M.1 86 i).toInt ≤ 1 := h.1 86 i
theorem Jw_86 {M : Mem} (h : J M) (i : Nat) (v : Int32) (h1 : (0 : Int) ≤ v.toInt) (h2 : v.toInt ≤ (1 : Int)) : J (s_i M 86 i v) := J_si h (fk_of (by decide) i) h1 h2
theorem Jr_89 {M : Mem} (h : J M) (i : Nat) : (0 : Int) ≤ (M.1 89 i).toInt ∧ (M.1 89 i).toInt ≤ 35 := h.1 89 i
theorem Jw_89 {M : Mem} (h : J M) (i : Nat) (v : Int32) (h1 : (0 : Int) ≤ v.toInt) (h2 : v.toInt ≤ (35 : Int)) : J (s_i M 89 i v) := J_si h (fk_of (by decide) i) h1 h2
theorem Jr_90 {M : Mem} (h : J M) (i : Nat) : (0 : Int) ≤ (M.1 90 i).toInt ∧ (M.1 90 i).toInt ≤ 35 := h.1 90 i
theorem Jw_90 {M : Mem} (h : J M) (i : Nat) (v : Int32) (h1 : (0 : Int) ≤ v.toInt) (h2 : v.toInt ≤ (35 : Int)) : J (s_i M 90 i v) := J_si h (fk_of (by decide) i) h1 h2
theorem Jr_92 {M : Mem} (h : J M) (i : Nat) : (0 : Int) ≤ (M.1 92 i).toInt ∧ (M.1 92 i).toInt ≤ 35 := h.1 92 i
theorem Jw_92 {M : Mem} (h : J M) (i : Nat) (v : Int32) (h1 : (0 : Int) ≤ v.toInt) (h2 : v.toInt ≤ (35 : Int)) : J (s_i M 92 i v) := J_si h (fk_of (by decide) i) h1 h2
theorem Jr_93 {M : Mem} (h : J M) (i : Nat) : (0 : Int) ≤ (M.1 93 i).toInt ∧ (M.1 93 i).toInt ≤ 1 := h.1 93 i
theorem Jw_93 {M : Mem} (h : J M) (i : Nat) (v : Int32) (h1 : (0 : Int) ≤ v.toInt) (h2 : v.toInt ≤ (1 : Int)) : J (s_i M 93 i v) := J_si h (fk_of (by decide) i) h1 h2
theorem Jr_96 {M : Mem} (h : J M) (i : Nat) : (0 : Int) ≤ (M.1 96 i).toInt ∧ (M.1 96 i).toInt ≤ 35 := h.1 96 i
theorem Jw_96 {M : Mem} (h : J M) (i : Nat) (v : Int32) (h1 : (0 : Int) ≤ v.toInt) (h2 : v.toInt ≤ (35 : Int)) : J (s_i M 96 i v) := J_si h (fk_of (by decide) i) h1 h2
theorem Jr_97 {M : Mem} (h : J M) (i : Nat) : (0 : Int) ≤ (M.1 97 i).toInt ∧ (M.1 97 i).toInt ≤ 35 := h.1 97 i
theorem Jw_97 {M : Mem} (h : J M) (i : Nat) (v : Int32) (h1 : (0 : Int) ≤ v.toInt) (h2 : v.toInt ≤ (35 : Int)) : J (s_i M 97 i v) := J_si h (fk_of (by decide) i) h1 h2
theorem Jr_99 {M : Mem} (h : J M) (i : Nat) : (0 : Int) ≤ (M.1 99 i).toInt ∧ (M.1 99 i).toInt ≤ 35 := h.1 99 i
theorem Jw_99 {M : Mem} (h : J M) (i : Nat) (v : Int32) (h1 : (0 : Int) ≤ v.toInt) (h2 : v.toInt ≤ (35 : Int)) : J (s_i M 99 i v) := J_si h (fk_of (by decide) i) h1 h2
theorem Jr_100 {M : Mem} (h : J M) (i : Nat) : (0 : Int) ≤ (M.1 100 i).toInt ∧ (M.1 100 i).toInt ≤ 1 := h.1 100 i
theorem Jw_100 {M : Mem} (h : J M) (i : Nat) (v : Int32) (h1 : (0 : Int) ≤ v.toInt) (h2 : v.toInt ≤ (1 : Int)) : J (s_i M 100 i v) := J_si h (fk_of (by decide) i) h1 h2
theorem Jr_103 {M : Mem} (h : J M) (i : Nat) : (0 : Int) ≤ (M.1 103 i).toInt ∧ (M.1 103 i).toInt ≤ 35 := h.1 103 i
theorem Jw_103 {M : Mem} (h : J M) (i : Nat) (v : Int32) (h1 : (0 : Int) ≤ v.toInt) (h2 : v.toInt ≤ (35 : Int)) : J (s_i M 103 i v) := J_si h (fk_of (by decide) i) h1 h2
theorem Jr_104 {M : Mem} (h : J M) (i : Nat) : (0 : Int) ≤ (M.1 104 i).toInt ∧ (M.1 104 i).toInt ≤ 35 := h.1 104 i
theorem Jw_104 {M : Mem} (h : J M) (i : Nat) (v : Int32) (h1 : (0 : Int) ≤ v.toInt) (h2 : v.toInt ≤ (35 : Int)) : J (s_i M 104 i v) := J_si h (fk_of (by decide) i) h1 h2
theorem Jr_106 {M : Mem} (h : J M) (i : Nat) : (0 : Int) ≤ (M.1 106 i).toInt ∧ (M.1 106 i).toInt ≤ 35 := h.1 106 i
theorem Jw_106 {M : Mem} (h : J M) (i : Nat) (v : Int32) (h1 : (0 : Int) ≤ v.toInt) (h2 : v.toInt ≤ (35 : Int)) : J (s_i M 106 i v) := J_si h (fk_of (by decide) i) h1 h2
theorem Jr_107 {M : Mem} (h : J M) (i : Nat) : (0 : Int) ≤ (M.1 107 i).toInt ∧ (M.1 107 i).toInt ≤ 1 := h.1 107 i
theorem Jw_107 {M : Mem} (h : J M) (i : Nat) (v : Int32) (h1 : (0 : Int) ≤ v.toInt) (h2 : v.toInt ≤ (1 : Int)) : J (s_i M 107 i v) := J_si h (fk_of (by decide) i) h1 h2
theorem Jr_110 {M : Mem} (h : J M) (i : Nat) : (0 : Int) ≤ (M.1 110 i).toInt ∧ (M.1 110 i).toInt ≤ 35 := h.1 110 i
theorem Jw_110 {M : Mem} (h : J M) (i : Nat) (v : Int32) (h1 : (0 : Int) ≤ v.toInt) (h2 : v.toInt ≤ (35 : Int)) : J (s_i M 110 i v) := J_si h (fk_of (by decide) i) h1 h2
theorem Jr_111 {M : Mem} (h : J M) (i : Nat) : (0 : Int) ≤ (M.1 111 i).toInt ∧ (M.1 111 i).toInt ≤ 35 := h.1 111 i
theorem Jw_111 {M : Mem} (h : J M) (i : Nat) (v : Int32) (h1 : (0 : Int) ≤ v.toInt) (h2 : v.toInt ≤ (35 : Int)) : J (s_i M 111 i v) := J_si h (fk_of (by decide) i) h1 h2
theorem Jr_113 {M : Mem} (h : J M) (i : Nat) : (0 : Int) ≤ (M.1 113 i).toInt ∧ (M.1 113 i).toInt ≤ 35 := h.1 113 i
theorem Jw_113 {M : Mem} (h : J M) (i : Nat) (v : Int32) (h1 : (0 : Int) ≤ v.toInt) (h2 : v.toInt ≤ (35 : Int)) : J (s_i M 113 i v) := J_si h (fk_of (by decide) i) h1 h2
theorem Jr_114 {M : Mem} (h : J M) (i : Nat) : (0 : Int) ≤ (M.1 114 i).toInt ∧ (M.1 114 i).toInt ≤ 1 := h.1 114 i
theorem Jw_114 {M : Mem} (h : J M) (i : Nat) (v : Int32) (h1 : (0 : Int) ≤ v.toInt) (h2 : v.toInt ≤ (1 : Int)) : J (s_i M 114 i v) := J_si h (fk_of (by decide) i) h1 h2
theorem Jr_117 {M : Mem} (h : J M) (i : Nat) : (0 : Int) ≤ (M.1 117 i).toInt ∧ (M.1 117 i).toInt ≤ 35 := h.1 117 i
theorem Jw_117 {M : Mem} (h : J M) (i : Nat) (v : Int32) (h1 : (0 : Int) ≤ v.toInt) (h2 : v.toInt ≤ (35 : Int)) : J (s_i M 117 i v) := J_si h (fk_of (by decide) i) h1 h2
theorem Jr_118 {M : Mem} (h : J M) (i : Nat) : (0 : Int) ≤ (M.1 118 i).toInt ∧ (M.1 118 i).toInt ≤ 35 := h.1 118 i
theorem Jw_118 {M : Mem} (h : J M) (i : Nat) (v : Int32) (h1 : (0 : Int) ≤ v.toInt) (h2 : v.toInt ≤ (35 : Int)) : J (s_i M 118 i v) := J_si h (fk_of (by decide) i) h1 h2
theorem Jr_120 {M : Mem} (h : J M) (i : Nat) : (0 : Int) ≤ (M.1 120 i).toInt ∧ (M.1 120 i).toInt ≤ 35 := h.1 120 i
theorem Jw_120 {M : Mem} (h : J M) (i : Nat) (v : Int32) (h1 : (0 : Int) ≤ v.toInt) (h2 : v.toInt ≤ (35 : Int)) : J (s_i M 120 i v) := J_si h (fk_of (by decide) i) h1 h2
theorem Jr_121 {M : Mem} (h : J M) (i : Nat) : (0 : Int) ≤ (M.1 121 i).toInt ∧ (M.1 121 i).toInt ≤ 1 := h.1 121 i
theorem Jw_121 {M : Mem} (h : J M) (i : Nat) (v : Int32) (h1 : (0 : Int) ≤ v.toInt) (h2 : v.toInt ≤ (1 : Int)) : J (s_i M 121 i v) := J_si h (fk_of (by decide) i) h1 h2
theorem Jr_124 {M : Mem} (h : J M) (i : Nat) : (0 : Int) ≤ (M.1 124 i).toInt ∧ (M.1 124 i).toInt ≤ 35 := h.1 124 i
theorem Jw_124 {M : Mem} (h : J M) (i : Nat) (v : Int32) (h1 : (0 : Int) ≤ v.toInt) (h2 : v.toInt ≤ (35 : Int)) : J (s_i M 124 i v) := J_si h (fk_of (by decide) i) h1 h2
theorem Jr_125 {M : Mem} (h : J M) (i : Nat) : (0 : Int) ≤ (M.1 125 i).toInt ∧ (M.1 125 i).toInt ≤ 35 := h.1 125 i
theorem Jw_125 {M : Mem} (h : J M) (i : Nat) (v : Int32) (h1 : (0 : Int) ≤ v.toInt) (h2 : v.toInt ≤ (35 : Int)) : J (s_i M 125 i v) := J_si h (fk_of (by decide) i) h1 h2
theorem Jr_127 {M : Mem} (h : J M) (i : Nat) : (0 : Int) ≤ (M.1 127 i).toInt ∧ (M.1 127 i).toInt ≤ 35 := h.1 127 i
theorem Jw_127 {M : Mem} (h : J M) (i : Nat) (v : Int32) (h1 : (0 : Int) ≤ v.toInt) (h2 : v.toInt ≤ (35 : Int)) : J (s_i M 127 i v) := J_si h (fk_of (by decide) i) h1 h2
theorem Jr_128 {M : Mem} (h : J M) (i : Nat) : (0 : Int) ≤ (M.1 128 i).toInt ∧ (M.1 128 i).toInt ≤ 1 := h.1 128 i
theorem Jw_128 {M : Mem} (h : J M) (i : Nat) (v : Int32) (h1 : (0 : Int) ≤ v.toInt) (h2 : v.toInt ≤ (1 : Int)) : J (s_i M 128 i v) := J_si h (fk_of (by decide) i) h1 h2
theorem Jr_131 {M : Mem} (h : J M) (i : Nat) : (0 : Int) ≤ (M.1 131 i).toInt ∧ (M.1 131 i).toInt ≤ 35 := h.1 131 i
theorem Jw_131 {M : Mem} (h : J M) (i : Nat) (v : Int32) (h1 : (0 : Int) ≤ v.toInt) (h2 : v.toInt ≤ (35 : Int)) : J (s_i M 131 i v) := J_si h (fk_of (by decide) i) h1 h2
theorem Jr_132 {M : Mem} (h : J M) (i : Nat) : (0 : Int) ≤ (M.1 132 i).toInt ∧ (M.1 132 i).toInt ≤ 35 := h.1 132 i
theorem Jw_132 {M : Mem} (h : J M) (i : Nat) (v : Int32) (h1 : (0 : Int) ≤ v.toInt) (h2 : v.toInt ≤ (35 : Int)) : J (s_i M 132 i v) := J_si h (fk_of (by decide) i) h1 h2
theorem Jr_134 {M : Mem} (h : J M) (i : Nat) : (0 : Int) ≤ (M.1 134 i).toInt ∧ (M.1 134 i).toInt ≤ 35 := h.1 134 i
theorem Jw_134 {M : Mem} (h : J M) (i : Nat) (v : Int32) (h1 : (0 : Int) ≤ v.toInt) (h2 : v.toInt ≤ (35 : Int)) : J (s_i M 134 i v) := J_si h (fk_of (by decide) i) h1 h2
theorem Jr_135 {M : Mem} (h : J M) (i : Nat) : (0 : Int) ≤ (M.1 135 i).toInt ∧ (M.1 135 i).toInt ≤ 1 := h.1 135 i
theorem Jw_135 {M : Mem} (h : J M) (i : Nat) (v : Int32) (h1 : (0 : Int) ≤ v.toInt) (h2 : v.toInt ≤ (1 : Int)) : J (s_i M 135 i v) := J_si h (fk_of (by decide) i) h1 h2
theorem Jr_138 {M : Mem} (h : J M) (i : Nat) : (0 : Int) ≤ (M.1 138 i).toInt ∧ (M.1 138 i).toInt ≤ 35 := h.1 138 i
theorem Jw_138 {M : Mem} (h : J M) (i : Nat) (v : Int32) (h1 : (0 : Int) ≤ v.toInt) (h2 : v.toInt ≤ (35 : Int)) : J (s_i M 138 i v) := J_si h (fk_of (by decide) i) h1 h2
theorem Jr_139 {M : Mem} (h : J M) (i : Nat) : (0 : Int) ≤ (M.1 139 i).toInt ∧ (M.1 139 i).toInt ≤ 35 := h.1 139 i
theorem Jw_139 {M : Mem} (h : J M) (i : Nat) (v : Int32) (h1 : (0 : Int) ≤ v.toInt) (h2 : v.toInt ≤ (35 : Int)) : J (s_i M 139 i v) := J_si h (fk_of (by decide) i) h1 h2
theorem Jr_141 {M : Mem} (h : J M) (i : Nat) : (0 : Int) ≤ (M.1 141 i).toInt ∧ (M.1 141 i).toInt ≤ 35 := h.1 141 i
theorem Jw_141 {M : Mem} (h : J M) (i : Nat) (v : Int32) (h1 : (0 : Int) ≤ v.toInt) (h2 : v.toInt ≤ (35 : Int)) : J (s_i M 141 i v) := J_si h (fk_of (by decide) i) h1 h2
theorem Jr_142 {M : Mem} (h : J M) (i : Nat) : (0 : Int) ≤ (M.1 142 i).toInt ∧ (M.1 142 i).toInt ≤ 1 := h.1 142 i
theorem Jw_142 {M : Mem} (h : J M) (i : Nat) (v : Int32) (h1 : (0 : Int) ≤ v.toInt) (h2 : v.toInt ≤ (1 : Int)) : J (s_i M 142 i v) := J_si h (fk_of (by decide) i) h1 h2
theorem Jr_145 {M : Mem} (h : J M) (i : Nat) : (0 : Int) ≤ (M.1 145 i).toInt ∧ (M.1 145 i).toInt ≤ 35 := h.1 145 i
theorem Jw_145 {M : Mem} (h : J M) (i : Nat) (v : Int32) (h1 : (0 : Int) ≤ v.toInt) (h2 : v.toInt ≤ (35 : Int)) : J (s_i M 145 i v) := J_si h (fk_of (by decide) i) h1 h2
theorem Jr_146 {M : Mem} (h : J M) (i : Nat) : (0 : Int) ≤ (M.1 146 i).toInt ∧ (M.1 146 i).toInt ≤ 35 := h.1 146 i
theorem Jw_146 {M : Mem} (h : J M) (i : Nat) (v : Int32) (h1 : (0 : Int) ≤ v.toInt) (h2 : v.toInt ≤ (35 : Int)) : J (s_i M 146 i v) := J_si h (fk_of (by decide) i) h1 h2
theorem Jr_147_3 {M : Mem} (h : J M) : (0 : Int) ≤ (M.1 147 3).toInt ∧ (M.1 147 3).toInt ≤ 32 := h.1 147 3
theorem Jw_147_3 {M : Mem} (h : J M) (v : Int32) (h1 : (0 : Int) ≤ v.toInt) (h2 : v.toInt ≤ (32 : Int)) : J (s_i M 147 3 v) := J_si h (by decide) h1 h2
theorem Jr_160 {M : Mem} (h : J M) (i : Nat) : (0 : Int) ≤ (M.1 160 i).toInt ∧ (M.1 160 i).toInt ≤ 179 := h.1 160 i
theorem Jw_160 {M : Mem} (h : J M) (i : Nat) (v : Int32) (h1 : (0 : Int) ≤ v.toInt) (h2 : v.toInt ≤ (179 : Int)) : J (s_i M 160 i v) := J_si h (fk_of (by decide) i) h1 h2
theorem Jr_162_2 {M : Mem} (h : J M) : (1 : Int) ≤ (M.1 162 2).toInt ∧ (M.1 162 2).toInt ≤ 6 := h.1 162 2
theorem Jw_162_2 {M : Mem} (h : J M) (v : Int32) (h1 : (1 : Int) ≤ v.toInt) (h2 : v.toInt ≤ (6 : Int)) : J (s_i M 162 2 v) := J_si h (by decide) h1 h2
theorem Jr_162_3 {M : Mem} (h : J M) : (1 : Int) ≤ (M.1 162 3).toInt ∧ (M.1 162 3).toInt ≤ 6 := h.1 162 3
theorem Jw_162_3 {M : Mem} (h : J M) (v : Int32) (h1 : (1 : Int) ≤ v.toInt) (h2 : v.toInt ≤ (6 : Int)) : J (s_i M 162 3 v) := J_si h (by decide) h1 h2
theorem Jr_162_4 {M : Mem} (h : J M) : (0 : Int) ≤ (M.1 162 4).toInt ∧ (M.1 162 4).toInt ≤ 8 := h.1 162 4
theorem Jr_162_8 {M : Mem} (h : J M) : (-1 : Int) ≤ (M.1 162 8).toInt ∧ (M.1 162 8).toInt ≤ 35 := h.1 162 8
theorem Jw_162_8 {M : Mem} (h : J M) (v : Int32) (h1 : (-1 : Int) ≤ v.toInt) (h2 : v.toInt ≤ (35 : Int)) : J (s_i M 162 8 v) := J_si h (by decide) h1 h2
theorem Jr_162_10 {M : Mem} (h : J M) : (0 : Int) ≤ (M.1 162 10).toInt ∧ (M.1 162 10).toInt ≤ 80 := h.1 162 10
theorem Jw_162_10 {M : Mem} (h : J M) (v : Int32) (h1 : (0 : Int) ≤ v.toInt) (h2 : v.toInt ≤ (80 : Int)) : J (s_i M 162 10 v) := J_si h (by decide) h1 h2
theorem Jr_162_12 {M : Mem} (h : J M) : (0 : Int) ≤ (M.1 162 12).toInt ∧ (M.1 162 12).toInt ≤ 16 := h.1 162 12
theorem Jw_162_12 {M : Mem} (h : J M) (v : Int32) (h1 : (0 : Int) ≤ v.toInt) (h2 : v.toInt ≤ (16 : Int)) : J (s_i M 162 12 v) := J_si h (by decide) h1 h2
theorem Jr_162_15 {M : Mem} (h : J M) : (0 : Int) ≤ (M.1 162 15).toInt ∧ (M.1 162 15).toInt ≤ 80 := h.1 162 15
theorem Jr_162_16 {M : Mem} (h : J M) : (0 : Int) ≤ (M.1 162 16).toInt ∧ (M.1 162 16).toInt ≤ 80 := h.1 162 16
theorem Jr_162_17 {M : Mem} (h : J M) : (0 : Int) ≤ (M.1 162 17).toInt ∧ (M.1 162 17).toInt ≤ 81 := h.1 162 17
theorem Jw_162_17 {M : Mem} (h : J M) (v : Int32) (h1 : (0 : Int) ≤ v.toInt) (h2 : v.toInt ≤ (81 : Int)) : J (s_i M 162 17 v) := J_si h (by decide) h1 h2
theorem Jr_162_23 {M : Mem} (h : J M) : (0 : Int) ≤ (M.1 162 23).toInt ∧ (M.1 162 23).toInt ≤ 40 := h.1 162 23
theorem Jw_162_23 {M : Mem} (h : J M) (v : Int32) (h1 : (0 : Int) ≤ v.toInt) (h2 : v.toInt ≤ (40 : Int)) : J (s_i M 162 23 v) := J_si h (by decide) h1 h2
theorem Jr_162_25 {M : Mem} (h : J M) : (0 : Int) ≤ (M.1 162 25).toInt ∧ (M.1 162 25).toInt ≤ 7 := h.1 162 25
theorem Jw_162_25 {M : Mem} (h : J M) (v : Int32) (h1 : (0 : Int) ≤ v.toInt) (h2 : v.toInt ≤ (7 : Int)) : J (s_i M 162 25 v) := J_si h (by decide) h1 h2
theorem Jr_162_27 {M : Mem} (h : J M) : (0 : Int) ≤ (M.1 162 27).toInt ∧ (M.1 162 27).toInt ≤ 12 := h.1 162 27
theorem Jw_162_27 {M : Mem} (h : J M) (v : Int32) (h1 : (0 : Int) ≤ v.toInt) (h2 : v.toInt ≤ (12 : Int)) : J (s_i M 162 27 v) := J_si h (by decide) h1 h2
theorem Jr_166 {M : Mem} (h : J M) (i : Nat) : (0 : Int) ≤ (M.1 166 i).toInt ∧ (M.1 166 i).toInt ≤ 9 := h.1 166 i
theorem Jr_177 {M : Mem} (h : J M) (i : Nat) : (0 : Int) ≤ (M.1 177 i).toInt ∧ (M.1 177 i).toInt ≤ 1000000 := h.1 177 i
theorem Jw_177 {M : Mem} (h : J M) (i : Nat) (v : Int32) (h1 : (0 : Int) ≤ v.toInt) (h2 : v.toInt ≤ (1000000 : Int)) : J (s_i M 177 i v) := J_si h (fk_of (by decide) i) h1 h2
theorem Jr_179 {M : Mem} (h : J M) (i : Nat) : (0 : Int) ≤ (M.1 179 i).toInt ∧ (M.1 179 i).toInt ≤ 1 := h.1 179 i
theorem Jw_179 {M : Mem} (h : J M) (i : Nat) (v : Int32) (h1 : (0 : Int) ≤ v.toInt) (h2 : v.toInt ≤ (1 : Int)) : J (s_i M 179 i v) := J_si h (fk_of (by decide) i) h1 h2
theorem Jr_180 {M : Mem} (h : J M) (i : Nat) : (0 : Int) ≤ (M.1 180 i).toInt ∧ (M.1 180 i).toInt ≤ 1000000 := h.1 180 i
theorem Jw_180 {M : Mem} (h : J M) (i : Nat) (v : Int32) (h1 : (0 : Int) ≤ v.toInt) (h2 : v.toInt ≤ (1000000 : Int)) : J (s_i M 180 i v) := J_si h (fk_of (by decide) i) h1 h2
theorem Jr_181 {M : Mem} (h : J M) (i : Nat) : (0 : Int) ≤ (M.1 181 i).toInt ∧ (M.1 181 i).toInt ≤ 1000000 := h.1 181 i
theorem Jw_181 {M : Mem} (h : J M) (i : Nat) (v : Int32) (h1 : (0 : Int) ≤ v.toInt) (h2 : v.toInt ≤ (1000000 : Int)) : J (s_i M 181 i v) := J_si h (fk_of (by decide) i) h1 h2
theorem Jr_182 {M : Mem} (h : J M) (i : Nat) : (0 : Int) ≤ (M.1 182 i).toInt ∧ (M.1 182 i).toInt ≤ 1000000 := h.1 182 i
theorem Jw_182 {M : Mem} (h : J M) (i : Nat) (v : Int32) (h1 : (0 : Int) ≤ v.toInt) (h2 : v.toInt ≤ (1000000 : Int)) : J (s_i M 182 i v) := J_si h (fk_of (by decide) i) h1 h2
theorem Jr_183 {M : Mem} (h : J M) (i : Nat) : (0 : Int) ≤ (M.1 183 i).toInt ∧ (M.1 183 i).toInt ≤ 1000000 := h.1 183 i
theorem Jw_183 {M : Mem} (h : J M) (i : Nat) (v : Int32) (h1 : (0 : Int) ≤ v.toInt) (h2 : v.toInt ≤ (1000000 : Int)) : J (s_i M 183 i v) := J_si h (fk_of (by decide) i) h1 h2
theorem Jr_185 {M : Mem} (h : J M) (i : Nat) : (0 : Int) ≤ (M.1 185 i).toInt ∧ (M.1 185 i).toInt ≤ 1000000 := h.1 185 i
theorem Jw_185 {M : Mem} (h : J M) (i : Nat) (v : Int32) (h1 : (0 : Int) ≤ v.toInt) (h2 : v.toInt ≤ (1000000 : Int)) : J (s_i M 185 i v) := J_si h (fk_of (by decide) i) h1 h2
theorem Jr_186 {M : Mem} (h : J M) (i : Nat) : (0 : Int) ≤ (M.1 186 i).toInt ∧ (M.1 186 i).toInt ≤ 1 := h.1 186 i
theorem Jw_186 {M : Mem} (h : J M) (i : Nat) (v : Int32) (h1 : (0 : Int) ≤ v.toInt) (h2 : v.toInt ≤ (1 : Int)) : J (s_i M 186 i v) := J_si h (fk_of (by decide) i) h1 h2
theorem Jr_187 {M : Mem} (h : J M) (i : Nat) : (0 : Int) ≤ (M.1 187 i).toInt ∧ (M.1 187 i).toInt ≤ 1 := h.1 187 i
theorem Jw_187 {M : Mem} (h : J M) (i : Nat) (v : Int32) (h1 : (0 : Int) ≤ v.toInt) (h2 : v.toInt ≤ (1 : Int)) : J (s_i M 187 i v) := J_si h (fk_of (by decide) i) h1 h2
theorem Jr_188 {M : Mem} (h : J M) (i : Nat) : (0 : Int) ≤ (M.1 188 i).toInt ∧ (M.1 188 i).toInt ≤ 1 := h.1 188 i
theorem Jw_188 {M : Mem} (h : J M) (i : Nat) (v : Int32) (h1 : (0 : Int) ≤ v.toInt) (h2 : v.toInt ≤ (1 : Int)) : J (s_i M 188 i v) := J_si h (fk_of (by decide) i) h1 h2
theorem Jr_190 {M : Mem} (h : J M) (i : Nat) : (0 : Int) ≤ (M.1 190 i).toInt ∧ (M.1 190 i).toInt ≤ 1 := h.1 190 i
theorem Jw_190 {M : Mem} (h : J M) (i : Nat) (v : Int32) (h1 : (0 : Int) ≤ v.toInt) (h2 : v.toInt ≤ (1 : Int)) : J (s_i M 190 i v) := J_si h (fk_of (by decide) i) h1 h2
theorem kd_all {P : Nat → Prop} (h : ∀ v : Fin NT, P v.val) {v : Nat} (hk : 0 < kd v) : P v := h ⟨v, kd_lt hk⟩
def scl : List Nat := [11, 18, 25] ++ (List.range 14).map (fun u => 49 + 7 * u)
theorem sc_all {P : Nat → Prop} [DecidablePred P] (h : ∀ v ∈ scl, P v) {v : Nat} (hk : kd v = 10 + 7) : P v := h v (kd_all (P := fun v => kd v = 10 + 7 → v ∈ scl) (by decide +kernel) (by omega) hk)
theorem rfk_0_46 {v : Nat} (hk : kd v = 10 + 7) : rf v 0 ≠ 46 := sc_all (P := fun v => rf v 0 ≠ 46) (by decide +kernel) hk
theorem ra_scene0 {v : Nat} (hk : kd v = 10 + 7) : rgA.lookup (rf v 0) = some (0, 35) := sc_all (P := fun v => rgA.lookup (rf v 0) = some (0, 35)) (by decide +kernel) hk
theorem st_scene0 {v : Nat} (hk : kd v = 10 + 7) : stb (rf v 0) = false := sc_all (P := fun v => stb (rf v 0) = false) (by decide +kernel) hk
theorem rn_scene0 {v : Nat} (hk : kd v = 10 + 7) (i : Nat) : rng (rf v 0) i = (0, 35) := by unfold rng; rw [st_scene0 hk, ra_scene0 hk]
theorem Jr_scene0 {M : Mem} (h : J M) {v : Nat} (hk : kd v = 10 + 7) (i : Nat) : (0 : Int) ≤ (M.1 (rf v 0) i).toInt ∧ (M.1 (rf v 0) i).toInt ≤ 35 := by
  have := h.1 (rf v 0) i
  rw [rn_scene0 hk] at this
  exact this
theorem r3_scene0 {v : Nat} (hk : kd v = 10 + 7) : fq (rf v 0) = true := sc_all (P := fun v => fq (rf v 0) = true) (by decide +kernel) hk
theorem Jw_scene0 {M : Mem} (h : J M) {v : Nat} (hk : kd v = 10 + 7) (i : Nat) (x : Int32) (h1 : (0 : Int) ≤ x.toInt) (h2 : x.toInt ≤ (35 : Int)) : J (s_i M (rf v 0) i x) := J_si h (fk_of (r3_scene0 hk) i) (by rw [rn_scene0 hk]; exact h1) (by rw [rn_scene0 hk]; exact h2)
theorem rn_ne0_scene {v : Nat} (hk : kd v = 10 + 7) : rf v 0 ≠ v := sc_all (P := fun v => rf v 0 ≠ v) (by decide +kernel) hk
theorem rf_ne0_scene {v a b : Nat} (hk : kd v = 10 + 7) : ¬ (v = rf v 0 ∧ a = b) := fun e => rn_ne0_scene hk e.1.symm
theorem rf_en0_scene {v a b : Nat} (hk : kd v = 10 + 7) : ¬ (rf v 0 = v ∧ a = b) := fun e => rn_ne0_scene hk e.1
theorem rfk_1_46 {v : Nat} (hk : kd v = 10 + 7) : rf v 1 ≠ 46 := sc_all (P := fun v => rf v 1 ≠ 46) (by decide +kernel) hk
theorem ra_scene1 {v : Nat} (hk : kd v = 10 + 7) : rgA.lookup (rf v 1) = some (0, 1) := sc_all (P := fun v => rgA.lookup (rf v 1) = some (0, 1)) (by decide +kernel) hk
theorem st_scene1 {v : Nat} (hk : kd v = 10 + 7) : stb (rf v 1) = false := sc_all (P := fun v => stb (rf v 1) = false) (by decide +kernel) hk
theorem rn_scene1 {v : Nat} (hk : kd v = 10 + 7) (i : Nat) : rng (rf v 1) i = (0, 1) := by unfold rng; rw [st_scene1 hk, ra_scene1 hk]
theorem Jr_scene1 {M : Mem} (h : J M) {v : Nat} (hk : kd v = 10 + 7) (i : Nat) : (0 : Int) ≤ (M.1 (rf v 1) i).toInt ∧ (M.1 (rf v 1) i).toInt ≤ 1 := by
  have := h.1 (rf v 1) i
  rw [rn_scene1 hk] at this
  exact this
theorem r3_scene1 {v : Nat} (hk : kd v = 10 + 7) : fq (rf v 1) = true := sc_all (P := fun v => fq (rf v 1) = true) (by decide +kernel) hk
theorem Jw_scene1 {M : Mem} (h : J M) {v : Nat} (hk : kd v = 10 + 7) (i : Nat) (x : Int32) (h1 : (0 : Int) ≤ x.toInt) (h2 : x.toInt ≤ (1 : Int)) : J (s_i M (rf v 1) i x) := J_si h (fk_of (r3_scene1 hk) i) (by rw [rn_scene1 hk]; exact h1) (by rw [rn_scene1 hk]; exact h2)
theorem rn_ne1_scene {v : Nat} (hk : kd v = 10 + 7) : rf v 1 ≠ v := sc_all (P := fun v => rf v 1 ≠ v) (by decide +kernel) hk
theorem rf_ne1_scene {v a b : Nat} (hk : kd v = 10 + 7) : ¬ (v = rf v 1 ∧ a = b) := fun e => rn_ne1_scene hk e.1.symm
theorem rf_en1_scene {v a b : Nat} (hk : kd v = 10 + 7) : ¬ (rf v 1 = v ∧ a = b) := fun e => rn_ne1_scene hk e.1
theorem rfk_2_46 {v : Nat} (hk : kd v = 10 + 7) : rf v 2 ≠ 46 := sc_all (P := fun v => rf v 2 ≠ 46) (by decide +kernel) hk
theorem oka_scene2 {v : Nat} (hk : kd v = 10 + 7) : okany (rf v 2) = true := sc_all (P := fun v => okany (rf v 2) = true) (by decide +kernel) hk
theorem r3_scene2 {v : Nat} (hk : kd v = 10 + 7) : fq (rf v 2) = true := sc_all (P := fun v => fq (rf v 2) = true) (by decide +kernel) hk
theorem Jw_scene2 {M : Mem} (h : J M) {v : Nat} (hk : kd v = 10 + 7) (i : Nat) (x : Int32) : J (s_i M (rf v 2) i x) := Jw_any (oka_scene2 hk) h i x
theorem rn_ne2_scene {v : Nat} (hk : kd v = 10 + 7) : rf v 2 ≠ v := sc_all (P := fun v => rf v 2 ≠ v) (by decide +kernel) hk
theorem rf_ne2_scene {v a b : Nat} (hk : kd v = 10 + 7) : ¬ (v = rf v 2 ∧ a = b) := fun e => rn_ne2_scene hk e.1.symm
theorem rf_en2_scene {v a b : Nat} (hk : kd v = 10 + 7) : ¬ (rf v 2 = v ∧ a = b) := fun e => rn_ne2_scene hk e.1
theorem rfk_3_46 {v : Nat} (hk : kd v = 10 + 7) : rf v 3 ≠ 46 := sc_all (P := fun v => rf v 3 ≠ 46) (by decide +kernel) hk
theorem oka_scene3 {v : Nat} (hk : kd v = 10 + 7) : okany (rf v 3) = true := sc_all (P := fun v => okany (rf v 3) = true) (by decide +kernel) hk
theorem r3_scene3 {v : Nat} (hk : kd v = 10 + 7) : fq (rf v 3) = true := sc_all (P := fun v => fq (rf v 3) = true) (by decide +kernel) hk
theorem Jw_scene3 {M : Mem} (h : J M) {v : Nat} (hk : kd v = 10 + 7) (i : Nat) (x : Int32) : J (s_i M (rf v 3) i x) := Jw_any (oka_scene3 hk) h i x
theorem rn_ne3_scene {v : Nat} (hk : kd v = 10 + 7) : rf v 3 ≠ v := sc_all (P := fun v => rf v 3 ≠ v) (by decide +kernel) hk
theorem rf_ne3_scene {v a b : Nat} (hk : kd v = 10 + 7) : ¬ (v = rf v 3 ∧ a = b) := fun e => rn_ne3_scene hk e.1.symm
theorem rf_en3_scene {v a b : Nat} (hk : kd v = 10 + 7) : ¬ (rf v 3 = v ∧ a = b) := fun e => rn_ne3_scene hk e.1
theorem rfk_4_46 {v : Nat} (hk : kd v = 10 + 7) : rf v 4 ≠ 46 := sc_all (P := fun v => rf v 4 ≠ 46) (by decide +kernel) hk
theorem ra_scene4 {v : Nat} (hk : kd v = 10 + 7) : rgA.lookup (rf v 4) = some (0, 35) := sc_all (P := fun v => rgA.lookup (rf v 4) = some (0, 35)) (by decide +kernel) hk
theorem st_scene4 {v : Nat} (hk : kd v = 10 + 7) : stb (rf v 4) = false := sc_all (P := fun v => stb (rf v 4) = false) (by decide +kernel) hk
theorem rn_scene4 {v : Nat} (hk : kd v = 10 + 7) (i : Nat) : rng (rf v 4) i = (0, 35) := by unfold rng; rw [st_scene4 hk, ra_scene4 hk]
theorem Jr_scene4 {M : Mem} (h : J M) {v : Nat} (hk : kd v = 10 + 7) (i : Nat) : (0 : Int) ≤ (M.1 (rf v 4) i).toInt ∧ (M.1 (rf v 4) i).toInt ≤ 35 := by
  have := h.1 (rf v 4) i
  rw [rn_scene4 hk] at this
  exact this
theorem r3_scene4 {v : Nat} (hk : kd v = 10 + 7) : fq (rf v 4) = true := sc_all (P := fun v => fq (rf v 4) = true) (by decide +kernel) hk
theorem Jw_scene4 {M : Mem} (h : J M) {v : Nat} (hk : kd v = 10 + 7) (i : Nat) (x : Int32) (h1 : (0 : Int) ≤ x.toInt) (h2 : x.toInt ≤ (35 : Int)) : J (s_i M (rf v 4) i x) := J_si h (fk_of (r3_scene4 hk) i) (by rw [rn_scene4 hk]; exact h1) (by rw [rn_scene4 hk]; exact h2)
theorem rn_ne4_scene {v : Nat} (hk : kd v = 10 + 7) : rf v 4 ≠ v := sc_all (P := fun v => rf v 4 ≠ v) (by decide +kernel) hk
theorem rf_ne4_scene {v a b : Nat} (hk : kd v = 10 + 7) : ¬ (v = rf v 4 ∧ a = b) := fun e => rn_ne4_scene hk e.1.symm
theorem rf_en4_scene {v a b : Nat} (hk : kd v = 10 + 7) : ¬ (rf v 4 = v ∧ a = b) := fun e => rn_ne4_scene hk e.1
theorem rfk_5_46 {v : Nat} (hk : kd v = 10 + 7) : rf v 5 ≠ 46 := sc_all (P := fun v => rf v 5 ≠ 46) (by decide +kernel) hk
theorem ra_scene5 {v : Nat} (hk : kd v = 10 + 7) : rgA.lookup (rf v 5) = some (0, 35) := sc_all (P := fun v => rgA.lookup (rf v 5) = some (0, 35)) (by decide +kernel) hk
theorem st_scene5 {v : Nat} (hk : kd v = 10 + 7) : stb (rf v 5) = false := sc_all (P := fun v => stb (rf v 5) = false) (by decide +kernel) hk
theorem rn_scene5 {v : Nat} (hk : kd v = 10 + 7) (i : Nat) : rng (rf v 5) i = (0, 35) := by unfold rng; rw [st_scene5 hk, ra_scene5 hk]
theorem Jr_scene5 {M : Mem} (h : J M) {v : Nat} (hk : kd v = 10 + 7) (i : Nat) : (0 : Int) ≤ (M.1 (rf v 5) i).toInt ∧ (M.1 (rf v 5) i).toInt ≤ 35 := by
  have := h.1 (rf v 5) i
  rw [rn_scene5 hk] at this
  exact this
theorem r3_scene5 {v : Nat} (hk : kd v = 10 + 7) : fq (rf v 5) = true := sc_all (P := fun v => fq (rf v 5) = true) (by decide +kernel) hk
theorem Jw_scene5 {M : Mem} (h : J M) {v : Nat} (hk : kd v = 10 + 7) (i : Nat) (x : Int32) (h1 : (0 : Int) ≤ x.toInt) (h2 : x.toInt ≤ (35 : Int)) : J (s_i M (rf v 5) i x) := J_si h (fk_of (r3_scene5 hk) i) (by rw [rn_scene5 hk]; exact h1) (by rw [rn_scene5 hk]; exact h2)
theorem rn_ne5_scene {v : Nat} (hk : kd v = 10 + 7) : rf v 5 ≠ v := sc_all (P := fun v => rf v 5 ≠ v) (by decide +kernel) hk
theorem rf_ne5_scene {v a b : Nat} (hk : kd v = 10 + 7) : ¬ (v = rf v 5 ∧ a = b) := fun e => rn_ne5_scene hk e.1.symm
theorem rf_en5_scene {v a b : Nat} (hk : kd v = 10 + 7) : ¬ (rf v 5 = v ∧ a = b) := fun e => rn_ne5_scene hk e.1
theorem r3_nets0 {v : Nat} (hk : kd v = 10 + 6) : fq (rf v 0) = true := kd_all (P := fun v => kd v = 10 + 6 → fq (rf v 0) = true) (by decide +kernel) (by omega) hk
theorem rn_ne0_nets {v : Nat} (hk : kd v = 10 + 6) : rf v 0 ≠ v := kd_all (P := fun v => kd v = 10 + 6 → rf v 0 ≠ v) (by decide +kernel) (by omega) hk
theorem rf_ne0_nets {v a b : Nat} (hk : kd v = 10 + 6) : ¬ (v = rf v 0 ∧ a = b) := fun e => rn_ne0_nets hk e.1.symm
theorem rf_en0_nets {v a b : Nat} (hk : kd v = 10 + 6) : ¬ (rf v 0 = v ∧ a = b) := fun e => rn_ne0_nets hk e.1
theorem r3_nets1 {v : Nat} (hk : kd v = 10 + 6) : fq (rf v 1) = true := kd_all (P := fun v => kd v = 10 + 6 → fq (rf v 1) = true) (by decide +kernel) (by omega) hk
theorem rn_ne1_nets {v : Nat} (hk : kd v = 10 + 6) : rf v 1 ≠ v := kd_all (P := fun v => kd v = 10 + 6 → rf v 1 ≠ v) (by decide +kernel) (by omega) hk
theorem rf_ne1_nets {v a b : Nat} (hk : kd v = 10 + 6) : ¬ (v = rf v 1 ∧ a = b) := fun e => rn_ne1_nets hk e.1.symm
theorem rf_en1_nets {v a b : Nat} (hk : kd v = 10 + 6) : ¬ (rf v 1 = v ∧ a = b) := fun e => rn_ne1_nets hk e.1
theorem ra_nets2 {v : Nat} (hk : kd v = 10 + 6) : rgA.lookup (rf v 2) = some (-1, 35) := kd_all (P := fun v => kd v = 10 + 6 → rgA.lookup (rf v 2) = some (-1, 35)) (by decide +kernel) (by omega) hk
theorem st_nets2 {v : Nat} (hk : kd v = 10 + 6) : stb (rf v 2) = false := kd_all (P := fun v => kd v = 10 + 6 → stb (rf v 2) = false) (by decide +kernel) (by omega) hk
theorem rn_nets2 {v : Nat} (hk : kd v = 10 + 6) (i : Nat) : rng (rf v 2) i = (-1, 35) := by unfold rng; rw [st_nets2 hk, ra_nets2 hk]
theorem Jr_nets2 {M : Mem} (h : J M) {v : Nat} (hk : kd v = 10 + 6) (i : Nat) : (-1 : Int) ≤ (M.1 (rf v 2) i).toInt ∧ (M.1 (rf v 2) i).toInt ≤ 35 := by
  have := h.1 (rf v 2) i
  rw [rn_nets2 hk] at this
  exact this
theorem r3_nets2 {v : Nat} (hk : kd v = 10 + 6) : fq (rf v 2) = true := kd_all (P := fun v => kd v = 10 + 6 → fq (rf v 2) = true) (by decide +kernel) (by omega) hk
theorem Jw_nets2 {M : Mem} (h : J M) {v : Nat} (hk : kd v = 10 + 6) (i : Nat) (x : Int32) (h1 : (-1 : Int) ≤ x.toInt) (h2 : x.toInt ≤ (35 : Int)) : J (s_i M (rf v 2) i x) := J_si h (fk_of (r3_nets2 hk) i) (by rw [rn_nets2 hk]; exact h1) (by rw [rn_nets2 hk]; exact h2)
theorem rn_ne2_nets {v : Nat} (hk : kd v = 10 + 6) : rf v 2 ≠ v := kd_all (P := fun v => kd v = 10 + 6 → rf v 2 ≠ v) (by decide +kernel) (by omega) hk
theorem rf_ne2_nets {v a b : Nat} (hk : kd v = 10 + 6) : ¬ (v = rf v 2 ∧ a = b) := fun e => rn_ne2_nets hk e.1.symm
theorem rf_en2_nets {v a b : Nat} (hk : kd v = 10 + 6) : ¬ (rf v 2 = v ∧ a = b) := fun e => rn_ne2_nets hk e.1
theorem oka_scene {v : Nat} (hk : kd v = 10 + 7) : okany v = true := sc_all (P := fun v => okany v = true) (by decide +kernel) hk
theorem Jw_scene {M : Mem} (h : J M) {v : Nat} (hk : kd v = 10 + 7) (i : Nat) (x : Int32) : J (s_i M v i x) := Jw_any (oka_scene hk) h i x
theorem ln_nets2 {v : Nat} (hk : kd v = 10 + 6) : ln (rf v 2) = 288 := kd_all (P := fun v => kd v = 10 + 6 → ln (rf v 2) = 288) (by decide +kernel) (by omega) hk
def FA (v : Nat) : Prop := v = 155 ∨ v = 156 ∨ v = 157
def FS (v : Nat) : Prop := v = 7 ∨ v = 10
theorem FA_155 : FA 155 := .inl rfl
theorem FA_156 : FA 156 := .inr (.inl rfl)
theorem FA_157 : FA 157 := .inr (.inr rfl)
theorem FS_7 : FS 7 := .inl rfl
theorem FS_10 : FS 10 := .inr rfl
theorem FA_kd {v : Nat} (h : FA v) : kd v = 1 := by rcases h with rfl | rfl | rfl <;> decide +kernel
theorem FA_ln {v : Nat} (h : FA v) : ln v = 36 := by rcases h with rfl | rfl | rfl <;> decide +kernel
theorem FA_ok {v : Nat} (h : FA v) : okany v = true := by rcases h with rfl | rfl | rfl <;> decide +kernel
theorem FS_kd {v : Nat} (h : FS v) : kd v = 1 := by rcases h with rfl | rfl <;> decide +kernel
theorem FS_ok {v : Nat} (h : FS v) : okany v = true := by rcases h with rfl | rfl <;> decide +kernel
theorem FS_ln {v : Nat} (h : FS v) : ln v ≤ 72 := by rcases h with rfl | rfl <;> decide +kernel
theorem Jw_far {M : Mem} (h : J M) {v : Nat} (hk : FA v) (i : Nat) (x : Int32) : J (s_i M v i x) := Jw_any (FA_ok hk) h i x
theorem Jw_steps {M : Mem} (h : J M) {v : Nat} (hk : FS v) (i : Nat) (x : Int32) : J (s_i M v i x) := Jw_any (FS_ok hk) h i x
theorem Jq_47 {M : Mem} (h : J M) {i : Int32} (h1 : 0 ≤ i.toInt) (h2 : i.toInt < 12) : ∃ k, M.2.2 47 i.toNatClampNeg = some k ∧ kd k = 10 + 7 := h.2.2.1.1 _ (by have e : i.toNatClampNeg = i.toInt.toNat := rfl; omega)
theorem Jq_48 {M : Mem} (h : J M) {i : Int32} (h1 : 0 ≤ i.toInt) (h2 : i.toInt < 2) : ∃ k, M.2.2 48 i.toNatClampNeg = some k ∧ kd k = 10 + 7 := h.2.2.1.2 _ (by have e : i.toNatClampNeg = i.toInt.toNat := rfl; omega)
theorem J_sq {M : Mem} (h : J M) {i a : Nat} (hk : kd a = 10 + 7) : J (s_q M 47 i (some a)) := by
  refine ⟨h.1, h.2.1, ⟨fun j hj => ?_, h.2.2.1.2⟩, h.2.2.2⟩
  by_cases e : j = i
  · refine ⟨a, ?_, hk⟩
    simp [s_q, e]
  · obtain ⟨k, e1, e2⟩ := h.2.2.1.1 j hj
    refine ⟨k, ?_, e2⟩
    simp [s_q, e, e1]
theorem sc_ne {M : Mem} {k0 k1 sp dp n a b : Nat} (h : a ≠ k1) : (s_c M k0 k1 sp dp n).1 a b = M.1 a b := by simp only [s_c, if_neg h]
theorem Jc {M : Mem} (h : J M) {k0 k1 n : Nat} {p : Int × Int} (hf : fq k1 = true) (hr : ∀ i, rng k1 i = p) (hr0 : ∀ i, rng k0 i = p) : J (s_c M k0 k1 0 0 n) := by
  obtain ⟨h3, h6, h62⟩ : k1 ≠ 3 ∧ k1 ≠ 166 ∧ k1 ≠ 162 := by
    simp only [fq, Bool.and_eq_true, bne_iff_ne] at hf
    exact hf
  refine ⟨fun a b => ?_, ?_, h.2.2.1, ?_, h.2.2.2.2.1, fun p hp => ?_⟩
  · by_cases e : a = k1
    · subst e
      rw [hr]
      simp only [s_c, va_cpy, if_true]
      split
      · have := h.1 k0 (0 + (b - 0)); rw [hr0] at this; exact this
      · have := h.1 a b; rw [hr] at this; exact this
    · simp only [s_c, if_neg e]
      exact h.1 a b
  · obtain ⟨z, hz⟩ := h.2.1
    exact ⟨z, by rw [sc_ne h3.symm, sc_ne h3.symm, hz]⟩
  · rw [sc_ne h62.symm, sc_ne h62.symm]
    exact h.2.2.2.1
  · rw [sc_ne h62.symm] at hp
    rw [sc_ne h6.symm]
    exact h.2.2.2.2.2 p hp
theorem Jc_any {M : Mem} {k0 k1 n : Nat} (hk : okany k0 = true ∧ okany k1 = true) (h : J M) : J (s_c M k0 k1 0 0 n) := Jc h (ok_fq hk.2) (rng_any hk.2) (rng_any hk.1)
theorem FS_ne6 {v : Nat} (h : FS v) : v ≠ 6 := by rcases h with rfl | rfl <;> decide
-- rules
section RL
variable {α β : Type} {P : β → Prop}
theorem c_i {c : Prop} [Decidable c] {a : Option β} (h : c) (k : ∃ r, a = some r ∧ P r) : ∃ r, (if c then a else none) = some r ∧ P r := by rw [if_pos h]; exact k
theorem z_i {c : Prop} [Decidable c] {a : Option β} (h : ¬ c) (k : ∃ r, a = some r ∧ P r) : ∃ r, (if c then none else a) = some r ∧ P r := by rw [if_neg h]; exact k
theorem if_i {c : Prop} [Decidable c] {a b : Option β} (h1 : c → ∃ r, a = some r ∧ P r) (h2 : ¬ c → ∃ r, b = some r ∧ P r) : ∃ r, (if c then a else b) = some r ∧ P r := by
  by_cases h : c
  · rw [if_pos h]; exact h1 h
  · rw [if_neg h]; exact h2 h
theorem inb_ti {i : Int32} {n : Nat} (h1 : 0 ≤ i.toInt) (h2 : i.toInt < n) : inb i n = true := by
  have e : i.toNatClampNeg = i.toInt.toNat := rfl
  have h3 : ¬ i < 0 := fun h => by have := Int32.lt_iff_toInt_lt.mp h; have h0 : (0 : Int32).toInt = 0 := rfl; omega
  have h4 : ¬ n ≤ i.toNatClampNeg := by rw [e]; omega
  simp [inb, h3, h4]
theorem inb_i {i : Int32} {n : Nat} {a : Option β} (h1 : 0 ≤ i.toInt) (h2 : i.toInt < n) (k : ∃ r, a = some r ∧ P r) : ∃ r, (if inb i n = true then a else none) = some r ∧ P r := c_i (inb_ti h1 h2) k
theorem bind_i {Q : α → Prop} {F : Option α} {f : α → Option β} (h : ∃ x, F = some x ∧ Q x) (k : ∀ x, F = some x → Q x → ∃ r, f x = some r ∧ P r) : ∃ r, Option.bind F f = some r ∧ P r := by
  obtain ⟨x, e, q⟩ := h
  obtain ⟨r, e2, q2⟩ := k x e q
  exact ⟨r, by rw [e]; exact e2, q2⟩
theorem mem_i {E : α} {f : α → Option β} (h : ∀ m, m = E → ∃ r, f m = some r ∧ P r) : ∃ r, mem_ E f = some r ∧ P r := h E rfl
end RL
def SQ {A B : Type} (Q1 : A → Prop) (Q2 : B → Prop) : A ⊕ B → Prop
  | .inl a => Q1 a
  | .inr b => Q2 b
def LPq {S X : Type} (I : S → Prop) (m : S → Nat) (Q : X → Prop) (m0 : Nat) : S ⊕ X → Prop
  | .inl s => I s ∧ m s < m0
  | .inr x => Q x
theorem iter_r {S X : Type} {f : S → Option (S ⊕ X)} (I : S → Prop) (m : S → Nat) (Q : X → Prop) (hs : ∀ s, I s → ∃ r, f s = some r ∧ LPq I m Q (m s) r) : ∀ (n : Nat) (s : S), I s → m s < n → ∃ x, iter f n s = some x ∧ Q x := by
  intro n
  induction n with
  | zero => intro s _ h; omega
  | succ n ih =>
    intro s hI hm
    obtain ⟨r, e, hr⟩ := hs s hI
    cases r with
    | inl s' =>
      obtain ⟨x, ex, hQ⟩ := ih s' hr.1 (by have := hr.2; omega)
      exact ⟨x, by simp only [iter, e, ex], hQ⟩
    | inr x => exact ⟨x, by simp only [iter, e], hr⟩
theorem lei {a b : Int32} : a ≤ b ↔ a.toInt ≤ b.toInt := Int32.le_iff_toInt_le
theorem lti {a b : Int32} : a < b ↔ a.toInt < b.toInt := Int32.lt_iff_toInt_lt
theorem eqi {a b : Int32} : a = b ↔ a.toInt = b.toInt := Int32.toInt_inj.symm
theorem nlei {a b : Int32} : ¬ a ≤ b ↔ b.toInt < a.toInt := by rw [lei]; omega
theorem nlti {a b : Int32} : ¬ a < b ↔ b.toInt ≤ a.toInt := by rw [lti]; omega
theorem neqi {a b : Int32} : ¬ a = b ↔ ¬ a.toInt = b.toInt := by rw [eqi]
theorem bm {x : Int} (h1 : -2147483648 ≤ x) (h2 : x ≤ 2147483647) : x.bmod (2 ^ 32) = x := Int.bmod_eq_of_le (by omega) (by omega)
theorem add_ti {a b : Int32} {x y : Int} (ha : a.toInt = x) (hb : b.toInt = y) (h1 : -2147483648 ≤ x + y) (h2 : x + y ≤ 2147483647) : (a + b).toInt = x + y := by
  rw [Int32.toInt_add, ha, hb]; exact bm h1 h2
theorem sub_ti {a b : Int32} {x y : Int} (ha : a.toInt = x) (hb : b.toInt = y) (h1 : -2147483648 ≤ x - y) (h2 : x - y ≤ 2147483647) : (a - b).toInt = x - y := by
  rw [Int32.toInt_sub, ha, hb]; exact bm h1 h2
theorem mul_ti {a b : Int32} {x y : Int} (ha : a.toInt = x) (hb : b.toInt = y) (h1 : -2147483648 ≤ x * y) (h2 : x * y ≤ 2147483647) : (a * b).toInt = x * y := by
  rw [Int32.toInt_mul, ha, hb]; exact bm h1 h2
theorem div_ti {a b : Int32} {x y : Int} (ha : a.toInt = x) (hb : b.toInt = y) (h1 : 0 ≤ x) (h2 : 0 < y) : (a / b).toInt = x / y := by
  have hx := i32hi a
  rw [ha] at hx
  rw [Int32.toInt_div, ha, hb, Int.tdiv_eq_ediv_of_nonneg h1]
  have h3 : 0 ≤ x / y := Int.ediv_nonneg h1 (by omega)
  have h4 : x / y ≤ x := Int.ediv_le_self _ h1
  exact bm (by omega) (by omega)
theorem div_rng {a b : Int32} (h1 : 0 ≤ a.toInt) (h2 : 0 < b.toInt) : 0 ≤ (a / b).toInt ∧ (a / b).toInt ≤ a.toInt := by
  rw [div_ti rfl rfl h1 h2]
  exact ⟨Int.ediv_nonneg h1 (by omega), Int.ediv_le_self _ h1⟩
theorem rem_ti {a b : Int32} {x y : Int} (ha : a.toInt = x) (hb : b.toInt = y) (h1 : 0 ≤ x) (h2 : 0 < y) : (a - a / b * b).toInt = x % y := by
  have hx := i32hi a
  rw [ha] at hx
  have e0 := div_ti ha hb h1 h2
  have h3 : 0 ≤ x / y := Int.ediv_nonneg h1 (by omega)
  have h4 := Int.emod_add_mul_ediv x y
  have h5 := Int.emod_nonneg x (show y ≠ 0 by omega)
  have h6 : 0 ≤ y * (x / y) := Int.mul_nonneg (by omega) h3
  have h7 : x / y * y = y * (x / y) := Int.mul_comm _ _
  have e1 : (a / b * b).toInt = x / y * y := mul_ti e0 hb (by omega) (by omega)
  rw [sub_ti ha e1 (by omega) (by omega)]
  omega
theorem rem_rng {a b : Int32} (h1 : 0 ≤ a.toInt) (h2 : 0 < b.toInt) : 0 ≤ (a - a / b * b).toInt ∧ (a - a / b * b).toInt < b.toInt ∧ (a - a / b * b).toInt ≤ a.toInt := by
  rw [rem_ti rfl rfl h1 h2]
  refine ⟨Int.emod_nonneg _ (by omega), Int.emod_lt_of_pos _ h2, ?_⟩
  have h4 := Int.emod_add_mul_ediv a.toInt b.toInt
  have h6 : 0 ≤ b.toInt * (a.toInt / b.toInt) := Int.mul_nonneg (by omega) (Int.ediv_nonneg h1 (by omega))
  omega
theorem mul_rng {a b : Int32} {x y : Int} (h1 : 0 ≤ a.toInt) (h2 : 0 ≤ b.toInt) (h3 : a.toInt ≤ x) (h4 : b.toInt ≤ y) (h5 : x * y ≤ 2147483647) : (a * b).toInt = a.toInt * b.toInt ∧ 0 ≤ (a * b).toInt ∧ (a * b).toInt ≤ x * y := by
  have h6 : 0 ≤ a.toInt * b.toInt := Int.mul_nonneg h1 h2
  have h7 : a.toInt * b.toInt ≤ x * y := Int.mul_le_mul h3 h4 h2 (by omega)
  have e := mul_ti (a := a) (b := b) rfl rfl (by omega) (by omega)
  rw [e]
  exact ⟨rfl, h6, h7⟩
theorem tn_nn {c : Int32} (h : 0 ≤ c.toInt) : c.toInt = (c.toBitVec.toNat : Int) ∧ c.toBitVec.toNat < 2147483648 := by
  have h1 : c.toInt = c.toBitVec.toInt := rfl
  have h2 := BitVec.toInt_eq_toNat_cond c.toBitVec
  have h3 := c.toBitVec.isLt
  rw [h1] at h ⊢
  rw [h2] at h ⊢
  by_cases hc : 2 * c.toBitVec.toNat < 2 ^ 32
  · rw [if_pos hc]; exact ⟨rfl, by omega⟩
  · rw [if_neg hc] at h; omega
theorem nn_tn {c : Int32} (h : c.toBitVec.toNat < 2147483648) : c.toInt = (c.toBitVec.toNat : Int) := by
  have h1 : c.toInt = c.toBitVec.toInt := rfl
  rw [h1, BitVec.toInt_eq_toNat_cond, if_pos (by omega)]
theorem and_rng {a c : Int32} (h : 0 ≤ c.toInt) : 0 ≤ (a &&& c).toInt ∧ (a &&& c).toInt ≤ c.toInt := by
  have hc := tn_nn h
  have e : (a &&& c).toBitVec.toNat = a.toBitVec.toNat &&& c.toBitVec.toNat := by rw [Int32.toBitVec_and, BitVec.toNat_and]
  have hl : a.toBitVec.toNat &&& c.toBitVec.toNat ≤ c.toBitVec.toNat := Nat.and_le_right
  have := nn_tn (c := a &&& c) (by rw [e]; omega)
  rw [this, e, hc.1]
  exact ⟨Int.natCast_nonneg _, Int.ofNat_le.mpr hl⟩
theorem ushr_ti {x s : Int32} {z N : Int} (hx : x.toInt = z) (h0 : 0 ≤ z) (hN : ((2 ^ ((s.toUInt32 &&& Int32.toUInt32 31).toBitVec % 32).toNat : Nat) : Int) = N) : (x.toUInt32 >>> (s.toUInt32 &&& Int32.toUInt32 31)).toInt32.toInt = z / N := by
  obtain ⟨h1, h2⟩ := tn_nn (c := x) (by rw [hx]; exact h0)
  have e := pk_ushr x s _ rfl
  have hl : x.toBitVec.toNat / 2 ^ ((s.toUInt32 &&& Int32.toUInt32 31).toBitVec % 32).toNat ≤ x.toBitVec.toNat := Nat.div_le_self _ _
  rw [nn_tn (by rw [e]; omega), e, ← hN, ← hx, h1]
  rfl
theorem nz_of {x : Int32} (h : 0 < x.toInt) : ¬ x = 0 := fun e => by subst e; exact absurd h (by decide)
theorem bool_of {x : Int32} (h1 : 0 ≤ x.toInt) (h2 : x.toInt ≤ 1) : x = 0 ∨ x = 1 := by
  by_cases h : x.toInt = 0
  · exact .inl (Int32.toInt_inj.mp (h.trans rfl))
  · exact .inr (Int32.toInt_inj.mp ((show x.toInt = 1 by omega).trans rfl))
theorem ofn_ti {n : Nat} (h : n ≤ 2147483647) : (Int32.ofNat n).toInt = (n : Int) := Int32.toInt_ofNat_of_lt (by omega)
theorem FU_v : FU = 1000000000 := rfl
theorem ok_0 : okany 0 = true := by decide +kernel
theorem ok_4 : okany 4 = true := by decide +kernel
theorem ok_5 : okany 5 = true := by decide +kernel
theorem ok_7 : okany 7 = true := by decide +kernel
theorem ok_8 : okany 8 = true := by decide +kernel
theorem ok_10 : okany 10 = true := by decide +kernel
theorem ok_11 : okany 11 = true := by decide +kernel
theorem ok_14 : okany 14 = true := by decide +kernel
theorem ok_15 : okany 15 = true := by decide +kernel
theorem ok_18 : okany 18 = true := by decide +kernel
theorem ok_21 : okany 21 = true := by decide +kernel
theorem ok_22 : okany 22 = true := by decide +kernel
theorem ok_25 : okany 25 = true := by decide +kernel
theorem ok_28 : okany 28 = true := by decide +kernel
theorem ok_29 : okany 29 = true := by decide +kernel
theorem ok_32 : okany 32 = true := by decide +kernel
theorem ok_33 : okany 33 = true := by decide +kernel
theorem ok_34 : okany 34 = true := by decide +kernel
theorem ok_36 : okany 36 = true := by decide +kernel
theorem ok_37 : okany 37 = true := by decide +kernel
theorem ok_38 : okany 38 = true := by decide +kernel
theorem ok_40 : okany 40 = true := by decide +kernel
theorem ok_41 : okany 41 = true := by decide +kernel
theorem ok_42 : okany 42 = true := by decide +kernel
theorem ok_43 : okany 43 = true := by decide +kernel
theorem ok_44 : okany 44 = true := by decide +kernel
theorem ok_45 : okany 45 = true := by decide +kernel
theorem ok_47 : okany 47 = true := by decide +kernel
theorem ok_48 : okany 48 = true := by decide +kernel
theorem ok_49 : okany 49 = true := by decide +kernel
theorem ok_52 : okany 52 = true := by decide +kernel
theorem ok_53 : okany 53 = true := by decide +kernel
theorem ok_56 : okany 56 = true := by decide +kernel
theorem ok_59 : okany 59 = true := by decide +kernel
theorem ok_60 : okany 60 = true := by decide +kernel
theorem ok_63 : okany 63 = true := by decide +kernel
theorem ok_66 : okany 66 = true := by decide +kernel
theorem ok_67 : okany 67 = true := by decide +kernel
theorem ok_70 : okany 70 = true := by decide +kernel
theorem ok_73 : okany 73 = true := by decide +kernel
theorem ok_74 : okany 74 = true := by decide +kernel
theorem ok_77 : okany 77 = true := by decide +kernel
theorem ok_80 : okany 80 = true := by decide +kernel
theorem ok_81 : okany 81 = true := by decide +kernel
theorem ok_84 : okany 84 = true := by decide +kernel
theorem ok_87 : okany 87 = true := by decide +kernel
theorem ok_88 : okany 88 = true := by decide +kernel
theorem ok_91 : okany 91 = true := by decide +kernel
theorem ok_94 : okany 94 = true := by decide +kernel
theorem ok_95 : okany 95 = true := by decide +kernel
theorem ok_98 : okany 98 = true := by decide +kernel
theorem ok_101 : okany 101 = true := by decide +kernel
theorem ok_102 : okany 102 = true := by decide +kernel
theorem ok_105 : okany 105 = true := by decide +kernel
theorem ok_108 : okany 108 = true := by decide +kernel
theorem ok_109 : okany 109 = true := by decide +kernel
theorem ok_112 : okany 112 = true := by decide +kernel
theorem ok_115 : okany 115 = true := by decide +kernel
theorem ok_116 : okany 116 = true := by decide +kernel
theorem ok_119 : okany 119 = true := by decide +kernel
theorem ok_122 : okany 122 = true := by decide +kernel
theorem ok_123 : okany 123 = true := by decide +kernel
theorem ok_126 : okany 126 = true := by decide +kernel
theorem ok_129 : okany 129 = true := by decide +kernel
theorem ok_130 : okany 130 = true := by decide +kernel
theorem ok_133 : okany 133 = true := by decide +kernel
theorem ok_136 : okany 136 = true := by decide +kernel
theorem ok_137 : okany 137 = true := by decide +kernel
theorem ok_140 : okany 140 = true := by decide +kernel
theorem ok_143 : okany 143 = true := by decide +kernel
theorem ok_144 : okany 144 = true := by decide +kernel
theorem ok_148 : okany 148 = true := by decide +kernel
theorem ok_149 : okany 149 = true := by decide +kernel
theorem ok_150 : okany 150 = true := by decide +kernel
theorem ok_151 : okany 151 = true := by decide +kernel
theorem ok_152 : okany 152 = true := by decide +kernel
theorem ok_153 : okany 153 = true := by decide +kernel
theorem ok_154 : okany 154 = true := by decide +kernel
theorem ok_155 : okany 155 = true := by decide +kernel
theorem ok_156 : okany 156 = true := by decide +kernel
theorem ok_157 : okany 157 = true := by decide +kernel
theorem ok_158 : okany 158 = true := by decide +kernel
theorem ok_159 : okany 159 = true := by decide +kernel
theorem ok_161 : okany 161 = true := by decide +kernel
theorem ok_164 : okany 164 = true := by decide +kernel
theorem ok_165 : okany 165 = true := by decide +kernel
theorem ok_167 : okany 167 = true := by decide +kernel
theorem ok_168 : okany 168 = true := by decide +kernel
theorem ok_169 : okany 169 = true := by decide +kernel
theorem ok_170 : okany 170 = true := by decide +kernel
theorem ok_171 : okany 171 = true := by decide +kernel
theorem ok_172 : okany 172 = true := by decide +kernel
theorem ok_175 : okany 175 = true := by decide +kernel
theorem ok_178 : okany 178 = true := by decide +kernel
theorem ok_184 : okany 184 = true := by decide +kernel
theorem ok_191 : okany 191 = true := by decide +kernel
theorem ok_192 : okany 192 = true := by decide +kernel
theorem okf_1_2 : (rng 1 2 == FUL && fk 1 2) = true := by decide +kernel
theorem okf_6_5 : (rng 6 5 == FUL && fk 6 5) = true := by decide +kernel
theorem okf_6_6 : (rng 6 6 == FUL && fk 6 6) = true := by decide +kernel
theorem okf_46_3 : (rng 46 3 == FUL && fk 46 3) = true := by decide +kernel
theorem okf_147_0 : (rng 147 0 == FUL && fk 147 0) = true := by decide +kernel
theorem okf_147_1 : (rng 147 1 == FUL && fk 147 1) = true := by decide +kernel
theorem okf_162_5 : (rng 162 5 == FUL && fk 162 5) = true := by decide +kernel
theorem okf_162_13 : (rng 162 13 == FUL && fk 162 13) = true := by decide +kernel
theorem okf_162_18 : (rng 162 18 == FUL && fk 162 18) = true := by decide +kernel
theorem okf_162_29 : (rng 162 29 == FUL && fk 162 29) = true := by decide +kernel
theorem okf_162_30 : (rng 162 30 == FUL && fk 162 30) = true := by decide +kernel
theorem okf_162_31 : (rng 162 31 == FUL && fk 162 31) = true := by decide +kernel
theorem okf_162_33 : (rng 162 33 == FUL && fk 162 33) = true := by decide +kernel
theorem okf_162_42 : (rng 162 42 == FUL && fk 162 42) = true := by decide +kernel
theorem okf_162_48 : (rng 162 48 == FUL && fk 162 48) = true := by decide +kernel
theorem vk_46 {v : Nat} (hk : kd v = 10 + 7) : v ≠ 46 := sc_all (P := fun v => v ≠ 46) (by decide +kernel) hk
theorem Jc_scene0 {M : Mem} (h : J M) {v w n : Nat} (hv : kd v = 10 + 7) (hw : kd w = 10 + 7) : J (s_c M (rf v 0) (rf w 0) 0 0 n) := Jc h (r3_scene0 hw) (rn_scene0 hw) (rn_scene0 hv)
theorem Jc_scene1 {M : Mem} (h : J M) {v w n : Nat} (hv : kd v = 10 + 7) (hw : kd w = 10 + 7) : J (s_c M (rf v 1) (rf w 1) 0 0 n) := Jc h (r3_scene1 hw) (rn_scene1 hw) (rn_scene1 hv)
theorem Jc_scene2 {M : Mem} (h : J M) {v w n : Nat} (hv : kd v = 10 + 7) (hw : kd w = 10 + 7) : J (s_c M (rf v 2) (rf w 2) 0 0 n) := Jc_any ⟨oka_scene2 hv, oka_scene2 hw⟩ h
theorem Jc_scene3 {M : Mem} (h : J M) {v w n : Nat} (hv : kd v = 10 + 7) (hw : kd w = 10 + 7) : J (s_c M (rf v 3) (rf w 3) 0 0 n) := Jc_any ⟨oka_scene3 hv, oka_scene3 hw⟩ h
theorem Jc_scene4 {M : Mem} (h : J M) {v w n : Nat} (hv : kd v = 10 + 7) (hw : kd w = 10 + 7) : J (s_c M (rf v 4) (rf w 4) 0 0 n) := Jc h (r3_scene4 hw) (rn_scene4 hw) (rn_scene4 hv)
theorem Jc_scene5 {M : Mem} (h : J M) {v w n : Nat} (hv : kd v = 10 + 7) (hw : kd w = 10 + 7) : J (s_c M (rf v 5) (rf w 5) 0 0 n) := Jc h (r3_scene5 hw) (rn_scene5 hw) (rn_scene5 hv)
