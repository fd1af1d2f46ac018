/-! bits: the lowest one -/
theorem pred_bits : ∀ (t N : Nat), N.testBit t = true → (∀ j, j < t → N.testBit j = false) → ∀ j, (N - 1).testBit j = if j < t then true else if j = t then false else N.testBit j := by
  intro t
  induction t with
  | zero =>
    intro N ht _ j
    rw [Nat.testBit_zero, decide_eq_true_eq] at ht
    cases j with
    | zero =>
      rw [if_neg (by omega), if_pos rfl, Nat.testBit_zero]
      exact decide_eq_false (by omega)
    | succ i =>
      rw [if_neg (by omega), if_neg (by omega), Nat.testBit_add_one, Nat.testBit_add_one, show (N - 1) / 2 = N / 2 by omega]
  | succ t ih =>
    intro N ht hl j
    have h0 := hl 0 (by omega)
    rw [Nat.testBit_zero, decide_eq_false_iff_not] at h0
    rw [Nat.testBit_add_one] at ht
    have pos : N / 2 ≠ 0 := by
      intro h
      rw [h, Nat.zero_testBit] at ht
      cases ht
    have hl2 : ∀ j, j < t → (N / 2).testBit j = false := fun j hj => by rw [← Nat.testBit_add_one]; exact hl (j + 1) (by omega)
    cases j with
    | zero =>
      rw [if_pos (by omega), Nat.testBit_zero]
      exact decide_eq_true (by omega)
    | succ i =>
      rw [Nat.testBit_add_one, show (N - 1) / 2 = N / 2 - 1 by omega, ih (N / 2) ht hl2 i, Nat.testBit_add_one]
      by_cases c : i < t
      · rw [if_pos c, if_pos (show i + 1 < t + 1 by omega)]
      · rw [if_neg c, if_neg (show ¬ i + 1 < t + 1 by omega)]
        by_cases g : i = t
        · rw [if_pos g, if_pos (show i + 1 = t + 1 by omega)]
        · rw [if_neg g, if_neg (show ¬ i + 1 = t + 1 by omega)]
theorem pred_bv {w : Nat} (hw : w ≠ 0) {v : BitVec w} {t : Nat} (ht : v.getLsbD t = true) (hl : ∀ j, j < t → v.getLsbD j = false) (j : Nat) : (v - 1#w).getLsbD j = if j < t then true else if j = t then false else v.getLsbD j := by
  have n0 : v.toNat ≠ 0 := by
    intro h
    have g : v.toNat.testBit t = true := ht
    rw [h, Nat.zero_testBit] at g
    cases g
  have e : (v - 1#w).toNat = v.toNat - 1 := by
    have k := v.isLt
    have p := Nat.one_lt_two_pow hw
    rw [BitVec.toNat_sub, BitVec.toNat_ofNat, Nat.mod_eq_of_lt p, show 2 ^ w - 1 + v.toNat = (v.toNat - 1) + 2 ^ w by omega, Nat.add_mod_right, Nat.mod_eq_of_lt (by omega)]
  show (v - 1#w).toNat.testBit j = _
  rw [e]
  exact pred_bits t v.toNat ht hl j
theorem bl_pop {x : Int64} {t : Nat} (ht : bl x t = true) (hl : ∀ j, j < t → bl x j = false) (d : Nat) : bl (x &&& (x - 1)) d = true ↔ (bl x d = true ∧ d ≠ t) := by
  have p : bl (x - 1) d = if d < t then true else if d = t then false else bl x d := pred_bv (w := 64) (by decide) ht hl d
  rw [bl_and, Bool.and_eq_true, p]
  constructor
  · rintro ⟨a, b⟩
    refine ⟨a, ?_⟩
    rintro rfl
    rw [if_neg (by omega), if_pos rfl] at b
    cases b
  · rintro ⟨a, b⟩
    refine ⟨a, ?_⟩
    by_cases c : d < t
    · rw [if_pos c]
    · rw [if_neg c, if_neg b]; exact a
theorem low_ex {P : Nat → Bool} : ∀ d, P d = true → ∃ t, P t = true ∧ ∀ j, j < t → P j = false := by
  intro d
  induction d using Nat.strongRecOn with
  | ind d ih =>
    intro h
    by_cases c : ∃ j, j < d ∧ P j = true
    · obtain ⟨j, hj, hp⟩ := c
      exact ih j hj hp
    · refine ⟨d, h, fun j hj => ?_⟩
      cases hp : P j with
      | false => rfl
      | true => exact absurd ⟨j, hj, hp⟩ c
def ntzX (X : Int32) : Option Int32 :=
  if 0 < X then
  if X ≤ (65536 : Int32) then j_JInteger_numberOfTrailingZeros_34 X (1 : Int32)
  else j_JInteger_numberOfTrailingZeros_34 ((X.toUInt32 >>> ((16 : Int32).toUInt32 &&& Int32.toUInt32 31)).toInt32) ((1 : Int32) + (16 : Int32))
  else some (X &&& (32 : Int32))
theorem ntzX_t : ∀ t : Fin 32, ntzX (Int32.ofBitVec (BitVec.ofNat 32 (2 ^ t.val - 1))) = some (Int32.ofNat t.val) := by decide +kernel
theorem ntz_i {v : Int32} {t : Nat} (t32 : t < 32) (ht : v.toBitVec.getLsbD t = true) (hl : ∀ j, j < t → v.toBitVec.getLsbD j = false) : f_JInteger_numberOfTrailingZeros v = some (Int32.ofNat t) := by
  have m1 : ∀ j : Fin 32, (-1 : Int32).toBitVec.getLsbD j.val = true := by decide +kernel
  have e : ((v ^^^ (-1 : Int32)) &&& (v - (1 : Int32))) = Int32.ofBitVec (BitVec.ofNat 32 (2 ^ t - 1)) := by
    refine Int32.toBitVec_inj.mp (BitVec.eq_of_getLsbD_eq ?_)
    intro j hj
    have p : (v - (1 : Int32)).toBitVec.getLsbD j = if j < t then true else if j = t then false else v.toBitVec.getLsbD j := pred_bv (w := 32) (by decide) ht hl j
    rw [Int32.toBitVec_and, Int32.toBitVec_xor, BitVec.getLsbD_and, BitVec.getLsbD_xor, m1 ⟨j, hj⟩, p]
    show _ = (BitVec.ofNat 32 (2 ^ t - 1)).getLsbD j
    rw [BitVec.getLsbD_ofNat, Nat.testBit_two_pow_sub_one]
    by_cases c : j < t
    · rw [if_pos c, hl j c, decide_eq_true c, decide_eq_true hj]; rfl
    · rw [if_neg c, decide_eq_false c, Bool.and_false]
      by_cases g : j = t
      · rw [if_pos g, Bool.and_false]
      · rw [if_neg g]; cases v.toBitVec.getLsbD j <;> rfl
  show ntzX ((v ^^^ (-1 : Int32)) &&& (v - (1 : Int32))) = _
  rw [e]
  exact ntzX_t ⟨t, t32⟩
theorem ti_ofNat {t : Nat} (h : t < 64) : (Int32.ofNat t).toInt = (t : Int) := by
  have : ∀ t : Fin 64, (Int32.ofNat t.val).toInt = (t.val : Int) := by decide +kernel
  exact this ⟨t, h⟩
theorem ntz_l {x : Int64} {y : Int32} {t : Nat} (ht : bl x t = true) (hl : ∀ j, j < t → bl x j = false) (e : f_JLong_numberOfTrailingZeros x = some y) : y.toInt = (t : Int) := by
  have t64 : t < 64 := by
    rcases Nat.lt_or_ge t 64 with h | h
    · exact h
    · rw [bl_hi h] at ht; cases ht
  have lo : ∀ j, j < 32 → x.toInt32.toBitVec.getLsbD j = bl x j := by
    intro j hj
    rw [Int64.toBitVec_toInt32, BitVec.getLsbD_signExtend, decide_eq_true hj, if_pos (by omega), Bool.true_and]
    rfl
  unfold f_JLong_numberOfTrailingZeros at e
  rcases Nat.lt_or_ge t 32 with c | c
  · have nz : ¬ x.toInt32 = 0 := by
      intro h
      have := lo t c
      rw [h, ht] at this
      have z : (0 : Int32).toBitVec.getLsbD t = false := BitVec.getLsbD_zero
      rw [z] at this; cases this
    rw [if_neg nz, ntz_i c (by rw [lo t c]; exact ht) (fun j hj => by rw [lo j (by omega)]; exact hl j hj)] at e
    have e : some (Int32.ofNat t) = some y := e
    obtain rfl := Option.some.inj e
    exact ti_ofNat t64
  · have z0 : x.toInt32 = 0 := by
      refine Int32.toBitVec_inj.mp (BitVec.eq_of_getLsbD_eq ?_)
      intro j hj
      rw [lo j hj, hl j (by omega)]
      exact BitVec.getLsbD_zero.symm
    have hi : ∀ j, j < 32 → (((x.toUInt64 >>> ((32 : Int32).toInt64.toUInt64 &&& Int64.toUInt64 63)).toInt64).toInt32).toBitVec.getLsbD j = bl x (32 + j) := by
      intro j hj
      rw [Int64.toBitVec_toInt32, BitVec.getLsbD_signExtend, decide_eq_true hj, if_pos (by omega), Bool.true_and, UInt64.toBitVec_toInt64, UInt64.toBitVec_shiftRight, BitVec.ushiftRight_eq']
      have s : (((32 : Int32).toInt64.toUInt64 &&& Int64.toUInt64 63).toBitVec % 64).toNat = 32 := by decide +kernel
      rw [s, BitVec.getLsbD_ushiftRight]
      rfl
    rw [if_pos z0, ntz_i (t := t - 32) (by omega) (by rw [hi _ (by omega), show 32 + (t - 32) = t by omega]; exact ht) (fun j hj => by rw [hi j (by omega)]; exact hl _ (by omega))] at e
    have e : some ((32 : Int32) + Int32.ofNat (t - 32)) = some y := e
    obtain rfl := Option.some.inj e
    have k32 : (32 : Int32).toInt = 32 := rfl
    rw [add_ti k32 (ti_ofNat (by omega)) (by omega) (by omega)]
    omega
