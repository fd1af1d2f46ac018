section
/-! Long.bitCount counts the bits: the end -/
def uN6 (x : Int64) : Nat := x.toBitVec.toNat
theorem uN6_lt (x : Int64) : uN6 x < 2 ^ 64 := x.toBitVec.isLt
theorem uN6_and (a b : Int64) : uN6 (a &&& b) = (uN6 a &&& uN6 b) := by
  unfold uN6
  rw [Int64.toBitVec_and, BitVec.toNat_and]
theorem uN6_add {a b : Int64} (h : uN6 a + uN6 b < 2 ^ 64) : uN6 (a + b) = uN6 a + uN6 b := by
  show (a.toBitVec + b.toBitVec).toNat = _
  rw [BitVec.toNat_add]
  exact Nat.mod_eq_of_lt h
theorem uN6_sub {a b : Int64} (h : uN6 b ≤ uN6 a) : uN6 (a - b) = uN6 a - uN6 b := by
  have l := uN6_lt a
  have l2 := uN6_lt b
  show (a.toBitVec - b.toBitVec).toNat = _
  rw [BitVec.toNat_sub]
  show (2 ^ 64 - uN6 b + uN6 a) % 2 ^ 64 = _
  rw [show 2 ^ 64 - uN6 b + uN6 a = (uN6 a - uN6 b) + 2 ^ 64 by omega, Nat.add_mod_right, Nat.mod_eq_of_lt (by omega)]
theorem uN6_shr {v : Int64} {s : Int32} {k : Nat} (hs : ((s.toInt64.toUInt64 &&& Int64.toUInt64 63).toBitVec % 64).toNat = k) : uN6 ((v.toUInt64 >>> (s.toInt64.toUInt64 &&& Int64.toUInt64 63)).toInt64) = uN6 v / 2 ^ k := by
  unfold uN6
  rw [UInt64.toBitVec_toInt64, UInt64.toBitVec_shiftRight, BitVec.ushiftRight_eq', hs, BitVec.toNat_ushiftRight, Nat.shiftRight_eq_div_pow]
  rfl
def bc1 (v : Int64) : Int64 := v - (((v.toUInt64 >>> ((1 : Int32).toInt64.toUInt64 &&& Int64.toUInt64 63)).toInt64) &&& (6148914691236517205 : Int64))
def bc2 (v : Int64) : Int64 := (v &&& (3689348814741910323 : Int64)) + (((v.toUInt64 >>> ((2 : Int32).toInt64.toUInt64 &&& Int64.toUInt64 63)).toInt64) &&& (3689348814741910323 : Int64))
def bc3 (v : Int64) : Int64 := (v + ((v.toUInt64 >>> ((4 : Int32).toInt64.toUInt64 &&& Int64.toUInt64 63)).toInt64)) &&& (1085102592571150095 : Int64)
def bcs (s : Int32) (v : Int64) : Int64 := v + ((v.toUInt64 >>> (s.toInt64.toUInt64 &&& Int64.toUInt64 63)).toInt64)
theorem bc_eq (v : Int64) : f_JLong_bitCount v = some ((bcs 32 (bcs 16 (bcs 8 (bc3 (bc2 (bc1 v)))))).toInt32 &&& (127 : Int32)) := by
  unfold f_JLong_bitCount
  generalize h1 : v - (((v.toUInt64 >>> ((1 : Int32).toInt64.toUInt64 &&& Int64.toUInt64 63)).toInt64) &&& (6148914691236517205 : Int64)) = a
  rw [show bc1 v = a from h1]
  generalize h2 : (a &&& (3689348814741910323 : Int64)) + (((a.toUInt64 >>> ((2 : Int32).toInt64.toUInt64 &&& Int64.toUInt64 63)).toInt64) &&& (3689348814741910323 : Int64)) = b
  rw [show bc2 a = b from h2]
  generalize h3 : (b + ((b.toUInt64 >>> ((4 : Int32).toInt64.toUInt64 &&& Int64.toUInt64 63)).toInt64)) &&& (1085102592571150095 : Int64) = c
  rw [show bc3 b = c from h3]
  unfold bcs
  rfl
theorem low7 (y : Int64) : (y.toInt32 &&& (127 : Int32)).toInt = ((uN6 y % 128 : Nat) : Int) := by
  have e : (y.toInt32 &&& (127 : Int32)).toBitVec.toNat = uN6 y % 128 := by
    rw [Int32.toBitVec_and, BitVec.toNat_and, Int64.toBitVec_toInt32, BitVec.signExtend_eq_setWidth_of_le _ (by decide), BitVec.toNat_setWidth]
    show (uN6 y % 2 ^ 32 &&& 127) = _
    have k : (uN6 y % 2 ^ 32) &&& (2 ^ 7 - 1) = uN6 y % 2 ^ 32 % 2 ^ 7 := Nat.and_two_pow_sub_one_eq_mod _ _
    rw [show (2 : Nat) ^ 7 - 1 = 127 from rfl] at k
    rw [k]
    omega
  show (y.toInt32 &&& (127 : Int32)).toBitVec.toInt = _
  rw [BitVec.toInt_eq_toNat_of_lt (by rw [e]; omega), e]
theorem bc1_n (v : Int64) : uN6 (bc1 v) = g1 (mk 85 8) (uN6 v) := by
  unfold bc1 g1
  have m : uN6 (6148914691236517205 : Int64) = mk 85 8 := by decide +kernel
  have s := uN6_shr (v := v) (s := 1) (k := 1) (by decide +kernel)
  have le : (uN6 v / 2 ^ 1 &&& mk 85 8) ≤ uN6 v / 2 ^ 1 := Nat.and_le_left
  have le2 : uN6 v / 2 ^ 1 ≤ uN6 v := Nat.div_le_self _ _
  rw [uN6_sub (by rw [uN6_and, s, m]; exact Nat.le_trans le le2), uN6_and, s, m]
theorem bc2_n (v : Int64) : uN6 (bc2 v) = g2 (mk 51 8) (uN6 v) ∧ g2 (mk 51 8) (uN6 v) ≤ 7378697629483820646 := by
  unfold bc2 g2
  have m : uN6 (3689348814741910323 : Int64) = 3689348814741910323 := by decide +kernel
  have mv : mk 51 8 = 3689348814741910323 := by decide +kernel
  have s := uN6_shr (v := v) (s := 2) (k := 2) (by decide +kernel)
  have l1 : (uN6 v &&& 3689348814741910323) ≤ 3689348814741910323 := Nat.and_le_right
  have l2 : (uN6 v / 4 &&& 3689348814741910323) ≤ 3689348814741910323 := Nat.and_le_right
  rw [show (2 : Nat) ^ 2 = 4 from rfl] at s
  rw [mv]
  refine ⟨?_, Nat.add_le_add l1 l2⟩
  have a1 : uN6 (v &&& (3689348814741910323 : Int64)) = (uN6 v &&& 3689348814741910323) := by rw [uN6_and, m]
  have a2 : uN6 (((v.toUInt64 >>> ((2 : Int32).toInt64.toUInt64 &&& Int64.toUInt64 63)).toInt64) &&& (3689348814741910323 : Int64)) = (uN6 v / 4 &&& 3689348814741910323) := by rw [uN6_and, s, m]
  rw [uN6_add (by rw [a1, a2]; exact Nat.lt_of_le_of_lt (Nat.add_le_add l1 l2) (by decide +kernel)), a1, a2]
theorem bc3_n (v : Int64) (h : uN6 v ≤ 7378697629483820646) : uN6 (bc3 v) = g3 (mk 15 8) (uN6 v) := by
  unfold bc3 g3
  have m : uN6 (1085102592571150095 : Int64) = mk 15 8 := by decide +kernel
  have s := uN6_shr (v := v) (s := 4) (k := 4) (by decide +kernel)
  rw [show (2 : Nat) ^ 4 = 16 from rfl] at s
  have le2 : uN6 v / 16 ≤ uN6 v := Nat.div_le_self _ _
  rw [uN6_and, uN6_add (by rw [s]; exact Nat.lt_of_le_of_lt (Nat.add_le_add h (Nat.le_trans le2 h)) (by decide +kernel)), s, m]
theorem bcs_n {v : Int64} {s : Int32} {k : Nat} (hs : ((s.toInt64.toUInt64 &&& Int64.toUInt64 63).toBitVec % 64).toNat = k) (h : uN6 v + uN6 v / 2 ^ k < 2 ^ 64) : uN6 (bcs s v) = uN6 v + uN6 v / 2 ^ k := by
  unfold bcs
  have e := uN6_shr (v := v) hs
  rw [uN6_add (by rw [e]; exact h), e]
theorem dvq {k T r : Nat} (h : r < k) : (k * T + r) / k = T := by
  rw [Nat.mul_add_div (by omega), Nat.div_eq_of_lt h, Nat.add_zero]
theorem fo1 {a n7 S u : Nat} (ha : a ≤ 8) (eS : S = 256 * n7 + a) (hu : u = S + S / 256) : u = 257 * n7 + a := by
  have q : S / 256 = n7 := by
    rw [eS]
    exact dvq (by omega)
  rw [q] at hu
  omega
theorem fo2 {a b c n5 n6 n7 u : Nat} (ha : a ≤ 8) (hb : b ≤ 8) (hc : c ≤ 8) (e7 : n7 = 256 * n6 + b) (e6 : n6 = 256 * n5 + c) (hu : u = 257 * n7 + a) : u / 65536 = n6 + n5 := by
  have e : u = 65536 * (n6 + n5) + (256 * c + 257 * b + a) := by omega
  rw [e]
  exact dvq (by omega)
theorem fo3 {a b c n5 n6 n7 w : Nat} (e7 : n7 = 256 * n6 + b) (e6 : n6 = 256 * n5 + c) (hw : w = 257 * n7 + a + (n6 + n5)) : w = 16843009 * n5 + (65793 * c + 257 * b + a) := by omega
theorem fo4 {d e f g h n2 n3 n4 n5 : Nat} (e5 : n5 = 256 * n4 + d) (e4 : n4 = 256 * n3 + e) (e3 : n3 = 256 * n2 + f) (e2 : n2 = 256 * h + g) : 16843009 * n5 = 4294967296 * (n4 + n3 + n2 + h) + (16777216 * g + 16842752 * f + 16843008 * e + 16843009 * d) := by omega
theorem fo5 {a b c d e f g h r : Nat} (ha : a ≤ 8) (hb : b ≤ 8) (hc : c ≤ 8) (hd : d ≤ 8) (he : e ≤ 8) (hf : f ≤ 8) (hg : g ≤ 8) (hr : r = (16777216 * g + 16842752 * f + 16843008 * e + 16843009 * d) + (65793 * c + 257 * b + a)) : r < 4294967296 := by
  have a1 : 16777216 * g ≤ 134217728 := by omega
  have a2 : 16842752 * f ≤ 134742016 := by omega
  have a3 : 16843008 * e ≤ 134744064 := by omega
  have a4 : 16843009 * d ≤ 134744072 := by omega
  have a5 : 65793 * c ≤ 526344 := by omega
  have a6 : 257 * b ≤ 2056 := by omega
  generalize 16777216 * g = x1 at hr a1
  generalize 16842752 * f = x2 at hr a2
  generalize 16843008 * e = x3 at hr a3
  generalize 16843009 * d = x4 at hr a4
  generalize 65793 * c = x5 at hr a5
  generalize 257 * b = x6 at hr a6
  clear hb hc hd he hf hg
  omega
theorem fo6 {a b c d e f g h n2 n3 n4 n5 n6 n7 z : Nat} (e7 : n7 = 256 * n6 + b) (e6 : n6 = 256 * n5 + c) (e5 : n5 = 256 * n4 + d) (e4 : n4 = 256 * n3 + e) (e3 : n3 = 256 * n2 + f) (e2 : n2 = 256 * h + g) (hz : z = 257 * n7 + a + (n6 + n5) + (n4 + n3 + n2 + h)) : z = 128 * (2 * (n7 + n6 + n5 + n4 + n3 + n2 + h)) + (a + b + c + d + e + f + g + h) := by
  have : z = 256 * n7 + n7 + a + n6 + n5 + n4 + n3 + n2 + h := by clear e7 e6 e5 e4 e3 e2; omega
  rw [this]
  clear this hz
  have x7 : 256 * n6 = n7 - b ∧ b ≤ n7 := by clear e6 e5 e4 e3 e2; omega
  have x6 : 256 * n5 = n6 - c ∧ c ≤ n6 := by clear e7 e5 e4 e3 e2 x7; omega
  have x5 : 256 * n4 = n5 - d ∧ d ≤ n5 := by clear e7 e6 e4 e3 e2 x7 x6; omega
  have x4 : 256 * n3 = n4 - e ∧ e ≤ n4 := by clear e7 e6 e5 e3 e2 x7 x6 x5; omega
  have x3 : 256 * n2 = n3 - f ∧ f ≤ n3 := by clear e7 e6 e5 e4 e2 x7 x6 x5 x4; omega
  have x2 : 256 * h = n2 - g ∧ g ≤ n2 := by clear e7 e6 e5 e4 e3 x7 x6 x5 x4 x3; omega
  clear e7 e6 e5 e4 e3 e2
  omega
theorem fold8 {S a b c d e f g h n2 n3 n4 n5 n6 n7 u w z : Nat} (ha : a ≤ 8) (hb : b ≤ 8) (hc : c ≤ 8) (hd : d ≤ 8) (he : e ≤ 8) (hf : f ≤ 8) (hg : g ≤ 8) (hh : h ≤ 8) (e2 : n2 = 256 * h + g) (e3 : n3 = 256 * n2 + f) (e4 : n4 = 256 * n3 + e) (e5 : n5 = 256 * n4 + d) (e6 : n6 = 256 * n5 + c) (e7 : n7 = 256 * n6 + b) (hS : S = 256 * n7 + a) (hu : u = S + S / 256) (hw : w = u + u / 65536) (hz : z = w + w / 4294967296) : z % 128 = a + b + c + d + e + f + g + h := by
  have u1 := fo1 ha hS hu
  rw [fo2 ha hb hc e7 e6 u1, u1] at hw
  have w1 := fo3 e7 e6 hw
  rw [fo4 e5 e4 e3 e2, Nat.add_assoc] at w1
  have q : w / 4294967296 = n4 + n3 + n2 + h := by
    rw [w1]
    exact dvq (fo5 ha hb hc hd he hf hg rfl (h := h))
  rw [q, hw] at hz
  rw [fo6 e7 e6 e5 e4 e3 e2 hz, Nat.mul_add_mod]
  refine Nat.mod_eq_of_lt ?_
  clear e2 e3 e4 e5 e6 e7 hS hu hw hz u1 w1 q
  omega
theorem mk_1 {N a B : Nat} (ha : a ≤ 8) (hN : N ≤ B) : 256 * N + a ≤ 256 * B + 8 := Nat.add_le_add (Nat.mul_le_mul_left 256 hN) ha
theorem mk_le {S : Nat} {a b c d e f g h : Nat} (ha : a ≤ 8) (hb : b ≤ 8) (hc : c ≤ 8) (hd : d ≤ 8) (he : e ≤ 8) (hf : f ≤ 8) (hg : g ≤ 8) (hh : h ≤ 8) (hS : S = 256 * (256 * (256 * (256 * (256 * (256 * (256 * h + g) + f) + e) + d) + c) + b) + a) : S ≤ 578721382704613384 := by
  rw [hS]
  exact mk_1 ha (mk_1 hb (mk_1 hc (mk_1 hd (mk_1 he (mk_1 hf (mk_1 hg hh))))))
theorem pc_8 (x : Nat) : ∃ a b c d e f g h : Nat, a ≤ 8 ∧ b ≤ 8 ∧ c ≤ 8 ∧ d ≤ 8 ∧ e ≤ 8 ∧ f ≤ 8 ∧ g ≤ 8 ∧ h ≤ 8 ∧ pcS 8 x = 256 * (256 * (256 * (256 * (256 * (256 * (256 * h + g) + f) + e) + d) + c) + b) + a ∧ pcC 8 x = a + b + c + d + e + f + g + h := by
  refine ⟨pcB (x % 256), pcB (x / 256 % 256), pcB (x / 256 / 256 % 256), pcB (x / 256 / 256 / 256 % 256), pcB (x / 256 / 256 / 256 / 256 % 256), pcB (x / 256 / 256 / 256 / 256 / 256 % 256), pcB (x / 256 / 256 / 256 / 256 / 256 / 256 % 256), pcB (x / 256 / 256 / 256 / 256 / 256 / 256 / 256 % 256), pcB_8 _, pcB_8 _, pcB_8 _, pcB_8 _, pcB_8 _, pcB_8 _, pcB_8 _, pcB_8 _, ?_, ?_⟩
  · rw [pcS_s, pcS_s, pcS_s, pcS_s, pcS_s, pcS_s, pcS_s, pcS_s, pcS_z, Nat.mul_zero, Nat.zero_add]
  · rw [pcC_s, pcC_s, pcC_s, pcC_s, pcC_s, pcC_s, pcC_s, pcC_s, pcC_z]
    omega
/-- Long.bitCount -/
theorem bitc {v : Int64} {x : Int32} (e : f_JLong_bitCount v = some x) : x.toInt = (((List.range 64).countP (fun d => bl v d) : Nat) : Int) := by
  rw [bc_eq] at e
  obtain rfl := Option.some.inj e
  rw [low7]
  have lt := uN6_lt v
  have n2 := bc2_n (bc1 v)
  have n3 := bc3_n (bc2 (bc1 v)) (by rw [n2.1]; exact n2.2)
  rw [n2.1, bc1_n, pc_n 8 (uN6 v) (by rw [show (256 : Nat) ^ 8 = 2 ^ 64 by decide +kernel]; exact lt)] at n3
  have c : pcC 8 (uN6 v) = (List.range 64).countP (fun d => bl v d) := pcC_n 8 (uN6 v)
  obtain ⟨b1, b2, b3, b4, b5, b6, b7, b8, h1, h2, h3, h4, h5, h6, h7, h8, hS, hC⟩ := pc_8 (uN6 v)
  have L := mk_le h1 h2 h3 h4 h5 h6 h7 h8 hS
  generalize bc3 (bc2 (bc1 v)) = y at n3 ⊢
  rw [← n3] at hS L
  have p64 : (2 : Nat) ^ 64 = 18446744073709551616 := by decide +kernel
  have e1 := bcs_n (v := y) (s := 8) (k := 8) (by decide +kernel) (by rw [p64, show (2 : Nat) ^ 8 = 256 from rfl]; omega)
  rw [show (2 : Nat) ^ 8 = 256 from rfl] at e1
  have e2 := bcs_n (v := bcs 8 y) (s := 16) (k := 16) (by decide +kernel) (by rw [p64, show (2 : Nat) ^ 16 = 65536 by decide +kernel]; omega)
  rw [show (2 : Nat) ^ 16 = 65536 by decide +kernel] at e2
  have e3 := bcs_n (v := bcs 16 (bcs 8 y)) (s := 32) (k := 32) (by decide +kernel) (by rw [p64, show (2 : Nat) ^ 32 = 4294967296 by decide +kernel]; omega)
  rw [show (2 : Nat) ^ 32 = 4294967296 by decide +kernel] at e3
  have F := fold8 h1 h2 h3 h4 h5 h6 h7 h8 rfl rfl rfl rfl rfl rfl hS e1 e2 e3
  rw [F, ← c, hC]
end
section
/-! sets of cells as two numbers; reach -/
theorem bl_18 : ∀ d : Fin 64, bl (262143 : Int64) d.val = decide (d.val < 18) := by decide +kernel
theorem t32_b {y : Int64} {j : Nat} (hj : j < 32) : bt y.toInt32 j = bl y j := by
  unfold bt bl
  rw [Int64.toBitVec_toInt32, BitVec.getLsbD_signExtend, decide_eq_true hj, if_pos (by omega), Bool.true_and]
theorem set_a {y : Int64} (j : Nat) : bt (y &&& (262143 : Int64)).toInt32 j = (decide (j < 18) && bl y j) := by
  by_cases h : j < 32
  · rw [t32_b h, bl_and, bl_18 ⟨j, by omega⟩, Bool.and_comm]
  · rw [bt_hi (by omega), decide_eq_false (by omega), Bool.false_and]
theorem set_b {y : Int64} (hy : ∀ c, bl y c = true → c < 36) (j : Nat) : bt (y >>> ((18 : Int32).toInt64 &&& 63)).toInt32 j = (decide (j < 18) && bl y (18 + j)) := by
  have k18 : (18 : Int32).toInt = ((18 : Nat) : Int) := rfl
  by_cases h : j < 32
  · rw [t32_b h, bl_sr k18 (by omega) (by omega)]
    by_cases g : j < 18
    · rw [decide_eq_true g, Bool.true_and]
    · rw [decide_eq_false g, Bool.false_and]
      cases hb : bl y (18 + j) with
      | false => rfl
      | true => have := hy _ hb; omega
  · rw [bt_hi (by omega), decide_eq_false (by omega), Bool.false_and]
/-- two numbers that say of which cells P holds -/
def LW (P : Nat → Bool) (q : Nat) (a b : Int32) : Prop := (∀ j, bt a j = (decide (j < 18) && decide (j < q) && P j)) ∧ (∀ j, bt b j = (decide (j < 18) && decide (18 + j < q) && P (18 + j)))
theorem LW_set {P : Nat → Bool} {y : Int64} {a b : Int32} (hy : ∀ c, bl y c = true ↔ (c < 36 ∧ P c = true)) (h : LW P 36 a b) : (y &&& (262143 : Int64)).toInt32 = a ∧ (y >>> ((18 : Int32).toInt64 &&& 63)).toInt32 = b := by
  have e : ∀ c, c < 36 → bl y c = P c := fun c hc => by
    cases hp : P c with
    | true => exact (hy c).mpr ⟨hc, hp⟩
    | false =>
      cases hb : bl y c with
      | false => rfl
      | true => have := ((hy c).mp hb).2; rw [hp] at this; cases this
  constructor
  · refine bt_ext (fun j _ => ?_)
    rw [set_a, h.1]
    by_cases g : j < 18
    · rw [e j (by omega), decide_eq_true g, decide_eq_true (show j < 36 by omega)]; rfl
    · rw [decide_eq_false g]; rfl
  · refine bt_ext (fun j _ => ?_)
    rw [set_b (fun c hc => ((hy c).mp hc).1), h.2]
    by_cases g : j < 18
    · rw [e (18 + j) (by omega), decide_eq_true g, decide_eq_true (show 18 + j < 36 by omega)]; rfl
    · rw [decide_eq_false g]; rfl
theorem LW_0 {P : Nat → Bool} : LW P 0 (0 : Int32) (0 : Int32) := ⟨fun j => by rw [bt_0, decide_eq_false (show ¬ j < 0 by omega), Bool.and_false, Bool.false_and], fun j => by rw [bt_0, decide_eq_false (show ¬ 18 + j < 0 by omega), Bool.and_false, Bool.false_and]⟩
theorem LW_n {P : Nat → Bool} {q : Nat} {a b : Int32} (h : LW P q a b) (hp : P q = false) : LW P (q + 1) a b := by
  have key : ∀ j, (decide (j < q) && P j) = (decide (j < q + 1) && P j) := fun j => by
    by_cases g : j = q
    · subst g; rw [hp, Bool.and_false, Bool.and_false]
    · by_cases k : j < q
      · rw [decide_eq_true k, decide_eq_true (show j < q + 1 by omega)]
      · rw [decide_eq_false k, decide_eq_false (show ¬ j < q + 1 by omega)]
  exact ⟨fun j => by rw [h.1, Bool.and_assoc, Bool.and_assoc, key], fun j => by rw [h.2, Bool.and_assoc, Bool.and_assoc, key]⟩
theorem LW_a {P : Nat → Bool} {q : Nat} {a b v : Int32} (h : LW P q a b) (hp : P q = true) (q18 : q < 18) (hv : v.toInt = (q : Int)) : LW P (q + 1) (a ||| ((1 : Int32) <<< (v &&& 31))) b := by
  refine ⟨fun j => ?_, fun j => ?_⟩
  · rw [bt_b1 a hv (by omega), h.1]
    by_cases g : j = q
    · subst g; rw [hp, decide_eq_true q18, decide_eq_true (show j < j + 1 by omega), decide_eq_true (rfl : j = j)]; simp
    · rw [decide_eq_false g, Bool.or_false]
      by_cases k : j < q
      · rw [decide_eq_true k, decide_eq_true (show j < q + 1 by omega)]
      · rw [decide_eq_false k, decide_eq_false (show ¬ j < q + 1 by omega)]
  · rw [h.2, decide_eq_false (show ¬ 18 + j < q by omega), decide_eq_false (show ¬ 18 + j < q + 1 by omega)]
theorem LW_b {P : Nat → Bool} {q : Nat} {a b v : Int32} (h : LW P q a b) (hp : P q = true) (q18 : 18 ≤ q) (q36 : q < 36) (hv : v.toInt = ((q - 18 : Nat) : Int)) : LW P (q + 1) a (b ||| ((1 : Int32) <<< (v &&& 31))) := by
  refine ⟨fun j => ?_, fun j => ?_⟩
  · rw [h.1]
    by_cases g : j < 18
    · rw [decide_eq_true g, decide_eq_true (show j < q by omega), decide_eq_true (show j < q + 1 by omega)]
    · rw [decide_eq_false g, Bool.false_and, Bool.false_and, Bool.false_and, Bool.false_and]
  · rw [bt_b1 b hv (by omega), h.2]
    by_cases g : 18 + j = q
    · have : j = q - 18 := by omega
      rw [g, hp, decide_eq_true this, decide_eq_true (show j < 18 by omega), decide_eq_true (show q < q + 1 by omega)]; simp
    · rw [decide_eq_false (show ¬ j = q - 18 by omega), Bool.or_false]
      by_cases k : 18 + j < q
      · rw [decide_eq_true k, decide_eq_true (show 18 + j < q + 1 by omega)]
      · rw [decide_eq_false k, decide_eq_false (show ¬ 18 + j < q + 1 by omega)]
/-- c / 18 and c % 18 -/
theorem lw_ix {v : Int32} {q : Nat} (hv : v.toInt = (q : Int)) (q36 : q < 36) : (q < 18 → (v / (18 : Int32)).toNatClampNeg = 0 ∧ (v - v / (18 : Int32) * (18 : Int32)).toInt = (q : Int)) ∧ (18 ≤ q → (v / (18 : Int32)).toNatClampNeg = 1 ∧ (v - v / (18 : Int32) * (18 : Int32)).toInt = ((q - 18 : Nat) : Int)) := by
  have k18 : (18 : Int32).toInt = 18 := rfl
  have d := div_ti hv k18 (by omega) (by omega)
  constructor
  · intro h
    have d0 : (v / (18 : Int32)).toInt = ((0 : Nat) : Int) := by rw [d]; omega
    refine ⟨q_nat d0, ?_⟩
    rw [sub_ti hv (mul_ti d0 k18 (by omega) (by omega)) (by omega) (by omega)]; omega
  · intro h
    have d0 : (v / (18 : Int32)).toInt = ((1 : Nat) : Int) := by rw [d]; omega
    refine ⟨q_nat d0, ?_⟩
    rw [sub_ti hv (mul_ti d0 k18 (by omega) (by omega)) (by omega) (by omega)]; omega
def farB (N : Mem) (l c : Nat) : Bool := decide ((N.1 177 (36 * l + c)).toInt < 1000000)
theorem low_r {v1 : Int32} {l : Nat} {N x : Mem} (h1 : v1.toInt = (l : Int)) (l2 : l < 2) (h0 : N.1 178 0 = 0 ∧ N.1 178 1 = 0) (e : iter (lb_Mod_putCells_16 v1) FU ((0 : Int32), N) = some x) : LW (farB N l) 36 (x.1 178 0) (x.1 178 1) ∧ (∀ kx i, kx ≠ 178 → x.1 kx i = N.1 kx i) ∧ x.2 = N.2 := by
  have k36 : (36 : Int32).toInt = 36 := rfl
  have km : (1000000 : Int32).toInt = 1000000 := rfl
  refine it_r (I := fun s : Int32 × Mem => ∃ q : Nat, q ≤ 36 ∧ s.1.toInt = (q : Int) ∧ LW (farB N l) q (s.2.1 178 0) (s.2.1 178 1) ∧ (∀ kx i, kx ≠ 178 → s.2.1 kx i = N.1 kx i) ∧ s.2.2 = N.2) (Q := fun x : Mem => LW (farB N l) 36 (x.1 178 0) (x.1 178 1) ∧ (∀ kx i, kx ≠ 178 → x.1 kx i = N.1 kx i) ∧ x.2 = N.2) ?_ e ⟨0, by omega, rfl, by rw [h0.1, h0.2]; exact LW_0, fun _ _ _ => rfl, rfl⟩
  rintro ⟨i, T⟩ r ⟨q, q36, hq, h, hf, h2⟩ e
  dsimp only at hq h hf h2
  unfold lb_Mod_putCells_16 at e
  dsimp only at e
  rcases io e with ⟨g, e⟩ | ⟨g, e⟩
  · have := q_le g
    obtain rfl := Option.some.inj e
    have : q = 36 := by omega
    subst this
    exact ⟨h, hf, h2⟩
  have g1 := q_ng g
  have i1 : (i + (1 : Int32)).toInt = ((q + 1 : Nat) : Int) := add_ti hq o1 (by omega) (by omega)
  obtain ⟨x3, e3, e⟩ := bo e
  obtain ⟨_, e⟩ := io_n e
  have p3 := place_c h1 hq l2 (by omega) e3
  rw [q_nat p3, hf 177 _ (by omega)] at e
  rcases io e with ⟨g, e⟩ | ⟨g, e⟩
  · have gg := q_le g
    obtain rfl := Option.some.inj e
    exact ⟨q + 1, by omega, i1, LW_n h (decide_eq_false (by omega)), hf, h2⟩
  have gg := q_ng g
  have pq : farB N l q = true := decide_eq_true (by omega)
  obtain ⟨_, e⟩ := io_n e
  obtain ⟨_, e⟩ := io_n e
  obtain ⟨M4, m4, e⟩ := mo e
  obtain rfl := Option.some.inj e
  obtain ⟨ia, ib⟩ := lw_ix hq (show q < 36 by omega)
  refine ⟨q + 1, by omega, i1, ?_, fun kx j hk => by rw [m4, si_ne (by omega)]; exact hf kx j hk, by rw [m4, si_2]; exact h2⟩
  rcases Nat.lt_or_ge q 18 with c | c
  · obtain ⟨i0, iv⟩ := ia c
    rw [i0] at m4
    rw [m4, si_eq, si_ne (by omega)]
    exact LW_a h pq c iv
  · obtain ⟨i0, iv⟩ := ib c
    rw [i0] at m4
    rw [m4, si_eq, si_ne (by omega)]
    exact LW_b h pq c (by omega) iv
/-- a set is told: the class's two numbers and the reference's -/
theorem sets_2 {X x R S r : Mem} {k : Nat} {y : Int64} {P : Nat → Bool} (hy : ∀ c, bl y c = true ↔ (c < 36 ∧ P c = true)) (ex : f_Top_noteSet y X = some x) (h : LW P 36 (R.1 178 0) (R.1 178 1)) (h1 : f_Mod_put (R.1 178 0) R = some S) (h2 : f_Mod_put (S.1 178 1) S = some r) : (RRn k X R → k ≤ 8 → RRn (k + 2) x r) ∧ (∀ kx i, kx ≠ 161 → ¬ (kx = 0 ∧ i = 15) → x.1 kx i = X.1 kx i) ∧ x.2 = X.2 ∧ (∀ kx i, kx ≠ 168 → ¬ (kx = 162 ∧ i = 12) → r.1 kx i = R.1 kx i) := by
  obtain ⟨a, b⟩ := LW_set hy h
  unfold f_Top_noteSet at ex
  obtain ⟨x1, e1, ex⟩ := bo ex
  obtain ⟨x2, e2, ex⟩ := bo ex
  obtain rfl := Option.some.inj ex
  have p1 := put_i h1
  have p2 := put_i h2
  have n1 := note_i e1
  have n2 := note_i e2
  refine ⟨fun rr k8 => ?_, fun kx i u w => by rw [n2.1 kx i u w]; exact n1.1 kx i u w, by rw [n2.2, n1.2], fun kx i u w => by rw [p2 kx i u w]; exact p1 kx i u w⟩
  exact RR_n (RR_n rr (by omega) a e1 h1) (by omega) (by rw [b, p1 178 1 (by omega) (by omega)]) e2 h2
theorem putC_r {v1 : Int32} {l : Nat} {N r : Mem} (h1 : v1.toInt = (l : Int)) (l2 : l < 2) (e : f_Mod_putCells v1 N = some r) : ∃ T S : Mem, LW (farB N l) 36 (T.1 178 0) (T.1 178 1) ∧ (∀ kx i, kx ≠ 178 → T.1 kx i = N.1 kx i) ∧ T.2 = N.2 ∧ f_Mod_put (T.1 178 0) T = some S ∧ f_Mod_put (S.1 178 1) S = some r := by
  unfold f_Mod_putCells at e
  rw [show (0 : Int32).toNatClampNeg = 0 from rfl, show (1 : Int32).toNatClampNeg = 1 from rfl] at e
  obtain ⟨M1, m1, e⟩ := mo e
  obtain ⟨M2, m2, e⟩ := mo e
  obtain ⟨x7, e7, e⟩ := bo e
  obtain ⟨x8, e8, e⟩ := bo e
  obtain ⟨x9, e9, e⟩ := bo e
  obtain rfl := Option.some.inj e
  have f2 : ∀ kx i, kx ≠ 178 → M2.1 kx i = N.1 kx i := fun kx i h => by rw [m2, si_ne (by omega), m1, si_ne (by omega)]
  obtain ⟨a, b, c⟩ := low_r h1 l2 ⟨by rw [m2, si_ne (by omega), m1, si_eq], by rw [m2, si_eq]⟩ e7
  have fb : farB M2 l = farB N l := by funext j; unfold farB; rw [f2 177 _ (by omega)]
  rw [fb] at a
  exact ⟨x7, x8, a, fun kx i h => by rw [b kx i h]; exact f2 kx i h, by rw [c, m2, si_2, m1, si_2], e8, e9⟩
theorem reached_i {v1 : Int32} {l : Nat} {N : Mem} {x : Int32} (h1 : v1.toInt = (l : Int)) (l2 : l < 2) (e : f_Mod_reached v1 N = some x) : x.toInt = (((List.range 36).countP (farB N l) : Nat) : Int) := by
  have k36 : (36 : Int32).toInt = 36 := rfl
  have km : (1000000 : Int32).toInt = 1000000 := rfl
  unfold f_Mod_reached at e
  obtain ⟨x4, e4, e⟩ := bo e
  obtain rfl := Option.some.inj e
  refine it_r (I := fun s : Int32 × Int32 => ∃ k : Nat, k ≤ 36 ∧ s.2.toInt = (k : Int) ∧ s.1.toInt = (((List.range k).countP (farB N l) : Nat) : Int)) (Q := fun x : Int32 => x.toInt = (((List.range 36).countP (farB N l) : Nat) : Int)) ?_ e4 ⟨0, by omega, rfl, rfl⟩
  rintro ⟨cn, i⟩ r ⟨k, k36', hk, h⟩ e
  dsimp only at hk h
  unfold lb_Mod_reached_4 at e
  dsimp only at e
  rcases io e with ⟨g, e⟩ | ⟨g, e⟩
  · have := q_le g
    obtain rfl := Option.some.inj e
    have : k = 36 := by omega
    subst this
    exact h
  have g1 := q_ng g
  have i1 : (i + (1 : Int32)).toInt = ((k + 1 : Nat) : Int) := add_ti hk o1 (by omega) (by omega)
  have le := cnt_le (farB N l) k
  obtain ⟨x1, e1, e⟩ := bo e
  obtain ⟨_, e⟩ := io_n e
  rw [q_nat (place_c h1 hk l2 (by omega) e1)] at e
  rcases io e with ⟨g, e⟩ | ⟨g, e⟩
  · have gg := q_le g
    obtain rfl := Option.some.inj e
    have n : farB N l k = false := decide_eq_false (by omega)
    refine ⟨k + 1, by omega, i1, ?_⟩
    rw [cnt_s, n, if_neg (by decide)]
    show (cn + (0 : Int32)).toInt = _
    rw [add_ti h o0 (by omega) (by omega)]; omega
  · have gg := q_ng g
    obtain rfl := Option.some.inj e
    have n : farB N l k = true := decide_eq_true (by omega)
    refine ⟨k + 1, by omega, i1, ?_⟩
    rw [cnt_s, n, if_pos rfl]
    show (cn + (1 : Int32)).toInt = _
    rw [add_ti h o1 (by omega) (by omega)]; omega
theorem cnt_64 {P Q : Nat → Bool} (h : ∀ c, c < 64 → (P c = true ↔ (c < 36 ∧ Q c = true))) : (List.range 64).countP P = (List.range 36).countP Q := by
  have e : ∀ c, c < 36 → P c = Q c := fun c hc => by
    cases hq : Q c with
    | true => exact (h c (by omega)).mpr ⟨hc, hq⟩
    | false =>
      cases hp : P c with
      | false => rfl
      | true => have := ((h c (by omega)).mp hp).2; rw [hq] at this; cases this
  rw [show 64 = 36 + 28 by rfl, cnt_add]
  have z : (List.range 28).countP (fun i => P (36 + i)) = 0 := by
    rw [List.countP_eq_zero]
    intro i hi
    have := List.mem_range.mp hi
    intro w
    have := ((h (36 + i) (by omega)).mp w).1
    omega
  rw [z, Nat.add_zero]
  refine List.countP_congr (fun c hc => ?_)
  rw [e c (List.mem_range.mp hc)]
theorem reach_q {X R : Mem} {n : Nat} {v1 v2 : Int32} {x r : Int32 × Mem} (hJ : J X) (za : ZA X R n) (ex : f_Top_reach v1 v2 X = some x) (er : f_Mod_reach v1 v2 R = some r) : x.1 = r.1 ∧ (RR X R → RR x.2 r.2) := by
  have z0 := o0
  have z1 := o1
  unfold f_Mod_reach at er
  obtain ⟨M1, m1, er⟩ := mo er
  obtain ⟨zaM, fqM⟩ := ZA_M1 za m1
  obtain ⟨n8, jM, ⟨zg, zc, zl⟩, zs, zv, zw⟩ := zaM.1
  have wh := awh jM
  unfold f_Top_reach at ex
  obtain ⟨y2, ey2, er⟩ := bo er
  have hin := some_of (sp_in v1 0 1) ey2
  rw [o0, o1] at hin
  have out : y2 = 0 → some ((-1 : Int32), X) = some x → x.1 = r.1 ∧ (RR X R → RR x.2 r.2) := by
    intro a ex
    rw [a, if_pos rfl] at er
    obtain rfl := Option.some.inj ex
    obtain rfl := Option.some.inj er
    exact ⟨rfl, FQ2_RR fqM⟩
  rcases io ex with ⟨g, ex⟩ | ⟨g, ex⟩
  · have g := q_lt g
    rcases hin with ⟨a, b⟩ | ⟨a, b⟩
    · omega
    exact out a ex
  have g1 := q_nl g
  rcases io ex with ⟨g, ex⟩ | ⟨g, ex⟩
  · have g := q_lt g
    rcases hin with ⟨a, b⟩ | ⟨a, b⟩
    · omega
    exact out a ex
  have g2 := q_nl g
  rcases hin with ⟨a, _⟩ | ⟨_, b⟩
  rotate_left
  · exact absurd ⟨by omega, by omega⟩ b
  rw [a, if_neg (by decide)] at er
  obtain ⟨l, hl⟩ := ti_ofn (v := v1) (by omega)
  have l2 : l < 2 := by omega
  obtain ⟨x1, ex1, ex⟩ := bo ex
  obtain ⟨y3, ey3, er⟩ := bo er
  have hx := has_j zg jM ex1
  have hy := some_of (sp_isCell jM v2) ey3
  rcases hx with ⟨a, b1, b2⟩ | ⟨a, b⟩
  rotate_left
  · rcases hy with ⟨c, d⟩ | ⟨c, _⟩
    · exact absurd ⟨d.1, d.2.2⟩ b
    rw [a, if_pos rfl] at ex
    rw [c, if_pos rfl] at er
    obtain rfl := Option.some.inj ex
    obtain rfl := Option.some.inj er
    exact ⟨rfl, FQ2_RR fqM⟩
  rcases hy with ⟨c, _⟩ | ⟨_, d⟩
  rotate_left
  · exact absurd ⟨b1, b2⟩ d
  rw [a, if_neg (by decide)] at ex
  rw [c, if_neg (by decide)] at er
  obtain ⟨f, hf⟩ := ti_ofn b1
  obtain ⟨x2, ex2, ex⟩ := bo ex
  obtain ⟨y4, ey4, er⟩ := bo er
  have ho := holdsC zg jM ex2
  have hr := some_of (fs_isOf jM v1 v2) ey4
  rcases ho with ⟨a, _, _, on⟩ | ⟨a, nn⟩
  rotate_left
  · rcases hr with ⟨c, on⟩ | ⟨c, _⟩
    · exact absurd ⟨by omega, by omega, on⟩ nn
    rw [a, if_pos rfl] at ex
    rw [c, if_pos rfl] at er
    obtain rfl := Option.some.inj ex
    obtain rfl := Option.some.inj er
    exact ⟨rfl, FQ2_RR fqM⟩
  rcases hr with ⟨c, _⟩ | ⟨_, nn⟩
  rotate_left
  · exact absurd on nn
  rw [a, if_neg (by decide)] at ex
  rw [c, if_neg (by decide)] at er
  rw [hl, hf] at on
  obtain ⟨y, ey, ex⟩ := bo ex
  obtain ⟨X4, e4, ex⟩ := bo ex
  obtain ⟨X5, e5, ex⟩ := bo ex
  obtain ⟨x6, e6, ex⟩ := bo ex
  obtain rfl := Option.some.inj ex
  obtain ⟨p5, ep5, er⟩ := bo er
  obtain ⟨R6, er6, er⟩ := bo er
  obtain ⟨M7, m7, er⟩ := mo er
  obtain ⟨R8, er8, er⟩ := bo er
  obtain ⟨x9, er9, er⟩ := bo er
  obtain rfl := Option.some.inj er
  obtain ⟨F1, F2, F3⟩ := flood_2 hJ jM zv zw hl l2 hf (by omega) on (place_c hl hf l2 (by omega) ep5) ey er6
  have f7 : ∀ kx i, ¬ (kx = 162 ∧ i = 12) → M7.1 kx i = R6.1 kx i := fun kx i h => by rw [m7, si_ne h]
  obtain ⟨T, S, t1, t2, _, t4, t5⟩ := putC_r hl l2 er8
  have fb7 : farB M7 l = farB R6 l := by funext j; unfold farB; rw [f7 177 _ (by omega)]
  have hyb : ∀ c, bl y c = true ↔ (c < 36 ∧ farB M7 l c = true) := fun c => by
    rw [fb7, F1 c]
    unfold farB
    rw [decide_eq_true_eq]
  obtain ⟨s1, s2, _, s4⟩ := sets_2 (k := 0) hyb e5 t1 t4 t5
  have R0 := RR_0 e4 m7
  refine ⟨?_, fun _ => RRn_r (k := 2) (by omega) (s1 ⟨R0.1, ?_, fun i hi => by omega⟩ (by omega))⟩
  · have B := bitc e6
    have C := reached_i hl l2 er9
    have fb8 : farB R8 l = farB M7 l := by funext j; unfold farB; rw [s4 177 _ (by omega) (by omega), t2 177 _ (by omega)]
    rw [fb8] at C
    refine Int32.toInt_inj.mp ?_
    show x6.toInt = x9.toInt
    rw [B, C, cnt_64 (fun c _ => hyb c)]
  · rw [t2 162 12 (by omega)]; exact R0.2.1
end
section
/-! cell: what stands at a cell, the ways out of it -/
theorem cnt_put {P P' : Nat → Bool} {c : Nat} : ∀ {n : Nat}, c < n → (∀ d, d < n → d ≠ c → P d = P' d) → P' c = false → P c = true → (List.range n).countP P = (List.range n).countP P' + 1 := by
  intro n
  induction n with
  | zero => intro h; omega
  | succ n ih =>
    intro hc h h0 h1
    rw [cnt_s, cnt_s]
    by_cases q : c = n
    · subst q
      have e : (List.range c).countP P = (List.range c).countP P' := List.countP_congr (fun i hi => by rw [h i (by have := List.mem_range.mp hi; omega) (by have := List.mem_range.mp hi; omega)])
      rw [e, if_pos h1, if_neg (by rw [h0]; decide)]
    · rw [ih (by omega) (fun d hd => h d (by omega)) h0 h1, h n (by omega) (fun w => q w.symm)]
      omega
theorem cnt_rel {rel : Nat → Nat → Prop} {n : Nat} (h1 : ∀ d s s', rel d s → rel d s' → s < 4 → s' < 4 → s = s') (h2 : ∀ d d' s, s < 4 → rel d s → rel d' s → d = d') (h3 : ∀ d s, s < 4 → rel d s → d < n) {W : Nat → Bool} (hW : ∀ s, W s = true ↔ ∃ d, rel d s) : ∀ m, m ≤ 4 → ∀ P : Nat → Bool, (∀ d, d < n → (P d = true ↔ ∃ s, s < m ∧ rel d s)) → (List.range n).countP P = (List.range m).countP W := by
  classical
  intro m
  induction m with
  | zero =>
    intro _ P hP
    rw [List.countP_eq_zero.mpr (fun d hd w => by obtain ⟨s, hs, _⟩ := (hP d (List.mem_range.mp hd)).mp w; omega)]
    rfl
  | succ m ih =>
    intro hm P hP
    rw [cnt_s, ← ih (by omega) (fun d => decide (∃ s, s < m ∧ rel d s)) (fun d _ => decide_eq_true_iff)]
    by_cases w : ∃ d, rel d m
    · rw [if_pos ((hW m).mpr w)]
      obtain ⟨d0, hd0⟩ := w
      refine cnt_put (c := d0) (h3 d0 m (by omega) hd0) (fun d hd hn => ?_) ?_ ?_
      · refine Bool.eq_iff_iff.mpr ?_
        rw [hP d hd, decide_eq_true_iff]
        constructor
        · rintro ⟨s, hs, r⟩
          by_cases q : s = m
          · subst q; exact absurd (h2 d d0 s (by omega) r hd0) hn
          · exact ⟨s, by omega, r⟩
        · rintro ⟨s, hs, r⟩; exact ⟨s, by omega, r⟩
      · refine decide_eq_false ?_
        rintro ⟨s, hs, r⟩
        have := h1 d0 s m r hd0 (by omega) (by omega)
        omega
      · exact (hP d0 (h3 d0 m (by omega) hd0)).mpr ⟨m, by omega, hd0⟩
    · rw [if_neg (fun h => w ((hW m).mp h)), Nat.add_zero]
      refine List.countP_congr (fun d hd => ?_)
      rw [hP d (List.mem_range.mp hd), decide_eq_true_iff]
      constructor
      · rintro ⟨s, hs, r⟩
        by_cases q : s = m
        · subst q; exact absurd ⟨d, r⟩ w
        · exact ⟨s, by omega, r⟩
      · rintro ⟨s, hs, r⟩; exact ⟨s, by omega, r⟩
def nbT : Bool := (List.range 6).all fun w => (List.range 6).all fun h => (List.range 36).all fun c => !(decide ((c : Int) < ((w : Int) + 1) * ((h : Int) + 1))) ||
  ((List.range 4).all fun s => (List.range 4).all fun r => (r == s) || (bes (w + 1) (h + 1) c s == -1) || (!(bes (w + 1) (h + 1) c s == bes (w + 1) (h + 1) c r) && !(bes (w + 1) (h + 1) c s == bb (w + 1) (h + 1) c r)))
theorem nbT_t : nbT = true := by decide +kernel
theorem nbs_i {w h c s r : Int} (hw : 1 ≤ w ∧ w ≤ 6) (hh : 1 ≤ h ∧ h ≤ 6) (hc : 0 ≤ c) (hc2 : c < w * h) (hs : 0 ≤ s ∧ s ≤ 3) (hr : 0 ≤ r ∧ r ≤ 3) (hb : bes w h c s ≠ -1) (q : bes w h c s = bes w h c r ∨ bes w h c s = bb w h c r) : s = r := by
  obtain ⟨w', h', c', s', lw, lh, lc, ls, rfl, rfl, rfl, rfl⟩ := rngs hw hh hc hc2 hs
  obtain ⟨r', rfl⟩ : ∃ r' : Nat, r = (r' : Int) := ⟨r.toNat, by omega⟩
  have k := List.all_eq_true.mp (List.all_eq_true.mp (List.all_eq_true.mp nbT_t w' (List.mem_range.mpr lw)) h' (List.mem_range.mpr lh)) c' (List.mem_range.mpr lc)
  rw [decide_eq_true hc2, Bool.not_true, Bool.false_or] at k
  have k := List.all_eq_true.mp (List.all_eq_true.mp k s' (List.mem_range.mpr ls)) r' (List.mem_range.mpr (by omega))
  rw [Bool.or_eq_true, Bool.or_eq_true] at k
  rcases k with (k | k) | k
  · have : r' = s' := by simpa using k
    rw [this]
  · exact absurd (by simpa using k) hb
  · simp only [Bool.and_eq_true, Bool.not_eq_true', beq_eq_false_iff_ne] at k
    rcases q with q | q
    · exact absurd q k.1
    · exact absurd q k.2
def nbr (R : Mem) (l c d s : Nat) : Prop := (lk R (onA R) l c s ∧ bes (xw R) (xh R) c s = (d : Int)) ∨ (l = 1 ∧ bb (xw R) (xh R) c s = (d : Int) ∧ plk R 163 c d)
theorem plk_o1 {R : Mem} {n : Nat} (zv : ZV R (R.1 163) n) {a b : Int} (h : plk R 163 a b) : onN R 1 a := by
  obtain ⟨j, hj, h⟩ := h
  obtain ⟨h1, h2, _⟩ := zv.2.2.2 j hj
  rcases h with ⟨e, _⟩ | ⟨_, e⟩
  · rw [e] at h1; exact h1
  · rw [e] at h2; exact h2
theorem nbr_on {R : Mem} {n : Nat} (jR : J R) (zv : ZV R (R.1 163) n) {l c d s : Nat} (h : nbr R l c d s) : onN R l c := by
  rcases h with ⟨h, _⟩ | ⟨h, _, p⟩
  · exact (onA_i jR).mp h.1
  · subst h; exact plk_o1 zv p
theorem lk_bes {R : Mem} (jR : J R) {l c s : Nat} (c0 : onN R l c) (s4 : s < 4) (h : lk R (onA R) l c s) : onN R l (bes (xw R) (xh R) c s) := by
  have bi := bes_in (aw jR) (ah jR) (c := c) (by omega) c0.2.1 (s := s) (by omega)
  have := (onA_i jR).mp h.2.2
  rw [show (((bes (xw R) (xh R) c s).toNat : Nat) : Int) = bes (xw R) (xh R) c s by have := h.2.1; omega] at this
  exact this
theorem nbr_inj {R : Mem} {n : Nat} (jR : J R) (zv : ZV R (R.1 163) n) {l c d s r : Nat} (h : nbr R l c d s) (g : nbr R l c d r) (hs : s < 4) (hr : r < 4) : s = r := by
  have on := nbr_on jR zv h
  have hw := aw jR
  have hh := ah jR
  have A : ∀ {s r : Nat}, s < 4 → r < 4 → bes (xw R) (xh R) c s = (d : Int) → (bes (xw R) (xh R) c r = (d : Int) ∨ bb (xw R) (xh R) c r = (d : Int)) → s = r := by
    intro s r hs hr e q
    have := nbs_i hw hh (c := c) (by omega) on.2.1 (s := s) (r := r) (by omega) (by omega) (by rw [e]; omega) (by rw [e]; exact q.elim (fun q => .inl q.symm) (fun q => .inr q.symm))
    omega
  rcases h with ⟨_, h⟩ | ⟨_, h, _⟩
  · rcases g with ⟨_, g⟩ | ⟨_, g, _⟩
    · exact A hs hr h (.inl g)
    · exact A hs hr h (.inr g)
  · rcases g with ⟨_, g⟩ | ⟨_, g, _⟩
    · exact (A hr hs g (.inr h)).symm
    · have := (bb_i hw hh (c := c) (by omega) on.2.1 (s := s) (by omega) (by rw [h]; omega)).2.2 r (by omega) (by omega) (by rw [g, h])
      omega
theorem nbr_fun {R : Mem} {n : Nat} (jR : J R) (zv : ZV R (R.1 163) n) {l c d d' s : Nat} (hs : s < 4) (h : nbr R l c d s) (g : nbr R l c d' s) : d = d' := by
  have on := nbr_on jR zv h
  have B : ∀ {d : Nat}, lk R (onA R) l c s → l = 1 → bb (xw R) (xh R) c s = (d : Int) → plk R 163 c d → False := by
    intro d a b e p
    have q := lk_bes jR on hs a
    subst b
    exact mid_no jR zv on hs (by rw [e]; omega) (by rw [e]; exact p) q
  rcases h with ⟨a, h⟩ | ⟨a, h, p⟩
  · rcases g with ⟨b, g⟩ | ⟨b, g, q⟩
    · omega
    · exact (B a b g q).elim
  · rcases g with ⟨b, g⟩ | ⟨b, g, q⟩
    · exact (B b a h p).elim
    · omega
theorem nbr_lt {R : Mem} {n : Nat} (jR : J R) (zv : ZV R (R.1 163) n) {l c d s : Nat} (hs : s < 4) (h : nbr R l c d s) : d < 36 := by
  have on := nbr_on jR zv h
  have wh := awh jR
  rcases h with ⟨_, h⟩ | ⟨_, _, p⟩
  · have bi := bes_in (aw jR) (ah jR) (c := c) (by omega) on.2.1 (s := s) (by omega)
    omega
  · have := (plk_o1 zv (plk_sym p)).2.1
    omega
theorem nbr_go {R : Mem} {n : Nat} (jR : J R) (zv : ZV R (R.1 163) n) {l c s : Nat} {p sI y : Int} (hp : p = 36 * (l : Int) + c) (hs : sI = (s : Int)) (l2 : l < 2) (c36 : c < 36) (on : onN R l c) (s4 : s < 4) (g : goR R 163 p sI y) : (∃ d, nbr R l c d s) ↔ y ≠ -1 := by
  have hw := aw jR
  have hh := ah jR
  have pm : p % 36 = (c : Int) := by omega
  have pd : p / 36 = (l : Int) := by omega
  rcases g with ⟨g, _⟩ | ⟨_, g⟩
  · omega
  rw [pm, pd, hs] at g
  have bi := bes_in hw hh (c := c) (by omega) on.2.1 (s := s) (by omega)
  have noL : ¬ onN R l (bes (xw R) (xh R) c s) → ¬ lk R (onA R) l c s := fun g2 h => g2 (lk_bes jR on s4 h)
  rcases g with ⟨g1, g2⟩ | ⟨g1, g2, g3⟩ | ⟨g1, g2, g3, g4⟩ | ⟨g1, g2, g3, g4, g5, g6⟩ | ⟨g1, g2, g3, g4, g5⟩
  · refine ⟨?_, fun h => absurd g2 h⟩
    rintro ⟨d, ⟨h, _⟩ | ⟨_, h, _⟩⟩
    · exact absurd g1 h.2.1
    · unfold bb at h; rw [if_pos g1] at h; omega
  · refine ⟨fun _ => by omega, fun _ => ⟨(bes (xw R) (xh R) c s).toNat, .inl ⟨⟨(onA_i jR).mpr on, g1, (onA_i jR).mpr ?_⟩, by omega⟩⟩⟩
    rw [show (((bes (xw R) (xh R) c s).toNat : Nat) : Int) = bes (xw R) (xh R) c s by omega]; exact g2
  · refine ⟨?_, fun h => absurd g4 h⟩
    rintro ⟨d, ⟨h, _⟩ | ⟨h, _⟩⟩
    · exact (noL g2 h).elim
    · omega
  · have b2 : bb (xw R) (xh R) c s = bes (xw R) (xh R) (bes (xw R) (xh R) c s) s := by unfold bb; rw [if_neg g1]
    have rb := bes_in hw hh (c := bes (xw R) (xh R) c s) (by omega) (by omega) (s := s) (by omega)
    refine ⟨fun _ => by omega, fun _ => ⟨(bb (xw R) (xh R) c s).toNat, .inr ⟨by omega, by omega, ?_⟩⟩⟩
    rw [show (((bb (xw R) (xh R) c s).toNat : Nat) : Int) = bb (xw R) (xh R) c s by omega, b2]; exact g5
  · refine ⟨?_, fun h => absurd g5 h⟩
    rintro ⟨d, ⟨h, _⟩ | ⟨_, h, q⟩⟩
    · exact (noL g2 h).elim
    · have b2 : bb (xw R) (xh R) c s = bes (xw R) (xh R) (bes (xw R) (xh R) c s) s := by unfold bb; rw [if_neg g1]
      rw [b2] at h
      exact (g4 ⟨by omega, by rw [h]; exact q⟩).elim
end
section
/-! cell: the ways out, and the answer -/
theorem ways_r {R : Mem} {n : Nat} (jR : J R) (zv : ZV R (R.1 163) n) {lv cv x : Int32} {l c : Nat} (hl : lv.toInt = (l : Int)) (hc : cv.toInt = (c : Int)) (l2 : l < 2) (c36 : c < 36) (on : onN R l c) {W : Nat → Bool} (hW : ∀ s, W s = true ↔ ∃ d, nbr R l c d s) (e : iter (lb_Mod_ways_16 lv cv R) FU ((0 : Int32), (0 : Int32)) = some x) : x.toInt = (((List.range 4).countP W : Nat) : Int) := by
  have z36 : (36 : Int32).toInt = 36 := rfl
  have z4 := o4
  refine it_r (I := fun s : Int32 × Int32 => ∃ i : Nat, i ≤ 4 ∧ s.2.toInt = (i : Int) ∧ s.1.toInt = (((List.range i).countP W : Nat) : Int)) (Q := fun x : Int32 => x.toInt = (((List.range 4).countP W : Nat) : Int)) ?_ e ⟨0, by omega, rfl, rfl⟩
  rintro ⟨u, k⟩ r ⟨i, li, hi, hu⟩ e
  unfold lb_Mod_ways_16 at e
  dsimp only at hi hu e
  rcases io e with ⟨g, e⟩ | ⟨g, e⟩
  · have := q_le g
    obtain rfl := Option.some.inj e
    have : i = 4 := by omega
    subst this; exact hu
  have g1 := q_ng g
  obtain ⟨pv, ep, e⟩ := bo e
  unfold f_Mod_placeOf at ep
  obtain rfl := Option.some.inj ep
  obtain ⟨y3, e3, e⟩ := bo e
  have m1 : ((36 : Int32) * lv).toInt = 36 * (l : Int) := mul_ti z36 hl (by omega) (by omega)
  have hp : ((36 : Int32) * lv + cv).toInt = 36 * (l : Int) + c := add_ti m1 hc (by omega) (by omega)
  have b1 : (k + (1 : Int32)).toInt = ((i + 1 : Nat) : Int) := add_ti hi o1 (by omega) (by omega)
  have w := nbr_go jR zv hp hi l2 c36 on (by omega) (some_of (fs_go jR 163 (.inl rfl) _ k (by omega)) e3).1
  have cl := cnt_le W i
  rcases io e with ⟨g, e⟩ | ⟨g, e⟩
  · have gg := q_eq g
    obtain rfl := Option.some.inj e
    refine ⟨i + 1, by omega, b1, ?_⟩
    show (u + (0 : Int32)).toInt = _
    rw [Int32.add_zero, cnt_s, if_neg (fun h => w.mp ((hW i).mp h) gg)]
    exact hu
  · have gg := q_ne g
    obtain rfl := Option.some.inj e
    refine ⟨i + 1, by omega, b1, ?_⟩
    show (u + (1 : Int32)).toInt = _
    rw [cnt_s, if_pos ((hW i).mpr (w.mpr gg)), add_ti hu o1 (by omega) (by omega)]
    omega
theorem ways_q {X R : Mem} {n : Nat} (jR : J R) (zv : ZV R (R.1 163) n) (zw : ZW X R 163) {lv cv x y : Int32} {l c i : Nat} (hl : lv.toInt = (l : Int)) (hc : cv.toInt = (c : Int)) (l2 : l < 2) (c36 : c < 36) (hi : i = l * 36 + c) (ex : f_JLong_bitCount (X.2.1 34 i) = some x) (er : f_Mod_ways lv cv R = some y) : x = y := by
  subst hi
  have B := bitc ex
  have N := zw.2.2 l c l2 c36
  have nn : ∀ d, d < 64 → (bl (X.2.1 34 (l * 36 + c)) d = true ↔ ∃ s, s < 4 ∧ nbr R l c d s) := by
    intro d _
    refine (N d).trans ?_
    constructor
    · rintro (⟨s, h, a, b⟩ | ⟨h, s, h4, a, b⟩)
      · exact ⟨s, h, .inl ⟨a, b⟩⟩
      · exact ⟨s, h4, .inr ⟨h, a, b⟩⟩
    · rintro ⟨s, h4, ⟨a, b⟩ | ⟨h, a, b⟩⟩
      · exact .inl ⟨s, h4, a, b⟩
      · exact .inr ⟨h, s, h4, a, b⟩
  refine Int32.toInt_inj.mp ?_
  rw [B]
  unfold f_Mod_ways at er
  obtain ⟨x1, e1, er⟩ := bo er
  have h1 := some_of (fs_isOf jR lv cv) e1
  rw [hl, hc] at h1
  rcases h1 with ⟨h1, on⟩ | ⟨h1, on⟩
  · rw [h1, if_neg (by decide)] at er
    obtain ⟨x6, e6, er⟩ := bo er
    obtain rfl := Option.some.inj er
    obtain ⟨W, hW⟩ : ∃ W : Nat → Bool, ∀ s, W s = true ↔ ∃ d, nbr R l c d s := by
      classical
      exact ⟨fun s => decide (∃ d, nbr R l c d s), fun s => decide_eq_true_iff⟩
    rw [ways_r jR zv hl hc l2 c36 on hW e6, cnt_rel (rel := fun d s => nbr R l c d s) (n := 64) (fun d s s' h g hs hr => nbr_inj jR zv h g hs hr) (fun d d' s hs h g => nbr_fun jR zv hs h g) (fun d s hs h => by have := nbr_lt jR zv hs h; omega) hW 4 (by omega) _ nn]
  · rw [h1, if_pos rfl] at er
    obtain rfl := Option.some.inj er
    rw [List.countP_eq_zero.mpr (fun d hd w => by obtain ⟨s, _, h⟩ := (nn d (List.mem_range.mp hd)).mp w; exact on (nbr_on jR zv h))]
    rfl
theorem pl_r {R : Mem} {m : Nat} {c x : Int32} (hm : (R.1 163 92).toInt = (m : Int)) (m6 : m ≤ 6) (e : iter (lb_Mod_cell_88 c R) FU ((0 : Int32), (0 : Int32)) = some x) : ∀ d, bt x d = true ↔ d < m ∧ (R.1 163 (80 + 2 * d) = c ∨ R.1 163 (81 + 2 * d) = c) := by
  have z2 : (2 : Int32).toInt = 2 := rfl
  have z80 : (80 : Int32).toInt = 80 := rfl
  refine it_r (I := fun s : Int32 × Int32 => ∃ p : Nat, p ≤ m ∧ s.2.toInt = (p : Int) ∧ ∀ d, bt s.1 d = true ↔ d < p ∧ (R.1 163 (80 + 2 * d) = c ∨ R.1 163 (81 + 2 * d) = c)) (Q := fun x : Int32 => ∀ d, bt x d = true ↔ d < m ∧ (R.1 163 (80 + 2 * d) = c ∨ R.1 163 (81 + 2 * d) = c)) ?_ e ⟨0, by omega, rfl, fun d => ⟨fun h => absurd h (by rw [bt_0]; decide), fun h => absurd h.1 (by omega)⟩⟩
  rintro ⟨v, k⟩ r ⟨p, lp, hp, h⟩ e
  unfold lb_Mod_cell_88 at e
  dsimp only at hp h e
  have q92 : (92 : Int32).toNatClampNeg = 92 := rfl
  rw [q92] at e
  rcases io e with ⟨g, e⟩ | ⟨g, e⟩
  · have := q_le g
    obtain rfl := Option.some.inj e
    have : p = m := by omega
    subst this; exact h
  have g1 := q_ng g
  have i1 : ((80 : Int32) + (2 : Int32) * k).toInt = ((80 + 2 * p : Nat) : Int) := by rw [add_ti z80 (mul_ti z2 hp (by omega) (by omega)) (by omega) (by omega)]; omega
  have i2 : (((80 : Int32) + (2 : Int32) * k) + (1 : Int32)).toInt = ((81 + 2 * p : Nat) : Int) := by rw [add_ti i1 o1 (by omega) (by omega)]; omega
  obtain ⟨_, e⟩ := io_n e
  rw [q_nat i1, q_nat i2] at e
  have nx : (k + (1 : Int32)).toInt = ((p + 1 : Nat) : Int) := add_ti hp o1 (by omega) (by omega)
  have yes : (R.1 163 (80 + 2 * p) = c ∨ R.1 163 (81 + 2 * p) = c) → ∀ d, bt (v ||| ((1 : Int32) <<< (k &&& 31))) d = true ↔ d < p + 1 ∧ (R.1 163 (80 + 2 * d) = c ∨ R.1 163 (81 + 2 * d) = c) := by
    intro hc d
    rw [bt_b1 _ hp (by omega), Bool.or_eq_true, decide_eq_true_iff, h d]
    constructor
    · rintro (⟨a, b⟩ | rfl)
      · exact ⟨by omega, b⟩
      · exact ⟨by omega, hc⟩
    · rintro ⟨a, b⟩
      by_cases q : d = p
      · exact .inr q
      · exact .inl ⟨by omega, b⟩
  rcases io e with ⟨g, e⟩ | ⟨g, e⟩
  · obtain rfl := Option.some.inj e
    exact ⟨p + 1, by omega, nx, yes (.inl g)⟩
  obtain ⟨_, e⟩ := io_n e
  rcases io e with ⟨g2, e⟩ | ⟨g2, e⟩
  · obtain rfl := Option.some.inj e
    exact ⟨p + 1, by omega, nx, yes (.inr g2)⟩
  · obtain rfl := Option.some.inj e
    refine ⟨p + 1, by omega, nx, fun d => ?_⟩
    show bt (v ||| (0 : Int32)) d = true ↔ _
    rw [Int32.or_zero, h d]
    constructor
    · rintro ⟨a, b⟩; exact ⟨by omega, b⟩
    · rintro ⟨a, b⟩
      by_cases q : d = p
      · subst q; rcases b with b | b
        · exact absurd b g
        · exact absurd b g2
      · exact ⟨by omega, b⟩
theorem stand_q {X R : Mem} {n c l : Nat} (n8 : n ≤ 8) (zc : ZC X R n) (zs : ZS (scn X 11) (R.1 163) n) {a lv lc pv x y : Int32} (ha : a.toInt = (c : Int)) (c36 : c < 36) (hlc : lc.toInt = (l : Int)) (l2 : l < 2) (ep : f_Mod_placeOf lv a = some pv) (hlv : lv.toInt = (l : Int)) (ex : f_Scene_standing 11 lc a (X.1 6 4) X = some x) (er : f_Mod_onPlace 163 pv R = some y) : x = y := by
  have z36 : (36 : Int32).toInt = 36 := rfl
  unfold f_Mod_placeOf at ep
  obtain rfl := Option.some.inj ep
  have m1 : ((36 : Int32) * lv).toInt = 36 * (l : Int) := mul_ti z36 hlv (by omega) (by omega)
  have hp : ((36 : Int32) * lv + a).toInt = 36 * (l : Int) + c := add_ti m1 ha (by omega) (by omega)
  have S := standing_i (n := n) (by rw [zc.2.1]; exact zc.1) n8 ex
  have O := onPlace_i (n := n) zc.1 n8 er
  refine bt_ext fun d _ => ?_
  rw [S d, O d]
  refine decide_eq_decide.mpr ?_
  constructor
  · rintro ⟨h1, h2, h3⟩
    have z : (R.1 163 d).toInt = (X.1 12 d).toInt + 36 * (X.1 13 d).toInt := (zs.1 d h1).1
    have h2' : X.1 12 d = a := h2
    have h3' : X.1 13 d = lc := h3
    rw [h2', h3'] at z
    exact ⟨h1, Int32.toInt_inj.mp (by omega)⟩
  · rintro ⟨h1, h2⟩
    have z : (R.1 163 d).toInt = (X.1 12 d).toInt + 36 * (X.1 13 d).toInt ∧ 0 ≤ (X.1 12 d).toInt ∧ (X.1 12 d).toInt ≤ 35 ∧ 0 ≤ (X.1 13 d).toInt ∧ (X.1 13 d).toInt ≤ 1 ∧ R.1 163 (8 + d) = X.1 14 d := zs.1 d h1
    rw [h2] at z
    refine ⟨h1, ?_, ?_⟩
    · show X.1 12 d = a
      exact Int32.toInt_inj.mp (by omega)
    · show X.1 13 d = lc
      exact Int32.toInt_inj.mp (by omega)
theorem cell_q {X R : Mem} {n : Nat} {a b : Int32} {y : Option Int32} {r : Int32 × Mem} (za : ZA X R n) (ey : f_Top_cell a b X = some y) (er : f_Mod_cell a b R = some r) : LwA y r := by
  have z0 := o0
  have z1 := o1
  have z2 := o2
  have z3 := o3
  have z4 := o4
  have z5 : (5 : Int32).toInt = 5 := rfl
  have z36 : (36 : Int32).toInt = 36 := rfl
  unfold f_Mod_cell at er
  obtain ⟨M1, m1, er⟩ := mo er
  obtain ⟨zaM, fqM⟩ := ZA_M1 za m1
  have h13 : M1.1 162 13 = 0 := by rw [m1, si_eq]
  obtain ⟨n8, jM, ⟨zg, zc, zl⟩, zs, zv, zw⟩ := zaM.1
  have wh := awh jM
  obtain ⟨x2, e2, er⟩ := bo er
  have hy : (x2 = 1 ∧ 0 ≤ a.toInt ∧ a.toInt < xw M1 * xh M1) ∨ (x2 = 0 ∧ ¬ (0 ≤ a.toInt ∧ a.toInt < xw M1 * xh M1)) := isCell_i jM e2
  unfold f_Top_cell at ey
  obtain ⟨x1, ex1, ey⟩ := bo ey
  have hx := has_j zg jM ex1
  have lost : j_Mod_cell_22 M1 = some r → r.2.1 162 13 = 1 := by
    intro e
    unfold j_Mod_cell_22 f_Mod_lost at e
    obtain ⟨x3, e3, e⟩ := bo e
    obtain ⟨M2, m2, e3⟩ := mo e3
    obtain rfl := Option.some.inj e3
    obtain rfl := Option.some.inj e
    show M2.1 162 13 = 1
    rw [m2, si_eq]
  rcases hx with ⟨hx1, hx2⟩ | ⟨hx1, hx2⟩
  rotate_left
  · rcases hy with ⟨_, c⟩ | ⟨c, _⟩
    · exact absurd c hx2
    rw [hx1, if_pos rfl] at ey
    rw [c, if_pos rfl] at er
    obtain rfl := Option.some.inj ey
    exact .inl ⟨rfl, lost er⟩
  rcases hy with ⟨c, _⟩ | ⟨_, c⟩
  rotate_left
  · exact absurd hx2 c
  rw [hx1, if_neg (by decide)] at ey
  rw [c, if_neg (by decide)] at er
  obtain ⟨p, hp⟩ := ti_ofn hx2.1
  have p36 : p < 36 := by omega
  obtain ⟨y4, ey4, er⟩ := bo er
  have h4 := some_of (sp_in b 0 5) ey4
  rw [o0, z5] at h4
  rcases io ey with ⟨g, ey⟩ | ⟨g, ey⟩
  · have gg := q_eq g
    rcases h4 with ⟨h, _⟩ | ⟨_, h⟩
    rotate_left
    · omega
    rw [h, if_neg (by decide), if_pos g] at er
    obtain ⟨_, er⟩ := io_n er
    obtain rfl := Option.some.inj er
    obtain ⟨_, ey⟩ := io_n ey
    obtain rfl := Option.some.inj ey
    refine .inr ⟨?_, h13⟩
    show some (X.1 4 a.toNatClampNeg) = some (M1.1 164 a.toNatClampNeg)
    rw [q_nat hp, zg.2.2.1 p p36]
  have g0 := q_ne g
  rcases io ey with ⟨g, ey⟩ | ⟨g, ey⟩
  · have gg := q_eq g
    rcases h4 with ⟨h, _⟩ | ⟨_, h⟩
    rotate_left
    · omega
    rw [h, if_neg (by decide), if_neg (fun h => by have := q_eq h; omega), if_pos g] at er
    obtain ⟨x7, e7, er⟩ := bo er
    obtain ⟨x8, e8, er⟩ := bo er
    obtain rfl := Option.some.inj er
    obtain ⟨x3, e3, ey⟩ := bo ey
    obtain rfl := Option.some.inj ey
    exact .inr ⟨by rw [stand_q n8 zc zs hp p36 (l := 0) rfl (by omega) e7 (by rw [sub_ti rfl z1 (by omega) (by omega)]; omega) e3 e8], h13⟩
  have g1 := q_ne g
  rcases io ey with ⟨g, ey⟩ | ⟨g, ey⟩
  · have gg := q_eq g
    rcases h4 with ⟨h, _⟩ | ⟨_, h⟩
    rotate_left
    · omega
    rw [h, if_neg (by decide), if_neg (fun h => by have := q_eq h; omega), if_neg (fun h => by have := q_eq h; omega), if_pos g] at er
    obtain ⟨x7, e7, er⟩ := bo er
    obtain ⟨x8, e8, er⟩ := bo er
    obtain rfl := Option.some.inj er
    obtain ⟨x3, e3, ey⟩ := bo ey
    obtain rfl := Option.some.inj ey
    exact .inr ⟨by rw [stand_q n8 zc zs hp p36 (l := 1) rfl (by omega) e7 (by rw [sub_ti rfl z1 (by omega) (by omega)]; omega) e3 e8], h13⟩
  have g2 := q_ne g
  rcases io ey with ⟨g, ey⟩ | ⟨g, ey⟩
  · have gg := q_eq g
    rcases h4 with ⟨h, _⟩ | ⟨_, h⟩
    rotate_left
    · omega
    rw [h, if_neg (by decide), if_neg (fun h => by have := q_eq h; omega), if_neg (fun h => by have := q_eq h; omega), if_neg (fun h => by have := q_eq h; omega), if_pos g] at er
    obtain ⟨x8, e8, er⟩ := bo er
    obtain rfl := Option.some.inj er
    obtain ⟨x3, e3, ey⟩ := bo ey
    obtain rfl := Option.some.inj ey
    obtain ⟨m, hm⟩ := ti_ofn zv.2.1.1
    have m6 : m ≤ 6 := by have := zv.2.1.2; omega
    have lai : X.1 11 6 = M1.1 163 92 := zs.2.2.2.1
    have A := planksAt_i (by rw [lai]; exact hm) m6 e3
    have B := pl_r hm m6 e8
    refine .inr ⟨?_, h13⟩
    have : x3 = x8 := by
      refine bt_ext fun d _ => Bool.eq_iff_iff.mpr ?_
      rw [A d, B d]
      refine and_congr_right fun hd => ?_
      have z : X.1 16 d = M1.1 163 (80 + 2 * d) ∧ X.1 17 d = M1.1 163 (81 + 2 * d) := zs.2.2.2.2.1 d (by omega) (by omega)
      rw [z.1, z.2]
    rw [this]
  have g3 := q_ne g
  rcases io ey with ⟨g, ey⟩ | ⟨g, ey⟩
  · have gg := q_eq g
    rcases h4 with ⟨h, _⟩ | ⟨_, h⟩
    rotate_left
    · omega
    rw [h, if_neg (by decide), if_neg (fun h => by have := q_eq h; omega), if_neg (fun h => by have := q_eq h; omega), if_neg (fun h => by have := q_eq h; omega), if_neg (fun h => by have := q_eq h; omega)] at er
    obtain ⟨x5, e5, er⟩ := bo er
    obtain rfl := Option.some.inj er
    obtain ⟨_, ey⟩ := io_n ey
    obtain ⟨x9, e9, ey⟩ := bo ey
    obtain rfl := Option.some.inj ey
    rw [q_nat hp] at e9
    exact .inr ⟨by rw [ways_q jM zv zw (l := 0) (by rw [sub_ti rfl z4 (by omega) (by omega)]; omega) hp (by omega) p36 (by omega) e9 e5], h13⟩
  have g4 := q_ne g
  rcases io ey with ⟨g, ey⟩ | ⟨g, ey⟩
  · have gg := q_eq g
    rcases h4 with ⟨h, _⟩ | ⟨_, h⟩
    rotate_left
    · omega
    rw [h, if_neg (by decide), if_neg (fun h => by have := q_eq h; omega), if_neg (fun h => by have := q_eq h; omega), if_neg (fun h => by have := q_eq h; omega), if_neg (fun h => by have := q_eq h; omega)] at er
    obtain ⟨x5, e5, er⟩ := bo er
    obtain rfl := Option.some.inj er
    obtain ⟨_, ey⟩ := io_n ey
    obtain ⟨x9, e9, ey⟩ := bo ey
    obtain rfl := Option.some.inj ey
    have i9 : ((36 : Int32) + a).toInt = ((36 + p : Nat) : Int) := by rw [add_ti z36 hp (by omega) (by omega)]; omega
    rw [q_nat i9] at e9
    exact .inr ⟨by rw [ways_q jM zv zw (l := 1) (by rw [sub_ti rfl z4 (by omega) (by omega)]; omega) hp (by omega) p36 (by omega) e9 e5], h13⟩
  have g5 := q_ne g
  rcases h4 with ⟨_, h⟩ | ⟨h, _⟩
  · omega
  rw [h, if_pos rfl] at er
  obtain rfl := Option.some.inj ey
  exact .inl ⟨rfl, lost er⟩
theorem lwe_cell {M : Mem} {n : Nat} {a b : Int32} {x r : Int32 × Mem} (za : ZA M x.2 n) (ex : f_Lw_cell a b M = some x) (er : f_Mod_cell a b x.2 = some r) (fr : r.2.2.1 192 0 = x.2.2.1 192 0) : LwE x.1 x.2 r := by
  unfold f_Lw_cell at ex
  obtain ⟨y, ey, ex⟩ := bo ex
  obtain rfl := Option.some.inj ex
  exact lwe_of (cell_q za ey er) fr
end
