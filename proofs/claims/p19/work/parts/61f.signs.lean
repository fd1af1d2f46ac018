/-! signs on both sides -/
theorem o3 : (3 : Int32).toInt = 3 := rfl
theorem o2 : (2 : Int32).toInt = 2 := rfl
theorem o0 : (0 : Int32).toInt = 0 := rfl
theorem ti_c (x : Int32) : x.toInt = if 2 * x.toBitVec.toNat < 4294967296 then (x.toBitVec.toNat : Int) else (x.toBitVec.toNat : Int) - 4294967296 := by
  show x.toBitVec.toInt = _
  rw [BitVec.toInt_eq_toNat_cond]
  rfl
theorem and255 (x : Int32) : (x &&& (255 : Int32)).toInt = x.toInt % 256 := by
  have e : (x &&& (255 : Int32)).toBitVec.toNat = x.toBitVec.toNat % 256 := by
    rw [Int32.toBitVec_and, BitVec.toNat_and]
    exact Nat.and_two_pow_sub_one_eq_mod _ 8
  rw [ti_c, e, ti_c x]
  have := x.toBitVec.isLt
  split <;> split <;> omega
theorem narb (x : Int32) : vp_nar .byte x = x.toInt8.toInt32 := rfl
theorem byte256 (x : Int32) : (vp_nar .byte x.toInt8.toInt32).toInt % 256 = x.toInt % 256 ∧ -128 ≤ (vp_nar .byte x.toInt8.toInt32).toInt ∧ (vp_nar .byte x.toInt8.toInt32).toInt ≤ 127 := by
  rw [narb, Int8.toInt_toInt32, Int32.toInt_toInt8, Int8.toInt_toInt32, Int32.toInt_toInt8]
  have h1 := @Int.le_bmod ((x.toInt.bmod (2 ^ 8))) (2 ^ 8) (by decide)
  have h2 := @Int.bmod_lt ((x.toInt.bmod (2 ^ 8))) (2 ^ 8) (by decide)
  refine ⟨?_, by omega, by omega⟩
  rw [show ((256 : Int)) = ((2 ^ 8 : Nat) : Int) from rfl, Int.bmod_emod, Int.bmod_emod]
def sh (j : Nat) : Int32 := ((24 : Int32) - ((8 : Int32) * Int32.ofNat j)) &&& 31
theorem sh_r : ∀ j : Fin 4, (((8 : Int32) * ((3 : Int32) - Int32.ofNat j.val)) &&& 31) = sh j.val := by decide +kernel
theorem ofn_eq {v : Int32} {j : Nat} (h : v.toInt = (j : Int)) (hj : j ≤ 2147483647) : v = Int32.ofNat j := Int32.toInt_inj.mp (by rw [h, ofn_ti hj])
theorem sg_c {v : Int32} {M : Mem} {t : Nat} (ht : (M.1 1 1).toInt = (t : Int)) (h76 : t ≤ 76) {x} (e : iter (lb_Signs_add_20 v) FU ((0 : Int32), M) = some x) : ∀ i, x.1 2 i = if t ≤ i ∧ i < t + 4 then (v >>> sh (i - t)) &&& (255 : Int32) else M.1 2 i := by
  refine it_r (I := fun s : Int32 × Mem => ∃ j : Nat, s.1.toInt = (j : Int) ∧ j ≤ 4 ∧ (s.2.1 1 1).toInt = ((t + j : Nat) : Int) ∧ ∀ i, s.2.1 2 i = if t ≤ i ∧ i < t + j then (v >>> sh (i - t)) &&& (255 : Int32) else M.1 2 i) (Q := fun x => ∀ i, x.1 2 i = if t ≤ i ∧ i < t + 4 then (v >>> sh (i - t)) &&& (255 : Int32) else M.1 2 i) ?_ e ⟨0, rfl, by omega, ht, fun i => by rw [if_neg (by omega)]⟩
  rintro ⟨k, N⟩ r ⟨j, hj, lj, hl, hk⟩ e
  unfold lb_Signs_add_20 at e
  dsimp only at e hj hl hk
  have z4 : (4 : Int32).toInt = 4 := rfl
  rcases io e with ⟨c, e⟩ | ⟨c, e⟩
  · have := q_le c
    obtain rfl := Option.some.inj e
    have : j = 4 := by omega
    subst this
    exact hk
  have c1 := q_ng c
  obtain ⟨_, e⟩ := io_n e
  obtain ⟨M1, e1, e⟩ := mo e
  obtain ⟨M2, e2, e⟩ := mo e
  obtain rfl := Option.some.inj e
  have h11 : (M1.1 1 1).toInt = ((t + j : Nat) : Int) := by rw [e1, si_ne (by omega)]; exact hl
  refine ⟨j + 1, add_ti hj o1 (by omega) (by omega), by omega, ?_, fun i => ?_⟩
  · show (M2.1 1 1).toInt = _
    rw [e2, si_eq]; exact add_ti h11 o1 (by omega) (by omega)
  · show M2.1 2 i = _
    rw [e2, si_ne (by omega), e1, q_nat hl]
    by_cases c : i = t + j
    · subst c
      rw [si_eq, if_pos (by omega), ofn_eq hj (by omega)]
      rw [show t + j - t = j by omega]; rfl
    · rw [si_ne (by omega), hk i]
      by_cases d : t ≤ i ∧ i < t + j
      · rw [if_pos d, if_pos (by omega)]
      · rw [if_neg d, if_neg (by omega)]
theorem sg_r {v : Int32} {M : Mem} {t : Nat} (ht : (M.1 162 10).toInt = (t : Int)) (h76 : t ≤ 76) {x} (e : iter (lb_Mod_sign_20 v) FU ((3 : Int32), M) = some x) : ∀ i, x.1 167 i = if t ≤ i ∧ i < t + 4 then vp_nar .byte ((v >>> sh (i - t)).toInt8.toInt32) else M.1 167 i := by
  refine it_r (I := fun s : Int32 × Mem => ∃ j : Nat, s.1 = (3 : Int32) - Int32.ofNat j ∧ j ≤ 4 ∧ (s.2.1 162 10).toInt = ((t + j : Nat) : Int) ∧ ∀ i, s.2.1 167 i = if t ≤ i ∧ i < t + j then vp_nar .byte ((v >>> sh (i - t)).toInt8.toInt32) else M.1 167 i) (Q := fun x => ∀ i, x.1 167 i = if t ≤ i ∧ i < t + 4 then vp_nar .byte ((v >>> sh (i - t)).toInt8.toInt32) else M.1 167 i) ?_ e ⟨0, rfl, by omega, ht, fun i => by rw [if_neg (by omega)]⟩
  rintro ⟨k, N⟩ r ⟨j, hj, lj, hl, hk⟩ e
  unfold lb_Mod_sign_20 at e
  dsimp only at e hj hl hk
  have z0 : (0 : Int32).toInt = 0 := rfl
  have kt : k.toInt = 3 - (j : Int) := by rw [hj]; exact sub_ti o3 (ofn_ti (by omega)) (by omega) (by omega)
  rcases io e with ⟨c, e⟩ | ⟨c, e⟩
  · have := q_lt c
    obtain rfl := Option.some.inj e
    have : j = 4 := by omega
    subst this
    exact hk
  have c1 := q_nl c
  obtain ⟨M1, e1, e⟩ := mo e
  obtain ⟨_, e⟩ := io_n e
  obtain ⟨M2, e2, e⟩ := mo e
  obtain rfl := Option.some.inj e
  refine ⟨j + 1, ?_, by omega, ?_, fun i => ?_⟩
  · show k + (-1 : Int32) = _
    refine Int32.toInt_inj.mp ?_
    rw [show ((3 : Int32) - Int32.ofNat (j + 1)).toInt = 3 - ((j + 1 : Nat) : Int) from sub_ti o3 (ofn_ti (by omega)) (by omega) (by omega)]
    rw [add_ti kt om (by omega) (by omega)]
    omega
  · show (M2.1 162 10).toInt = _
    rw [e2, si_ne (by omega), e1, si_eq]; exact add_ti hl o1 (by omega) (by omega)
  · show M2.1 167 i = _
    rw [e2, q_nat hl]
    by_cases c : i = t + j
    · subst c
      rw [si_eq, if_pos (by omega), hj, sh_r ⟨j, by omega⟩]
      rw [show t + j - t = j by omega]
    · rw [si_ne (by omega), e1, si_ne (by omega), hk i]
      by_cases d : t ≤ i ∧ i < t + j
      · rw [if_pos d, if_pos (by omega)]
      · rw [if_neg d, if_neg (by omega)]
/-- THE TEXT: both sides hold the same signs -/
def TB (M : Mem) : Prop := TX M ∧ ∀ p : Nat, (p : Int) < (M.1 162 10).toInt → -128 ≤ (M.1 167 p).toInt ∧ (M.1 167 p).toInt ≤ 127
theorem TB_le {M N : Mem} (h : TB M) (a : ∀ i, N.1 2 i = M.1 2 i) (b : ∀ i, N.1 167 i = M.1 167 i) (c : (N.1 162 10).toInt ≤ (M.1 162 10).toInt) : TB N := by
  refine ⟨fun i hi => ?_, fun i hi => ?_⟩
  · rw [a, b]; exact h.1 i (by omega)
  · rw [b]; exact h.2 i (by omega)
theorem TB_sign {n : Int} {M : Mem} {v : Int32} (h : Inv n M) (t : TB M) {x} (ex : f_Top_sign v M = some x) {r} (er : f_Mod_sign v x.2 = some r) (hg : ∀ k i, 162 ≤ k → x.2.1 k i = M.1 k i) (hg2 : ∀ k i, k < 162 → r.2.1 k i = x.2.1 k i) (hty : (M.1 162 10).toInt ≤ 76 → (r.2.1 162 10).toInt = (M.1 162 10).toInt + 4) : TB r.2 := by
  have l1 := Jr_1_1 h.1.1
  have l2 := h.2
  obtain ⟨q, hq⟩ : ∃ q : Nat, (M.1 162 10).toInt = (q : Int) := ⟨(M.1 162 10).toInt.toNat, by have := Jr_162_10 h.1.1; omega⟩
  have hq1 : (M.1 1 1).toInt = (q : Int) := by rw [l2]; exact hq
  have z76 : (76 : Int32).toInt = 76 := rfl
  have z80 : (80 : Int32).toInt = 80 := rfl
  have z0 : (0 : Int32).toInt = 0 := rfl
  have xq : (x.2.1 162 10).toInt = (q : Int) := by rw [hg 162 10 (by decide)]; exact hq
  unfold f_Top_sign at ex
  obtain ⟨x1, e1, ex⟩ := bo ex
  have hx2 : x.2 = x1.2 := by
    rcases io ex with ⟨_, ex⟩ | ⟨_, ex⟩ <;> (obtain rfl := Option.some.inj ex; rfl)
  unfold f_Mod_sign at er
  obtain ⟨N1, n1, er⟩ := mo er
  have n10 : (N1.1 162 10).toInt = (q : Int) := by rw [n1, si_ne (by omega)]; exact xq
  have n167 : ∀ i, N1.1 167 i = M.1 167 i := fun i => by rw [n1, si_ne (by omega)]; exact hg 167 i (by decide)
  have n4 : ((N1.1 162 10) + (4 : Int32)).toInt = (q : Int) + 4 := add_ti n10 o4 (by omega) (by omega)
  unfold f_Signs_add at e1
  rcases io e1 with ⟨c, e1⟩ | ⟨c, e1⟩
  · have := q_lt c; omega
  rcases io e1 with ⟨c, e1⟩ | ⟨c, e1⟩
  · have c1 := q_le c
    obtain ⟨x4, e4, e1⟩ := bo e1
    obtain rfl := Option.some.inj e1
    rcases io er with ⟨_, er⟩ | ⟨c, er⟩
    · obtain ⟨x5, e5, er⟩ := bo er
      obtain rfl := Option.some.inj er
      have sc := sg_c hq1 (by omega) e4
      have sr := sg_r n10 (by omega) e5
      have r2 : ∀ i, x5.1 2 i = x4.1 2 i := fun i => by rw [hg2 2 i (by decide), hx2]
      have typ : (x5.1 162 10).toInt = (q : Int) + 4 := by have := hty (by omega); rw [hq] at this; exact this
      refine ⟨fun i hi => ?_, fun i hi => ?_⟩
      · show (x5.1 2 i).toInt = (x5.1 167 i).toInt % 256
        rw [r2, sc, sr]
        by_cases d : q ≤ i ∧ i < q + 4
        · rw [if_pos d, if_pos d, and255, (byte256 _).1]
        · rw [if_neg d, if_neg d, n167]
          exact t.1 i (by show (i : Int) < _; have : (i : Int) < (x5.1 162 10).toInt := hi; omega)
      · show -128 ≤ (x5.1 167 i).toInt ∧ (x5.1 167 i).toInt ≤ 127
        rw [sr]
        by_cases d : q ≤ i ∧ i < q + 4
        · rw [if_pos d]; exact (byte256 _).2
        · rw [if_neg d, n167]
          exact t.2 i (by have : (i : Int) < (x5.1 162 10).toInt := hi; omega)
    · have := q_ng c; omega
  · have c1 := q_ng c
    obtain rfl := Option.some.inj e1
    rcases io er with ⟨c, er⟩ | ⟨_, er⟩
    · have := q_le c; omega
    · obtain rfl := Option.some.inj er
      refine TB_le t (fun i => ?_) n167 ?_
      · show N1.1 2 i = _
        rw [n1, si_ne (by omega), hx2]
      · show (N1.1 162 10).toInt ≤ _
        omega
