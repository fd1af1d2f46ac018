/-! safety of the class, 1 -/
theorem sf_JInteger_bitCount (v0 : Int32) : ∃ r, f_JInteger_bitCount v0 = some r ∧ ((0 : Int) ≤ r.toInt ∧ r.toInt ≤ (63 : Int)) := by
  unfold f_JInteger_bitCount
  exact ⟨_, rfl, and_rng (by decide)⟩
theorem sj62 (v0 v1 : Int32) (h0 : 0 ≤ v0.toInt ∧ v0.toInt ≤ 16) (h1 : 0 ≤ v1.toInt ∧ v1.toInt ≤ 29) : ∃ r, j_JInteger_numberOfTrailingZeros_62 v0 v1 = some r ∧ ((0 : Int) ≤ r.toInt ∧ r.toInt ≤ (40 : Int)) := by
  have e1 := ushr_ti (x := v0) (s := 1) (N := 2) rfl h0.1 (by decide)
  have e2 := ushr_ti (x := v0) (s := 2) (N := 4) rfl h0.1 (by decide)
  have e3 := ushr_ti (s := 1) (N := 2) e2 (by omega) (by decide)
  have e4 : (v1 + (2 : Int32)).toInt = v1.toInt + 2 := add_ti rfl rfl (by omega) (by omega)
  unfold j_JInteger_numberOfTrailingZeros_62
  refine if_i (fun c => ⟨_, rfl, ?_⟩) (fun c => ⟨_, rfl, ?_⟩)
  · have d : v0.toInt ≤ 4 := lei.mp c
    rw [add_ti (a := v1) rfl e1 (by omega) (by omega)]; omega
  · rw [add_ti e4 e3 (by omega) (by omega)]; omega
theorem sj49 (v0 v1 : Int32) (h0 : 0 ≤ v0.toInt ∧ v0.toInt ≤ 256) (h1 : 0 ≤ v1.toInt ∧ v1.toInt ≤ 25) : ∃ r, j_JInteger_numberOfTrailingZeros_49 v0 v1 = some r ∧ ((0 : Int) ≤ r.toInt ∧ r.toInt ≤ (40 : Int)) := by
  have e1 := ushr_ti (x := v0) (s := 4) (N := 16) rfl h0.1 (by decide)
  have e4 : (v1 + (4 : Int32)).toInt = v1.toInt + 4 := add_ti rfl rfl (by omega) (by omega)
  unfold j_JInteger_numberOfTrailingZeros_49
  refine if_i (fun c => sj62 _ _ ⟨h0.1, lei.mp c⟩ ⟨h1.1, by omega⟩) (fun c => sj62 _ _ ?_ ?_)
  · rw [e1]; omega
  · rw [e4]; omega
theorem sj34 (v0 v1 : Int32) (h0 : 0 ≤ v0.toInt ∧ v0.toInt ≤ 65536) (h1 : 0 ≤ v1.toInt ∧ v1.toInt ≤ 17) : ∃ r, j_JInteger_numberOfTrailingZeros_34 v0 v1 = some r ∧ ((0 : Int) ≤ r.toInt ∧ r.toInt ≤ (40 : Int)) := by
  have e1 := ushr_ti (x := v0) (s := 8) (N := 256) rfl h0.1 (by decide)
  have e4 : (v1 + (8 : Int32)).toInt = v1.toInt + 8 := add_ti rfl rfl (by omega) (by omega)
  unfold j_JInteger_numberOfTrailingZeros_34
  refine if_i (fun c => sj49 _ _ ⟨h0.1, lei.mp c⟩ ⟨h1.1, by omega⟩) (fun c => sj49 _ _ ?_ ?_)
  · rw [e1]; omega
  · rw [e4]; omega
theorem sf_JInteger_numberOfTrailingZeros (v0 : Int32) : ∃ r, f_JInteger_numberOfTrailingZeros v0 = some r ∧ ((0 : Int) ≤ r.toInt ∧ r.toInt ≤ (40 : Int)) := by
  unfold f_JInteger_numberOfTrailingZeros
  generalize ((v0 ^^^ (-1 : Int32)) &&& (v0 - (1 : Int32))) = X
  refine if_i (fun c => ?_) (fun c => ?_)
  · have d : (0 : Int) < X.toInt := lti.mp c
    have e1 := ushr_ti (x := X) (s := 16) (N := 65536) rfl (by omega) (by decide)
    have hi := i32hi X
    refine if_i (fun c => sj34 _ _ ⟨by omega, lei.mp c⟩ ⟨by decide, by decide⟩) (fun c => sj34 _ _ ?_ ⟨by decide, by decide⟩)
    rw [e1]; omega
  · have := and_rng (a := X) (c := 32) (by decide)
    exact ⟨_, rfl, this.1, by have h : (32 : Int32).toInt = 32 := rfl; omega⟩
theorem sf_JLong_bitCount (v0 : Int64) : ∃ r, f_JLong_bitCount v0 = some r ∧ ((0 : Int) ≤ r.toInt ∧ r.toInt ≤ (127 : Int)) := by
  unfold f_JLong_bitCount
  exact ⟨_, rfl, and_rng (by decide)⟩
theorem sf_JLong_numberOfTrailingZeros (v0 : Int64) : ∃ r : Int32, f_JLong_numberOfTrailingZeros v0 = some r ∧ ((0 : Int) ≤ r.toInt ∧ r.toInt ≤ (72 : Int)) := by
  unfold f_JLong_numberOfTrailingZeros
  refine if_i (fun c => ?_) (fun c => ?_)
  · have c1 := c
    have d2 : v0.toInt32.toInt = (0 : Int) := eqi.mp c1
    refine bind_i (sf_JInteger_numberOfTrailingZeros (v0.toUInt64 >>> ((32 : Int32).toInt64.toUInt64 &&& (Int64.toUInt64 63))).toInt64.toInt32) (fun x2 _ q => ?_)
    obtain ⟨h3, h4⟩ := q
    have q5 : ((32 : Int32) + x2).toInt = (32 : Int) + x2.toInt := add_ti rfl rfl (by omega) (by omega)
    exact ⟨((32 : Int32) + x2), rfl, (show (0 : Int) ≤ ((32 : Int32) + x2).toInt by omega), (show ((32 : Int32) + x2).toInt ≤ (72 : Int) by omega)⟩
  · have c6 := c
    have d7 : ¬ v0.toInt32.toInt = (0 : Int) := neqi.mp c6
    refine bind_i (sf_JInteger_numberOfTrailingZeros v0.toInt32) (fun x1 _ q => ?_)
    obtain ⟨h8, h9⟩ := q
    exact ⟨x1, rfl, (show (0 : Int) ≤ x1.toInt by omega), (show x1.toInt ≤ (72 : Int) by omega)⟩
theorem sl_Signs_add_20 (v1 : Int32) (a0_ : Int32) (N_ : Mem) (B_ : Mem) (hN : J N_) (hG : Gc 1 B_ N_) (i2_ : (0 : Int) ≤ a0_.toInt) (i3_ : a0_.toInt ≤ (4 : Int)) (i4_ : (N_.1 1 1).toInt + (4 - a0_.toInt) ≤ (80 : Int)) : ∃ x, iter (lb_Signs_add_20 v1) FU (a0_, N_) = some x ∧ (fun r : Mem => J r ∧ Gc 1 B_ r) x := by
  refine iter_r (fun s : Int32 × Mem => J s.2 ∧ Gc 1 B_ s.2 ∧ (0 : Int) ≤ s.1.toInt ∧ s.1.toInt ≤ (4 : Int) ∧ (s.2.1 1 1).toInt + (4 - s.1.toInt) ≤ (80 : Int)) (fun s : Int32 × Mem => (4 - s.1.toInt).toNat) (fun r : Mem => J r ∧ Gc 1 B_ r) ?_ FU (a0_, N_) ⟨hN, hG, i2_, i3_, i4_⟩ (by show (4 - a0_.toInt).toNat < FU; rw [FU_v]; omega)
  clear i4_ i3_ i2_ hG hN
  rintro ⟨a0_', N_'⟩ ⟨hN, hG, i2_, i3_, i4_⟩
  dsimp only at hN hG i2_ i3_ i4_
  unfold lb_Signs_add_20
  dsimp only
  refine if_i (fun c => ?_) (fun c => ?_)
  · have c1 := c
    have d2 : (4 : Int) ≤ a0_'.toInt := lei.mp c1
    exact ⟨_, rfl, hN, hG⟩
  · have c3 := c
    have d4 : a0_'.toInt < (4 : Int) := nlei.mp c3
    have r5 := Jr_1_1 hN
    refine inb_i (by omega) (by omega) ?_
    have q7 : (0 : Int) ≤ ((v1 >>> (((24 : Int32) - ((8 : Int32) * a0_')) &&& 31)) &&& (255 : Int32)).toInt ∧ ((v1 >>> (((24 : Int32) - ((8 : Int32) * a0_')) &&& 31)) &&& (255 : Int32)).toInt ≤ 255 := and_rng (by decide)
    refine mem_i (fun M1 e8 => ?_)
    have hJ9 : J M1 := by rw [e8]; exact Jw_2 hN (N_'.1 1 1).toNatClampNeg ((v1 >>> (((24 : Int32) - ((8 : Int32) * a0_')) &&& 31)) &&& (255 : Int32)) (show (0 : Int) ≤ ((v1 >>> (((24 : Int32) - ((8 : Int32) * a0_')) &&& 31)) &&& (255 : Int32)).toInt by omega) (show ((v1 >>> (((24 : Int32) - ((8 : Int32) * a0_')) &&& 31)) &&& (255 : Int32)).toInt ≤ (255 : Int) by omega)
    have hG10 : Gc 1 B_ M1 := Gc_i hG e8 (by decide)
    have f11 : (M1.1 1 1).toInt = (N_'.1 1 1).toInt := by rw [e8]; rw [si_ne (by exact fun e => absurd e.1 (by decide))]
    clear e8
    have q13 : ((M1.1 1 1) + (1 : Int32)).toInt = (M1.1 1 1).toInt + (1 : Int) := add_ti rfl rfl (by omega) (by omega)
    refine mem_i (fun M2 e14 => ?_)
    have hJ15 : J M2 := by rw [e14]; exact Jw_1_1 hJ9 ((M1.1 1 1) + (1 : Int32)) (show (0 : Int) ≤ ((M1.1 1 1) + (1 : Int32)).toInt by omega) (show ((M1.1 1 1) + (1 : Int32)).toInt ≤ (80 : Int) by omega)
    have hG16 : Gc 1 B_ M2 := Gc_1 hG10 e14 (by decide)
    have f17 : (M2.1 1 1).toInt = ((M1.1 1 1) + (1 : Int32)).toInt := by rw [e14, si_eq]
    clear e14
    have q18 : (a0_' + (1 : Int32)).toInt = a0_'.toInt + (1 : Int) := add_ti rfl rfl (by omega) (by omega)
    exact ⟨_, rfl, ⟨hJ15, hG16, (show (0 : Int) ≤ (a0_' + (1 : Int32)).toInt by omega), (show (a0_' + (1 : Int32)).toInt ≤ (4 : Int) by omega), (show (M2.1 1 1).toInt + (4 - (a0_' + (1 : Int32)).toInt) ≤ (80 : Int) by omega)⟩, show (4 - (a0_' + (1 : Int32)).toInt).toNat < (4 - a0_'.toInt).toNat by omega⟩
theorem sf_Signs_add (v1 : Int32) (M : Mem) (hJ : J M) : ∃ r : Int32 × Mem, f_Signs_add v1 M = some r ∧ (J r.2 ∧ Gc 1 M r.2 ∧ (0 : Int) ≤ r.1.toInt ∧ r.1.toInt ≤ (1 : Int)) := by
  unfold f_Signs_add
  refine if_i (fun c => ?_) (fun c => ?_)
  · have c1 := c
    have r2 := Jr_1_1 hJ
    have d3 : (M.1 1 1).toInt < (0 : Int) := lti.mp c1
    exfalso; omega
  · have c4 := c
    have r5 := Jr_1_1 hJ
    have d6 : (0 : Int) ≤ (M.1 1 1).toInt := nlti.mp c4
    refine if_i (fun c => ?_) (fun c => ?_)
    · have c7 := c
      have d8 : (M.1 1 1).toInt ≤ (76 : Int) := lei.mp c7
      refine bind_i (sl_Signs_add_20 v1 (0 : Int32) M M hJ Gc_r (show (0 : Int) ≤ (0 : Int32).toInt by decide) (show (0 : Int32).toInt ≤ (4 : Int) by decide) (show (M.1 1 1).toInt + (4 - 0) ≤ (80 : Int) by omega)) (fun x4 _ q => ?_)
      obtain ⟨h9, h10⟩ := q
      exact ⟨((1 : Int32), x4), rfl, h9, h10, (show (0 : Int) ≤ (1 : Int32).toInt by decide), (show (1 : Int32).toInt ≤ (1 : Int) by decide)⟩
    · have c11 := c
      have d12 : (76 : Int) < (M.1 1 1).toInt := nlei.mp c11
      exact ⟨((0 : Int32), M), rfl, hJ, Gc_r, (show (0 : Int) ≤ (0 : Int32).toInt by decide), (show (0 : Int32).toInt ≤ (1 : Int) by decide)⟩
theorem sf_Signs_at (v1 : Int32) (v2 : Int32) (M : Mem) (hJ : J M) : ∃ r : Int32, f_Signs_at v1 v2 M = some r ∧ ((-1 : Int) ≤ r.toInt ∧ r.toInt ≤ (255 : Int) ∧ (¬ r.toInt = -1 → (0 : Int) ≤ v1.toInt ∧ v1.toInt ≤ (79 : Int))) := by
  unfold f_Signs_at
  refine if_i (fun c => ?_) (fun c => ?_)
  · have c1 := c
    have d2 : v1.toInt < (0 : Int) := lti.mp c1
    exact ⟨(-1 : Int32), rfl, (show (-1 : Int) ≤ (-1 : Int32).toInt by decide), (show (-1 : Int32).toInt ≤ (255 : Int) by decide), (fun hh => by have hh : ¬ (-1 : Int32).toInt = -1 := hh; have zz : (-1 : Int32).toInt = -1 := rfl; omega)⟩
  · have c3 := c
    have d4 : (0 : Int) ≤ v1.toInt := nlti.mp c3
    refine if_i (fun c => ?_) (fun c => ?_)
    · have c5 := c
      have r6 := Jr_1_1 hJ
      have d7 : (M.1 1 1).toInt ≤ v1.toInt := lei.mp c5
      exact ⟨(-1 : Int32), rfl, (show (-1 : Int) ≤ (-1 : Int32).toInt by decide), (show (-1 : Int32).toInt ≤ (255 : Int) by decide), (fun hh => by have hh : ¬ (-1 : Int32).toInt = -1 := hh; have zz : (-1 : Int32).toInt = -1 := rfl; omega)⟩
    · have c8 := c
      have r9 := Jr_1_1 hJ
      have d10 : v1.toInt < (M.1 1 1).toInt := nlei.mp c8
      refine if_i (fun c => ?_) (fun c => ?_)
      · have c11 := c
        have d12 : v2.toInt ≤ v1.toInt := lei.mp c11
        exact ⟨(-1 : Int32), rfl, (show (-1 : Int) ≤ (-1 : Int32).toInt by decide), (show (-1 : Int32).toInt ≤ (255 : Int) by decide), (fun hh => by have hh : ¬ (-1 : Int32).toInt = -1 := hh; have zz : (-1 : Int32).toInt = -1 := rfl; omega)⟩
      · have c13 := c
        have d14 : v1.toInt < v2.toInt := nlei.mp c13
        refine if_i (fun c => ?_) (fun c => ?_)
        · have c15 := c
          have d16 : v1.toInt < (80 : Int) := lti.mp c15
          refine inb_i (by omega) (by omega) ?_
          have r17 := Jr_2 hJ v1.toNatClampNeg
          exact ⟨(M.1 2 v1.toNatClampNeg), rfl, (show (-1 : Int) ≤ (M.1 2 v1.toNatClampNeg).toInt by omega), (show (M.1 2 v1.toNatClampNeg).toInt ≤ (255 : Int) by omega), (fun hh => by have hh : ¬ (M.1 2 v1.toNatClampNeg).toInt = -1 := hh; omega)⟩
        · have c18 := c
          have d19 : (80 : Int) ≤ v1.toInt := nlti.mp c18
          exfalso; omega
theorem sl_Signs_digits_11 (v1 : Int32) (v2 : Int32) (v3 : Int32) (a0_ : Int32) (a1_ : Int32) (N_ : Mem) (B_ : Mem) (z0_ : Int32) (hp_v3 : (0 : Int) ≤ v3.toInt ∧ v3.toInt ≤ (3 : Int)) (hN : J N_) (hG : Gc 0 B_ N_) (i2_ : (0 : Int) ≤ a0_.toInt) (i3_ : a0_.toInt ≤ (3 : Int)) (i4_ : (0 : Int) ≤ a1_.toInt) (i5_ : a1_.toInt ≤ (3 : Int)) (i6_ : N_.1 6 4 = z0_) : ∃ x, iter (lb_Signs_digits_11 v1 v2 v3) FU (a0_, a1_, N_) = some x ∧ (fun r : Int32 × Mem => J r.2 ∧ Gc 0 B_ r.2 ∧ (0 : Int) ≤ r.1.toInt ∧ r.1.toInt ≤ (3 : Int) ∧ r.2.1 6 4 = z0_) x := by
  refine iter_r (fun s : Int32 × Int32 × Mem => J s.2.2 ∧ Gc 0 B_ s.2.2 ∧ (0 : Int) ≤ s.1.toInt ∧ s.1.toInt ≤ (3 : Int) ∧ (0 : Int) ≤ s.2.1.toInt ∧ s.2.1.toInt ≤ (3 : Int) ∧ s.2.2.1 6 4 = z0_) (fun s : Int32 × Int32 × Mem => (3 - s.2.1.toInt).toNat) (fun r : Int32 × Mem => J r.2 ∧ Gc 0 B_ r.2 ∧ (0 : Int) ≤ r.1.toInt ∧ r.1.toInt ≤ (3 : Int) ∧ r.2.1 6 4 = z0_) ?_ FU (a0_, a1_, N_) ⟨hN, hG, i2_, i3_, i4_, i5_, i6_⟩ (by show (3 - a1_.toInt).toNat < FU; rw [FU_v]; omega)
  clear i6_ i5_ i4_ i3_ i2_ hG hN
  rintro ⟨a0_', a1_', N_'⟩ ⟨hN, hG, i2_, i3_, i4_, i5_, i6_⟩
  dsimp only at hN hG i2_ i3_ i4_ i5_ i6_
  unfold lb_Signs_digits_11
  dsimp only
  refine if_i (fun c => ?_) (fun c => ?_)
  · have c1 := c
    have d2 : v3.toInt ≤ a1_'.toInt := lei.mp c1
    exact ⟨_, rfl, hN, hG, (show (0 : Int) ≤ a0_'.toInt by omega), (show a0_'.toInt ≤ (3 : Int) by omega), (i6_)⟩
  · have c3 := c
    have d4 : a1_'.toInt < v3.toInt := nlei.mp c3
    refine if_i (fun c => ?_) (fun c => ?_)
    · have c5 := c
      have d6 : a0_'.toInt = a1_'.toInt := eqi.mp c5
      refine bind_i (sf_Signs_at (v1 + a1_') v2 N_' hN) (fun x2 _ q => ?_)
      obtain ⟨h7, h8, h9⟩ := q
      refine if_i (fun c => ?_) (fun c => ?_)
      · have c10 := c
        have d11 : x2.toInt < (48 : Int) := lti.mp c10
        have q12 : (a1_' + (1 : Int32)).toInt = a1_'.toInt + (1 : Int) := add_ti rfl rfl (by omega) (by omega)
        exact ⟨_, rfl, ⟨hN, hG, (show (0 : Int) ≤ a0_'.toInt by omega), (show a0_'.toInt ≤ (3 : Int) by omega), (show (0 : Int) ≤ (a1_' + (1 : Int32)).toInt by omega), (show (a1_' + (1 : Int32)).toInt ≤ (3 : Int) by omega), (i6_)⟩, show (3 - (a1_' + (1 : Int32)).toInt).toNat < (3 - a1_'.toInt).toNat by omega⟩
      · have c13 := c
        have d14 : (48 : Int) ≤ x2.toInt := nlti.mp c13
        refine if_i (fun c => ?_) (fun c => ?_)
        · have c15 := c
          have d16 : (57 : Int) < x2.toInt := lti.mp c15
          have q17 : (a1_' + (1 : Int32)).toInt = a1_'.toInt + (1 : Int) := add_ti rfl rfl (by omega) (by omega)
          exact ⟨_, rfl, ⟨hN, hG, (show (0 : Int) ≤ a0_'.toInt by omega), (show a0_'.toInt ≤ (3 : Int) by omega), (show (0 : Int) ≤ (a1_' + (1 : Int32)).toInt by omega), (show (a1_' + (1 : Int32)).toInt ≤ (3 : Int) by omega), (i6_)⟩, show (3 - (a1_' + (1 : Int32)).toInt).toNat < (3 - a1_'.toInt).toNat by omega⟩
        · have c18 := c
          have d19 : x2.toInt ≤ (57 : Int) := nlti.mp c18
          refine mem_i (fun M3 e21 => ?_)
          have hJ22 : J M3 := by rw [e21]; exact Jw_fld okf_1_2 hN ((((N_'.1 1 2) * (10 : Int32)) + x2) - (48 : Int32))
          have hG23 : Gc 0 B_ M3 := Gc_1 hG e21 (by decide)
          have g24 : M3.1 6 4 = z0_ := (congrArg (fun m : Mem => m.1 6 4) e21).trans ((si_ne (by exact fun e => absurd e.1 (by decide))).trans i6_)
          clear e21
          have q25 : (a0_' + (1 : Int32)).toInt = a0_'.toInt + (1 : Int) := add_ti rfl rfl (by omega) (by omega)
          have q26 : (a1_' + (1 : Int32)).toInt = a1_'.toInt + (1 : Int) := add_ti rfl rfl (by omega) (by omega)
          exact ⟨_, rfl, ⟨hJ22, hG23, (show (0 : Int) ≤ (a0_' + (1 : Int32)).toInt by omega), (show (a0_' + (1 : Int32)).toInt ≤ (3 : Int) by omega), (show (0 : Int) ≤ (a1_' + (1 : Int32)).toInt by omega), (show (a1_' + (1 : Int32)).toInt ≤ (3 : Int) by omega), (g24)⟩, show (3 - (a1_' + (1 : Int32)).toInt).toNat < (3 - a1_'.toInt).toNat by omega⟩
    · have c27 := c
      have d28 : ¬ a0_'.toInt = a1_'.toInt := neqi.mp c27
      exact ⟨_, rfl, hN, hG, (show (0 : Int) ≤ a0_'.toInt by omega), (show a0_'.toInt ≤ (3 : Int) by omega), (i6_)⟩
theorem sf_Signs_digits (v1 : Int32) (v2 : Int32) (v3 : Int32) (M : Mem) (hp_v3 : (0 : Int) ≤ v3.toInt ∧ v3.toInt ≤ (3 : Int)) (hJ : J M) : ∃ r : Int32 × Mem, f_Signs_digits v1 v2 v3 M = some r ∧ (J r.2 ∧ Gc 0 M r.2 ∧ (0 : Int) ≤ r.1.toInt ∧ r.1.toInt ≤ (3 : Int) ∧ r.2.1 6 4 = M.1 6 4) := by
  unfold f_Signs_digits
  refine mem_i (fun M1 e2 => ?_)
  have hJ3 : J M1 := by rw [e2]; exact Jw_fld okf_1_2 hJ (0 : Int32)
  have hG4 : Gc 0 M M1 := Gc_1 Gc_r e2 (by decide)
  have f5 : (M1.1 1 2).toInt = (0 : Int) := by rw [e2, si_eq]; rfl
  have g6 : M1.1 6 4 = M.1 6 4 := (congrArg (fun m : Mem => m.1 6 4) e2).trans ((si_ne (by exact fun e => absurd e.1 (by decide))).trans rfl)
  clear e2
  refine bind_i (sl_Signs_digits_11 v1 v2 v3 (0 : Int32) (0 : Int32) M1 M (M.1 6 4) (⟨show (0 : Int) ≤ v3.toInt by omega, show v3.toInt ≤ (3 : Int) by omega⟩) hJ3 hG4 (show (0 : Int) ≤ (0 : Int32).toInt by decide) (show (0 : Int32).toInt ≤ (3 : Int) by decide) (show (0 : Int) ≤ (0 : Int32).toInt by decide) (show (0 : Int32).toInt ≤ (3 : Int) by decide) (g6)) (fun x8 _ q => ?_)
  obtain ⟨h7, h8, h9, h10, h11⟩ := q
  exact ⟨(x8.1, x8.2), rfl, h7, h8, (show (0 : Int) ≤ x8.1.toInt by omega), (show x8.1.toInt ≤ (3 : Int) by omega), (h11)⟩
theorem sf_Signs_stepOf (v0 : Int32) : ∃ r : Int32, f_Signs_stepOf v0 = some r ∧ ((-1 : Int) ≤ r.toInt ∧ r.toInt ≤ (4 : Int)) := by
  unfold f_Signs_stepOf
  refine if_i (fun c => ?_) (fun c => ?_)
  · have c1 := c
    have d2 : v0.toInt = (100 : Int) := eqi.mp c1
    exact ⟨(2 : Int32), rfl, (show (-1 : Int) ≤ (2 : Int32).toInt by decide), (show (2 : Int32).toInt ≤ (4 : Int) by decide)⟩
  · have c3 := c
    have d4 : ¬ v0.toInt = (100 : Int) := neqi.mp c3
    refine if_i (fun c => ?_) (fun c => ?_)
    · have c5 := c
      have d6 : v0.toInt = (108 : Int) := eqi.mp c5
      exact ⟨(3 : Int32), rfl, (show (-1 : Int) ≤ (3 : Int32).toInt by decide), (show (3 : Int32).toInt ≤ (4 : Int) by decide)⟩
    · have c7 := c
      have d8 : ¬ v0.toInt = (108 : Int) := neqi.mp c7
      refine if_i (fun c => ?_) (fun c => ?_)
      · have c9 := c
        have d10 : v0.toInt = (111 : Int) := eqi.mp c9
        exact ⟨(4 : Int32), rfl, (show (-1 : Int) ≤ (4 : Int32).toInt by decide), (show (4 : Int32).toInt ≤ (4 : Int) by decide)⟩
      · have c11 := c
        have d12 : ¬ v0.toInt = (111 : Int) := neqi.mp c11
        refine if_i (fun c => ?_) (fun c => ?_)
        · have c13 := c
          have d14 : v0.toInt = (114 : Int) := eqi.mp c13
          exact ⟨(1 : Int32), rfl, (show (-1 : Int) ≤ (1 : Int32).toInt by decide), (show (1 : Int32).toInt ≤ (4 : Int) by decide)⟩
        · have c15 := c
          have d16 : ¬ v0.toInt = (114 : Int) := neqi.mp c15
          refine if_i (fun c => ?_) (fun c => ?_)
          · have c17 := c
            have d18 : v0.toInt = (117 : Int) := eqi.mp c17
            exact ⟨(0 : Int32), rfl, (show (-1 : Int) ≤ (0 : Int32).toInt by decide), (show (0 : Int32).toInt ≤ (4 : Int) by decide)⟩
          · have c19 := c
            have d20 : ¬ v0.toInt = (117 : Int) := neqi.mp c19
            exact ⟨(-1 : Int32), rfl, (show (-1 : Int) ≤ (-1 : Int32).toInt by decide), (show (-1 : Int32).toInt ≤ (4 : Int) by decide)⟩
theorem sl_Signs_steps_6 (v1 : Int32) (v2 : Int32) (v3 : Nat) (v4 : Int32) (a0_ : Int32) (a1_ : Int32) (N_ : Mem) (B_ : Mem) (z0_ : Int32) (hk_v3 : FS v3) (hp_v4 : (0 : Int) ≤ v4.toInt ∧ v4.toInt ≤ (63 : Int)) (hN : J N_) (hG : Gc 0 B_ N_) (i2_ : (0 : Int) ≤ a0_.toInt) (i3_ : a0_.toInt ≤ (9 : Int)) (i4_ : (0 : Int) ≤ a1_.toInt) (i5_ : a1_.toInt ≤ (9 : Int)) (i6_ : N_.1 6 4 = z0_) : ∃ x, iter (lb_Signs_steps_6 v1 v2 v3 v4) FU (a0_, a1_, N_) = some x ∧ (fun r : Int32 × Mem => J r.2 ∧ Gc 0 B_ r.2 ∧ (0 : Int) ≤ r.1.toInt ∧ r.1.toInt ≤ (9 : Int) ∧ r.2.1 6 4 = z0_) x := by
  refine iter_r (fun s : Int32 × Int32 × Mem => J s.2.2 ∧ Gc 0 B_ s.2.2 ∧ (0 : Int) ≤ s.1.toInt ∧ s.1.toInt ≤ (9 : Int) ∧ (0 : Int) ≤ s.2.1.toInt ∧ s.2.1.toInt ≤ (9 : Int) ∧ s.2.2.1 6 4 = z0_) (fun s : Int32 × Int32 × Mem => (9 - s.2.1.toInt).toNat) (fun r : Int32 × Mem => J r.2 ∧ Gc 0 B_ r.2 ∧ (0 : Int) ≤ r.1.toInt ∧ r.1.toInt ≤ (9 : Int) ∧ r.2.1 6 4 = z0_) ?_ FU (a0_, a1_, N_) ⟨hN, hG, i2_, i3_, i4_, i5_, i6_⟩ (by show (9 - a1_.toInt).toNat < FU; rw [FU_v]; omega)
  clear i6_ i5_ i4_ i3_ i2_ hG hN
  rintro ⟨a0_', a1_', N_'⟩ ⟨hN, hG, i2_, i3_, i4_, i5_, i6_⟩
  dsimp only at hN hG i2_ i3_ i4_ i5_ i6_
  unfold lb_Signs_steps_6
  dsimp only
  refine if_i (fun c => ?_) (fun c => ?_)
  · have c1 := c
    have d2 : (9 : Int) ≤ a1_'.toInt := lei.mp c1
    exact ⟨_, rfl, hN, hG, (show (0 : Int) ≤ a0_'.toInt by omega), (show a0_'.toInt ≤ (9 : Int) by omega), (i6_)⟩
  · have c3 := c
    have d4 : a1_'.toInt < (9 : Int) := nlei.mp c3
    refine if_i (fun c => ?_) (fun c => ?_)
    · have c5 := c
      have d6 : a0_'.toInt = a1_'.toInt := eqi.mp c5
      refine bind_i (sf_Signs_at (v1 + a1_') v2 N_' hN) (fun x1 _ q => ?_)
      obtain ⟨h7, h8, h9⟩ := q
      refine bind_i (sf_Signs_stepOf x1) (fun x2 _ q => ?_)
      obtain ⟨h10, h11⟩ := q
      refine if_i (fun c => ?_) (fun c => ?_)
      · have c12 := c
        have d13 : x2.toInt = (-1 : Int) := eqi.mp c12
        have q14 : (a1_' + (1 : Int32)).toInt = a1_'.toInt + (1 : Int) := add_ti rfl rfl (by omega) (by omega)
        exact ⟨_, rfl, ⟨hN, hG, (show (0 : Int) ≤ a0_'.toInt by omega), (show a0_'.toInt ≤ (9 : Int) by omega), (show (0 : Int) ≤ (a1_' + (1 : Int32)).toInt by omega), (show (a1_' + (1 : Int32)).toInt ≤ (9 : Int) by omega), (i6_)⟩, show (9 - (a1_' + (1 : Int32)).toInt).toNat < (9 - a1_'.toInt).toNat by omega⟩
      · have c15 := c
        have d16 : ¬ x2.toInt = (-1 : Int) := neqi.mp c15
        refine if_i (fun c => ?_) (fun c => ?_)
        · have c17 := c
          have d18 : v4.toInt < (0 : Int) := lti.mp c17
          exfalso; omega
        · have c19 := c
          have d20 : (0 : Int) ≤ v4.toInt := nlti.mp c19
          refine if_i (fun c => ?_) (fun c => ?_)
          · have c21 := c
            have l22 := FS_ln hk_v3
            have q23 : (Int32.ofNat (ln v3)).toInt = (ln v3 : Int) := ofn_ti (by omega)
            have q24 : (v4 + a1_').toInt = v4.toInt + a1_'.toInt := add_ti rfl rfl (by omega) (by omega)
            have d25 : (Int32.ofNat (ln v3)).toInt ≤ (v4 + a1_').toInt := lei.mp c21
            have q26 : (a1_' + (1 : Int32)).toInt = a1_'.toInt + (1 : Int) := add_ti rfl rfl (by omega) (by omega)
            exact ⟨_, rfl, ⟨hN, hG, (show (0 : Int) ≤ a0_'.toInt by omega), (show a0_'.toInt ≤ (9 : Int) by omega), (show (0 : Int) ≤ (a1_' + (1 : Int32)).toInt by omega), (show (a1_' + (1 : Int32)).toInt ≤ (9 : Int) by omega), (i6_)⟩, show (9 - (a1_' + (1 : Int32)).toInt).toNat < (9 - a1_'.toInt).toNat by omega⟩
          · have c27 := c
            have l28 := FS_ln hk_v3
            have q29 : (Int32.ofNat (ln v3)).toInt = (ln v3 : Int) := ofn_ti (by omega)
            have q30 : (v4 + a1_').toInt = v4.toInt + a1_'.toInt := add_ti rfl rfl (by omega) (by omega)
            have d31 : (v4 + a1_').toInt < (Int32.ofNat (ln v3)).toInt := nlei.mp c27
            have l32 := FS_ln hk_v3
            refine inb_i (by omega) (by omega) ?_
            refine mem_i (fun M3 e34 => ?_)
            have hJ35 : J M3 := by rw [e34]; exact Jw_steps hN hk_v3 (v4 + a1_').toNatClampNeg x2
            have hG36 : Gc 0 B_ M3 := Gc_i hG e34 (cl_steps hk_v3)
            have f37 : (M3.1 v3 (v4 + a1_').toNatClampNeg).toInt = x2.toInt := by rw [e34, si_eq]
            have g38 : M3.1 6 4 = z0_ := (congrArg (fun m : Mem => m.1 6 4) e34).trans ((si_ne (by exact fun e => FS_ne6 hk_v3 e.1.symm)).trans i6_)
            clear e34
            have q39 : (a0_' + (1 : Int32)).toInt = a0_'.toInt + (1 : Int) := add_ti rfl rfl (by omega) (by omega)
            have q40 : (a1_' + (1 : Int32)).toInt = a1_'.toInt + (1 : Int) := add_ti rfl rfl (by omega) (by omega)
            exact ⟨_, rfl, ⟨hJ35, hG36, (show (0 : Int) ≤ (a0_' + (1 : Int32)).toInt by omega), (show (a0_' + (1 : Int32)).toInt ≤ (9 : Int) by omega), (show (0 : Int) ≤ (a1_' + (1 : Int32)).toInt by omega), (show (a1_' + (1 : Int32)).toInt ≤ (9 : Int) by omega), (g38)⟩, show (9 - (a1_' + (1 : Int32)).toInt).toNat < (9 - a1_'.toInt).toNat by omega⟩
    · have c41 := c
      have d42 : ¬ a0_'.toInt = a1_'.toInt := neqi.mp c41
      exact ⟨_, rfl, hN, hG, (show (0 : Int) ≤ a0_'.toInt by omega), (show a0_'.toInt ≤ (9 : Int) by omega), (i6_)⟩
theorem sf_Signs_steps (v1 : Int32) (v2 : Int32) (v3 : Nat) (v4 : Int32) (M : Mem) (hk_v3 : FS v3) (hp_v4 : (0 : Int) ≤ v4.toInt ∧ v4.toInt ≤ (63 : Int)) (hJ : J M) : ∃ r : Int32 × Mem, f_Signs_steps v1 v2 v3 v4 M = some r ∧ (J r.2 ∧ Gc 0 M r.2 ∧ (0 : Int) ≤ r.1.toInt ∧ r.1.toInt ≤ (9 : Int) ∧ r.2.1 6 4 = M.1 6 4) := by
  unfold f_Signs_steps
  refine c_i (FS_kd hk_v3) ?_
  refine bind_i (sl_Signs_steps_6 v1 v2 v3 v4 (0 : Int32) (0 : Int32) M M (M.1 6 4) hk_v3 (⟨show (0 : Int) ≤ v4.toInt by omega, show v4.toInt ≤ (63 : Int) by omega⟩) hJ Gc_r (show (0 : Int) ≤ (0 : Int32).toInt by decide) (show (0 : Int32).toInt ≤ (9 : Int) by decide) (show (0 : Int) ≤ (0 : Int32).toInt by decide) (show (0 : Int32).toInt ≤ (9 : Int) by decide) (rfl)) (fun x9 _ q => ?_)
  obtain ⟨h1, h2, h3, h4, h5⟩ := q
  exact ⟨(x9.1, x9.2), rfl, h1, h2, (show (0 : Int) ≤ x9.1.toInt by omega), (show x9.1.toInt ≤ (9 : Int) by omega), (h5)⟩
theorem sf_Ground_kindOf (v0 : Int32) : ∃ r : Int32, f_Ground_kindOf v0 = some r ∧ ((-1 : Int) ≤ r.toInt ∧ r.toInt ≤ (3 : Int)) := by
  unfold f_Ground_kindOf
  refine if_i (fun c => ?_) (fun c => ?_)
  · have c1 := c
    have d2 : v0.toInt = (35 : Int) := eqi.mp c1
    exact ⟨(0 : Int32), rfl, (show (-1 : Int) ≤ (0 : Int32).toInt by decide), (show (0 : Int32).toInt ≤ (3 : Int) by decide)⟩
  · have c3 := c
    have d4 : ¬ v0.toInt = (35 : Int) := neqi.mp c3
    refine if_i (fun c => ?_) (fun c => ?_)
    · have c5 := c
      have d6 : v0.toInt = (46 : Int) := eqi.mp c5
      exact ⟨(1 : Int32), rfl, (show (-1 : Int) ≤ (1 : Int32).toInt by decide), (show (1 : Int32).toInt ≤ (3 : Int) by decide)⟩
    · have c7 := c
      have d8 : ¬ v0.toInt = (46 : Int) := neqi.mp c7
      refine if_i (fun c => ?_) (fun c => ?_)
      · have c9 := c
        have d10 : v0.toInt = (104 : Int) := eqi.mp c9
        exact ⟨(2 : Int32), rfl, (show (-1 : Int) ≤ (2 : Int32).toInt by decide), (show (2 : Int32).toInt ≤ (3 : Int) by decide)⟩
      · have c11 := c
        have d12 : ¬ v0.toInt = (104 : Int) := neqi.mp c11
        refine if_i (fun c => ?_) (fun c => ?_)
        · have c13 := c
          have d14 : v0.toInt = (115 : Int) := eqi.mp c13
          exact ⟨(3 : Int32), rfl, (show (-1 : Int) ≤ (3 : Int32).toInt by decide), (show (3 : Int32).toInt ≤ (3 : Int) by decide)⟩
        · have c15 := c
          have d16 : ¬ v0.toInt = (115 : Int) := neqi.mp c15
          exact ⟨(-1 : Int32), rfl, (show (-1 : Int) ≤ (-1 : Int32).toInt by decide), (show (-1 : Int32).toInt ≤ (3 : Int) by decide)⟩
theorem sf_Ground_fits (v0 : Int32) (v1 : Int32) (v2 : Int32) (v3 : Int32) (v4 : Int32) : ∃ r : Int32, f_Ground_fits v0 v1 v2 v3 v4 = some r ∧ ((0 : Int) ≤ r.toInt ∧ r.toInt ≤ (1 : Int)) := by
  unfold f_Ground_fits
  refine if_i (fun c => ?_) (fun c => ?_)
  · have c1 := c
    have d2 : v1.toInt = (0 : Int) := eqi.mp c1
    refine bind_i (sf_Ground_kindOf v0) (fun x1 _ q => ?_)
    obtain ⟨h3, h4⟩ := q
    refine if_i (fun c => ?_) (fun c => ?_)
    · have c5 := c
      have d6 : x1.toInt = (-1 : Int) := eqi.mp c5
      exact ⟨(0 : Int32), rfl, (show (0 : Int) ≤ (0 : Int32).toInt by decide), (show (0 : Int32).toInt ≤ (1 : Int) by decide)⟩
    · have c7 := c
      have d8 : ¬ x1.toInt = (-1 : Int) := neqi.mp c7
      refine if_i (fun c => ?_) (fun c => ?_)
      · have c9 := c
        have d10 : v4.toInt ≤ v2.toInt := lei.mp c9
        exact ⟨(0 : Int32), rfl, (show (0 : Int) ≤ (0 : Int32).toInt by decide), (show (0 : Int32).toInt ≤ (1 : Int) by decide)⟩
      · have c11 := c
        have d12 : v2.toInt < v4.toInt := nlei.mp c11
        exact ⟨(1 : Int32), rfl, (show (0 : Int) ≤ (1 : Int32).toInt by decide), (show (1 : Int32).toInt ≤ (1 : Int) by decide)⟩
  · have c13 := c
    have d14 : ¬ v1.toInt = (0 : Int) := neqi.mp c13
    refine if_i (fun c => ?_) (fun c => ?_)
    · have c15 := c
      have d16 : v2.toInt < v3.toInt := lti.mp c15
      exact ⟨(0 : Int32), rfl, (show (0 : Int) ≤ (0 : Int32).toInt by decide), (show (0 : Int32).toInt ≤ (1 : Int) by decide)⟩
    · have c17 := c
      have d18 : v3.toInt ≤ v2.toInt := nlti.mp c17
      exact ⟨(1 : Int32), rfl, (show (0 : Int) ≤ (1 : Int32).toInt by decide), (show (1 : Int32).toInt ≤ (1 : Int) by decide)⟩
