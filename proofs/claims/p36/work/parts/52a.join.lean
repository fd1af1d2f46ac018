section
/-! safety of the class, 1 -/
theorem sf_JInteger_bitCount (v0 : Int32) : ∃ r, f_JInteger_bitCount v0 = some r ∧ ((0 : Int) ≤ r.toInt ∧ r.toInt ≤ (63 : Int)) := by
  unfold f_JInteger_bitCount
  exact ⟨_, rfl, and_rng (by decide)⟩
theorem sj62 (v0 v1 : Int32) (h0 : 0 ≤ v0.toInt ∧ v0.toInt ≤ 16) (h1 : 0 ≤ v1.toInt ∧ v1.toInt ≤ 29) : ∃ r, j_JInteger_numberOfTrailingZeros_62 v0 v1 = some r ∧ ((0 : Int) ≤ r.toInt ∧ r.toInt ≤ (40 : Int)) := by
  have e1 := ushr_ti (x := v0) (s := 1) (N := 2) rfl h0.1 (by decide)
  have e2 := ushr_ti (x := v0) (s := 2) (N := 4) rfl h0.1 (by decide)
  have e3 := ushr_ti (s := 1) (N := 2) e2 (by omega) (by decide)
  have e4 : (v1 + (2 : Int32)).toInt = v1.toInt + 2 := add_ti rfl rfl (by omega) (by omega)
  unfold j_JInteger_numberOfTrailingZeros_62
  refine if_i (fun c => ⟨_, rfl, ?_⟩) (fun c => ⟨_, rfl, ?_⟩)
  · have d : v0.toInt ≤ 4 := lei.mp c
    rw [add_ti (a := v1) rfl e1 (by omega) (by omega)]; omega
  · rw [add_ti e4 e3 (by omega) (by omega)]; omega
theorem sj49 (v0 v1 : Int32) (h0 : 0 ≤ v0.toInt ∧ v0.toInt ≤ 256) (h1 : 0 ≤ v1.toInt ∧ v1.toInt ≤ 25) : ∃ r, j_JInteger_numberOfTrailingZeros_49 v0 v1 = some r ∧ ((0 : Int) ≤ r.toInt ∧ r.toInt ≤ (40 : Int)) := by
  have e1 := ushr_ti (x := v0) (s := 4) (N := 16) rfl h0.1 (by decide)
  have e4 : (v1 + (4 : Int32)).toInt = v1.toInt + 4 := add_ti rfl rfl (by omega) (by omega)
  unfold j_JInteger_numberOfTrailingZeros_49
  refine if_i (fun c => sj62 _ _ ⟨h0.1, lei.mp c⟩ ⟨h1.1, by omega⟩) (fun c => sj62 _ _ ?_ ?_)
  · rw [e1]; omega
  · rw [e4]; omega
theorem sj34 (v0 v1 : Int32) (h0 : 0 ≤ v0.toInt ∧ v0.toInt ≤ 65536) (h1 : 0 ≤ v1.toInt ∧ v1.toInt ≤ 17) : ∃ r, j_JInteger_numberOfTrailingZeros_34 v0 v1 = some r ∧ ((0 : Int) ≤ r.toInt ∧ r.toInt ≤ (40 : Int)) := by
  have e1 := ushr_ti (x := v0) (s := 8) (N := 256) rfl h0.1 (by decide)
  have e4 : (v1 + (8 : Int32)).toInt = v1.toInt + 8 := add_ti rfl rfl (by omega) (by omega)
  unfold j_JInteger_numberOfTrailingZeros_34
  refine if_i (fun c => sj49 _ _ ⟨h0.1, lei.mp c⟩ ⟨h1.1, by omega⟩) (fun c => sj49 _ _ ?_ ?_)
  · rw [e1]; omega
  · rw [e4]; omega
theorem sf_JInteger_numberOfTrailingZeros (v0 : Int32) : ∃ r, f_JInteger_numberOfTrailingZeros v0 = some r ∧ ((0 : Int) ≤ r.toInt ∧ r.toInt ≤ (40 : Int)) := by
  unfold f_JInteger_numberOfTrailingZeros
  generalize ((v0 ^^^ (-1 : Int32)) &&& (v0 - (1 : Int32))) = X
  refine if_i (fun c => ?_) (fun c => ?_)
  · have d : (0 : Int) < X.toInt := lti.mp c
    have e1 := ushr_ti (x := X) (s := 16) (N := 65536) rfl (by omega) (by decide)
    have hi := i32hi X
    refine if_i (fun c => sj34 _ _ ⟨by omega, lei.mp c⟩ ⟨by decide, by decide⟩) (fun c => sj34 _ _ ?_ ⟨by decide, by decide⟩)
    rw [e1]; omega
  · have := and_rng (a := X) (c := 32) (by decide)
    exact ⟨_, rfl, this.1, by have h : (32 : Int32).toInt = 32 := rfl; omega⟩
theorem sf_JLong_bitCount (v0 : Int64) : ∃ r, f_JLong_bitCount v0 = some r ∧ ((0 : Int) ≤ r.toInt ∧ r.toInt ≤ (127 : Int)) := by
  unfold f_JLong_bitCount
  exact ⟨_, rfl, and_rng (by decide)⟩
theorem sf_JLong_numberOfTrailingZeros (v0 : Int64) : ∃ r : Int32, f_JLong_numberOfTrailingZeros v0 = some r ∧ ((0 : Int) ≤ r.toInt ∧ r.toInt ≤ (72 : Int)) := by
  unfold f_JLong_numberOfTrailingZeros
  refine if_i (fun c => ?_) (fun c => ?_)
  · have c1 := c
    have d2 : v0.toInt32.toInt = (0 : Int) := eqi.mp c1
    refine bind_i (sf_JInteger_numberOfTrailingZeros (v0.toUInt64 >>> ((32 : Int32).toInt64.toUInt64 &&& (Int64.toUInt64 63))).toInt64.toInt32) (fun x2 _ q => ?_)
    obtain ⟨h3, h4⟩ := q
    have q5 : ((32 : Int32) + x2).toInt = (32 : Int) + x2.toInt := add_ti rfl rfl (by omega) (by omega)
    exact ⟨((32 : Int32) + x2), rfl, (show (0 : Int) ≤ ((32 : Int32) + x2).toInt by omega), (show ((32 : Int32) + x2).toInt ≤ (72 : Int) by omega)⟩
  · have c6 := c
    have d7 : ¬ v0.toInt32.toInt = (0 : Int) := neqi.mp c6
    refine bind_i (sf_JInteger_numberOfTrailingZeros v0.toInt32) (fun x1 _ q => ?_)
    obtain ⟨h8, h9⟩ := q
    exact ⟨x1, rfl, (show (0 : Int) ≤ x1.toInt by omega), (show x1.toInt ≤ (72 : Int) by omega)⟩
theorem sl_Signs_add_20 (v1 : Int32) (a0_ : Int32) (N_ : Mem) (B_ : Mem) (hN : J N_) (hG : Gc 1 B_ N_) (i2_ : (0 : Int) ≤ a0_.toInt) (i3_ : a0_.toInt ≤ (4 : Int)) (i4_ : (N_.1 1 1).toInt + (4 - a0_.toInt) ≤ (80 : Int)) : ∃ x, iter (lb_Signs_add_20 v1) FU (a0_, N_) = some x ∧ (fun r : Mem => J r ∧ Gc 1 B_ r) x := by
  refine iter_r (fun s : Int32 × Mem => J s.2 ∧ Gc 1 B_ s.2 ∧ (0 : Int) ≤ s.1.toInt ∧ s.1.toInt ≤ (4 : Int) ∧ (s.2.1 1 1).toInt + (4 - s.1.toInt) ≤ (80 : Int)) (fun s : Int32 × Mem => (4 - s.1.toInt).toNat) (fun r : Mem => J r ∧ Gc 1 B_ r) ?_ FU (a0_, N_) ⟨hN, hG, i2_, i3_, i4_⟩ (by show (4 - a0_.toInt).toNat < FU; rw [FU_v]; omega)
  clear i4_ i3_ i2_ hG hN
  rintro ⟨a0_', N_'⟩ ⟨hN, hG, i2_, i3_, i4_⟩
  dsimp only at hN hG i2_ i3_ i4_
  unfold lb_Signs_add_20
  dsimp only
  refine if_i (fun c => ?_) (fun c => ?_)
  · have c1 := c
    have d2 : (4 : Int) ≤ a0_'.toInt := lei.mp c1
    exact ⟨_, rfl, hN, hG⟩
  · have c3 := c
    have d4 : a0_'.toInt < (4 : Int) := nlei.mp c3
    have r5 := Jr_1_1 hN
    refine inb_i (by omega) (by omega) ?_
    have q7 : (0 : Int) ≤ ((v1 >>> (((24 : Int32) - ((8 : Int32) * a0_')) &&& 31)) &&& (255 : Int32)).toInt ∧ ((v1 >>> (((24 : Int32) - ((8 : Int32) * a0_')) &&& 31)) &&& (255 : Int32)).toInt ≤ 255 := and_rng (by decide)
    refine mem_i (fun M1 e8 => ?_)
    have hJ9 : J M1 := by rw [e8]; exact Jw_2 hN (N_'.1 1 1).toNatClampNeg ((v1 >>> (((24 : Int32) - ((8 : Int32) * a0_')) &&& 31)) &&& (255 : Int32)) (show (0 : Int) ≤ ((v1 >>> (((24 : Int32) - ((8 : Int32) * a0_')) &&& 31)) &&& (255 : Int32)).toInt by omega) (show ((v1 >>> (((24 : Int32) - ((8 : Int32) * a0_')) &&& 31)) &&& (255 : Int32)).toInt ≤ (255 : Int) by omega)
    have hG10 : Gc 1 B_ M1 := Gc_i hG e8 (by decide)
    have f11 : (M1.1 1 1).toInt = (N_'.1 1 1).toInt := by rw [e8]; rw [si_ne (by exact fun e => absurd e.1 (by decide))]
    clear e8
    have q13 : ((M1.1 1 1) + (1 : Int32)).toInt = (M1.1 1 1).toInt + (1 : Int) := add_ti rfl rfl (by omega) (by omega)
    refine mem_i (fun M2 e14 => ?_)
    have hJ15 : J M2 := by rw [e14]; exact Jw_1_1 hJ9 ((M1.1 1 1) + (1 : Int32)) (show (0 : Int) ≤ ((M1.1 1 1) + (1 : Int32)).toInt by omega) (show ((M1.1 1 1) + (1 : Int32)).toInt ≤ (80 : Int) by omega)
    have hG16 : Gc 1 B_ M2 := Gc_1 hG10 e14 (by decide)
    have f17 : (M2.1 1 1).toInt = ((M1.1 1 1) + (1 : Int32)).toInt := by rw [e14, si_eq]
    clear e14
    have q18 : (a0_' + (1 : Int32)).toInt = a0_'.toInt + (1 : Int) := add_ti rfl rfl (by omega) (by omega)
    exact ⟨_, rfl, ⟨hJ15, hG16, (show (0 : Int) ≤ (a0_' + (1 : Int32)).toInt by omega), (show (a0_' + (1 : Int32)).toInt ≤ (4 : Int) by omega), (show (M2.1 1 1).toInt + (4 - (a0_' + (1 : Int32)).toInt) ≤ (80 : Int) by omega)⟩, show (4 - (a0_' + (1 : Int32)).toInt).toNat < (4 - a0_'.toInt).toNat by omega⟩
theorem sf_Signs_add (v1 : Int32) (M : Mem) (hJ : J M) : ∃ r : Int32 × Mem, f_Signs_add v1 M = some r ∧ (J r.2 ∧ Gc 1 M r.2 ∧ (0 : Int) ≤ r.1.toInt ∧ r.1.toInt ≤ (1 : Int)) := by
  unfold f_Signs_add
  refine if_i (fun c => ?_) (fun c => ?_)
  · have c1 := c
    have r2 := Jr_1_1 hJ
    have d3 : (M.1 1 1).toInt < (0 : Int) := lti.mp c1
    exfalso; omega
  · have c4 := c
    have r5 := Jr_1_1 hJ
    have d6 : (0 : Int) ≤ (M.1 1 1).toInt := nlti.mp c4
    refine if_i (fun c => ?_) (fun c => ?_)
    · have c7 := c
      have d8 : (M.1 1 1).toInt ≤ (76 : Int) := lei.mp c7
      refine bind_i (sl_Signs_add_20 v1 (0 : Int32) M M hJ Gc_r (show (0 : Int) ≤ (0 : Int32).toInt by decide) (show (0 : Int32).toInt ≤ (4 : Int) by decide) (show (M.1 1 1).toInt + (4 - 0) ≤ (80 : Int) by omega)) (fun x4 _ q => ?_)
      obtain ⟨h9, h10⟩ := q
      exact ⟨((1 : Int32), x4), rfl, h9, h10, (show (0 : Int) ≤ (1 : Int32).toInt by decide), (show (1 : Int32).toInt ≤ (1 : Int) by decide)⟩
    · have c11 := c
      have d12 : (76 : Int) < (M.1 1 1).toInt := nlei.mp c11
      exact ⟨((0 : Int32), M), rfl, hJ, Gc_r, (show (0 : Int) ≤ (0 : Int32).toInt by decide), (show (0 : Int32).toInt ≤ (1 : Int) by decide)⟩
theorem sf_Signs_at (v1 : Int32) (v2 : Int32) (M : Mem) (hJ : J M) : ∃ r : Int32, f_Signs_at v1 v2 M = some r ∧ ((-1 : Int) ≤ r.toInt ∧ r.toInt ≤ (255 : Int) ∧ (¬ r.toInt = -1 → (0 : Int) ≤ v1.toInt ∧ v1.toInt ≤ (79 : Int))) := by
  unfold f_Signs_at
  refine if_i (fun c => ?_) (fun c => ?_)
  · have c1 := c
    have d2 : v1.toInt < (0 : Int) := lti.mp c1
    exact ⟨(-1 : Int32), rfl, (show (-1 : Int) ≤ (-1 : Int32).toInt by decide), (show (-1 : Int32).toInt ≤ (255 : Int) by decide), (fun hh => by have hh : ¬ (-1 : Int32).toInt = -1 := hh; have zz : (-1 : Int32).toInt = -1 := rfl; omega)⟩
  · have c3 := c
    have d4 : (0 : Int) ≤ v1.toInt := nlti.mp c3
    refine if_i (fun c => ?_) (fun c => ?_)
    · have c5 := c
      have r6 := Jr_1_1 hJ
      have d7 : (M.1 1 1).toInt ≤ v1.toInt := lei.mp c5
      exact ⟨(-1 : Int32), rfl, (show (-1 : Int) ≤ (-1 : Int32).toInt by decide), (show (-1 : Int32).toInt ≤ (255 : Int) by decide), (fun hh => by have hh : ¬ (-1 : Int32).toInt = -1 := hh; have zz : (-1 : Int32).toInt = -1 := rfl; omega)⟩
    · have c8 := c
      have r9 := Jr_1_1 hJ
      have d10 : v1.toInt < (M.1 1 1).toInt := nlei.mp c8
      refine if_i (fun c => ?_) (fun c => ?_)
      · have c11 := c
        have d12 : v2.toInt ≤ v1.toInt := lei.mp c11
        exact ⟨(-1 : Int32), rfl, (show (-1 : Int) ≤ (-1 : Int32).toInt by decide), (show (-1 : Int32).toInt ≤ (255 : Int) by decide), (fun hh => by have hh : ¬ (-1 : Int32).toInt = -1 := hh; have zz : (-1 : Int32).toInt = -1 := rfl; omega)⟩
      · have c13 := c
        have d14 : v1.toInt < v2.toInt := nlei.mp c13
        refine if_i (fun c => ?_) (fun c => ?_)
        · have c15 := c
          have d16 : v1.toInt < (80 : Int) := lti.mp c15
          refine inb_i (by omega) (by omega) ?_
          have r17 := Jr_2 hJ v1.toNatClampNeg
          exact ⟨(M.1 2 v1.toNatClampNeg), rfl, (show (-1 : Int) ≤ (M.1 2 v1.toNatClampNeg).toInt by omega), (show (M.1 2 v1.toNatClampNeg).toInt ≤ (255 : Int) by omega), (fun hh => by have hh : ¬ (M.1 2 v1.toNatClampNeg).toInt = -1 := hh; omega)⟩
        · have c18 := c
          have d19 : (80 : Int) ≤ v1.toInt := nlti.mp c18
          exfalso; omega
theorem sl_Signs_digits_11 (v1 : Int32) (v2 : Int32) (v3 : Int32) (a0_ : Int32) (a1_ : Int32) (N_ : Mem) (B_ : Mem) (z0_ : Int32) (hp_v3 : (0 : Int) ≤ v3.toInt ∧ v3.toInt ≤ (3 : Int)) (hN : J N_) (hG : Gc 0 B_ N_) (i2_ : (0 : Int) ≤ a0_.toInt) (i3_ : a0_.toInt ≤ (3 : Int)) (i4_ : (0 : Int) ≤ a1_.toInt) (i5_ : a1_.toInt ≤ (3 : Int)) (i6_ : N_.1 6 4 = z0_) : ∃ x, iter (lb_Signs_digits_11 v1 v2 v3) FU (a0_, a1_, N_) = some x ∧ (fun r : Int32 × Mem => J r.2 ∧ Gc 0 B_ r.2 ∧ (0 : Int) ≤ r.1.toInt ∧ r.1.toInt ≤ (3 : Int) ∧ r.2.1 6 4 = z0_) x := by
  refine iter_r (fun s : Int32 × Int32 × Mem => J s.2.2 ∧ Gc 0 B_ s.2.2 ∧ (0 : Int) ≤ s.1.toInt ∧ s.1.toInt ≤ (3 : Int) ∧ (0 : Int) ≤ s.2.1.toInt ∧ s.2.1.toInt ≤ (3 : Int) ∧ s.2.2.1 6 4 = z0_) (fun s : Int32 × Int32 × Mem => (3 - s.2.1.toInt).toNat) (fun r : Int32 × Mem => J r.2 ∧ Gc 0 B_ r.2 ∧ (0 : Int) ≤ r.1.toInt ∧ r.1.toInt ≤ (3 : Int) ∧ r.2.1 6 4 = z0_) ?_ FU (a0_, a1_, N_) ⟨hN, hG, i2_, i3_, i4_, i5_, i6_⟩ (by show (3 - a1_.toInt).toNat < FU; rw [FU_v]; omega)
  clear i6_ i5_ i4_ i3_ i2_ hG hN
  rintro ⟨a0_', a1_', N_'⟩ ⟨hN, hG, i2_, i3_, i4_, i5_, i6_⟩
  dsimp only at hN hG i2_ i3_ i4_ i5_ i6_
  unfold lb_Signs_digits_11
  dsimp only
  refine if_i (fun c => ?_) (fun c => ?_)
  · have c1 := c
    have d2 : v3.toInt ≤ a1_'.toInt := lei.mp c1
    exact ⟨_, rfl, hN, hG, (show (0 : Int) ≤ a0_'.toInt by omega), (show a0_'.toInt ≤ (3 : Int) by omega), (i6_)⟩
  · have c3 := c
    have d4 : a1_'.toInt < v3.toInt := nlei.mp c3
    refine if_i (fun c => ?_) (fun c => ?_)
    · have c5 := c
      have d6 : a0_'.toInt = a1_'.toInt := eqi.mp c5
      refine bind_i (sf_Signs_at (v1 + a1_') v2 N_' hN) (fun x2 _ q => ?_)
      obtain ⟨h7, h8, h9⟩ := q
      refine if_i (fun c => ?_) (fun c => ?_)
      · have c10 := c
        have d11 : x2.toInt < (48 : Int) := lti.mp c10
        have q12 : (a1_' + (1 : Int32)).toInt = a1_'.toInt + (1 : Int) := add_ti rfl rfl (by omega) (by omega)
        exact ⟨_, rfl, ⟨hN, hG, (show (0 : Int) ≤ a0_'.toInt by omega), (show a0_'.toInt ≤ (3 : Int) by omega), (show (0 : Int) ≤ (a1_' + (1 : Int32)).toInt by omega), (show (a1_' + (1 : Int32)).toInt ≤ (3 : Int) by omega), (i6_)⟩, show (3 - (a1_' + (1 : Int32)).toInt).toNat < (3 - a1_'.toInt).toNat by omega⟩
      · have c13 := c
        have d14 : (48 : Int) ≤ x2.toInt := nlti.mp c13
        refine if_i (fun c => ?_) (fun c => ?_)
        · have c15 := c
          have d16 : (57 : Int) < x2.toInt := lti.mp c15
          have q17 : (a1_' + (1 : Int32)).toInt = a1_'.toInt + (1 : Int) := add_ti rfl rfl (by omega) (by omega)
          exact ⟨_, rfl, ⟨hN, hG, (show (0 : Int) ≤ a0_'.toInt by omega), (show a0_'.toInt ≤ (3 : Int) by omega), (show (0 : Int) ≤ (a1_' + (1 : Int32)).toInt by omega), (show (a1_' + (1 : Int32)).toInt ≤ (3 : Int) by omega), (i6_)⟩, show (3 - (a1_' + (1 : Int32)).toInt).toNat < (3 - a1_'.toInt).toNat by omega⟩
        · have c18 := c
          have d19 : x2.toInt ≤ (57 : Int) := nlti.mp c18
          refine mem_i (fun M3 e21 => ?_)
          have hJ22 : J M3 := by rw [e21]; exact Jw_fld okf_1_2 hN ((((N_'.1 1 2) * (10 : Int32)) + x2) - (48 : Int32))
          have hG23 : Gc 0 B_ M3 := Gc_1 hG e21 (by decide)
          have g24 : M3.1 6 4 = z0_ := (congrArg (fun m : Mem => m.1 6 4) e21).trans ((si_ne (by exact fun e => absurd e.1 (by decide))).trans i6_)
          clear e21
          have q25 : (a0_' + (1 : Int32)).toInt = a0_'.toInt + (1 : Int) := add_ti rfl rfl (by omega) (by omega)
          have q26 : (a1_' + (1 : Int32)).toInt = a1_'.toInt + (1 : Int) := add_ti rfl rfl (by omega) (by omega)
          exact ⟨_, rfl, ⟨hJ22, hG23, (show (0 : Int) ≤ (a0_' + (1 : Int32)).toInt by omega), (show (a0_' + (1 : Int32)).toInt ≤ (3 : Int) by omega), (show (0 : Int) ≤ (a1_' + (1 : Int32)).toInt by omega), (show (a1_' + (1 : Int32)).toInt ≤ (3 : Int) by omega), (g24)⟩, show (3 - (a1_' + (1 : Int32)).toInt).toNat < (3 - a1_'.toInt).toNat by omega⟩
    · have c27 := c
      have d28 : ¬ a0_'.toInt = a1_'.toInt := neqi.mp c27
      exact ⟨_, rfl, hN, hG, (show (0 : Int) ≤ a0_'.toInt by omega), (show a0_'.toInt ≤ (3 : Int) by omega), (i6_)⟩
theorem sf_Signs_digits (v1 : Int32) (v2 : Int32) (v3 : Int32) (M : Mem) (hp_v3 : (0 : Int) ≤ v3.toInt ∧ v3.toInt ≤ (3 : Int)) (hJ : J M) : ∃ r : Int32 × Mem, f_Signs_digits v1 v2 v3 M = some r ∧ (J r.2 ∧ Gc 0 M r.2 ∧ (0 : Int) ≤ r.1.toInt ∧ r.1.toInt ≤ (3 : Int) ∧ r.2.1 6 4 = M.1 6 4) := by
  unfold f_Signs_digits
  refine mem_i (fun M1 e2 => ?_)
  have hJ3 : J M1 := by rw [e2]; exact Jw_fld okf_1_2 hJ (0 : Int32)
  have hG4 : Gc 0 M M1 := Gc_1 Gc_r e2 (by decide)
  have f5 : (M1.1 1 2).toInt = (0 : Int) := by rw [e2, si_eq]; rfl
  have g6 : M1.1 6 4 = M.1 6 4 := (congrArg (fun m : Mem => m.1 6 4) e2).trans ((si_ne (by exact fun e => absurd e.1 (by decide))).trans rfl)
  clear e2
  refine bind_i (sl_Signs_digits_11 v1 v2 v3 (0 : Int32) (0 : Int32) M1 M (M.1 6 4) (⟨show (0 : Int) ≤ v3.toInt by omega, show v3.toInt ≤ (3 : Int) by omega⟩) hJ3 hG4 (show (0 : Int) ≤ (0 : Int32).toInt by decide) (show (0 : Int32).toInt ≤ (3 : Int) by decide) (show (0 : Int) ≤ (0 : Int32).toInt by decide) (show (0 : Int32).toInt ≤ (3 : Int) by decide) (g6)) (fun x8 _ q => ?_)
  obtain ⟨h7, h8, h9, h10, h11⟩ := q
  exact ⟨(x8.1, x8.2), rfl, h7, h8, (show (0 : Int) ≤ x8.1.toInt by omega), (show x8.1.toInt ≤ (3 : Int) by omega), (h11)⟩
theorem sf_Signs_stepOf (v0 : Int32) : ∃ r : Int32, f_Signs_stepOf v0 = some r ∧ ((-1 : Int) ≤ r.toInt ∧ r.toInt ≤ (4 : Int)) := by
  unfold f_Signs_stepOf
  refine if_i (fun c => ?_) (fun c => ?_)
  · have c1 := c
    have d2 : v0.toInt = (100 : Int) := eqi.mp c1
    exact ⟨(2 : Int32), rfl, (show (-1 : Int) ≤ (2 : Int32).toInt by decide), (show (2 : Int32).toInt ≤ (4 : Int) by decide)⟩
  · have c3 := c
    have d4 : ¬ v0.toInt = (100 : Int) := neqi.mp c3
    refine if_i (fun c => ?_) (fun c => ?_)
    · have c5 := c
      have d6 : v0.toInt = (108 : Int) := eqi.mp c5
      exact ⟨(3 : Int32), rfl, (show (-1 : Int) ≤ (3 : Int32).toInt by decide), (show (3 : Int32).toInt ≤ (4 : Int) by decide)⟩
    · have c7 := c
      have d8 : ¬ v0.toInt = (108 : Int) := neqi.mp c7
      refine if_i (fun c => ?_) (fun c => ?_)
      · have c9 := c
        have d10 : v0.toInt = (111 : Int) := eqi.mp c9
        exact ⟨(4 : Int32), rfl, (show (-1 : Int) ≤ (4 : Int32).toInt by decide), (show (4 : Int32).toInt ≤ (4 : Int) by decide)⟩
      · have c11 := c
        have d12 : ¬ v0.toInt = (111 : Int) := neqi.mp c11
        refine if_i (fun c => ?_) (fun c => ?_)
        · have c13 := c
          have d14 : v0.toInt = (114 : Int) := eqi.mp c13
          exact ⟨(1 : Int32), rfl, (show (-1 : Int) ≤ (1 : Int32).toInt by decide), (show (1 : Int32).toInt ≤ (4 : Int) by decide)⟩
        · have c15 := c
          have d16 : ¬ v0.toInt = (114 : Int) := neqi.mp c15
          refine if_i (fun c => ?_) (fun c => ?_)
          · have c17 := c
            have d18 : v0.toInt = (117 : Int) := eqi.mp c17
            exact ⟨(0 : Int32), rfl, (show (-1 : Int) ≤ (0 : Int32).toInt by decide), (show (0 : Int32).toInt ≤ (4 : Int) by decide)⟩
          · have c19 := c
            have d20 : ¬ v0.toInt = (117 : Int) := neqi.mp c19
            exact ⟨(-1 : Int32), rfl, (show (-1 : Int) ≤ (-1 : Int32).toInt by decide), (show (-1 : Int32).toInt ≤ (4 : Int) by decide)⟩
theorem sl_Signs_steps_6 (v1 : Int32) (v2 : Int32) (v3 : Nat) (v4 : Int32) (a0_ : Int32) (a1_ : Int32) (N_ : Mem) (B_ : Mem) (z0_ : Int32) (hk_v3 : FS v3) (hp_v4 : (0 : Int) ≤ v4.toInt ∧ v4.toInt ≤ (63 : Int)) (hN : J N_) (hG : Gc 0 B_ N_) (i2_ : (0 : Int) ≤ a0_.toInt) (i3_ : a0_.toInt ≤ (9 : Int)) (i4_ : (0 : Int) ≤ a1_.toInt) (i5_ : a1_.toInt ≤ (9 : Int)) (i6_ : N_.1 6 4 = z0_) : ∃ x, iter (lb_Signs_steps_6 v1 v2 v3 v4) FU (a0_, a1_, N_) = some x ∧ (fun r : Int32 × Mem => J r.2 ∧ Gc 0 B_ r.2 ∧ (0 : Int) ≤ r.1.toInt ∧ r.1.toInt ≤ (9 : Int) ∧ r.2.1 6 4 = z0_) x := by
  refine iter_r (fun s : Int32 × Int32 × Mem => J s.2.2 ∧ Gc 0 B_ s.2.2 ∧ (0 : Int) ≤ s.1.toInt ∧ s.1.toInt ≤ (9 : Int) ∧ (0 : Int) ≤ s.2.1.toInt ∧ s.2.1.toInt ≤ (9 : Int) ∧ s.2.2.1 6 4 = z0_) (fun s : Int32 × Int32 × Mem => (9 - s.2.1.toInt).toNat) (fun r : Int32 × Mem => J r.2 ∧ Gc 0 B_ r.2 ∧ (0 : Int) ≤ r.1.toInt ∧ r.1.toInt ≤ (9 : Int) ∧ r.2.1 6 4 = z0_) ?_ FU (a0_, a1_, N_) ⟨hN, hG, i2_, i3_, i4_, i5_, i6_⟩ (by show (9 - a1_.toInt).toNat < FU; rw [FU_v]; omega)
  clear i6_ i5_ i4_ i3_ i2_ hG hN
  rintro ⟨a0_', a1_', N_'⟩ ⟨hN, hG, i2_, i3_, i4_, i5_, i6_⟩
  dsimp only at hN hG i2_ i3_ i4_ i5_ i6_
  unfold lb_Signs_steps_6
  dsimp only
  refine if_i (fun c => ?_) (fun c => ?_)
  · have c1 := c
    have d2 : (9 : Int) ≤ a1_'.toInt := lei.mp c1
    exact ⟨_, rfl, hN, hG, (show (0 : Int) ≤ a0_'.toInt by omega), (show a0_'.toInt ≤ (9 : Int) by omega), (i6_)⟩
  · have c3 := c
    have d4 : a1_'.toInt < (9 : Int) := nlei.mp c3
    refine if_i (fun c => ?_) (fun c => ?_)
    · have c5 := c
      have d6 : a0_'.toInt = a1_'.toInt := eqi.mp c5
      refine bind_i (sf_Signs_at (v1 + a1_') v2 N_' hN) (fun x1 _ q => ?_)
      obtain ⟨h7, h8, h9⟩ := q
      refine bind_i (sf_Signs_stepOf x1) (fun x2 _ q => ?_)
      obtain ⟨h10, h11⟩ := q
      refine if_i (fun c => ?_) (fun c => ?_)
      · have c12 := c
        have d13 : x2.toInt = (-1 : Int) := eqi.mp c12
        have q14 : (a1_' + (1 : Int32)).toInt = a1_'.toInt + (1 : Int) := add_ti rfl rfl (by omega) (by omega)
        exact ⟨_, rfl, ⟨hN, hG, (show (0 : Int) ≤ a0_'.toInt by omega), (show a0_'.toInt ≤ (9 : Int) by omega), (show (0 : Int) ≤ (a1_' + (1 : Int32)).toInt by omega), (show (a1_' + (1 : Int32)).toInt ≤ (9 : Int) by omega), (i6_)⟩, show (9 - (a1_' + (1 : Int32)).toInt).toNat < (9 - a1_'.toInt).toNat by omega⟩
      · have c15 := c
        have d16 : ¬ x2.toInt = (-1 : Int) := neqi.mp c15
        refine if_i (fun c => ?_) (fun c => ?_)
        · have c17 := c
          have d18 : v4.toInt < (0 : Int) := lti.mp c17
          exfalso; omega
        · have c19 := c
          have d20 : (0 : Int) ≤ v4.toInt := nlti.mp c19
          refine if_i (fun c => ?_) (fun c => ?_)
          · have c21 := c
            have l22 := FS_ln hk_v3
            have q23 : (Int32.ofNat (ln v3)).toInt = (ln v3 : Int) := ofn_ti (by omega)
            have q24 : (v4 + a1_').toInt = v4.toInt + a1_'.toInt := add_ti rfl rfl (by omega) (by omega)
            have d25 : (Int32.ofNat (ln v3)).toInt ≤ (v4 + a1_').toInt := lei.mp c21
            have q26 : (a1_' + (1 : Int32)).toInt = a1_'.toInt + (1 : Int) := add_ti rfl rfl (by omega) (by omega)
            exact ⟨_, rfl, ⟨hN, hG, (show (0 : Int) ≤ a0_'.toInt by omega), (show a0_'.toInt ≤ (9 : Int) by omega), (show (0 : Int) ≤ (a1_' + (1 : Int32)).toInt by omega), (show (a1_' + (1 : Int32)).toInt ≤ (9 : Int) by omega), (i6_)⟩, show (9 - (a1_' + (1 : Int32)).toInt).toNat < (9 - a1_'.toInt).toNat by omega⟩
          · have c27 := c
            have l28 := FS_ln hk_v3
            have q29 : (Int32.ofNat (ln v3)).toInt = (ln v3 : Int) := ofn_ti (by omega)
            have q30 : (v4 + a1_').toInt = v4.toInt + a1_'.toInt := add_ti rfl rfl (by omega) (by omega)
            have d31 : (v4 + a1_').toInt < (Int32.ofNat (ln v3)).toInt := nlei.mp c27
            have l32 := FS_ln hk_v3
            refine inb_i (by omega) (by omega) ?_
            refine mem_i (fun M3 e34 => ?_)
            have hJ35 : J M3 := by rw [e34]; exact Jw_steps hN hk_v3 (v4 + a1_').toNatClampNeg x2
            have hG36 : Gc 0 B_ M3 := Gc_i hG e34 (cl_steps hk_v3)
            have f37 : (M3.1 v3 (v4 + a1_').toNatClampNeg).toInt = x2.toInt := by rw [e34, si_eq]
            have g38 : M3.1 6 4 = z0_ := (congrArg (fun m : Mem => m.1 6 4) e34).trans ((si_ne (by exact fun e => FS_ne6 hk_v3 e.1.symm)).trans i6_)
            clear e34
            have q39 : (a0_' + (1 : Int32)).toInt = a0_'.toInt + (1 : Int) := add_ti rfl rfl (by omega) (by omega)
            have q40 : (a1_' + (1 : Int32)).toInt = a1_'.toInt + (1 : Int) := add_ti rfl rfl (by omega) (by omega)
            exact ⟨_, rfl, ⟨hJ35, hG36, (show (0 : Int) ≤ (a0_' + (1 : Int32)).toInt by omega), (show (a0_' + (1 : Int32)).toInt ≤ (9 : Int) by omega), (show (0 : Int) ≤ (a1_' + (1 : Int32)).toInt by omega), (show (a1_' + (1 : Int32)).toInt ≤ (9 : Int) by omega), (g38)⟩, show (9 - (a1_' + (1 : Int32)).toInt).toNat < (9 - a1_'.toInt).toNat by omega⟩
    · have c41 := c
      have d42 : ¬ a0_'.toInt = a1_'.toInt := neqi.mp c41
      exact ⟨_, rfl, hN, hG, (show (0 : Int) ≤ a0_'.toInt by omega), (show a0_'.toInt ≤ (9 : Int) by omega), (i6_)⟩
theorem sf_Signs_steps (v1 : Int32) (v2 : Int32) (v3 : Nat) (v4 : Int32) (M : Mem) (hk_v3 : FS v3) (hp_v4 : (0 : Int) ≤ v4.toInt ∧ v4.toInt ≤ (63 : Int)) (hJ : J M) : ∃ r : Int32 × Mem, f_Signs_steps v1 v2 v3 v4 M = some r ∧ (J r.2 ∧ Gc 0 M r.2 ∧ (0 : Int) ≤ r.1.toInt ∧ r.1.toInt ≤ (9 : Int) ∧ r.2.1 6 4 = M.1 6 4) := by
  unfold f_Signs_steps
  refine c_i (FS_kd hk_v3) ?_
  refine bind_i (sl_Signs_steps_6 v1 v2 v3 v4 (0 : Int32) (0 : Int32) M M (M.1 6 4) hk_v3 (⟨show (0 : Int) ≤ v4.toInt by omega, show v4.toInt ≤ (63 : Int) by omega⟩) hJ Gc_r (show (0 : Int) ≤ (0 : Int32).toInt by decide) (show (0 : Int32).toInt ≤ (9 : Int) by decide) (show (0 : Int) ≤ (0 : Int32).toInt by decide) (show (0 : Int32).toInt ≤ (9 : Int) by decide) (rfl)) (fun x9 _ q => ?_)
  obtain ⟨h1, h2, h3, h4, h5⟩ := q
  exact ⟨(x9.1, x9.2), rfl, h1, h2, (show (0 : Int) ≤ x9.1.toInt by omega), (show x9.1.toInt ≤ (9 : Int) by omega), (h5)⟩
theorem sf_Ground_kindOf (v0 : Int32) : ∃ r : Int32, f_Ground_kindOf v0 = some r ∧ ((-1 : Int) ≤ r.toInt ∧ r.toInt ≤ (3 : Int)) := by
  unfold f_Ground_kindOf
  refine if_i (fun c => ?_) (fun c => ?_)
  · have c1 := c
    have d2 : v0.toInt = (35 : Int) := eqi.mp c1
    exact ⟨(0 : Int32), rfl, (show (-1 : Int) ≤ (0 : Int32).toInt by decide), (show (0 : Int32).toInt ≤ (3 : Int) by decide)⟩
  · have c3 := c
    have d4 : ¬ v0.toInt = (35 : Int) := neqi.mp c3
    refine if_i (fun c => ?_) (fun c => ?_)
    · have c5 := c
      have d6 : v0.toInt = (46 : Int) := eqi.mp c5
      exact ⟨(1 : Int32), rfl, (show (-1 : Int) ≤ (1 : Int32).toInt by decide), (show (1 : Int32).toInt ≤ (3 : Int) by decide)⟩
    · have c7 := c
      have d8 : ¬ v0.toInt = (46 : Int) := neqi.mp c7
      refine if_i (fun c => ?_) (fun c => ?_)
      · have c9 := c
        have d10 : v0.toInt = (104 : Int) := eqi.mp c9
        exact ⟨(2 : Int32), rfl, (show (-1 : Int) ≤ (2 : Int32).toInt by decide), (show (2 : Int32).toInt ≤ (3 : Int) by decide)⟩
      · have c11 := c
        have d12 : ¬ v0.toInt = (104 : Int) := neqi.mp c11
        refine if_i (fun c => ?_) (fun c => ?_)
        · have c13 := c
          have d14 : v0.toInt = (115 : Int) := eqi.mp c13
          exact ⟨(3 : Int32), rfl, (show (-1 : Int) ≤ (3 : Int32).toInt by decide), (show (3 : Int32).toInt ≤ (3 : Int) by decide)⟩
        · have c15 := c
          have d16 : ¬ v0.toInt = (115 : Int) := neqi.mp c15
          exact ⟨(-1 : Int32), rfl, (show (-1 : Int) ≤ (-1 : Int32).toInt by decide), (show (-1 : Int32).toInt ≤ (3 : Int) by decide)⟩
theorem sf_Ground_fits (v0 : Int32) (v1 : Int32) (v2 : Int32) (v3 : Int32) (v4 : Int32) : ∃ r : Int32, f_Ground_fits v0 v1 v2 v3 v4 = some r ∧ ((0 : Int) ≤ r.toInt ∧ r.toInt ≤ (1 : Int)) := by
  unfold f_Ground_fits
  refine if_i (fun c => ?_) (fun c => ?_)
  · have c1 := c
    have d2 : v1.toInt = (0 : Int) := eqi.mp c1
    refine bind_i (sf_Ground_kindOf v0) (fun x1 _ q => ?_)
    obtain ⟨h3, h4⟩ := q
    refine if_i (fun c => ?_) (fun c => ?_)
    · have c5 := c
      have d6 : x1.toInt = (-1 : Int) := eqi.mp c5
      exact ⟨(0 : Int32), rfl, (show (0 : Int) ≤ (0 : Int32).toInt by decide), (show (0 : Int32).toInt ≤ (1 : Int) by decide)⟩
    · have c7 := c
      have d8 : ¬ x1.toInt = (-1 : Int) := neqi.mp c7
      refine if_i (fun c => ?_) (fun c => ?_)
      · have c9 := c
        have d10 : v4.toInt ≤ v2.toInt := lei.mp c9
        exact ⟨(0 : Int32), rfl, (show (0 : Int) ≤ (0 : Int32).toInt by decide), (show (0 : Int32).toInt ≤ (1 : Int) by decide)⟩
      · have c11 := c
        have d12 : v2.toInt < v4.toInt := nlei.mp c11
        exact ⟨(1 : Int32), rfl, (show (0 : Int) ≤ (1 : Int32).toInt by decide), (show (1 : Int32).toInt ≤ (1 : Int) by decide)⟩
  · have c13 := c
    have d14 : ¬ v1.toInt = (0 : Int) := neqi.mp c13
    refine if_i (fun c => ?_) (fun c => ?_)
    · have c15 := c
      have d16 : v2.toInt < v3.toInt := lti.mp c15
      exact ⟨(0 : Int32), rfl, (show (0 : Int) ≤ (0 : Int32).toInt by decide), (show (0 : Int32).toInt ≤ (1 : Int) by decide)⟩
    · have c17 := c
      have d18 : v3.toInt ≤ v2.toInt := nlti.mp c17
      exact ⟨(1 : Int32), rfl, (show (0 : Int) ≤ (1 : Int32).toInt by decide), (show (1 : Int32).toInt ≤ (1 : Int) by decide)⟩
end
section
/-! safety of the class, 2 -/
theorem sl_Ground_become_12 (v2 : Int32) (a0_ : Int32) (N_ : Mem) (B_ : Mem) (hp_v2 : (1 : Int) ≤ v2.toInt ∧ v2.toInt ≤ (36 : Int)) (hN : J N_) (hG : Gc 0 B_ N_) (i2_ : (0 : Int) ≤ a0_.toInt) (i3_ : a0_.toInt ≤ (36 : Int)) : ∃ x, iter (lb_Ground_become_12 v2) FU (a0_, N_) = some x ∧ (fun r : Mem => J r ∧ Gc 0 B_ r) x := by
  refine iter_r (fun s : Int32 × Mem => J s.2 ∧ Gc 0 B_ s.2 ∧ (0 : Int) ≤ s.1.toInt ∧ s.1.toInt ≤ (36 : Int)) (fun s : Int32 × Mem => (36 - s.1.toInt).toNat) (fun r : Mem => J r ∧ Gc 0 B_ r) ?_ FU (a0_, N_) ⟨hN, hG, i2_, i3_⟩ (by show (36 - a0_.toInt).toNat < FU; rw [FU_v]; omega)
  clear i3_ i2_ hG hN
  rintro ⟨a0_', N_'⟩ ⟨hN, hG, i2_, i3_⟩
  dsimp only at hN hG i2_ i3_
  unfold lb_Ground_become_12
  dsimp only
  refine if_i (fun c => ?_) (fun c => ?_)
  · have c1 := c
    have d2 : (36 : Int) ≤ a0_'.toInt := lei.mp c1
    exact ⟨_, rfl, hN, hG⟩
  · have c3 := c
    have d4 : a0_'.toInt < (36 : Int) := nlei.mp c3
    refine if_i (fun c => ?_) (fun c => ?_)
    · have c5 := c
      have d6 : v2.toInt ≤ a0_'.toInt := lei.mp c5
      refine inb_i (by omega) (by omega) ?_
      refine mem_i (fun M3 e8 => ?_)
      have hJ9 : J M3 := by rw [e8]; exact Jw_any ok_4 hN a0_'.toNatClampNeg (0 : Int32)
      have hG10 : Gc 0 B_ M3 := Gc_i hG e8 (by decide)
      clear e8
      have q11 : (a0_' + (1 : Int32)).toInt = a0_'.toInt + (1 : Int) := add_ti rfl rfl (by omega) (by omega)
      exact ⟨_, rfl, ⟨hJ9, hG10, (show (0 : Int) ≤ (a0_' + (1 : Int32)).toInt by omega), (show (a0_' + (1 : Int32)).toInt ≤ (36 : Int) by omega)⟩, show (36 - (a0_' + (1 : Int32)).toInt).toNat < (36 - a0_'.toInt).toNat by omega⟩
    · have c12 := c
      have d13 : a0_'.toInt < v2.toInt := nlei.mp c12
      refine inb_i (by omega) (by omega) ?_
      refine inb_i (by omega) (by omega) ?_
      refine mem_i (fun M4 e15 => ?_)
      have hJ16 : J M4 := by rw [e15]; exact Jw_any ok_4 hN a0_'.toNatClampNeg (N_'.1 5 a0_'.toNatClampNeg)
      have hG17 : Gc 0 B_ M4 := Gc_i hG e15 (by decide)
      clear e15
      have q18 : (a0_' + (1 : Int32)).toInt = a0_'.toInt + (1 : Int) := add_ti rfl rfl (by omega) (by omega)
      exact ⟨_, rfl, ⟨hJ16, hG17, (show (0 : Int) ≤ (a0_' + (1 : Int32)).toInt by omega), (show (a0_' + (1 : Int32)).toInt ≤ (36 : Int) by omega)⟩, show (36 - (a0_' + (1 : Int32)).toInt).toNat < (36 - a0_'.toInt).toNat by omega⟩
theorem J_grow {M : Mem} (h : J M) {a b : Int32} (h1 : 1 ≤ a.toInt) (h2 : a.toInt ≤ 6) (h3 : 1 ≤ b.toInt) (h4 : b.toInt ≤ 36) (h5 : ∃ z : Int, b.toInt = a.toInt * z) : J (s_i (s_i M 3 2 a) 3 3 b) := by
  have e1 : (s_i (s_i M 3 2 a) 3 3 b).1 3 3 = b := si_eq
  have e2 : (s_i (s_i M 3 2 a) 3 3 b).1 3 2 = a := by rw [si_ne (by decide)]; exact si_eq
  refine ⟨fun k i => ?_, ?_, h.2.2⟩
  · by_cases c1 : k = 3 ∧ i = 3
    · obtain ⟨rfl, rfl⟩ := c1
      rw [e1]; exact ⟨h3, h4⟩
    · rw [si_ne c1]
      by_cases c2 : k = 3 ∧ i = 2
      · obtain ⟨rfl, rfl⟩ := c2
        rw [si_eq]; exact ⟨h1, h2⟩
      · rw [si_ne c2]; exact h.1 k i
  · obtain ⟨z, hz⟩ := h5
    exact ⟨z, by rw [e1, e2, hz]⟩
theorem sf_Ground_become (v1 v2 : Int32) (M : Mem) (hJ : J M) (h1 : 1 ≤ v1.toInt) (h2 : v1.toInt ≤ 6) (h3 : 1 ≤ v2.toInt) (h4 : v2.toInt ≤ 36) (h5 : ∃ z : Int, v2.toInt = v1.toInt * z) : ∃ r, f_Ground_become v1 v2 M = some r ∧ (J r.2 ∧ Gc 0 M r.2 ∧ (1 : Int) ≤ r.1.toInt ∧ r.1.toInt ≤ (36 : Int)) := by
  unfold f_Ground_become
  refine mem_i (fun M1 e1 => ?_)
  refine mem_i (fun M2 e2 => ?_)
  have hJ2 : J M2 := by rw [e2, e1]; exact J_grow hJ h1 h2 h3 h4 h5
  have hG2 : Gc 0 M M2 := Gc_i (Gc_i Gc_r e1 (by decide)) e2 (by decide)
  refine bind_i (sl_Ground_become_12 v2 (0 : Int32) M2 M ⟨h3, h4⟩ hJ2 hG2 (by decide) (by decide)) (fun x _ q => ?_)
  exact ⟨_, rfl, q.1, q.2, h3, h4⟩
def GR_I (B : Mem) (s : Int32 × Int32 × Int32 × Int32 × Int32 × Mem) : Prop := (J s.2.2.2.2.2 ∧ Gc 0 B s.2.2.2.2.2) ∧ (0 : Int) ≤ s.2.2.2.2.1.toInt ∧ s.2.2.2.2.1.toInt ≤ 81 ∧ (0 : Int) ≤ s.2.2.1.toInt ∧ s.2.2.1.toInt ≤ 6 ∧ (0 : Int) ≤ s.2.1.toInt ∧ s.2.1.toInt ≤ s.2.2.2.1.toInt ∧ (1 : Int) ≤ s.2.2.2.1.toInt ∧ s.2.2.2.1.toInt ≤ 6 ∧ s.1.toInt = s.2.2.2.1.toInt * s.2.2.1.toInt + s.2.1.toInt
def GR_m (s : Int32 × Int32 × Int32 × Int32 × Int32 × Mem) : Nat := (81 - s.2.2.2.2.1.toInt).toNat
def GR_Q (B : Mem) : (Mem) ⊕ (Int32 × Mem) ⊕ (Int32 × Int32 × Mem) → Prop := SQ (fun r => J r ∧ Gc 0 B r) (SQ (fun r => (J r.2 ∧ Gc 0 B r.2) ∧ (0 : Int) ≤ r.1.toInt ∧ r.1.toInt ≤ (80 : Int)) (fun r => (J r.2.2 ∧ Gc 0 B r.2.2) ∧ (1 : Int) ≤ r.2.1.toInt ∧ r.2.1.toInt ≤ (6 : Int) ∧ (1 : Int) ≤ r.1.toInt ∧ r.1.toInt ≤ (36 : Int) ∧ ∃ z : Int, r.1.toInt = r.2.1.toInt * z))
theorem GR_step (B : Mem) (v2 v3 v4 v5 v6 : Int32) (N : Mem) (hN : J N ∧ Gc 0 B N) (p1 : 0 ≤ v6.toInt) (p2 : v6.toInt ≤ 81) (l1 : 0 ≤ v4.toInt) (l2 : v4.toInt ≤ 6) (c1 : 0 ≤ v3.toInt) (c2 : v3.toInt ≤ v5.toInt) (w1 : 1 ≤ v5.toInt) (w2 : v5.toInt ≤ 6) (hs : v2.toInt = v5.toInt * v4.toInt + v3.toInt) : ∃ r, lb_Ground_read_14 (v2, v3, v4, v5, v6, N) = some r ∧ LPq (GR_I B) GR_m (GR_Q B) (GR_m (v2, v3, v4, v5, v6, N)) r := by
  unfold lb_Ground_read_14
  dsimp only
  refine if_i (fun c => ⟨_, rfl, hN⟩) (fun c => ?_)
  have p3 : v6.toInt ≤ 80 := nlti.mp c
  have ep : (v6 + (1 : Int32)).toInt = v6.toInt + 1 := add_ti rfl rfl (by omega) (by omega)
  have ec : (v3 + (1 : Int32)).toInt = v3.toInt + 1 := add_ti rfl rfl (by omega) (by omega)
  have el : (v4 + (1 : Int32)).toInt = v4.toInt + 1 := add_ti rfl rfl (by omega) (by omega)
  have z0 : (0 : Int32).toInt = 0 := rfl
  have o1 : (1 : Int32).toInt = 1 := rfl
  have hp : 0 ≤ v5.toInt * v4.toInt := Int.mul_nonneg (by omega) l1
  have hp2 : v5.toInt * v4.toInt ≤ 6 * 6 := Int.mul_le_mul w2 l2 l1 (by decide)
  have bad : ∀ r : (Int32 × Int32 × Int32 × Int32 × Int32 × Mem) ⊕ ((Mem) ⊕ (Int32 × Mem) ⊕ (Int32 × Int32 × Mem)), r = .inr (Sum.inr (Sum.inl (v6, N))) → LPq (GR_I B) GR_m (GR_Q B) (GR_m (v2, v3, v4, v5, v6, N)) r := fun r e => by rw [e]; exact ⟨hN, p1, p3⟩
  -- a row ends
  have ends : ∀ x1 lst : Int32, v4.toInt < 6 → (v4.toInt = 0 → lst.toInt = 1) → (v4.toInt ≠ 0 → lst = v5) → ∃ r, j_Ground_read_74_14 v2 v3 v4 v5 v6 x1 1 lst v3 1 x1 N = some r ∧ LPq (GR_I B) GR_m (GR_Q B) (GR_m (v2, v3, v4, v5, v6, N)) r := by
    intro x1 lst h6 h7 h8
    unfold j_Ground_read_74_14
    have hf : ∃ x2, f_Ground_fits x1 1 v3 lst v5 = some x2 ∧ (¬ x2 = 0 → lst.toInt ≤ v3.toInt) := by
      unfold f_Ground_fits
      refine if_i (fun c => absurd c (by decide)) (fun c => ?_)
      refine if_i (fun c => ⟨_, rfl, fun h => absurd rfl h⟩) (fun c => ⟨_, rfl, fun _ => nlti.mp c⟩)
    refine bind_i hf (fun x2 _ q => ?_)
    refine if_i (fun c => ⟨_, rfl, bad _ rfl⟩) (fun c => ?_)
    have q := q c
    refine if_i (fun c => absurd c (by decide)) (fun c => ?_)
    unfold j_Ground_read_126_14
    have k1 : (1 : Int) ≤ v3.toInt := by
      by_cases e : v4.toInt = 0
      · have := h7 e; omega
      · rw [h8 e] at q; omega
    have k2 : v2.toInt = v3.toInt * (v4.toInt + 1) := by
      by_cases e : v4.toInt = 0
      · rw [e] at hs ⊢; omega
      · rw [h8 e] at q
        have e3 : v3.toInt = v5.toInt := by omega
        rw [e3, Int.mul_add, hs, e3]; omega
    refine if_i (fun c => ⟨_, rfl, ?_⟩) (fun c => ⟨_, rfl, ?_⟩)
    · refine ⟨hN, k1, show v3.toInt ≤ 6 by omega, ?_, ?_, v4.toInt + 1, k2⟩
      · show (1 : Int) ≤ v2.toInt
        rw [k2]
        have := Int.mul_le_mul k1 (show (1 : Int) ≤ v4.toInt + 1 by omega) (by decide) (by omega)
        omega
      · show v2.toInt ≤ 36
        rw [k2]
        have := Int.mul_le_mul (show v3.toInt ≤ 6 by omega) (show v4.toInt + 1 ≤ 6 by omega) (by omega) (by decide)
        omega
    · refine ⟨⟨hN, ?_, ?_, ?_, ?_, ?_, ?_, k1, ?_, ?_⟩, ?_⟩
      · show (0 : Int) ≤ (v6 + (1 : Int32)).toInt; omega
      · show (v6 + (1 : Int32)).toInt ≤ 81; omega
      · show (0 : Int) ≤ (v4 + (1 : Int32)).toInt; omega
      · show (v4 + (1 : Int32)).toInt ≤ 6; omega
      · show (0 : Int) ≤ (0 : Int32).toInt; omega
      · show (0 : Int32).toInt ≤ v3.toInt; omega
      · show v3.toInt ≤ 6; omega
      · show v2.toInt = v3.toInt * (v4 + (1 : Int32)).toInt + (0 : Int32).toInt; rw [el, z0, k2]; omega
      · show (81 - (v6 + (1 : Int32)).toInt).toNat < (81 - v6.toInt).toNat; omega
  -- a CELL more
  have more : ∀ x1 lst : Int32, ¬ x1 = -1 → ∃ r, j_Ground_read_74_14 v2 v3 v4 v5 v6 x1 0 lst v3 0 x1 N = some r ∧ LPq (GR_I B) GR_m (GR_Q B) (GR_m (v2, v3, v4, v5, v6, N)) r := by
    intro x1 lst hx
    unfold j_Ground_read_74_14
    have hf : ∃ x2, f_Ground_fits x1 0 v3 lst v5 = some x2 ∧ (¬ x2 = 0 → v3.toInt < v5.toInt) := by
      unfold f_Ground_fits
      refine if_i (fun c => ?_) (fun c => absurd rfl c)
      refine bind_i (sf_Ground_kindOf x1) (fun y _ _ => ?_)
      refine if_i (fun c => ⟨_, rfl, fun h => absurd rfl h⟩) (fun c => ?_)
      refine if_i (fun c => ⟨_, rfl, fun h => absurd rfl h⟩) (fun c => ⟨_, rfl, fun _ => nlei.mp c⟩)
    refine bind_i hf (fun x2 _ q => ?_)
    refine if_i (fun c => ⟨_, rfl, bad _ rfl⟩) (fun c => ?_)
    have q := q c
    refine if_i (fun c => ?_) (fun c => absurd rfl c)
    refine if_i (fun c => ?_) (fun c => ?_)
    · unfold j_Ground_read_126_14
      refine if_i (fun c => absurd c hx) (fun c => ⟨_, rfl, ?_⟩)
      refine ⟨⟨hN, ?_, ?_, l1, l2, c1, c2, w1, w2, hs⟩, ?_⟩
      · show (0 : Int) ≤ (v6 + (1 : Int32)).toInt; omega
      · show (v6 + (1 : Int32)).toInt ≤ 81; omega
      · show (81 - (v6 + (1 : Int32)).toInt).toNat < (81 - v6.toInt).toNat; omega
    · have d := nlei.mp c
      have d2 : v2.toInt < 36 := d
      have ev : (v2 + (1 : Int32)).toInt = v2.toInt + 1 := add_ti rfl rfl (by omega) (by omega)
      refine bind_i (sf_Ground_kindOf x1) (fun y _ _ => ?_)
      refine inb_i (by omega) (by omega) ?_
      refine mem_i (fun M5 e5 => ?_)
      have h5 : J M5 ∧ Gc 0 B M5 := ⟨by rw [e5]; exact Jw_any ok_5 hN.1 _ _, Gc_i hN.2 e5 (by decide)⟩
      unfold j_Ground_read_126_14
      refine if_i (fun c => absurd c hx) (fun c => ⟨_, rfl, ?_⟩)
      refine ⟨⟨h5, ?_, ?_, l1, l2, ?_, ?_, w1, w2, ?_⟩, ?_⟩
      · show (0 : Int) ≤ (v6 + (1 : Int32)).toInt; omega
      · show (v6 + (1 : Int32)).toInt ≤ 81; omega
      · show (0 : Int) ≤ (v3 + (1 : Int32)).toInt; omega
      · show (v3 + (1 : Int32)).toInt ≤ v5.toInt; omega
      · show (v2 + (1 : Int32)).toInt = v5.toInt * v4.toInt + (v3 + (1 : Int32)).toInt; omega
      · show (81 - (v6 + (1 : Int32)).toInt).toNat < (81 - v6.toInt).toNat; omega
  refine bind_i (sf_Signs_at v6 (80 : Int32) N hN.1) (fun x1 _ _ => ?_)
  have j49 : ∀ w0 : Int32, (w0 = 1 ∨ (w0 = 0 ∧ ¬ x1 = -1)) → ∃ r, j_Ground_read_49_14 v2 v3 v4 v5 v6 x1 w0 N = some r ∧ LPq (GR_I B) GR_m (GR_Q B) (GR_m (v2, v3, v4, v5, v6, N)) r := by
    intro w0 hw0
    unfold j_Ground_read_49_14
    refine if_i (fun c => ⟨_, rfl, bad _ rfl⟩) (fun c => ?_)
    have h6 : v4.toInt < 6 := nlei.mp c
    refine if_i (fun c => ?_) (fun c => ?_)
    · have e4 : v4.toInt = 0 := eqi.mp c
      rcases hw0 with rfl | ⟨rfl, hx⟩
      · exact ends x1 1 h6 (fun _ => rfl) (fun h => absurd e4 h)
      · exact more x1 1 hx
    · have e4 : ¬ v4.toInt = 0 := neqi.mp c
      rcases hw0 with rfl | ⟨rfl, hx⟩
      · exact ends x1 v5 h6 (fun h => absurd h e4) (fun _ => rfl)
      · exact more x1 v5 hx
  refine if_i (fun c => j49 1 (.inl rfl)) (fun c => ?_)
  exact if_i (fun c => j49 1 (.inl rfl)) (fun c => j49 0 (.inr ⟨rfl, c⟩))
theorem sl_Ground_read_14 (M : Mem) (hJ : J M) : ∃ x, iter lb_Ground_read_14 FU ((0 : Int32), (0 : Int32), (0 : Int32), (6 : Int32), (0 : Int32), M) = some x ∧ GR_Q M x := by
  refine iter_r (GR_I M) GR_m (GR_Q M) ?_ FU _ ⟨⟨hJ, Gc_r⟩, by show (0 : Int) ≤ (0 : Int32).toInt; decide, by show (0 : Int32).toInt ≤ 81; decide, by show (0 : Int) ≤ (0 : Int32).toInt; decide, by show (0 : Int32).toInt ≤ 6; decide, by show (0 : Int) ≤ (0 : Int32).toInt; decide, by show (0 : Int32).toInt ≤ (6 : Int32).toInt; decide, by show (1 : Int) ≤ (6 : Int32).toInt; decide, by show (6 : Int32).toInt ≤ 6; decide, by show (0 : Int32).toInt = (6 : Int32).toInt * (0 : Int32).toInt + (0 : Int32).toInt; decide⟩ (by show (81 - (0 : Int32).toInt).toNat < FU; decide)
  rintro ⟨v2, v3, v4, v5, v6, N⟩ ⟨hN, p1, p2, l1, l2, c1, c2, w1, w2, hs⟩
  exact GR_step M v2 v3 v4 v5 v6 N hN p1 p2 l1 l2 c1 c2 w1 w2 hs
theorem sf_Ground_read (M : Mem) (hJ : J M) : ∃ r, f_Ground_read M = some r ∧ (J r.2 ∧ Gc 0 M r.2 ∧ (-81 : Int) ≤ r.1.toInt ∧ r.1.toInt ≤ (36 : Int)) := by
  unfold f_Ground_read
  refine bind_i (sl_Ground_read_14 M hJ) (fun x _ q => ?_)
  rcases x with y | y | y
  · have q9 : J y ∧ Gc 0 M y := q
    exact ⟨_, rfl, q9.1, q9.2, (by show (-81 : Int) ≤ (-81 : Int32).toInt; decide), (by show (-81 : Int32).toInt ≤ 36; decide)⟩
  · have q9 : (J y.2 ∧ Gc 0 M y.2) ∧ (0 : Int) ≤ y.1.toInt ∧ y.1.toInt ≤ (80 : Int) := q
    have e : ((-1 : Int32) - y.1).toInt = -1 - y.1.toInt := sub_ti rfl rfl (by omega) (by omega)
    exact ⟨_, rfl, q9.1.1, q9.1.2, show (-81 : Int) ≤ ((-1 : Int32) - y.1).toInt by omega, show ((-1 : Int32) - y.1).toInt ≤ 36 by omega⟩
  · have q9 : (J y.2.2 ∧ Gc 0 M y.2.2) ∧ (1 : Int) ≤ y.2.1.toInt ∧ y.2.1.toInt ≤ (6 : Int) ∧ (1 : Int) ≤ y.1.toInt ∧ y.1.toInt ≤ (36 : Int) ∧ ∃ z : Int, y.1.toInt = y.2.1.toInt * z := q
    obtain ⟨⟨a1, ga⟩, a2, a3, a4, a5, a6⟩ := q9
    dsimp only [Sum.elim_inl, Sum.elim_inr]
    refine bind_i (sf_Ground_become y.2.1 y.1 y.2.2 a1 a2 a3 a4 a5 a6) (fun x _ q => ?_)
    exact ⟨_, rfl, q.1, Gc_t ga q.2.1, show (-81 : Int) ≤ x.1.toInt by have := q.2.2.1; omega, q.2.2.2⟩
theorem sf_Ground_holds (v1 : Int32) (v2 : Int32) (M : Mem) (hJ : J M) : ∃ r : Int32, f_Ground_holds v1 v2 M = some r ∧ ((0 : Int) ≤ r.toInt ∧ r.toInt ≤ (1 : Int) ∧ (¬ r.toInt = 0 → (0 : Int) ≤ v1.toInt ∧ v1.toInt ≤ (1 : Int)) ∧ (¬ r.toInt = 0 → (0 : Int) ≤ v2.toInt ∧ v2.toInt ≤ (35 : Int))) := by
  unfold f_Ground_holds
  refine if_i (fun c => ?_) (fun c => ?_)
  · have c1 := c
    have d2 : v1.toInt < (0 : Int) := lti.mp c1
    exact ⟨(0 : Int32), rfl, (show (0 : Int) ≤ (0 : Int32).toInt by decide), (show (0 : Int32).toInt ≤ (1 : Int) by decide), (fun hh => by have hh : ¬ (0 : Int32).toInt = 0 := hh; have zz : (0 : Int32).toInt = 0 := rfl; omega), (fun hh => by have hh : ¬ (0 : Int32).toInt = 0 := hh; have zz : (0 : Int32).toInt = 0 := rfl; omega)⟩
  · have c3 := c
    have d4 : (0 : Int) ≤ v1.toInt := nlti.mp c3
    refine if_i (fun c => ?_) (fun c => ?_)
    · have c5 := c
      have d6 : (1 : Int) < v1.toInt := lti.mp c5
      exact ⟨(0 : Int32), rfl, (show (0 : Int) ≤ (0 : Int32).toInt by decide), (show (0 : Int32).toInt ≤ (1 : Int) by decide), (fun hh => by have hh : ¬ (0 : Int32).toInt = 0 := hh; have zz : (0 : Int32).toInt = 0 := rfl; omega), (fun hh => by have hh : ¬ (0 : Int32).toInt = 0 := hh; have zz : (0 : Int32).toInt = 0 := rfl; omega)⟩
    · have c7 := c
      have d8 : v1.toInt ≤ (1 : Int) := nlti.mp c7
      refine if_i (fun c => ?_) (fun c => ?_)
      · have c9 := c
        have d10 : v2.toInt < (0 : Int) := lti.mp c9
        exact ⟨(0 : Int32), rfl, (show (0 : Int) ≤ (0 : Int32).toInt by decide), (show (0 : Int32).toInt ≤ (1 : Int) by decide), (fun hh => by have hh : ¬ (0 : Int32).toInt = 0 := hh; have zz : (0 : Int32).toInt = 0 := rfl; omega), (fun hh => by have hh : ¬ (0 : Int32).toInt = 0 := hh; have zz : (0 : Int32).toInt = 0 := rfl; omega)⟩
      · have c11 := c
        have d12 : (0 : Int) ≤ v2.toInt := nlti.mp c11
        refine if_i (fun c => ?_) (fun c => ?_)
        · have c13 := c
          have r14 := Jr_3_3 hJ
          have d15 : (M.1 3 3).toInt ≤ v2.toInt := lei.mp c13
          exact ⟨(0 : Int32), rfl, (show (0 : Int) ≤ (0 : Int32).toInt by decide), (show (0 : Int32).toInt ≤ (1 : Int) by decide), (fun hh => by have hh : ¬ (0 : Int32).toInt = 0 := hh; have zz : (0 : Int32).toInt = 0 := rfl; omega), (fun hh => by have hh : ¬ (0 : Int32).toInt = 0 := hh; have zz : (0 : Int32).toInt = 0 := rfl; omega)⟩
        · have c16 := c
          have r17 := Jr_3_3 hJ
          have d18 : v2.toInt < (M.1 3 3).toInt := nlei.mp c16
          refine if_i (fun c => ?_) (fun c => ?_)
          · have c19 := c
            have d20 : (36 : Int) ≤ v2.toInt := lei.mp c19
            exfalso; omega
          · have c21 := c
            have d22 : v2.toInt < (36 : Int) := nlei.mp c21
            refine inb_i (by omega) (by omega) ?_
            refine if_i (fun c => ?_) (fun c => ?_)
            · have c23 := c
              have q24 : (0 : Int) ≤ (((M.1 4 v2.toNatClampNeg) >>> (v1 &&& 31)) &&& (1 : Int32)).toInt ∧ (((M.1 4 v2.toNatClampNeg) >>> (v1 &&& 31)) &&& (1 : Int32)).toInt ≤ 1 := and_rng (by decide)
              have d25 : (((M.1 4 v2.toNatClampNeg) >>> (v1 &&& 31)) &&& (1 : Int32)).toInt = (0 : Int) := eqi.mp c23
              exact ⟨(0 : Int32), rfl, (show (0 : Int) ≤ (0 : Int32).toInt by decide), (show (0 : Int32).toInt ≤ (1 : Int) by decide), (fun hh => by have hh : ¬ (0 : Int32).toInt = 0 := hh; have zz : (0 : Int32).toInt = 0 := rfl; omega), (fun hh => by have hh : ¬ (0 : Int32).toInt = 0 := hh; have zz : (0 : Int32).toInt = 0 := rfl; omega)⟩
            · have c26 := c
              have q27 : (0 : Int) ≤ (((M.1 4 v2.toNatClampNeg) >>> (v1 &&& 31)) &&& (1 : Int32)).toInt ∧ (((M.1 4 v2.toNatClampNeg) >>> (v1 &&& 31)) &&& (1 : Int32)).toInt ≤ 1 := and_rng (by decide)
              have d28 : ¬ (((M.1 4 v2.toNatClampNeg) >>> (v1 &&& 31)) &&& (1 : Int32)).toInt = (0 : Int) := neqi.mp c26
              exact ⟨(1 : Int32), rfl, (show (0 : Int) ≤ (1 : Int32).toInt by decide), (show (1 : Int32).toInt ≤ (1 : Int) by decide), (fun hh => by have hh : ¬ (1 : Int32).toInt = 0 := hh; have zz : (1 : Int32).toInt = 1 := rfl; omega), (fun hh => by have hh : ¬ (1 : Int32).toInt = 0 := hh; have zz : (1 : Int32).toInt = 1 := rfl; omega)⟩
theorem sf_Ground_beside (v1 v2 : Int32) (M : Mem) (hJ : J M) : ∃ r, f_Ground_beside v1 v2 M = some r ∧ ((-1 : Int) ≤ r.toInt ∧ r.toInt ≤ (35 : Int) ∧ r.toInt < (M.1 3 3).toInt) := by
  obtain ⟨z, hz⟩ := hJ.2.1
  have w1 := Jr_3_2 hJ
  have w2 := Jr_3_3 hJ
  have n1 : (-1 : Int32).toInt = -1 := rfl
  unfold f_Ground_beside
  refine if_i (fun c => ⟨_, rfl, by rw [n1]; omega⟩) (fun c => ?_)
  have d1 : (0 : Int) ≤ v1.toInt := nlti.mp c
  refine if_i (fun c => ⟨_, rfl, by rw [n1]; omega⟩) (fun c => ?_)
  have d2 := nlei.mp c
  refine if_i (fun c => ?_) (fun c => ⟨_, rfl, by rw [n1]; omega⟩)
  refine z_i (nz_of (by omega)) ?_
  have hr : (v1 - v1 / (M.1 3 2) * (M.1 3 2)).toInt = v1.toInt % (M.1 3 2).toInt := rem_ti rfl rfl (by omega) (by omega)
  have hr2 := rem_rng (a := v1) (b := M.1 3 2) (by omega) (by omega)
  have hw : (M.1 3 2).toInt = 1 ∨ (M.1 3 2).toInt = 2 ∨ (M.1 3 2).toInt = 3 ∨ (M.1 3 2).toInt = 4 ∨ (M.1 3 2).toInt = 5 ∨ (M.1 3 2).toInt = 6 := by omega
  refine if_i (fun c => ?_) (fun c => ?_)
  · refine if_i (fun c => ⟨_, rfl, by rw [n1]; omega⟩) (fun c => ?_)
    have d4 := nlti.mp c
    have e : (v1 - M.1 3 2).toInt = v1.toInt - (M.1 3 2).toInt := sub_ti rfl rfl (by omega) (by omega)
    exact ⟨_, rfl, by rw [e]; omega⟩
  refine if_i (fun c => ?_) (fun c => ?_)
  · refine if_i (fun c => ⟨_, rfl, by rw [n1]; omega⟩) (fun c => ?_)
    have d4 := nlei.mp c
    have e1 : ((v1 - v1 / (M.1 3 2) * (M.1 3 2)) + (1 : Int32)).toInt = (v1 - v1 / (M.1 3 2) * (M.1 3 2)).toInt + 1 := add_ti rfl rfl (by omega) (by omega)
    have e : (v1 + (1 : Int32)).toInt = v1.toInt + 1 := add_ti rfl rfl (by omega) (by omega)
    refine ⟨_, rfl, ?_⟩
    rw [e]
    rw [e1, hr] at d4
    rcases hw with h | h | h | h | h | h <;> rw [h] at d4 hz <;> omega
  refine if_i (fun c => ?_) (fun c => ?_)
  · have e : (v1 + M.1 3 2).toInt = v1.toInt + (M.1 3 2).toInt := add_ti rfl rfl (by omega) (by omega)
    refine if_i (fun c => ⟨_, rfl, by rw [n1]; omega⟩) (fun c => ?_)
    have d4 := nlei.mp c
    exact ⟨_, rfl, by rw [e] at d4 ⊢; omega⟩
  refine if_i (fun c => ?_) (fun c => ⟨_, rfl, by rw [n1]; omega⟩)
  refine if_i (fun c => ⟨_, rfl, by rw [n1]; omega⟩) (fun c => ?_)
  have d4 : (0 : Int) < _ := nlei.mp c
  have e : (v1 - (1 : Int32)).toInt = v1.toInt - 1 := sub_ti rfl rfl (by omega) (by omega)
  exact ⟨_, rfl, by rw [e]; omega⟩
theorem sl_Ground_across_2 (v1 : Int32) (v2 : Int32) (M : Mem) (a0_ : Int32) (hJ_M : J M) (i0_ : (0 : Int) ≤ a0_.toInt) (i1_ : a0_.toInt ≤ (4 : Int)) : ∃ x, iter (lb_Ground_across_2 v1 v2 M) FU a0_ = some x ∧ (SQ (fun r : Unit => True) (fun r : Int32 => (0 : Int) ≤ r.toInt ∧ r.toInt ≤ (3 : Int))) x := by
  refine iter_r (fun s : Int32 => (0 : Int) ≤ s.toInt ∧ s.toInt ≤ (4 : Int)) (fun s : Int32 => (4 - s.toInt).toNat) (SQ (fun r : Unit => True) (fun r : Int32 => (0 : Int) ≤ r.toInt ∧ r.toInt ≤ (3 : Int))) ?_ FU a0_ ⟨i0_, i1_⟩ (by show (4 - a0_.toInt).toNat < FU; rw [FU_v]; omega)
  clear i1_ i0_
  rintro a0_' ⟨i0_, i1_⟩
  unfold lb_Ground_across_2
  refine if_i (fun c => ?_) (fun c => ?_)
  · have c1 := c
    have d2 : (4 : Int) ≤ a0_'.toInt := lei.mp c1
    exact ⟨_, rfl, trivial⟩
  · have c3 := c
    have d4 : a0_'.toInt < (4 : Int) := nlei.mp c3
    refine if_i (fun c => ?_) (fun c => ?_)
    · have c5 := c
      have d6 : v2.toInt = (-1 : Int) := eqi.mp c5
      have q7 : (a0_' + (1 : Int32)).toInt = a0_'.toInt + (1 : Int) := add_ti rfl rfl (by omega) (by omega)
      exact ⟨_, rfl, ⟨(show (0 : Int) ≤ (a0_' + (1 : Int32)).toInt by omega), (show (a0_' + (1 : Int32)).toInt ≤ (4 : Int) by omega)⟩, show (4 - (a0_' + (1 : Int32)).toInt).toNat < (4 - a0_'.toInt).toNat by omega⟩
    · have c8 := c
      have d9 : ¬ v2.toInt = (-1 : Int) := neqi.mp c8
      refine bind_i (sf_Ground_beside v1 a0_' M hJ_M) (fun x1 _ q => ?_)
      obtain ⟨h10, h11, h12⟩ := q
      refine bind_i (sf_Ground_beside x1 a0_' M hJ_M) (fun x2 _ q => ?_)
      obtain ⟨h13, h14, h15⟩ := q
      refine if_i (fun c => ?_) (fun c => ?_)
      · have c16 := c
        have d17 : x2.toInt = v2.toInt := eqi.mp c16
        exact ⟨_, rfl, (show (0 : Int) ≤ a0_'.toInt by omega), (show a0_'.toInt ≤ (3 : Int) by omega)⟩
      · have c18 := c
        have d19 : ¬ x2.toInt = v2.toInt := neqi.mp c18
        have q20 : (a0_' + (1 : Int32)).toInt = a0_'.toInt + (1 : Int) := add_ti rfl rfl (by omega) (by omega)
        exact ⟨_, rfl, ⟨(show (0 : Int) ≤ (a0_' + (1 : Int32)).toInt by omega), (show (a0_' + (1 : Int32)).toInt ≤ (4 : Int) by omega)⟩, show (4 - (a0_' + (1 : Int32)).toInt).toNat < (4 - a0_'.toInt).toNat by omega⟩
theorem sf_Ground_across (v1 : Int32) (v2 : Int32) (M : Mem) (hJ : J M) : ∃ r : Int32, f_Ground_across v1 v2 M = some r ∧ ((-1 : Int) ≤ r.toInt ∧ r.toInt ≤ (3 : Int)) := by
  unfold f_Ground_across
  refine bind_i (sl_Ground_across_2 v1 v2 M (0 : Int32) hJ (show (0 : Int) ≤ (0 : Int32).toInt by decide) (show (0 : Int32).toInt ≤ (4 : Int) by decide)) (fun x1 _ q => ?_)
  rcases x1 with y | y
  · have q9 : True := q
    dsimp only [Sum.elim_inl, Sum.elim_inr]
    exact ⟨(-1 : Int32), rfl, (show (-1 : Int) ≤ (-1 : Int32).toInt by decide), (show (-1 : Int32).toInt ≤ (3 : Int) by decide)⟩
  · have q9 : (0 : Int) ≤ y.toInt ∧ y.toInt ≤ (3 : Int) := q
    dsimp only [Sum.elim_inl, Sum.elim_inr]
    obtain ⟨h4, h5⟩ := q9
    exact ⟨y, rfl, (show (-1 : Int) ≤ y.toInt by omega), (show y.toInt ≤ (3 : Int) by omega)⟩
theorem sf_Ground_has (v1 : Int32) (M : Mem) (hJ : J M) : ∃ r : Int32, f_Ground_has v1 M = some r ∧ ((0 : Int) ≤ r.toInt ∧ r.toInt ≤ (1 : Int) ∧ (¬ r.toInt = 0 → (0 : Int) ≤ v1.toInt ∧ v1.toInt ≤ (35 : Int))) := by
  unfold f_Ground_has
  refine if_i (fun c => ?_) (fun c => ?_)
  · have c1 := c
    have d2 : v1.toInt < (0 : Int) := lti.mp c1
    exact ⟨(0 : Int32), rfl, (show (0 : Int) ≤ (0 : Int32).toInt by decide), (show (0 : Int32).toInt ≤ (1 : Int) by decide), (fun hh => by have hh : ¬ (0 : Int32).toInt = 0 := hh; have zz : (0 : Int32).toInt = 0 := rfl; omega)⟩
  · have c3 := c
    have d4 : (0 : Int) ≤ v1.toInt := nlti.mp c3
    refine if_i (fun c => ?_) (fun c => ?_)
    · have c5 := c
      have r6 := Jr_3_3 hJ
      have d7 : (M.1 3 3).toInt ≤ v1.toInt := lei.mp c5
      exact ⟨(0 : Int32), rfl, (show (0 : Int) ≤ (0 : Int32).toInt by decide), (show (0 : Int32).toInt ≤ (1 : Int) by decide), (fun hh => by have hh : ¬ (0 : Int32).toInt = 0 := hh; have zz : (0 : Int32).toInt = 0 := rfl; omega)⟩
    · have c8 := c
      have r9 := Jr_3_3 hJ
      have d10 : v1.toInt < (M.1 3 3).toInt := nlei.mp c8
      refine if_i (fun c => ?_) (fun c => ?_)
      · have c11 := c
        have d12 : (36 : Int) ≤ v1.toInt := lei.mp c11
        exfalso; omega
      · have c13 := c
        have d14 : v1.toInt < (36 : Int) := nlei.mp c13
        exact ⟨(1 : Int32), rfl, (show (0 : Int) ≤ (1 : Int32).toInt by decide), (show (1 : Int32).toInt ≤ (1 : Int) by decide), (fun hh => by have hh : ¬ (1 : Int32).toInt = 0 := hh; have zz : (1 : Int32).toInt = 1 := rfl; omega)⟩
theorem sf_Ground_column (v1 : Int32) (M : Mem) (hJ : J M) : ∃ r : Int32, f_Ground_column v1 M = some r ∧ (True) := by
  unfold f_Ground_column
  refine if_i (fun c => ?_) (fun c => ?_)
  · have c1 := c
    have r2 := Jr_3_2 hJ
    have d3 : (1 : Int) ≤ (M.1 3 2).toInt := lei.mp c1
    refine z_i (nz_of (by omega)) ?_
    exact ⟨(v1 - ((v1 / (M.1 3 2)) * (M.1 3 2))), rfl, trivial⟩
  · have c4 := c
    have r5 := Jr_3_2 hJ
    have d6 : (M.1 3 2).toInt < (1 : Int) := nlei.mp c4
    exfalso; omega
theorem sf_Ground_line (v1 : Int32) (M : Mem) (hJ : J M) : ∃ r : Int32, f_Ground_line v1 M = some r ∧ (True) := by
  unfold f_Ground_line
  refine if_i (fun c => ?_) (fun c => ?_)
  · have c1 := c
    have r2 := Jr_3_2 hJ
    have d3 : (1 : Int) ≤ (M.1 3 2).toInt := lei.mp c1
    refine z_i (nz_of (by omega)) ?_
    exact ⟨(v1 / (M.1 3 2)), rfl, trivial⟩
  · have c4 := c
    have r5 := Jr_3_2 hJ
    have d6 : (M.1 3 2).toInt < (1 : Int) := nlei.mp c4
    exfalso; omega
theorem sf_Ground_isStair (v1 : Int32) (M : Mem) (hJ : J M) : ∃ r : Int32, f_Ground_isStair v1 M = some r ∧ ((0 : Int) ≤ r.toInt ∧ r.toInt ≤ (1 : Int) ∧ (¬ r.toInt = 0 → (0 : Int) ≤ v1.toInt ∧ v1.toInt ≤ (35 : Int))) := by
  unfold f_Ground_isStair
  refine if_i (fun c => ?_) (fun c => ?_)
  · have c1 := c
    have d2 : v1.toInt < (0 : Int) := lti.mp c1
    exact ⟨(0 : Int32), rfl, (show (0 : Int) ≤ (0 : Int32).toInt by decide), (show (0 : Int32).toInt ≤ (1 : Int) by decide), (fun hh => by have hh : ¬ (0 : Int32).toInt = 0 := hh; have zz : (0 : Int32).toInt = 0 := rfl; omega)⟩
  · have c3 := c
    have d4 : (0 : Int) ≤ v1.toInt := nlti.mp c3
    refine if_i (fun c => ?_) (fun c => ?_)
    · have c5 := c
      have r6 := Jr_3_3 hJ
      have d7 : (M.1 3 3).toInt ≤ v1.toInt := lei.mp c5
      exact ⟨(0 : Int32), rfl, (show (0 : Int) ≤ (0 : Int32).toInt by decide), (show (0 : Int32).toInt ≤ (1 : Int) by decide), (fun hh => by have hh : ¬ (0 : Int32).toInt = 0 := hh; have zz : (0 : Int32).toInt = 0 := rfl; omega)⟩
    · have c8 := c
      have r9 := Jr_3_3 hJ
      have d10 : v1.toInt < (M.1 3 3).toInt := nlei.mp c8
      refine if_i (fun c => ?_) (fun c => ?_)
      · have c11 := c
        have d12 : (36 : Int) ≤ v1.toInt := lei.mp c11
        exfalso; omega
      · have c13 := c
        have d14 : v1.toInt < (36 : Int) := nlei.mp c13
        refine inb_i (by omega) (by omega) ?_
        refine if_i (fun c => ?_) (fun c => ?_)
        · have c15 := c
          have d16 : (M.1 4 v1.toNatClampNeg).toInt = (3 : Int) := eqi.mp c15
          exact ⟨(1 : Int32), rfl, (show (0 : Int) ≤ (1 : Int32).toInt by decide), (show (1 : Int32).toInt ≤ (1 : Int) by decide), (fun hh => by have hh : ¬ (1 : Int32).toInt = 0 := hh; have zz : (1 : Int32).toInt = 1 := rfl; omega)⟩
        · have c17 := c
          have d18 : ¬ (M.1 4 v1.toNatClampNeg).toInt = (3 : Int) := neqi.mp c17
          exact ⟨(0 : Int32), rfl, (show (0 : Int) ≤ (0 : Int32).toInt by decide), (show (0 : Int32).toInt ≤ (1 : Int) by decide), (fun hh => by have hh : ¬ (0 : Int32).toInt = 0 := hh; have zz : (0 : Int32).toInt = 0 := rfl; omega)⟩
end
section
/-! safety of the class, 3 -/
theorem sf_Ground_between (v1 : Int32) (v2 : Int32) (M : Mem) (hJ : J M) : ∃ r : Int32, f_Ground_between v1 v2 M = some r ∧ ((-1 : Int) ≤ r.toInt ∧ r.toInt ≤ (35 : Int)) := by
  unfold f_Ground_between
  refine bind_i (sf_Ground_across v1 v2 M hJ) (fun x1 _ q => ?_)
  obtain ⟨h1, h2⟩ := q
  refine bind_i (sf_Ground_beside v1 x1 M hJ) (fun x2 _ q => ?_)
  obtain ⟨h3, h4, h5⟩ := q
  exact ⟨x2, rfl, (show (-1 : Int) ≤ x2.toInt by omega), (show x2.toInt ≤ (35 : Int) by omega)⟩
theorem sf_Crowd_clear (M : Mem) (hJ : J M) : ∃ r : Mem, f_Crowd_clear M = some r ∧ (J r ∧ Gc 0 M r) := by
  unfold f_Crowd_clear
  refine mem_i (fun M1 e2 => ?_)
  have hJ3 : J M1 := by rw [e2]; exact Jw_6_4 hJ (0 : Int32) (show (0 : Int) ≤ (0 : Int32).toInt by decide) (show (0 : Int32).toInt ≤ (8 : Int) by decide)
  have hG4 : Gc 0 M M1 := Gc_i Gc_r e2 (by decide)
  have f5 : (M1.1 6 4).toInt = (0 : Int) := by rw [e2, si_eq]; rfl
  clear e2
  refine mem_i (fun M2 e7 => ?_)
  have hJ8 : J M2 := by rw [e7]; exact Jw_fld okf_6_5 hJ3 (0 : Int32)
  have hG9 : Gc 0 M M2 := Gc_i hG4 e7 (by decide)
  have f10 : (M2.1 6 4).toInt = (M1.1 6 4).toInt := by rw [e7]; rw [si_ne (by exact fun e => absurd e.2 (by decide))]
  have f11 : (M2.1 6 5).toInt = (0 : Int) := by rw [e7, si_eq]; rfl
  clear e7
  exact ⟨M2, rfl, hJ8, hG9⟩
theorem sl_Crowd_isCutOff_26 (v2 : Int32) (M : Mem) (a0_ : Int32) (hJ_M : J M) (i0_ : (0 : Int) ≤ a0_.toInt) (i1_ : a0_.toInt ≤ (10 : Int)) : ∃ x, iter (lb_Crowd_isCutOff_26 v2 M) FU a0_ = some x ∧ (SQ (fun r : Unit => True) (fun r : Unit => True)) x := by
  refine iter_r (fun s : Int32 => (0 : Int) ≤ s.toInt ∧ s.toInt ≤ (10 : Int)) (fun s : Int32 => (10 - s.toInt).toNat) (SQ (fun r : Unit => True) (fun r : Unit => True)) ?_ FU a0_ ⟨i0_, i1_⟩ (by show (10 - a0_.toInt).toNat < FU; rw [FU_v]; omega)
  clear i1_ i0_
  rintro a0_' ⟨i0_, i1_⟩
  unfold lb_Crowd_isCutOff_26
  refine if_i (fun c => ?_) (fun c => ?_)
  · have c1 := c
    have d2 : (10 : Int) ≤ a0_'.toInt := lei.mp c1
    exact ⟨_, rfl, trivial⟩
  · have c3 := c
    have d4 : a0_'.toInt < (10 : Int) := nlei.mp c3
    refine bind_i (sf_Ground_holds v2 (((M.1 1 2) * (10 : Int32)) + a0_') M hJ_M) (fun x1 _ q => ?_)
    obtain ⟨h5, h6, h7, h8⟩ := q
    refine if_i (fun c => ?_) (fun c => ?_)
    · have c9 := c
      have d10 : x1.toInt = (0 : Int) := eqi.mp c9
      have q11 : (a0_' + (1 : Int32)).toInt = a0_'.toInt + (1 : Int) := add_ti rfl rfl (by omega) (by omega)
      exact ⟨_, rfl, ⟨(show (0 : Int) ≤ (a0_' + (1 : Int32)).toInt by omega), (show (a0_' + (1 : Int32)).toInt ≤ (10 : Int) by omega)⟩, show (10 - (a0_' + (1 : Int32)).toInt).toNat < (10 - a0_'.toInt).toNat by omega⟩
    · have c12 := c
      have d13 : ¬ x1.toInt = (0 : Int) := neqi.mp c12
      exact ⟨_, rfl, trivial⟩
theorem sf_Crowd_isCutOff (v2 : Int32) (v3 : Int32) (v4 : Int32) (M : Mem) (hJ : J M) : ∃ r : Int32, f_Crowd_isCutOff v2 v3 v4 M = some r ∧ ((0 : Int) ≤ r.toInt ∧ r.toInt ≤ (1 : Int)) := by
  unfold f_Crowd_isCutOff
  refine if_i (fun c => ?_) (fun c => ?_)
  · have c1 := c
    have d2 : v4.toInt = (1 : Int) := eqi.mp c1
    refine if_i (fun c => ?_) (fun c => ?_)
    · have c3 := c
      have d4 : v3.toInt = (76 : Int) := eqi.mp c3
      refine if_i (fun c => ?_) (fun c => ?_)
      · have c5 := c
        have r6 := Jr_1_1 hJ
        have d7 : (76 : Int) < (M.1 1 1).toInt := lti.mp c5
        refine bind_i (sl_Crowd_isCutOff_26 v2 M (0 : Int32) hJ (show (0 : Int) ≤ (0 : Int32).toInt by decide) (show (0 : Int32).toInt ≤ (10 : Int) by decide)) (fun x8 _ q => ?_)
        rcases x8 with y | y
        · have q9 : True := q
          dsimp only [Sum.elim_inl, Sum.elim_inr]
          exact ⟨(0 : Int32), rfl, (show (0 : Int) ≤ (0 : Int32).toInt by decide), (show (0 : Int32).toInt ≤ (1 : Int) by decide)⟩
        · have q9 : True := q
          dsimp only [Sum.elim_inl, Sum.elim_inr]
          exact ⟨(1 : Int32), rfl, (show (0 : Int) ≤ (1 : Int32).toInt by decide), (show (1 : Int32).toInt ≤ (1 : Int) by decide)⟩
      · have c11 := c
        have r12 := Jr_1_1 hJ
        have d13 : (M.1 1 1).toInt ≤ (76 : Int) := nlti.mp c11
        exact ⟨(0 : Int32), rfl, (show (0 : Int) ≤ (0 : Int32).toInt by decide), (show (0 : Int32).toInt ≤ (1 : Int) by decide)⟩
    · have c14 := c
      have d15 : ¬ v3.toInt = (76 : Int) := neqi.mp c14
      exact ⟨(0 : Int32), rfl, (show (0 : Int) ≤ (0 : Int32).toInt by decide), (show (0 : Int32).toInt ≤ (1 : Int) by decide)⟩
  · have c16 := c
    have d17 : ¬ v4.toInt = (1 : Int) := neqi.mp c16
    exact ⟨(0 : Int32), rfl, (show (0 : Int) ≤ (0 : Int32).toInt by decide), (show (0 : Int32).toInt ≤ (1 : Int) by decide)⟩
theorem sf_Crowd_readLine (v3 : Int32) (v4 : Int32) (M : Mem) (hp_v4 : (0 : Int) ≤ v4.toInt ∧ v4.toInt ≤ (80 : Int)) (hJ : J M) : ∃ r : Int32 × Mem, f_Crowd_readLine v3 v4 M = some r ∧ (J r.2 ∧ Gc 0 M r.2 ∧ (-84 : Int) ≤ r.1.toInt ∧ r.1.toInt ≤ (89 : Int) ∧ ((0 : Int) ≤ r.1.toInt → (0 : Int) ≤ v3.toInt ∧ v3.toInt ≤ (7 : Int)) ∧ r.2.1 6 4 = M.1 6 4) := by
  unfold f_Crowd_readLine
  refine bind_i (sf_Signs_at v4 (76 : Int32) M hJ) (fun x1 _ q => ?_)
  obtain ⟨h1, h2, h3⟩ := q
  refine if_i (fun c => ?_) (fun c => ?_)
  · have c4 := c
    have d5 : v3.toInt < (0 : Int) := lti.mp c4
    have q6 : ((-1 : Int32) - v4).toInt = (-1 : Int) - v4.toInt := sub_ti rfl rfl (by omega) (by omega)
    exact ⟨(((-1 : Int32) - v4), M), rfl, hJ, Gc_r, (show (-84 : Int) ≤ ((-1 : Int32) - v4).toInt by rw [q6]; clear q6; omega), (show ((-1 : Int32) - v4).toInt ≤ (89 : Int) by rw [q6]; clear q6; omega), (fun hh => by have hh : (0 : Int) ≤ ((-1 : Int32) - v4).toInt := hh; rw [q6] at hh; clear q6; omega), (rfl)⟩
  · have c7 := c
    have d8 : (0 : Int) ≤ v3.toInt := nlti.mp c7
    refine if_i (fun c => ?_) (fun c => ?_)
    · have c9 := c
      have d10 : (8 : Int) ≤ v3.toInt := lei.mp c9
      have q11 : ((-1 : Int32) - v4).toInt = (-1 : Int) - v4.toInt := sub_ti rfl rfl (by omega) (by omega)
      exact ⟨(((-1 : Int32) - v4), M), rfl, hJ, Gc_r, (show (-84 : Int) ≤ ((-1 : Int32) - v4).toInt by rw [q11]; clear q11; omega), (show ((-1 : Int32) - v4).toInt ≤ (89 : Int) by rw [q11]; clear q11; omega), (fun hh => by have hh : (0 : Int) ≤ ((-1 : Int32) - v4).toInt := hh; rw [q11] at hh; clear q11; omega), (rfl)⟩
    · have c12 := c
      have d13 : v3.toInt < (8 : Int) := nlei.mp c12
      refine if_i (fun c => ?_) (fun c => ?_)
      · have c14 := c
        have d15 : x1.toInt = (109 : Int) := eqi.mp c14
        unfold j_Crowd_readLine_39
        refine if_i (fun c => ?_) (fun c => ?_)
        · have c16 := c
          have d17 : x1.toInt = (119 : Int) := eqi.mp c16
          exfalso; omega
        · have c18 := c
          have d19 : ¬ x1.toInt = (119 : Int) := neqi.mp c18
          unfold j_Crowd_readLine_51
          refine bind_i (sf_Signs_digits (v4 + (1 : Int32)) (76 : Int32) (2 : Int32) M (⟨by decide, by decide⟩) hJ) (fun x2 _ q => ?_)
          obtain ⟨h20, h21, h22, h23, h24⟩ := q
          have hG25 : Gc 0 M x2.2 := Gc_t Gc_r h21
          have g26 := h24.trans (rfl : M.1 6 4 = M.1 6 4)
          refine if_i (fun c => ?_) (fun c => ?_)
          · have c27 := c
            have d28 : x2.1.toInt = (0 : Int) := eqi.mp c27
            have q29 : (v4 + (1 : Int32)).toInt = v4.toInt + (1 : Int) := add_ti rfl rfl (by omega) (by omega)
            have q30 : ((v4 + (1 : Int32)) + x2.1).toInt = (v4 + (1 : Int32)).toInt + x2.1.toInt := add_ti rfl rfl (by omega) (by omega)
            have q31 : ((-1 : Int32) - ((v4 + (1 : Int32)) + x2.1)).toInt = (-1 : Int) - ((v4 + (1 : Int32)) + x2.1).toInt := sub_ti rfl rfl (by omega) (by omega)
            exact ⟨(((-1 : Int32) - ((v4 + (1 : Int32)) + x2.1)), x2.2), rfl, h20, hG25, (show (-84 : Int) ≤ ((-1 : Int32) - ((v4 + (1 : Int32)) + x2.1)).toInt by rw [q31]; clear q31; omega), (show ((-1 : Int32) - ((v4 + (1 : Int32)) + x2.1)).toInt ≤ (89 : Int) by rw [q31]; clear q31; omega), (fun hh => by have hh : (0 : Int) ≤ ((-1 : Int32) - ((v4 + (1 : Int32)) + x2.1)).toInt := hh; rw [q31] at hh; clear q31; omega), (g26)⟩
          · have c32 := c
            have d33 : ¬ x2.1.toInt = (0 : Int) := neqi.mp c32
            refine bind_i (sf_Ground_holds (0 : Int32) (x2.2.1 1 2) x2.2 h20) (fun x3 _ q => ?_)
            obtain ⟨h34, h35, h36, h37⟩ := q
            clear h36
            refine if_i (fun c => ?_) (fun c => ?_)
            · have c38 := c
              have d39 : x3.toInt = (0 : Int) := eqi.mp c38
              refine bind_i (sf_Crowd_isCutOff (0 : Int32) ((v4 + (1 : Int32)) + x2.1) x2.1 x2.2 h20) (fun x11 _ q => ?_)
              obtain ⟨h40, h41⟩ := q
              refine if_i (fun c => ?_) (fun c => ?_)
              · have c42 := c
                have d43 : x11.toInt = (0 : Int) := eqi.mp c42
                have q44 : (v4 + (1 : Int32)).toInt = v4.toInt + (1 : Int) := add_ti rfl rfl (by omega) (by omega)
                have q45 : ((v4 + (1 : Int32)) + x2.1).toInt = (v4 + (1 : Int32)).toInt + x2.1.toInt := add_ti rfl rfl (by omega) (by omega)
                have q46 : (-((v4 + (1 : Int32)) + x2.1)).toInt = -((v4 + (1 : Int32)) + x2.1).toInt := neg_ti rfl (by omega) (by omega)
                exact ⟨((-((v4 + (1 : Int32)) + x2.1)), x2.2), rfl, h20, hG25, (show (-84 : Int) ≤ (-((v4 + (1 : Int32)) + x2.1)).toInt by omega), (show (-((v4 + (1 : Int32)) + x2.1)).toInt ≤ (89 : Int) by omega), (fun hh => by have hh : (0 : Int) ≤ (-((v4 + (1 : Int32)) + x2.1)).toInt := hh; omega), (g26)⟩
              · have c47 := c
                have d48 : ¬ x11.toInt = (0 : Int) := neqi.mp c47
                have q49 : (v4 + (1 : Int32)).toInt = v4.toInt + (1 : Int) := add_ti rfl rfl (by omega) (by omega)
                have q50 : ((v4 + (1 : Int32)) + x2.1).toInt = (v4 + (1 : Int32)).toInt + x2.1.toInt := add_ti rfl rfl (by omega) (by omega)
                have q51 : ((-1 : Int32) - ((v4 + (1 : Int32)) + x2.1)).toInt = (-1 : Int) - ((v4 + (1 : Int32)) + x2.1).toInt := sub_ti rfl rfl (by omega) (by omega)
                exact ⟨(((-1 : Int32) - ((v4 + (1 : Int32)) + x2.1)), x2.2), rfl, h20, hG25, (show (-84 : Int) ≤ ((-1 : Int32) - ((v4 + (1 : Int32)) + x2.1)).toInt by rw [q51]; clear q51; omega), (show ((-1 : Int32) - ((v4 + (1 : Int32)) + x2.1)).toInt ≤ (89 : Int) by rw [q51]; clear q51; omega), (fun hh => by have hh : (0 : Int) ≤ ((-1 : Int32) - ((v4 + (1 : Int32)) + x2.1)).toInt := hh; rw [q51] at hh; clear q51; omega), (g26)⟩
            · have c52 := c
              have d53 : ¬ x3.toInt = (0 : Int) := neqi.mp c52
              have q54 : (v4 + (1 : Int32)).toInt = v4.toInt + (1 : Int) := add_ti rfl rfl (by omega) (by omega)
              have q55 : ((v4 + (1 : Int32)) + x2.1).toInt = (v4 + (1 : Int32)).toInt + x2.1.toInt := add_ti rfl rfl (by omega) (by omega)
              refine bind_i (sf_Signs_at ((v4 + (1 : Int32)) + x2.1) (76 : Int32) x2.2 h20) (fun x4 _ q => ?_)
              obtain ⟨h56, h57, h58⟩ := q
              refine if_i (fun c => ?_) (fun c => ?_)
              · have c59 := c
                have d60 : x4.toInt = (58 : Int) := eqi.mp c59
                refine inb_i (by omega) (by omega) ?_
                refine mem_i (fun M5 e62 => ?_)
                have hJ63 : J M5 := by rw [e62]; exact Jw_9 h20 v3.toNatClampNeg (x2.2.1 1 2) (show (0 : Int) ≤ (x2.2.1 1 2).toInt by omega) (show (x2.2.1 1 2).toInt ≤ (35 : Int) by omega)
                have hG64 : Gc 0 M M5 := Gc_i hG25 e62 (by decide)
                have f65 : (M5.1 1 2).toInt = (x2.2.1 1 2).toInt := by rw [e62]; rw [si_ne (by exact fun e => absurd e.1 (by decide))]
                have g66 : M5.1 6 4 = M.1 6 4 := (congrArg (fun m : Mem => m.1 6 4) e62).trans ((si_ne (by exact fun e => absurd e.1 (by decide))).trans g26)
                clear e62
                refine mem_i (fun M6 e68 => ?_)
                have hJ69 : J M6 := by rw [e68]; exact Jw_fld okf_6_6 hJ63 ((M5.1 6 6) ||| ((0 : Int32) <<< (v3 &&& 31)))
                have hG70 : Gc 0 M M6 := Gc_i hG64 e68 (by decide)
                have f71 : (M6.1 1 2).toInt = (M5.1 1 2).toInt := by rw [e68]; rw [si_ne (by exact fun e => absurd e.1 (by decide))]
                have g72 : M6.1 6 4 = M.1 6 4 := (congrArg (fun m : Mem => m.1 6 4) e68).trans ((si_ne (by exact fun e => absurd e.2 (by decide))).trans g66)
                clear e68
                have q73 : (v3 * (9 : Int32)).toInt = v3.toInt * (9 : Int) := mul_ti rfl rfl (by omega) (by omega)
                refine bind_i (sf_Signs_steps (((v4 + (1 : Int32)) + x2.1) + (1 : Int32)) (76 : Int32) 7 (v3 * (9 : Int32)) M6 FS_7 (⟨show (0 : Int) ≤ (v3 * (9 : Int32)).toInt by omega, show (v3 * (9 : Int32)).toInt ≤ (63 : Int) by omega⟩) hJ69) (fun x7 _ q => ?_)
                obtain ⟨h74, h75, h76, h77, h78⟩ := q
                have hG79 : Gc 0 M x7.2 := Gc_t hG70 h75
                have g80 := h78.trans g72
                refine inb_i (by omega) (by omega) ?_
                refine mem_i (fun M8 e82 => ?_)
                have hJ83 : J M8 := by rw [e82]; exact Jw_any ok_8 h74 v3.toNatClampNeg x7.1
                have hG84 : Gc 0 M M8 := Gc_i hG79 e82 (by decide)
                have f85 : (M8.1 8 v3.toNatClampNeg).toInt = x7.1.toInt := by rw [e82, si_eq]
                have g86 : M8.1 6 4 = M.1 6 4 := (congrArg (fun m : Mem => m.1 6 4) e82).trans ((si_ne (by exact fun e => absurd e.1 (by decide))).trans g80)
                clear e82
                refine inb_i (by omega) (by omega) ?_
                refine inb_i (by omega) (by omega) ?_
                refine if_i (fun c => ?_) (fun c => ?_)
                · have c87 := c
                  have d88 : (M8.1 8 v3.toNatClampNeg).toInt = (0 : Int) := eqi.mp c87
                  have q89 : (((v4 + (1 : Int32)) + x2.1) + (1 : Int32)).toInt = ((v4 + (1 : Int32)) + x2.1).toInt + (1 : Int) := add_ti rfl rfl (by omega) (by omega)
                  have q90 : ((((v4 + (1 : Int32)) + x2.1) + (1 : Int32)) + (M8.1 8 v3.toNatClampNeg)).toInt = (((v4 + (1 : Int32)) + x2.1) + (1 : Int32)).toInt + (M8.1 8 v3.toNatClampNeg).toInt := add_ti rfl rfl (by omega) (by omega)
                  have q91 : ((-1 : Int32) - ((((v4 + (1 : Int32)) + x2.1) + (1 : Int32)) + (M8.1 8 v3.toNatClampNeg))).toInt = (-1 : Int) - ((((v4 + (1 : Int32)) + x2.1) + (1 : Int32)) + (M8.1 8 v3.toNatClampNeg)).toInt := sub_ti rfl rfl (by omega) (by omega)
                  exact ⟨(((-1 : Int32) - ((((v4 + (1 : Int32)) + x2.1) + (1 : Int32)) + (M8.1 8 v3.toNatClampNeg))), M8), rfl, hJ83, hG84, (show (-84 : Int) ≤ ((-1 : Int32) - ((((v4 + (1 : Int32)) + x2.1) + (1 : Int32)) + (M8.1 8 v3.toNatClampNeg))).toInt by rw [q91]; clear q91; omega), (show ((-1 : Int32) - ((((v4 + (1 : Int32)) + x2.1) + (1 : Int32)) + (M8.1 8 v3.toNatClampNeg))).toInt ≤ (89 : Int) by rw [q91]; clear q91; omega), (fun hh => by have hh : (0 : Int) ≤ ((-1 : Int32) - ((((v4 + (1 : Int32)) + x2.1) + (1 : Int32)) + (M8.1 8 v3.toNatClampNeg))).toInt := hh; rw [q91] at hh; clear q91; omega), (g86)⟩
                · have c92 := c
                  have d93 : ¬ (M8.1 8 v3.toNatClampNeg).toInt = (0 : Int) := neqi.mp c92
                  have q94 : (((v4 + (1 : Int32)) + x2.1) + (1 : Int32)).toInt = ((v4 + (1 : Int32)) + x2.1).toInt + (1 : Int) := add_ti rfl rfl (by omega) (by omega)
                  have q95 : ((((v4 + (1 : Int32)) + x2.1) + (1 : Int32)) + (M8.1 8 v3.toNatClampNeg)).toInt = (((v4 + (1 : Int32)) + x2.1) + (1 : Int32)).toInt + (M8.1 8 v3.toNatClampNeg).toInt := add_ti rfl rfl (by omega) (by omega)
                  exact ⟨(((((v4 + (1 : Int32)) + x2.1) + (1 : Int32)) + (M8.1 8 v3.toNatClampNeg)), M8), rfl, hJ83, hG84, (show (-84 : Int) ≤ ((((v4 + (1 : Int32)) + x2.1) + (1 : Int32)) + (M8.1 8 v3.toNatClampNeg)).toInt by omega), (show ((((v4 + (1 : Int32)) + x2.1) + (1 : Int32)) + (M8.1 8 v3.toNatClampNeg)).toInt ≤ (89 : Int) by omega), (fun hh => by have hh : (0 : Int) ≤ ((((v4 + (1 : Int32)) + x2.1) + (1 : Int32)) + (M8.1 8 v3.toNatClampNeg)).toInt := hh; omega), (g86)⟩
              · have c96 := c
                have d97 : ¬ x4.toInt = (58 : Int) := neqi.mp c96
                have q98 : ((-1 : Int32) - ((v4 + (1 : Int32)) + x2.1)).toInt = (-1 : Int) - ((v4 + (1 : Int32)) + x2.1).toInt := sub_ti rfl rfl (by omega) (by omega)
                exact ⟨(((-1 : Int32) - ((v4 + (1 : Int32)) + x2.1)), x2.2), rfl, h20, hG25, (show (-84 : Int) ≤ ((-1 : Int32) - ((v4 + (1 : Int32)) + x2.1)).toInt by rw [q98]; clear q98; omega), (show ((-1 : Int32) - ((v4 + (1 : Int32)) + x2.1)).toInt ≤ (89 : Int) by rw [q98]; clear q98; omega), (fun hh => by have hh : (0 : Int) ≤ ((-1 : Int32) - ((v4 + (1 : Int32)) + x2.1)).toInt := hh; rw [q98] at hh; clear q98; omega), (g26)⟩
      · have c99 := c
        have d100 : ¬ x1.toInt = (109 : Int) := neqi.mp c99
        refine if_i (fun c => ?_) (fun c => ?_)
        · have c101 := c
          have d102 : x1.toInt = (119 : Int) := eqi.mp c101
          unfold j_Crowd_readLine_39
          refine if_i (fun c => ?_) (fun c => ?_)
          · have c103 := c
            have d104 : x1.toInt = (119 : Int) := eqi.mp c103
            unfold j_Crowd_readLine_51
            refine bind_i (sf_Signs_digits (v4 + (1 : Int32)) (76 : Int32) (2 : Int32) M (⟨by decide, by decide⟩) hJ) (fun x2 _ q => ?_)
            obtain ⟨h105, h106, h107, h108, h109⟩ := q
            have hG110 : Gc 0 M x2.2 := Gc_t Gc_r h106
            have g111 := h109.trans (rfl : M.1 6 4 = M.1 6 4)
            refine if_i (fun c => ?_) (fun c => ?_)
            · have c112 := c
              have d113 : x2.1.toInt = (0 : Int) := eqi.mp c112
              have q114 : (v4 + (1 : Int32)).toInt = v4.toInt + (1 : Int) := add_ti rfl rfl (by omega) (by omega)
              have q115 : ((v4 + (1 : Int32)) + x2.1).toInt = (v4 + (1 : Int32)).toInt + x2.1.toInt := add_ti rfl rfl (by omega) (by omega)
              have q116 : ((-1 : Int32) - ((v4 + (1 : Int32)) + x2.1)).toInt = (-1 : Int) - ((v4 + (1 : Int32)) + x2.1).toInt := sub_ti rfl rfl (by omega) (by omega)
              exact ⟨(((-1 : Int32) - ((v4 + (1 : Int32)) + x2.1)), x2.2), rfl, h105, hG110, (show (-84 : Int) ≤ ((-1 : Int32) - ((v4 + (1 : Int32)) + x2.1)).toInt by rw [q116]; clear q116; omega), (show ((-1 : Int32) - ((v4 + (1 : Int32)) + x2.1)).toInt ≤ (89 : Int) by rw [q116]; clear q116; omega), (fun hh => by have hh : (0 : Int) ≤ ((-1 : Int32) - ((v4 + (1 : Int32)) + x2.1)).toInt := hh; rw [q116] at hh; clear q116; omega), (g111)⟩
            · have c117 := c
              have d118 : ¬ x2.1.toInt = (0 : Int) := neqi.mp c117
              refine bind_i (sf_Ground_holds (1 : Int32) (x2.2.1 1 2) x2.2 h105) (fun x3 _ q => ?_)
              obtain ⟨h119, h120, h121, h122⟩ := q
              clear h121
              refine if_i (fun c => ?_) (fun c => ?_)
              · have c123 := c
                have d124 : x3.toInt = (0 : Int) := eqi.mp c123
                refine bind_i (sf_Crowd_isCutOff (1 : Int32) ((v4 + (1 : Int32)) + x2.1) x2.1 x2.2 h105) (fun x11 _ q => ?_)
                obtain ⟨h125, h126⟩ := q
                refine if_i (fun c => ?_) (fun c => ?_)
                · have c127 := c
                  have d128 : x11.toInt = (0 : Int) := eqi.mp c127
                  have q129 : (v4 + (1 : Int32)).toInt = v4.toInt + (1 : Int) := add_ti rfl rfl (by omega) (by omega)
                  have q130 : ((v4 + (1 : Int32)) + x2.1).toInt = (v4 + (1 : Int32)).toInt + x2.1.toInt := add_ti rfl rfl (by omega) (by omega)
                  have q131 : (-((v4 + (1 : Int32)) + x2.1)).toInt = -((v4 + (1 : Int32)) + x2.1).toInt := neg_ti rfl (by omega) (by omega)
                  exact ⟨((-((v4 + (1 : Int32)) + x2.1)), x2.2), rfl, h105, hG110, (show (-84 : Int) ≤ (-((v4 + (1 : Int32)) + x2.1)).toInt by omega), (show (-((v4 + (1 : Int32)) + x2.1)).toInt ≤ (89 : Int) by omega), (fun hh => by have hh : (0 : Int) ≤ (-((v4 + (1 : Int32)) + x2.1)).toInt := hh; omega), (g111)⟩
                · have c132 := c
                  have d133 : ¬ x11.toInt = (0 : Int) := neqi.mp c132
                  have q134 : (v4 + (1 : Int32)).toInt = v4.toInt + (1 : Int) := add_ti rfl rfl (by omega) (by omega)
                  have q135 : ((v4 + (1 : Int32)) + x2.1).toInt = (v4 + (1 : Int32)).toInt + x2.1.toInt := add_ti rfl rfl (by omega) (by omega)
                  have q136 : ((-1 : Int32) - ((v4 + (1 : Int32)) + x2.1)).toInt = (-1 : Int) - ((v4 + (1 : Int32)) + x2.1).toInt := sub_ti rfl rfl (by omega) (by omega)
                  exact ⟨(((-1 : Int32) - ((v4 + (1 : Int32)) + x2.1)), x2.2), rfl, h105, hG110, (show (-84 : Int) ≤ ((-1 : Int32) - ((v4 + (1 : Int32)) + x2.1)).toInt by rw [q136]; clear q136; omega), (show ((-1 : Int32) - ((v4 + (1 : Int32)) + x2.1)).toInt ≤ (89 : Int) by rw [q136]; clear q136; omega), (fun hh => by have hh : (0 : Int) ≤ ((-1 : Int32) - ((v4 + (1 : Int32)) + x2.1)).toInt := hh; rw [q136] at hh; clear q136; omega), (g111)⟩
              · have c137 := c
                have d138 : ¬ x3.toInt = (0 : Int) := neqi.mp c137
                have q139 : (v4 + (1 : Int32)).toInt = v4.toInt + (1 : Int) := add_ti rfl rfl (by omega) (by omega)
                have q140 : ((v4 + (1 : Int32)) + x2.1).toInt = (v4 + (1 : Int32)).toInt + x2.1.toInt := add_ti rfl rfl (by omega) (by omega)
                refine bind_i (sf_Signs_at ((v4 + (1 : Int32)) + x2.1) (76 : Int32) x2.2 h105) (fun x4 _ q => ?_)
                obtain ⟨h141, h142, h143⟩ := q
                refine if_i (fun c => ?_) (fun c => ?_)
                · have c144 := c
                  have d145 : x4.toInt = (58 : Int) := eqi.mp c144
                  refine inb_i (by omega) (by omega) ?_
                  refine mem_i (fun M5 e147 => ?_)
                  have hJ148 : J M5 := by rw [e147]; exact Jw_9 h105 v3.toNatClampNeg (x2.2.1 1 2) (show (0 : Int) ≤ (x2.2.1 1 2).toInt by omega) (show (x2.2.1 1 2).toInt ≤ (35 : Int) by omega)
                  have hG149 : Gc 0 M M5 := Gc_i hG110 e147 (by decide)
                  have f150 : (M5.1 1 2).toInt = (x2.2.1 1 2).toInt := by rw [e147]; rw [si_ne (by exact fun e => absurd e.1 (by decide))]
                  have g151 : M5.1 6 4 = M.1 6 4 := (congrArg (fun m : Mem => m.1 6 4) e147).trans ((si_ne (by exact fun e => absurd e.1 (by decide))).trans g111)
                  clear e147
                  refine mem_i (fun M6 e153 => ?_)
                  have hJ154 : J M6 := by rw [e153]; exact Jw_fld okf_6_6 hJ148 ((M5.1 6 6) ||| ((1 : Int32) <<< (v3 &&& 31)))
                  have hG155 : Gc 0 M M6 := Gc_i hG149 e153 (by decide)
                  have f156 : (M6.1 1 2).toInt = (M5.1 1 2).toInt := by rw [e153]; rw [si_ne (by exact fun e => absurd e.1 (by decide))]
                  have g157 : M6.1 6 4 = M.1 6 4 := (congrArg (fun m : Mem => m.1 6 4) e153).trans ((si_ne (by exact fun e => absurd e.2 (by decide))).trans g151)
                  clear e153
                  have q158 : (v3 * (9 : Int32)).toInt = v3.toInt * (9 : Int) := mul_ti rfl rfl (by omega) (by omega)
                  refine bind_i (sf_Signs_steps (((v4 + (1 : Int32)) + x2.1) + (1 : Int32)) (76 : Int32) 7 (v3 * (9 : Int32)) M6 FS_7 (⟨show (0 : Int) ≤ (v3 * (9 : Int32)).toInt by omega, show (v3 * (9 : Int32)).toInt ≤ (63 : Int) by omega⟩) hJ154) (fun x7 _ q => ?_)
                  obtain ⟨h159, h160, h161, h162, h163⟩ := q
                  have hG164 : Gc 0 M x7.2 := Gc_t hG155 h160
                  have g165 := h163.trans g157
                  refine inb_i (by omega) (by omega) ?_
                  refine mem_i (fun M8 e167 => ?_)
                  have hJ168 : J M8 := by rw [e167]; exact Jw_any ok_8 h159 v3.toNatClampNeg x7.1
                  have hG169 : Gc 0 M M8 := Gc_i hG164 e167 (by decide)
                  have f170 : (M8.1 8 v3.toNatClampNeg).toInt = x7.1.toInt := by rw [e167, si_eq]
                  have g171 : M8.1 6 4 = M.1 6 4 := (congrArg (fun m : Mem => m.1 6 4) e167).trans ((si_ne (by exact fun e => absurd e.1 (by decide))).trans g165)
                  clear e167
                  refine inb_i (by omega) (by omega) ?_
                  refine inb_i (by omega) (by omega) ?_
                  refine if_i (fun c => ?_) (fun c => ?_)
                  · have c172 := c
                    have d173 : (M8.1 8 v3.toNatClampNeg).toInt = (0 : Int) := eqi.mp c172
                    have q174 : (((v4 + (1 : Int32)) + x2.1) + (1 : Int32)).toInt = ((v4 + (1 : Int32)) + x2.1).toInt + (1 : Int) := add_ti rfl rfl (by omega) (by omega)
                    have q175 : ((((v4 + (1 : Int32)) + x2.1) + (1 : Int32)) + (M8.1 8 v3.toNatClampNeg)).toInt = (((v4 + (1 : Int32)) + x2.1) + (1 : Int32)).toInt + (M8.1 8 v3.toNatClampNeg).toInt := add_ti rfl rfl (by omega) (by omega)
                    have q176 : ((-1 : Int32) - ((((v4 + (1 : Int32)) + x2.1) + (1 : Int32)) + (M8.1 8 v3.toNatClampNeg))).toInt = (-1 : Int) - ((((v4 + (1 : Int32)) + x2.1) + (1 : Int32)) + (M8.1 8 v3.toNatClampNeg)).toInt := sub_ti rfl rfl (by omega) (by omega)
                    exact ⟨(((-1 : Int32) - ((((v4 + (1 : Int32)) + x2.1) + (1 : Int32)) + (M8.1 8 v3.toNatClampNeg))), M8), rfl, hJ168, hG169, (show (-84 : Int) ≤ ((-1 : Int32) - ((((v4 + (1 : Int32)) + x2.1) + (1 : Int32)) + (M8.1 8 v3.toNatClampNeg))).toInt by rw [q176]; clear q176; omega), (show ((-1 : Int32) - ((((v4 + (1 : Int32)) + x2.1) + (1 : Int32)) + (M8.1 8 v3.toNatClampNeg))).toInt ≤ (89 : Int) by rw [q176]; clear q176; omega), (fun hh => by have hh : (0 : Int) ≤ ((-1 : Int32) - ((((v4 + (1 : Int32)) + x2.1) + (1 : Int32)) + (M8.1 8 v3.toNatClampNeg))).toInt := hh; rw [q176] at hh; clear q176; omega), (g171)⟩
                  · have c177 := c
                    have d178 : ¬ (M8.1 8 v3.toNatClampNeg).toInt = (0 : Int) := neqi.mp c177
                    have q179 : (((v4 + (1 : Int32)) + x2.1) + (1 : Int32)).toInt = ((v4 + (1 : Int32)) + x2.1).toInt + (1 : Int) := add_ti rfl rfl (by omega) (by omega)
                    have q180 : ((((v4 + (1 : Int32)) + x2.1) + (1 : Int32)) + (M8.1 8 v3.toNatClampNeg)).toInt = (((v4 + (1 : Int32)) + x2.1) + (1 : Int32)).toInt + (M8.1 8 v3.toNatClampNeg).toInt := add_ti rfl rfl (by omega) (by omega)
                    exact ⟨(((((v4 + (1 : Int32)) + x2.1) + (1 : Int32)) + (M8.1 8 v3.toNatClampNeg)), M8), rfl, hJ168, hG169, (show (-84 : Int) ≤ ((((v4 + (1 : Int32)) + x2.1) + (1 : Int32)) + (M8.1 8 v3.toNatClampNeg)).toInt by omega), (show ((((v4 + (1 : Int32)) + x2.1) + (1 : Int32)) + (M8.1 8 v3.toNatClampNeg)).toInt ≤ (89 : Int) by omega), (fun hh => by have hh : (0 : Int) ≤ ((((v4 + (1 : Int32)) + x2.1) + (1 : Int32)) + (M8.1 8 v3.toNatClampNeg)).toInt := hh; omega), (g171)⟩
                · have c181 := c
                  have d182 : ¬ x4.toInt = (58 : Int) := neqi.mp c181
                  have q183 : ((-1 : Int32) - ((v4 + (1 : Int32)) + x2.1)).toInt = (-1 : Int) - ((v4 + (1 : Int32)) + x2.1).toInt := sub_ti rfl rfl (by omega) (by omega)
                  exact ⟨(((-1 : Int32) - ((v4 + (1 : Int32)) + x2.1)), x2.2), rfl, h105, hG110, (show (-84 : Int) ≤ ((-1 : Int32) - ((v4 + (1 : Int32)) + x2.1)).toInt by rw [q183]; clear q183; omega), (show ((-1 : Int32) - ((v4 + (1 : Int32)) + x2.1)).toInt ≤ (89 : Int) by rw [q183]; clear q183; omega), (fun hh => by have hh : (0 : Int) ≤ ((-1 : Int32) - ((v4 + (1 : Int32)) + x2.1)).toInt := hh; rw [q183] at hh; clear q183; omega), (g111)⟩
          · have c184 := c
            have d185 : ¬ x1.toInt = (119 : Int) := neqi.mp c184
            exfalso; omega
        · have c186 := c
          have d187 : ¬ x1.toInt = (119 : Int) := neqi.mp c186
          have q188 : ((-1 : Int32) - v4).toInt = (-1 : Int) - v4.toInt := sub_ti rfl rfl (by omega) (by omega)
          exact ⟨(((-1 : Int32) - v4), M), rfl, hJ, Gc_r, (show (-84 : Int) ≤ ((-1 : Int32) - v4).toInt by rw [q188]; clear q188; omega), (show ((-1 : Int32) - v4).toInt ≤ (89 : Int) by rw [q188]; clear q188; omega), (fun hh => by have hh : (0 : Int) ≤ ((-1 : Int32) - v4).toInt := hh; rw [q188] at hh; clear q188; omega), (rfl)⟩
end
section
/-! safety of the class, 4 -/
theorem sl_Crowd_read_19  (a0_ : Int32) (a1_ : Int32) (N_ : Mem) (B_ : Mem) (hN : J N_) (hG : Gc 0 B_ N_) (i2_ : (0 : Int) ≤ a0_.toInt) (i3_ : a0_.toInt ≤ (80 : Int)) (i4_ : (0 : Int) ≤ a1_.toInt) (i5_ : a1_.toInt ≤ (9 : Int)) : ∃ x, iter (lb_Crowd_read_19) FU (a0_, a1_, N_) = some x ∧ (SQ (fun r : Int32 × Mem => J r.2 ∧ Gc 0 B_ r.2 ∧ (0 : Int) ≤ r.1.toInt ∧ r.1.toInt ≤ (80 : Int)) (SQ (fun r : Int32 × Mem => J r.2 ∧ Gc 0 B_ r.2 ∧ (-84 : Int) ≤ r.1.toInt ∧ r.1.toInt ≤ (-1 : Int)) (SQ (fun r : Int32 × Mem => J r.2 ∧ Gc 0 B_ r.2 ∧ (0 : Int) ≤ r.1.toInt ∧ r.1.toInt ≤ (8 : Int) ∧ (r.2.1 6 4).toInt + r.1.toInt + 1 ≤ (8 : Int)) (fun r : Int32 × Mem => J r.2 ∧ Gc 0 B_ r.2 ∧ (0 : Int) ≤ r.1.toInt ∧ r.1.toInt ≤ (79 : Int))))) x := by
  refine iter_r (fun s : Int32 × Int32 × Mem => J s.2.2 ∧ Gc 0 B_ s.2.2 ∧ (0 : Int) ≤ s.1.toInt ∧ s.1.toInt ≤ (80 : Int) ∧ (0 : Int) ≤ s.2.1.toInt ∧ s.2.1.toInt ≤ (9 : Int)) (fun s : Int32 × Int32 × Mem => (9 - s.2.1.toInt).toNat) (SQ (fun r : Int32 × Mem => J r.2 ∧ Gc 0 B_ r.2 ∧ (0 : Int) ≤ r.1.toInt ∧ r.1.toInt ≤ (80 : Int)) (SQ (fun r : Int32 × Mem => J r.2 ∧ Gc 0 B_ r.2 ∧ (-84 : Int) ≤ r.1.toInt ∧ r.1.toInt ≤ (-1 : Int)) (SQ (fun r : Int32 × Mem => J r.2 ∧ Gc 0 B_ r.2 ∧ (0 : Int) ≤ r.1.toInt ∧ r.1.toInt ≤ (8 : Int) ∧ (r.2.1 6 4).toInt + r.1.toInt + 1 ≤ (8 : Int)) (fun r : Int32 × Mem => J r.2 ∧ Gc 0 B_ r.2 ∧ (0 : Int) ≤ r.1.toInt ∧ r.1.toInt ≤ (79 : Int))))) ?_ FU (a0_, a1_, N_) ⟨hN, hG, i2_, i3_, i4_, i5_⟩ (by show (9 - a1_.toInt).toNat < FU; rw [FU_v]; omega)
  clear i5_ i4_ i3_ i2_ hG hN
  rintro ⟨a0_', a1_', N_'⟩ ⟨hN, hG, i2_, i3_, i4_, i5_⟩
  dsimp only at hN hG i2_ i3_ i4_ i5_
  unfold lb_Crowd_read_19
  dsimp only
  refine if_i (fun c => ?_) (fun c => ?_)
  · have c1 := c
    have d2 : (8 : Int) < a1_'.toInt := lti.mp c1
    exact ⟨_, rfl, hN, hG, (show (0 : Int) ≤ a0_'.toInt by omega), (show a0_'.toInt ≤ (80 : Int) by omega)⟩
  · have c3 := c
    have d4 : a1_'.toInt ≤ (8 : Int) := nlti.mp c3
    have r5 := Jr_6_4 hN
    have q6 : ((N_'.1 6 4) + a1_').toInt = (N_'.1 6 4).toInt + a1_'.toInt := add_ti rfl rfl (by omega) (by omega)
    refine bind_i (sf_Crowd_readLine ((N_'.1 6 4) + a1_') a0_' N_' (⟨show (0 : Int) ≤ a0_'.toInt by omega, show a0_'.toInt ≤ (80 : Int) by omega⟩) hN) (fun x2 _ q => ?_)
    obtain ⟨h7, h8, h9, h10, h11, h12⟩ := q
    have hG13 : Gc 0 B_ x2.2 := Gc_t hG h8
    have f14 : (x2.2.1 6 4).toInt = (N_'.1 6 4).toInt := by rw [h12]
    refine if_i (fun c => ?_) (fun c => ?_)
    · have c15 := c
      have d16 : (0 : Int) ≤ x2.1.toInt := lei.mp c15
      refine bind_i (sf_Signs_at x2.1 (76 : Int32) x2.2 h7) (fun x3 _ q => ?_)
      obtain ⟨h17, h18, h19⟩ := q
      refine if_i (fun c => ?_) (fun c => ?_)
      · have c20 := c
        have d21 : x3.toInt = (-1 : Int) := eqi.mp c20
        have r22 := Jr_6_4 h7
        exact ⟨_, rfl, h7, hG13, (show (0 : Int) ≤ a1_'.toInt by omega), (show a1_'.toInt ≤ (8 : Int) by omega), (show (x2.2.1 6 4).toInt + a1_'.toInt + 1 ≤ (8 : Int) by omega)⟩
      · have c23 := c
        have d24 : ¬ x3.toInt = (-1 : Int) := neqi.mp c23
        refine if_i (fun c => ?_) (fun c => ?_)
        · have c25 := c
          have d26 : x3.toInt = (59 : Int) := eqi.mp c25
          have q27 : (x2.1 + (1 : Int32)).toInt = x2.1.toInt + (1 : Int) := add_ti rfl rfl (by omega) (by omega)
          have q28 : (a1_' + (1 : Int32)).toInt = a1_'.toInt + (1 : Int) := add_ti rfl rfl (by omega) (by omega)
          exact ⟨_, rfl, ⟨h7, hG13, (show (0 : Int) ≤ (x2.1 + (1 : Int32)).toInt by omega), (show (x2.1 + (1 : Int32)).toInt ≤ (80 : Int) by omega), (show (0 : Int) ≤ (a1_' + (1 : Int32)).toInt by omega), (show (a1_' + (1 : Int32)).toInt ≤ (9 : Int) by omega)⟩, show (9 - (a1_' + (1 : Int32)).toInt).toNat < (9 - a1_'.toInt).toNat by omega⟩
        · have c29 := c
          have d30 : ¬ x3.toInt = (59 : Int) := neqi.mp c29
          exact ⟨_, rfl, h7, hG13, (show (0 : Int) ≤ x2.1.toInt by omega), (show x2.1.toInt ≤ (79 : Int) by omega)⟩
    · have c31 := c
      have d32 : x2.1.toInt < (0 : Int) := nlei.mp c31
      exact ⟨_, rfl, h7, hG13, (show (-84 : Int) ≤ x2.1.toInt by omega), (show x2.1.toInt ≤ (-1 : Int) by omega)⟩
theorem sf_Crowd_read (M : Mem) (hJ : J M) : ∃ r : Int32 × Mem, f_Crowd_read M = some r ∧ (J r.2 ∧ Gc 0 M r.2 ∧ (-84 : Int) ≤ r.1.toInt ∧ r.1.toInt ≤ (9 : Int) ∧ ((1 : Int) ≤ r.1.toInt → (r.2.1 6 4).toInt + r.1.toInt ≤ (8 : Int))) := by
  unfold f_Crowd_read
  refine if_i (fun c => ?_) (fun c => ?_)
  · have c1 := c
    have r2 := Jr_1_1 hJ
    have d3 : (M.1 1 1).toInt = (0 : Int) := eqi.mp c1
    have r4 := Jr_6_4 hJ
    exact ⟨((0 : Int32), M), rfl, hJ, Gc_r, (show (-84 : Int) ≤ (0 : Int32).toInt by decide), (show (0 : Int32).toInt ≤ (9 : Int) by decide), (fun hh => by have hh : (1 : Int) ≤ (0 : Int) := hh; show (M.1 6 4).toInt + (0 : Int32).toInt ≤ (8 : Int); omega)⟩
  · have c5 := c
    have r6 := Jr_1_1 hJ
    have d7 : ¬ (M.1 1 1).toInt = (0 : Int) := neqi.mp c5
    refine mem_i (fun M1 e9 => ?_)
    have hJ10 : J M1 := by rw [e9]; exact Jw_fld okf_6_6 hJ (0 : Int32)
    have hG11 : Gc 0 M M1 := Gc_i Gc_r e9 (by decide)
    have f12 : (M1.1 1 1).toInt = (M.1 1 1).toInt := by rw [e9]; rw [si_ne (by exact fun e => absurd e.1 (by decide))]
    have f13 : (M1.1 6 6).toInt = (0 : Int) := by rw [e9, si_eq]; rfl
    clear e9
    refine bind_i (sl_Crowd_read_19  (0 : Int32) (0 : Int32) M1 M hJ10 hG11 (show (0 : Int) ≤ (0 : Int32).toInt by decide) (show (0 : Int32).toInt ≤ (80 : Int) by decide) (show (0 : Int) ≤ (0 : Int32).toInt by decide) (show (0 : Int32).toInt ≤ (9 : Int) by decide)) (fun x14 _ q => ?_)
    rcases x14 with y | y | y | y
    · have q9 : J y.2 ∧ Gc 0 M y.2 ∧ (0 : Int) ≤ y.1.toInt ∧ y.1.toInt ≤ (80 : Int) := q
      dsimp only [Sum.elim_inl, Sum.elim_inr]
      obtain ⟨h16, h17, h18, h19⟩ := q9
      have q20 : ((-1 : Int32) - y.1).toInt = (-1 : Int) - y.1.toInt := sub_ti rfl rfl (by omega) (by omega)
      have r21 := Jr_6_4 h16
      exact ⟨(((-1 : Int32) - y.1), y.2), rfl, h16, h17, (show (-84 : Int) ≤ ((-1 : Int32) - y.1).toInt by rw [q20]; clear q20; omega), (show ((-1 : Int32) - y.1).toInt ≤ (9 : Int) by rw [q20]; clear q20; omega), (fun hh => by have hh : (1 : Int) ≤ ((-1 : Int32) - y.1).toInt := hh; show (y.2.1 6 4).toInt + ((-1 : Int32) - y.1).toInt ≤ (8 : Int); omega)⟩
    · have q9 : J y.2 ∧ Gc 0 M y.2 ∧ (-84 : Int) ≤ y.1.toInt ∧ y.1.toInt ≤ (-1 : Int) := q
      dsimp only [Sum.elim_inl, Sum.elim_inr]
      obtain ⟨h23, h24, h25, h26⟩ := q9
      have r27 := Jr_6_4 h23
      exact ⟨(y.1, y.2), rfl, h23, h24, (show (-84 : Int) ≤ y.1.toInt by omega), (show y.1.toInt ≤ (9 : Int) by omega), (fun hh => by have hh : (1 : Int) ≤ y.1.toInt := hh; show (y.2.1 6 4).toInt + y.1.toInt ≤ (8 : Int); omega)⟩
    · have q9 : J y.2 ∧ Gc 0 M y.2 ∧ (0 : Int) ≤ y.1.toInt ∧ y.1.toInt ≤ (8 : Int) ∧ (y.2.1 6 4).toInt + y.1.toInt + 1 ≤ (8 : Int) := q
      dsimp only [Sum.elim_inl, Sum.elim_inr]
      obtain ⟨h29, h30, h31, h32, h33⟩ := q9
      refine if_i (fun c => ?_) (fun c => ?_)
      · have c34 := c
        have r35 := Jr_1_1 h29
        have d36 : (y.2.1 1 1).toInt ≤ (76 : Int) := lei.mp c34
        have q37 : (y.1 + (1 : Int32)).toInt = y.1.toInt + (1 : Int) := add_ti rfl rfl (by omega) (by omega)
        have r38 := Jr_6_4 h29
        exact ⟨((y.1 + (1 : Int32)), y.2), rfl, h29, h30, (show (-84 : Int) ≤ (y.1 + (1 : Int32)).toInt by omega), (show (y.1 + (1 : Int32)).toInt ≤ (9 : Int) by omega), (fun hh => by have hh : (1 : Int) ≤ (y.1 + (1 : Int32)).toInt := hh; show (y.2.1 6 4).toInt + (y.1 + (1 : Int32)).toInt ≤ (8 : Int); omega)⟩
      · have c39 := c
        have r40 := Jr_1_1 h29
        have d41 : (76 : Int) < (y.2.1 1 1).toInt := nlei.mp c39
        have r42 := Jr_6_4 h29
        exact ⟨((-77 : Int32), y.2), rfl, h29, h30, (show (-84 : Int) ≤ (-77 : Int32).toInt by decide), (show (-77 : Int32).toInt ≤ (9 : Int) by decide), (fun hh => by have hh : (1 : Int) ≤ (-77 : Int) := hh; show (y.2.1 6 4).toInt + (-77 : Int32).toInt ≤ (8 : Int); omega)⟩
    · have q9 : J y.2 ∧ Gc 0 M y.2 ∧ (0 : Int) ≤ y.1.toInt ∧ y.1.toInt ≤ (79 : Int) := q
      dsimp only [Sum.elim_inl, Sum.elim_inr]
      obtain ⟨h44, h45, h46, h47⟩ := q9
      have q48 : ((-1 : Int32) - y.1).toInt = (-1 : Int) - y.1.toInt := sub_ti rfl rfl (by omega) (by omega)
      have r49 := Jr_6_4 h44
      exact ⟨(((-1 : Int32) - y.1), y.2), rfl, h44, h45, (show (-84 : Int) ≤ ((-1 : Int32) - y.1).toInt by rw [q48]; clear q48; omega), (show ((-1 : Int32) - y.1).toInt ≤ (9 : Int) by rw [q48]; clear q48; omega), (fun hh => by have hh : (1 : Int) ≤ ((-1 : Int32) - y.1).toInt := hh; show (y.2.1 6 4).toInt + ((-1 : Int32) - y.1).toInt ≤ (8 : Int); omega)⟩
theorem sf_Crowd_letIn (v1 : Int32) (M : Mem) (hp_v1 : (0 : Int) ≤ v1.toInt ∧ v1.toInt ≤ (8 : Int)) (hJ : J M) (hx0 : (M.1 6 4).toInt + v1.toInt ≤ (8 : Int)) : ∃ r : Mem, f_Crowd_letIn v1 M = some r ∧ (J r ∧ Gc 0 M r) := by
  unfold f_Crowd_letIn
  have r2 := Jr_6_4 hJ
  have q3 : ((M.1 6 4) + v1).toInt = (M.1 6 4).toInt + v1.toInt := add_ti rfl rfl (by omega) (by omega)
  refine mem_i (fun M1 e4 => ?_)
  have hJ5 : J M1 := by rw [e4]; exact Jw_6_4 hJ ((M.1 6 4) + v1) (show (0 : Int) ≤ ((M.1 6 4) + v1).toInt by omega) (show ((M.1 6 4) + v1).toInt ≤ (8 : Int) by omega)
  have hG6 : Gc 0 M M1 := Gc_i Gc_r e4 (by decide)
  have f7 : (M1.1 6 4).toInt = ((M.1 6 4) + v1).toInt := by rw [e4, si_eq]
  clear e4
  refine mem_i (fun M2 e9 => ?_)
  have hJ10 : J M2 := by rw [e9]; exact Jw_fld okf_6_5 hJ5 ((M1.1 6 5) ||| (M1.1 6 6))
  have hG11 : Gc 0 M M2 := Gc_i hG6 e9 (by decide)
  have f12 : (M2.1 6 4).toInt = (M1.1 6 4).toInt := by rw [e9]; rw [si_ne (by exact fun e => absurd e.2 (by decide))]
  clear e9
  exact ⟨M2, rfl, hJ10, hG11⟩
theorem sf_Crowd_woman (v1 : Int32) (M : Mem) (hJ : J M) : ∃ r : Int32, f_Crowd_woman v1 M = some r ∧ ((0 : Int) ≤ r.toInt ∧ r.toInt ≤ (1 : Int)) := by
  unfold f_Crowd_woman
  refine if_i (fun c => ?_) (fun c => ?_)
  · have c1 := c
    have q2 : (0 : Int) ≤ (((M.1 6 5) >>> (v1 &&& 31)) &&& (1 : Int32)).toInt ∧ (((M.1 6 5) >>> (v1 &&& 31)) &&& (1 : Int32)).toInt ≤ 1 := and_rng (by decide)
    have d3 : (((M.1 6 5) >>> (v1 &&& 31)) &&& (1 : Int32)).toInt = (0 : Int) := eqi.mp c1
    exact ⟨(0 : Int32), rfl, (show (0 : Int) ≤ (0 : Int32).toInt by decide), (show (0 : Int32).toInt ≤ (1 : Int) by decide)⟩
  · have c4 := c
    have q5 : (0 : Int) ≤ (((M.1 6 5) >>> (v1 &&& 31)) &&& (1 : Int32)).toInt ∧ (((M.1 6 5) >>> (v1 &&& 31)) &&& (1 : Int32)).toInt ≤ 1 := and_rng (by decide)
    have d6 : ¬ (((M.1 6 5) >>> (v1 &&& 31)) &&& (1 : Int32)).toInt = (0 : Int) := neqi.mp c4
    exact ⟨(1 : Int32), rfl, (show (0 : Int) ≤ (1 : Int32).toInt by decide), (show (1 : Int32).toInt ≤ (1 : Int) by decide)⟩
theorem sf_Crowd_has (v1 : Int32) (M : Mem) (hJ : J M) : ∃ r : Int32, f_Crowd_has v1 M = some r ∧ ((0 : Int) ≤ r.toInt ∧ r.toInt ≤ (1 : Int) ∧ (¬ r.toInt = 0 → (0 : Int) ≤ v1.toInt ∧ v1.toInt ≤ (7 : Int))) := by
  unfold f_Crowd_has
  refine if_i (fun c => ?_) (fun c => ?_)
  · have c1 := c
    have d2 : v1.toInt < (0 : Int) := lti.mp c1
    exact ⟨(0 : Int32), rfl, (show (0 : Int) ≤ (0 : Int32).toInt by decide), (show (0 : Int32).toInt ≤ (1 : Int) by decide), (fun hh => by have hh : ¬ (0 : Int32).toInt = 0 := hh; have zz : (0 : Int32).toInt = 0 := rfl; omega)⟩
  · have c3 := c
    have d4 : (0 : Int) ≤ v1.toInt := nlti.mp c3
    refine if_i (fun c => ?_) (fun c => ?_)
    · have c5 := c
      have r6 := Jr_6_4 hJ
      have d7 : (M.1 6 4).toInt ≤ v1.toInt := lei.mp c5
      exact ⟨(0 : Int32), rfl, (show (0 : Int) ≤ (0 : Int32).toInt by decide), (show (0 : Int32).toInt ≤ (1 : Int) by decide), (fun hh => by have hh : ¬ (0 : Int32).toInt = 0 := hh; have zz : (0 : Int32).toInt = 0 := rfl; omega)⟩
    · have c8 := c
      have r9 := Jr_6_4 hJ
      have d10 : v1.toInt < (M.1 6 4).toInt := nlei.mp c8
      refine if_i (fun c => ?_) (fun c => ?_)
      · have c11 := c
        have d12 : (8 : Int) ≤ v1.toInt := lei.mp c11
        exfalso; omega
      · have c13 := c
        have d14 : v1.toInt < (8 : Int) := nlei.mp c13
        exact ⟨(1 : Int32), rfl, (show (0 : Int) ≤ (1 : Int32).toInt by decide), (show (1 : Int32).toInt ≤ (1 : Int) by decide), (fun hh => by have hh : ¬ (1 : Int32).toInt = 0 := hh; have zz : (1 : Int32).toInt = 1 := rfl; omega)⟩
theorem sl_Crowd_tellWay_40 (v1 : Int32) (v3 : Int32) (a0_ : Int32) (N_ : Mem) (B_ : Mem) (hp_v1 : (0 : Int) ≤ v1.toInt ∧ v1.toInt ≤ (7 : Int)) (hp_v3 : (1 : Int) ≤ v3.toInt ∧ v3.toInt ≤ (9 : Int)) (hN : J N_) (hG : Gc 0 B_ N_) (i2_ : (0 : Int) ≤ a0_.toInt) (i3_ : a0_.toInt ≤ (9 : Int)) : ∃ x, iter (lb_Crowd_tellWay_40 v1 v3) FU (a0_, N_) = some x ∧ (fun r : Mem => J r ∧ Gc 0 B_ r) x := by
  refine iter_r (fun s : Int32 × Mem => J s.2 ∧ Gc 0 B_ s.2 ∧ (0 : Int) ≤ s.1.toInt ∧ s.1.toInt ≤ (9 : Int)) (fun s : Int32 × Mem => (9 - s.1.toInt).toNat) (fun r : Mem => J r ∧ Gc 0 B_ r) ?_ FU (a0_, N_) ⟨hN, hG, i2_, i3_⟩ (by show (9 - a0_.toInt).toNat < FU; rw [FU_v]; omega)
  clear i3_ i2_ hG hN
  rintro ⟨a0_', N_'⟩ ⟨hN, hG, i2_, i3_⟩
  dsimp only at hN hG i2_ i3_
  unfold lb_Crowd_tellWay_40
  dsimp only
  refine if_i (fun c => ?_) (fun c => ?_)
  · have c1 := c
    have d2 : (9 : Int) ≤ a0_'.toInt := lei.mp c1
    exact ⟨_, rfl, hN, hG⟩
  · have c3 := c
    have d4 : a0_'.toInt < (9 : Int) := nlei.mp c3
    refine inb_i (by omega) (by omega) ?_
    have q5 : (v1 * (9 : Int32)).toInt = v1.toInt * (9 : Int) := mul_ti rfl rfl (by omega) (by omega)
    have q6 : ((v1 * (9 : Int32)) + a0_').toInt = (v1 * (9 : Int32)).toInt + a0_'.toInt := add_ti rfl rfl (by omega) (by omega)
    refine inb_i (by omega) (by omega) ?_
    refine mem_i (fun M3 e8 => ?_)
    have hJ9 : J M3 := by rw [e8]; exact Jw_any ok_7 hN ((v1 * (9 : Int32)) + a0_').toNatClampNeg (N_'.1 10 a0_'.toNatClampNeg)
    have hG10 : Gc 0 B_ M3 := Gc_i hG e8 (by decide)
    clear e8
    have q11 : (a0_' + (1 : Int32)).toInt = a0_'.toInt + (1 : Int) := add_ti rfl rfl (by omega) (by omega)
    exact ⟨_, rfl, ⟨hJ9, hG10, (show (0 : Int) ≤ (a0_' + (1 : Int32)).toInt by omega), (show (a0_' + (1 : Int32)).toInt ≤ (9 : Int) by omega)⟩, show (9 - (a0_' + (1 : Int32)).toInt).toNat < (9 - a0_'.toInt).toNat by omega⟩
theorem sf_Crowd_tellWay (v1 : Int32) (M : Mem) (hJ : J M) : ∃ r : Int32 × Mem, f_Crowd_tellWay v1 M = some r ∧ (J r.2 ∧ Gc 0 M r.2 ∧ (-10 : Int) ≤ r.1.toInt ∧ r.1.toInt ≤ (9 : Int)) := by
  unfold f_Crowd_tellWay
  refine bind_i (sf_Signs_steps (0 : Int32) (80 : Int32) 10 (0 : Int32) M FS_10 (⟨by decide, by decide⟩) hJ) (fun x1 _ q => ?_)
  obtain ⟨h1, h2, h3, h4, h5⟩ := q
  have hG6 : Gc 0 M x1.2 := Gc_t Gc_r h2
  refine bind_i (sf_Crowd_has v1 x1.2 h1) (fun x2 _ q => ?_)
  obtain ⟨h7, h8, h9⟩ := q
  refine if_i (fun c => ?_) (fun c => ?_)
  · have c10 := c
    have d11 : x2.toInt = (0 : Int) := eqi.mp c10
    have q12 : ((-1 : Int32) - x1.1).toInt = (-1 : Int) - x1.1.toInt := sub_ti rfl rfl (by omega) (by omega)
    exact ⟨(((-1 : Int32) - x1.1), x1.2), rfl, h1, hG6, (show (-10 : Int) ≤ ((-1 : Int32) - x1.1).toInt by rw [q12]; clear q12; omega), (show ((-1 : Int32) - x1.1).toInt ≤ (9 : Int) by rw [q12]; clear q12; omega)⟩
  · have c13 := c
    have d14 : ¬ x2.toInt = (0 : Int) := neqi.mp c13
    refine if_i (fun c => ?_) (fun c => ?_)
    · have c15 := c
      have d16 : x1.1.toInt = (0 : Int) := eqi.mp c15
      have q17 : ((-1 : Int32) - x1.1).toInt = (-1 : Int) - x1.1.toInt := sub_ti rfl rfl (by omega) (by omega)
      exact ⟨(((-1 : Int32) - x1.1), x1.2), rfl, h1, hG6, (show (-10 : Int) ≤ ((-1 : Int32) - x1.1).toInt by rw [q17]; clear q17; omega), (show ((-1 : Int32) - x1.1).toInt ≤ (9 : Int) by rw [q17]; clear q17; omega)⟩
    · have c18 := c
      have d19 : ¬ x1.1.toInt = (0 : Int) := neqi.mp c18
      refine if_i (fun c => ?_) (fun c => ?_)
      · have c20 := c
        have r21 := Jr_1_1 h1
        have d22 : (x1.2.1 1 1).toInt ≤ x1.1.toInt := lei.mp c20
        refine bind_i (sl_Crowd_tellWay_40 v1 x1.1 (0 : Int32) x1.2 M (⟨show (0 : Int) ≤ v1.toInt by omega, show v1.toInt ≤ (7 : Int) by omega⟩) (⟨show (1 : Int) ≤ x1.1.toInt by omega, show x1.1.toInt ≤ (9 : Int) by omega⟩) h1 hG6 (show (0 : Int) ≤ (0 : Int32).toInt by decide) (show (0 : Int32).toInt ≤ (9 : Int) by decide)) (fun x5 _ q => ?_)
        obtain ⟨h23, h24⟩ := q
        refine inb_i (by omega) (by omega) ?_
        refine mem_i (fun M6 e26 => ?_)
        have hJ27 : J M6 := by rw [e26]; exact Jw_any ok_8 h23 v1.toNatClampNeg x1.1
        have hG28 : Gc 0 M M6 := Gc_i h24 e26 (by decide)
        clear e26
        exact ⟨(x1.1, M6), rfl, hJ27, hG28, (show (-10 : Int) ≤ x1.1.toInt by omega), (show x1.1.toInt ≤ (9 : Int) by omega)⟩
      · have c29 := c
        have r30 := Jr_1_1 h1
        have d31 : x1.1.toInt < (x1.2.1 1 1).toInt := nlei.mp c29
        have q32 : ((-1 : Int32) - x1.1).toInt = (-1 : Int) - x1.1.toInt := sub_ti rfl rfl (by omega) (by omega)
        exact ⟨(((-1 : Int32) - x1.1), x1.2), rfl, h1, hG6, (show (-10 : Int) ≤ ((-1 : Int32) - x1.1).toInt by rw [q32]; clear q32; omega), (show ((-1 : Int32) - x1.1).toInt ≤ (9 : Int) by rw [q32]; clear q32; omega)⟩
theorem sf_Crowd_within (v1 : Int32) (v2 : Int32) (M : Mem) (hJ : J M) : ∃ r : Int32, f_Crowd_within v1 v2 M = some r ∧ ((0 : Int) ≤ r.toInt) := by
  unfold f_Crowd_within
  refine bind_i (sf_Crowd_has v1 M hJ) (fun x1 _ q => ?_)
  obtain ⟨h1, h2, h3⟩ := q
  refine if_i (fun c => ?_) (fun c => ?_)
  · have c4 := c
    have d5 : x1.toInt = (0 : Int) := eqi.mp c4
    exact ⟨(0 : Int32), rfl, (show (0 : Int) ≤ (0 : Int32).toInt by decide)⟩
  · have c6 := c
    have d7 : ¬ x1.toInt = (0 : Int) := neqi.mp c6
    refine inb_i (by omega) (by omega) ?_
    have q8 : (0 : Int) ≤ (if (0 : Int32) < (if ((M.1 8 v1.toNatClampNeg) - (1 : Int32)) < v2 then ((M.1 8 v1.toNatClampNeg) - (1 : Int32)) else v2) then (if ((M.1 8 v1.toNatClampNeg) - (1 : Int32)) < v2 then ((M.1 8 v1.toNatClampNeg) - (1 : Int32)) else v2) else (0 : Int32)).toInt := by
      by_cases cc : (0 : Int32) < (if ((M.1 8 v1.toNatClampNeg) - (1 : Int32)) < v2 then ((M.1 8 v1.toNatClampNeg) - (1 : Int32)) else v2)
      · rw [if_pos cc]
        have d9 : (0 : Int) < (if ((M.1 8 v1.toNatClampNeg) - (1 : Int32)) < v2 then ((M.1 8 v1.toNatClampNeg) - (1 : Int32)) else v2).toInt := lti.mp cc
        omega
      · rw [if_neg cc]
        have d10 : (if ((M.1 8 v1.toNatClampNeg) - (1 : Int32)) < v2 then ((M.1 8 v1.toNatClampNeg) - (1 : Int32)) else v2).toInt ≤ (0 : Int) := nlti.mp cc
        decide
    exact ⟨(if (0 : Int32) < (if ((M.1 8 v1.toNatClampNeg) - (1 : Int32)) < v2 then ((M.1 8 v1.toNatClampNeg) - (1 : Int32)) else v2) then (if ((M.1 8 v1.toNatClampNeg) - (1 : Int32)) < v2 then ((M.1 8 v1.toNatClampNeg) - (1 : Int32)) else v2) else (0 : Int32)), rfl, (show (0 : Int) ≤ (if (0 : Int32) < (if ((M.1 8 v1.toNatClampNeg) - (1 : Int32)) < v2 then ((M.1 8 v1.toNatClampNeg) - (1 : Int32)) else v2) then (if ((M.1 8 v1.toNatClampNeg) - (1 : Int32)) < v2 then ((M.1 8 v1.toNatClampNeg) - (1 : Int32)) else v2) else (0 : Int32)).toInt by omega)⟩
theorem sf_Crowd_stepAt (v1 : Int32) (v2 : Int32) (M : Mem) (hJ : J M) : ∃ r : Int32, f_Crowd_stepAt v1 v2 M = some r ∧ (True) := by
  unfold f_Crowd_stepAt
  refine bind_i (sf_Crowd_has v1 M hJ) (fun x1 _ q => ?_)
  obtain ⟨h1, h2, h3⟩ := q
  refine if_i (fun c => ?_) (fun c => ?_)
  · have c4 := c
    have d5 : x1.toInt = (0 : Int) := eqi.mp c4
    exact ⟨(4 : Int32), rfl, trivial⟩
  · have c6 := c
    have d7 : ¬ x1.toInt = (0 : Int) := neqi.mp c6
    refine if_i (fun c => ?_) (fun c => ?_)
    · have c8 := c
      have d9 : v2.toInt < (0 : Int) := lti.mp c8
      exact ⟨(4 : Int32), rfl, trivial⟩
    · have c10 := c
      have d11 : (0 : Int) ≤ v2.toInt := nlti.mp c10
      refine inb_i (by omega) (by omega) ?_
      refine if_i (fun c => ?_) (fun c => ?_)
      · have c12 := c
        have d13 : (M.1 8 v1.toNatClampNeg).toInt ≤ v2.toInt := lei.mp c12
        exact ⟨(4 : Int32), rfl, trivial⟩
      · have c14 := c
        have d15 : v2.toInt < (M.1 8 v1.toNatClampNeg).toInt := nlei.mp c14
        refine if_i (fun c => ?_) (fun c => ?_)
        · have c16 := c
          have d17 : v2.toInt < (9 : Int) := lti.mp c16
          have q18 : (v1 * (9 : Int32)).toInt = v1.toInt * (9 : Int) := mul_ti rfl rfl (by omega) (by omega)
          have q19 : ((v1 * (9 : Int32)) + v2).toInt = (v1 * (9 : Int32)).toInt + v2.toInt := add_ti rfl rfl (by omega) (by omega)
          refine inb_i (by omega) (by omega) ?_
          exact ⟨(M.1 7 ((v1 * (9 : Int32)) + v2).toNatClampNeg), rfl, trivial⟩
        · have c20 := c
          have d21 : (9 : Int) ≤ v2.toInt := nlti.mp c20
          exact ⟨(4 : Int32), rfl, trivial⟩
theorem sf_Crowd_placeBehind (v1 : Int32) (v2 : Int32) (M : Mem) (hJ : J M) : ∃ r : Int32, f_Crowd_placeBehind v1 v2 M = some r ∧ (True) := by
  unfold f_Crowd_placeBehind
  refine bind_i (sf_Crowd_has v1 M hJ) (fun x1 _ q => ?_)
  obtain ⟨h1, h2, h3⟩ := q
  refine if_i (fun c => ?_) (fun c => ?_)
  · have c4 := c
    have d5 : x1.toInt = (0 : Int) := eqi.mp c4
    exact ⟨(0 : Int32), rfl, trivial⟩
  · have c6 := c
    have d7 : ¬ x1.toInt = (0 : Int) := neqi.mp c6
    refine inb_i (by omega) (by omega) ?_
    refine if_i (fun c => ?_) (fun c => ?_)
    · have c8 := c
      have d9 : (M.1 8 v1.toNatClampNeg).toInt ≤ (v2 + (1 : Int32)).toInt := lei.mp c8
      exact ⟨(0 : Int32), rfl, trivial⟩
    · have c10 := c
      have d11 : (v2 + (1 : Int32)).toInt < (M.1 8 v1.toNatClampNeg).toInt := nlei.mp c10
      exact ⟨(v2 + (1 : Int32)), rfl, trivial⟩
theorem sf_Scene_put (v0 : Nat) (v1 : Int32) (v2 : Int32) (v3 : Int32) (M : Mem) (hk_v0 : kd v0 = 10 + 7) (hp_v1 : (0 : Int) ≤ v1.toInt ∧ v1.toInt ≤ (7 : Int)) (hp_v2 : (0 : Int) ≤ v2.toInt ∧ v2.toInt ≤ (35 : Int)) (hp_v3 : (0 : Int) ≤ v3.toInt ∧ v3.toInt ≤ (1 : Int)) (hJ : J M) : ∃ r : Mem, f_Scene_put v0 v1 v2 v3 M = some r ∧ (J r ∧ Gc 0 M r) := by
  unfold f_Scene_put
  refine c_i hk_v0 ?_
  refine inb_i (by omega) (by omega) ?_
  refine mem_i (fun M1 e2 => ?_)
  have hJ3 : J M1 := by rw [e2]; exact Jw_scene0 hJ hk_v0 v1.toNatClampNeg v2 (show (0 : Int) ≤ v2.toInt by omega) (show v2.toInt ≤ (35 : Int) by omega)
  have hG4 : Gc 0 M M1 := Gc_i Gc_r e2 (cl_scene0 hk_v0)
  have f5 : (M1.1 (rf v0 0) v1.toNatClampNeg).toInt = v2.toInt := by rw [e2, si_eq]
  clear e2
  refine inb_i (by omega) (by omega) ?_
  refine mem_i (fun M2 e7 => ?_)
  have hJ8 : J M2 := by rw [e7]; exact Jw_scene1 hJ3 hk_v0 v1.toNatClampNeg v3 (show (0 : Int) ≤ v3.toInt by omega) (show v3.toInt ≤ (1 : Int) by omega)
  have hG9 : Gc 0 M M2 := Gc_i hG4 e7 (cl_scene1 hk_v0)
  have f10 : (M2.1 (rf v0 1) v1.toNatClampNeg).toInt = v3.toInt := by rw [e7, si_eq]
  clear e7
  refine inb_i (by omega) (by omega) ?_
  refine mem_i (fun M3 e12 => ?_)
  have hJ13 : J M3 := by rw [e12]; exact Jw_scene2 hJ8 hk_v0 v1.toNatClampNeg (0 : Int32)
  have hG14 : Gc 0 M M3 := Gc_i hG9 e12 (cl_scene2 hk_v0)
  have f15 : (M3.1 (rf v0 2) v1.toNatClampNeg).toInt = (0 : Int) := by rw [e12, si_eq]; rfl
  clear e12
  exact ⟨M3, rfl, hJ13, hG14⟩
theorem sl_Scene_clear_2 (v0 : Nat) (a0_ : Int32) (N_ : Mem) (B_ : Mem) (hk_v0 : kd v0 = 10 + 7) (hN : J N_) (hG : Gc 0 B_ N_) (i2_ : (0 : Int) ≤ a0_.toInt) (i3_ : a0_.toInt ≤ (8 : Int)) : ∃ x, iter (lb_Scene_clear_2 v0) FU (a0_, N_) = some x ∧ (fun r : Mem => J r ∧ Gc 0 B_ r) x := by
  refine iter_r (fun s : Int32 × Mem => J s.2 ∧ Gc 0 B_ s.2 ∧ (0 : Int) ≤ s.1.toInt ∧ s.1.toInt ≤ (8 : Int)) (fun s : Int32 × Mem => (8 - s.1.toInt).toNat) (fun r : Mem => J r ∧ Gc 0 B_ r) ?_ FU (a0_, N_) ⟨hN, hG, i2_, i3_⟩ (by show (8 - a0_.toInt).toNat < FU; rw [FU_v]; omega)
  clear i3_ i2_ hG hN
  rintro ⟨a0_', N_'⟩ ⟨hN, hG, i2_, i3_⟩
  dsimp only at hN hG i2_ i3_
  unfold lb_Scene_clear_2
  dsimp only
  refine if_i (fun c => ?_) (fun c => ?_)
  · have c1 := c
    have d2 : (8 : Int) ≤ a0_'.toInt := lei.mp c1
    exact ⟨_, rfl, hN, hG⟩
  · have c3 := c
    have d4 : a0_'.toInt < (8 : Int) := nlei.mp c3
    refine bind_i (sf_Scene_put v0 a0_' (0 : Int32) (0 : Int32) N_' hk_v0 (⟨show (0 : Int) ≤ a0_'.toInt by omega, show a0_'.toInt ≤ (7 : Int) by omega⟩) (⟨by decide, by decide⟩) (⟨by decide, by decide⟩) hN) (fun x1 _ q => ?_)
    obtain ⟨h5, h6⟩ := q
    have hG7 : Gc 0 B_ x1 := Gc_t hG h6
    have q8 : (a0_' + (1 : Int32)).toInt = a0_'.toInt + (1 : Int) := add_ti rfl rfl (by omega) (by omega)
    exact ⟨_, rfl, ⟨h5, hG7, (show (0 : Int) ≤ (a0_' + (1 : Int32)).toInt by omega), (show (a0_' + (1 : Int32)).toInt ≤ (8 : Int) by omega)⟩, show (8 - (a0_' + (1 : Int32)).toInt).toNat < (8 - a0_'.toInt).toNat by omega⟩
theorem sl_Scene_clear_23 (v0 : Nat) (a0_ : Int32) (N_ : Mem) (B_ : Mem) (hk_v0 : kd v0 = 10 + 7) (hN : J N_) (hG : Gc 0 B_ N_) (i2_ : (0 : Int) ≤ a0_.toInt) (i3_ : a0_.toInt ≤ (64 : Int)) : ∃ x, iter (lb_Scene_clear_23 v0) FU (a0_, N_) = some x ∧ (fun r : Mem => J r ∧ Gc 0 B_ r) x := by
  refine iter_r (fun s : Int32 × Mem => J s.2 ∧ Gc 0 B_ s.2 ∧ (0 : Int) ≤ s.1.toInt ∧ s.1.toInt ≤ (64 : Int)) (fun s : Int32 × Mem => (64 - s.1.toInt).toNat) (fun r : Mem => J r ∧ Gc 0 B_ r) ?_ FU (a0_, N_) ⟨hN, hG, i2_, i3_⟩ (by show (64 - a0_.toInt).toNat < FU; rw [FU_v]; omega)
  clear i3_ i2_ hG hN
  rintro ⟨a0_', N_'⟩ ⟨hN, hG, i2_, i3_⟩
  dsimp only at hN hG i2_ i3_
  unfold lb_Scene_clear_23
  dsimp only
  refine if_i (fun c => ?_) (fun c => ?_)
  · have c1 := c
    have d2 : (64 : Int) ≤ a0_'.toInt := lei.mp c1
    exact ⟨_, rfl, hN, hG⟩
  · have c3 := c
    have d4 : a0_'.toInt < (64 : Int) := nlei.mp c3
    refine inb_i (by omega) (by omega) ?_
    refine mem_i (fun M4 e6 => ?_)
    have hJ7 : J M4 := by rw [e6]; exact Jw_scene3 hN hk_v0 a0_'.toNatClampNeg (0 : Int32)
    have hG8 : Gc 0 B_ M4 := Gc_i hG e6 (cl_scene3 hk_v0)
    have f9 : (M4.1 (rf v0 3) a0_'.toNatClampNeg).toInt = (0 : Int) := by rw [e6, si_eq]; rfl
    clear e6
    have q10 : (a0_' + (1 : Int32)).toInt = a0_'.toInt + (1 : Int) := add_ti rfl rfl (by omega) (by omega)
    exact ⟨_, rfl, ⟨hJ7, hG8, (show (0 : Int) ≤ (a0_' + (1 : Int32)).toInt by omega), (show (a0_' + (1 : Int32)).toInt ≤ (64 : Int) by omega)⟩, show (64 - (a0_' + (1 : Int32)).toInt).toNat < (64 - a0_'.toInt).toNat by omega⟩
end
section
/-! safety of the class, 5 -/
theorem sf_Scene_clear (v0 : Nat) (M : Mem) (hk_v0 : kd v0 = 10 + 7) (hJ : J M) : ∃ r : Mem, f_Scene_clear v0 M = some r ∧ (J r ∧ Gc 0 M r) := by
  unfold f_Scene_clear
  refine c_i hk_v0 ?_
  refine bind_i (sl_Scene_clear_2 v0 (0 : Int32) M M hk_v0 hJ Gc_r (show (0 : Int) ≤ (0 : Int32).toInt by decide) (show (0 : Int32).toInt ≤ (8 : Int) by decide)) (fun x3 _ q => ?_)
  obtain ⟨h1, h2⟩ := q
  refine bind_i (sl_Scene_clear_23 v0 (0 : Int32) x3 M hk_v0 h1 h2 (show (0 : Int) ≤ (0 : Int32).toInt by decide) (show (0 : Int32).toInt ≤ (64 : Int) by decide)) (fun x6 _ q => ?_)
  obtain ⟨h3, h4⟩ := q
  refine mem_i (fun M7 e6 => ?_)
  have hJ7 : J M7 := by rw [e6]; exact Jw_scene h3 hk_v0 6 (0 : Int32)
  have hG8 : Gc 0 M M7 := Gc_i h4 e6 (cl_scene hk_v0)
  have f9 : (M7.1 v0 6).toInt = (0 : Int) := by rw [e6, si_eq]; rfl
  clear e6
  refine mem_i (fun M8 e11 => ?_)
  have hJ12 : J M8 := by rw [e11]; exact Jw_scene hJ7 hk_v0 7 (0 : Int32)
  have hG13 : Gc 0 M M8 := Gc_i hG8 e11 (cl_scene hk_v0)
  have f14 : (M8.1 v0 6).toInt = (M7.1 v0 6).toInt := by rw [e11]; rw [si_ne (by exact fun e => absurd e.2 (by decide))]
  have f15 : (M8.1 v0 7).toInt = (0 : Int) := by rw [e11, si_eq]; rfl
  clear e11
  refine mem_i (fun M9 e17 => ?_)
  have hJ18 : J M9 := by rw [e17]; exact Jw_scene hJ12 hk_v0 8 (0 : Int32)
  have hG19 : Gc 0 M M9 := Gc_i hG13 e17 (cl_scene hk_v0)
  have f20 : (M9.1 v0 6).toInt = (M8.1 v0 6).toInt := by rw [e17]; rw [si_ne (by exact fun e => absurd e.2 (by decide))]
  have f21 : (M9.1 v0 7).toInt = (M8.1 v0 7).toInt := by rw [e17]; rw [si_ne (by exact fun e => absurd e.2 (by decide))]
  have f22 : (M9.1 v0 8).toInt = (0 : Int) := by rw [e17, si_eq]; rfl
  clear e17
  refine mem_i (fun M10 e24 => ?_)
  have hJ25 : J M10 := by rw [e24]; exact Jw_scene hJ18 hk_v0 9 (0 : Int32)
  have hG26 : Gc 0 M M10 := Gc_i hG19 e24 (cl_scene hk_v0)
  have f27 : (M10.1 v0 6).toInt = (M9.1 v0 6).toInt := by rw [e24]; rw [si_ne (by exact fun e => absurd e.2 (by decide))]
  have f28 : (M10.1 v0 7).toInt = (M9.1 v0 7).toInt := by rw [e24]; rw [si_ne (by exact fun e => absurd e.2 (by decide))]
  have f29 : (M10.1 v0 8).toInt = (M9.1 v0 8).toInt := by rw [e24]; rw [si_ne (by exact fun e => absurd e.2 (by decide))]
  have f30 : (M10.1 v0 9).toInt = (0 : Int) := by rw [e24, si_eq]; rfl
  clear e24
  exact ⟨M10, rfl, hJ25, hG26⟩
theorem sl_Scene_standing_6 (v0 : Nat) (v1 : Int32) (v2 : Int32) (v3 : Int32) (M : Mem) (a0_ : Int32) (a1_ : Int32) (hk_v0 : kd v0 = 10 + 7) (hp_v3 : (0 : Int) ≤ v3.toInt ∧ v3.toInt ≤ (8 : Int)) (hJ_M : J M) (i0_ : (0 : Int) ≤ a1_.toInt) (i1_ : a1_.toInt ≤ (8 : Int)) : ∃ x, iter (lb_Scene_standing_6 v0 v1 v2 v3 M) FU (a0_, a1_) = some x ∧ (fun r : Int32 => True) x := by
  refine iter_r (fun s : Int32 × Int32 => (0 : Int) ≤ s.2.toInt ∧ s.2.toInt ≤ (8 : Int)) (fun s : Int32 × Int32 => (8 - s.2.toInt).toNat) (fun r : Int32 => True) ?_ FU (a0_, a1_) ⟨i0_, i1_⟩ (by show (8 - a1_.toInt).toNat < FU; rw [FU_v]; omega)
  clear i1_ i0_
  rintro ⟨a0_', a1_'⟩ ⟨i0_, i1_⟩
  dsimp only at i0_ i1_
  unfold lb_Scene_standing_6
  dsimp only
  refine if_i (fun c => ?_) (fun c => ?_)
  · have c1 := c
    have d2 : v3.toInt ≤ a1_'.toInt := lei.mp c1
    exact ⟨_, rfl, trivial⟩
  · have c3 := c
    have d4 : a1_'.toInt < v3.toInt := nlei.mp c3
    refine inb_i (by omega) (by omega) ?_
    refine if_i (fun c => ?_) (fun c => ?_)
    · have c5 := c
      have r6 := Jr_scene0 hJ_M hk_v0 a1_'.toNatClampNeg
      have d7 : (M.1 (rf v0 0) a1_'.toNatClampNeg).toInt = v2.toInt := eqi.mp c5
      refine inb_i (by omega) (by omega) ?_
      refine if_i (fun c => ?_) (fun c => ?_)
      · have c8 := c
        have r9 := Jr_scene1 hJ_M hk_v0 a1_'.toNatClampNeg
        have d10 : (M.1 (rf v0 1) a1_'.toNatClampNeg).toInt = v1.toInt := eqi.mp c8
        have q11 : (a1_' + (1 : Int32)).toInt = a1_'.toInt + (1 : Int) := add_ti rfl rfl (by omega) (by omega)
        exact ⟨_, rfl, ⟨(show (0 : Int) ≤ (a1_' + (1 : Int32)).toInt by omega), (show (a1_' + (1 : Int32)).toInt ≤ (8 : Int) by omega)⟩, show (8 - (a1_' + (1 : Int32)).toInt).toNat < (8 - a1_'.toInt).toNat by omega⟩
      · have c12 := c
        have r13 := Jr_scene1 hJ_M hk_v0 a1_'.toNatClampNeg
        have d14 : ¬ (M.1 (rf v0 1) a1_'.toNatClampNeg).toInt = v1.toInt := neqi.mp c12
        have q15 : (a1_' + (1 : Int32)).toInt = a1_'.toInt + (1 : Int) := add_ti rfl rfl (by omega) (by omega)
        exact ⟨_, rfl, ⟨(show (0 : Int) ≤ (a1_' + (1 : Int32)).toInt by omega), (show (a1_' + (1 : Int32)).toInt ≤ (8 : Int) by omega)⟩, show (8 - (a1_' + (1 : Int32)).toInt).toNat < (8 - a1_'.toInt).toNat by omega⟩
    · have c16 := c
      have r17 := Jr_scene0 hJ_M hk_v0 a1_'.toNatClampNeg
      have d18 : ¬ (M.1 (rf v0 0) a1_'.toNatClampNeg).toInt = v2.toInt := neqi.mp c16
      have q19 : (a1_' + (1 : Int32)).toInt = a1_'.toInt + (1 : Int) := add_ti rfl rfl (by omega) (by omega)
      exact ⟨_, rfl, ⟨(show (0 : Int) ≤ (a1_' + (1 : Int32)).toInt by omega), (show (a1_' + (1 : Int32)).toInt ≤ (8 : Int) by omega)⟩, show (8 - (a1_' + (1 : Int32)).toInt).toNat < (8 - a1_'.toInt).toNat by omega⟩
theorem sf_Scene_standing (v0 : Nat) (v1 : Int32) (v2 : Int32) (v3 : Int32) (M : Mem) (hk_v0 : kd v0 = 10 + 7) (hp_v3 : (0 : Int) ≤ v3.toInt ∧ v3.toInt ≤ (8 : Int)) (hJ : J M) : ∃ r : Int32, f_Scene_standing v0 v1 v2 v3 M = some r ∧ (True) := by
  unfold f_Scene_standing
  refine c_i hk_v0 ?_
  refine bind_i (sl_Scene_standing_6 v0 v1 v2 v3 M (0 : Int32) (0 : Int32) hk_v0 (⟨show (0 : Int) ≤ v3.toInt by omega, show v3.toInt ≤ (8 : Int) by omega⟩) hJ (show (0 : Int) ≤ (0 : Int32).toInt by decide) (show (0 : Int32).toInt ≤ (8 : Int) by decide)) (fun x4 _ q => ?_)
  exact ⟨x4, rfl, trivial⟩
theorem sl_Scene_planksAt_4 (v0 : Nat) (v1 : Int32) (M : Mem) (a0_ : Int32) (a1_ : Int32) (hk_v0 : kd v0 = 10 + 7) (hJ_M : J M) (i0_ : (0 : Int) ≤ a1_.toInt) (i1_ : a1_.toInt ≤ (6 : Int)) : ∃ x, iter (lb_Scene_planksAt_4 v0 v1 M) FU (a0_, a1_) = some x ∧ (fun r : Int32 => True) x := by
  refine iter_r (fun s : Int32 × Int32 => (0 : Int) ≤ s.2.toInt ∧ s.2.toInt ≤ (6 : Int)) (fun s : Int32 × Int32 => (6 - s.2.toInt).toNat) (fun r : Int32 => True) ?_ FU (a0_, a1_) ⟨i0_, i1_⟩ (by show (6 - a1_.toInt).toNat < FU; rw [FU_v]; omega)
  clear i1_ i0_
  rintro ⟨a0_', a1_'⟩ ⟨i0_, i1_⟩
  dsimp only at i0_ i1_
  unfold lb_Scene_planksAt_4
  dsimp only
  refine if_i (fun c => ?_) (fun c => ?_)
  · have c1 := c
    have d2 : (M.1 v0 6).toInt ≤ a1_'.toInt := lei.mp c1
    exact ⟨_, rfl, trivial⟩
  · have c3 := c
    have d4 : a1_'.toInt < (M.1 v0 6).toInt := nlei.mp c3
    refine if_i (fun c => ?_) (fun c => ?_)
    · have c5 := c
      have d6 : (6 : Int) ≤ a1_'.toInt := lei.mp c5
      exact ⟨_, rfl, trivial⟩
    · have c7 := c
      have d8 : a1_'.toInt < (6 : Int) := nlei.mp c7
      refine inb_i (by omega) (by omega) ?_
      refine if_i (fun c => ?_) (fun c => ?_)
      · have c9 := c
        have r10 := Jr_scene4 hJ_M hk_v0 a1_'.toNatClampNeg
        have d11 : (M.1 (rf v0 4) a1_'.toNatClampNeg).toInt = v1.toInt := eqi.mp c9
        have q12 : (a1_' + (1 : Int32)).toInt = a1_'.toInt + (1 : Int) := add_ti rfl rfl (by omega) (by omega)
        exact ⟨_, rfl, ⟨(show (0 : Int) ≤ (a1_' + (1 : Int32)).toInt by omega), (show (a1_' + (1 : Int32)).toInt ≤ (6 : Int) by omega)⟩, show (6 - (a1_' + (1 : Int32)).toInt).toNat < (6 - a1_'.toInt).toNat by omega⟩
      · have c13 := c
        have r14 := Jr_scene4 hJ_M hk_v0 a1_'.toNatClampNeg
        have d15 : ¬ (M.1 (rf v0 4) a1_'.toNatClampNeg).toInt = v1.toInt := neqi.mp c13
        refine inb_i (by omega) (by omega) ?_
        refine if_i (fun c => ?_) (fun c => ?_)
        · have c16 := c
          have r17 := Jr_scene5 hJ_M hk_v0 a1_'.toNatClampNeg
          have d18 : (M.1 (rf v0 5) a1_'.toNatClampNeg).toInt = v1.toInt := eqi.mp c16
          have q19 : (a1_' + (1 : Int32)).toInt = a1_'.toInt + (1 : Int) := add_ti rfl rfl (by omega) (by omega)
          exact ⟨_, rfl, ⟨(show (0 : Int) ≤ (a1_' + (1 : Int32)).toInt by omega), (show (a1_' + (1 : Int32)).toInt ≤ (6 : Int) by omega)⟩, show (6 - (a1_' + (1 : Int32)).toInt).toNat < (6 - a1_'.toInt).toNat by omega⟩
        · have c20 := c
          have r21 := Jr_scene5 hJ_M hk_v0 a1_'.toNatClampNeg
          have d22 : ¬ (M.1 (rf v0 5) a1_'.toNatClampNeg).toInt = v1.toInt := neqi.mp c20
          have q23 : (a1_' + (1 : Int32)).toInt = a1_'.toInt + (1 : Int) := add_ti rfl rfl (by omega) (by omega)
          exact ⟨_, rfl, ⟨(show (0 : Int) ≤ (a1_' + (1 : Int32)).toInt by omega), (show (a1_' + (1 : Int32)).toInt ≤ (6 : Int) by omega)⟩, show (6 - (a1_' + (1 : Int32)).toInt).toNat < (6 - a1_'.toInt).toNat by omega⟩
theorem sf_Scene_planksAt (v0 : Nat) (v1 : Int32) (M : Mem) (hk_v0 : kd v0 = 10 + 7) (hJ : J M) : ∃ r : Int32, f_Scene_planksAt v0 v1 M = some r ∧ (True) := by
  unfold f_Scene_planksAt
  refine c_i hk_v0 ?_
  refine bind_i (sl_Scene_planksAt_4 v0 v1 M (0 : Int32) (0 : Int32) hk_v0 hJ (show (0 : Int) ≤ (0 : Int32).toInt by decide) (show (0 : Int32).toInt ≤ (6 : Int) by decide)) (fun x5 _ q => ?_)
  exact ⟨x5, rfl, trivial⟩
theorem sf_Scene_meetingsOfTwo (v0 : Nat) (v1 : Int32) (v2 : Int32) (M : Mem) (hk_v0 : kd v0 = 10 + 7) (hp_v1 : (0 : Int) ≤ v1.toInt ∧ v1.toInt ≤ (7 : Int)) (hp_v2 : (0 : Int) ≤ v2.toInt ∧ v2.toInt ≤ (7 : Int)) (hJ : J M) : ∃ r : Int32, f_Scene_meetingsOfTwo v0 v1 v2 M = some r ∧ (True) := by
  unfold f_Scene_meetingsOfTwo
  refine c_i hk_v0 ?_
  have q1 : (v1 * (8 : Int32)).toInt = v1.toInt * (8 : Int) := mul_ti rfl rfl (by omega) (by omega)
  have q2 : ((v1 * (8 : Int32)) + v2).toInt = (v1 * (8 : Int32)).toInt + v2.toInt := add_ti rfl rfl (by omega) (by omega)
  refine inb_i (by omega) (by omega) ?_
  have q3 : (v2 * (8 : Int32)).toInt = v2.toInt * (8 : Int) := mul_ti rfl rfl (by omega) (by omega)
  have q4 : ((v2 * (8 : Int32)) + v1).toInt = (v2 * (8 : Int32)).toInt + v1.toInt := add_ti rfl rfl (by omega) (by omega)
  refine inb_i (by omega) (by omega) ?_
  exact ⟨((M.1 (rf v0 3) ((v1 * (8 : Int32)) + v2).toNatClampNeg) + (M.1 (rf v0 3) ((v2 * (8 : Int32)) + v1).toNatClampNeg)), rfl, trivial⟩
theorem sl_Scene_meetingsOf_4 (v0 : Nat) (v1 : Int32) (M : Mem) (a0_ : Int32) (a1_ : Int32) (hk_v0 : kd v0 = 10 + 7) (hp_v1 : (0 : Int) ≤ v1.toInt ∧ v1.toInt ≤ (7 : Int)) (hJ_M : J M) (i0_ : (0 : Int) ≤ a1_.toInt) (i1_ : a1_.toInt ≤ (8 : Int)) : ∃ x, iter (lb_Scene_meetingsOf_4 v0 v1 M) FU (a0_, a1_) = some x ∧ (fun r : Int32 => True) x := by
  refine iter_r (fun s : Int32 × Int32 => (0 : Int) ≤ s.2.toInt ∧ s.2.toInt ≤ (8 : Int)) (fun s : Int32 × Int32 => (8 - s.2.toInt).toNat) (fun r : Int32 => True) ?_ FU (a0_, a1_) ⟨i0_, i1_⟩ (by show (8 - a1_.toInt).toNat < FU; rw [FU_v]; omega)
  clear i1_ i0_
  rintro ⟨a0_', a1_'⟩ ⟨i0_, i1_⟩
  dsimp only at i0_ i1_
  unfold lb_Scene_meetingsOf_4
  dsimp only
  refine if_i (fun c => ?_) (fun c => ?_)
  · have c1 := c
    have d2 : (8 : Int) ≤ a1_'.toInt := lei.mp c1
    exact ⟨_, rfl, trivial⟩
  · have c3 := c
    have d4 : a1_'.toInt < (8 : Int) := nlei.mp c3
    refine bind_i (sf_Scene_meetingsOfTwo v0 v1 a1_' M hk_v0 (⟨show (0 : Int) ≤ v1.toInt by omega, show v1.toInt ≤ (7 : Int) by omega⟩) (⟨show (0 : Int) ≤ a1_'.toInt by omega, show a1_'.toInt ≤ (7 : Int) by omega⟩) hJ_M) (fun x1 _ q => ?_)
    have q5 : (a1_' + (1 : Int32)).toInt = a1_'.toInt + (1 : Int) := add_ti rfl rfl (by omega) (by omega)
    exact ⟨_, rfl, ⟨(show (0 : Int) ≤ (a1_' + (1 : Int32)).toInt by omega), (show (a1_' + (1 : Int32)).toInt ≤ (8 : Int) by omega)⟩, show (8 - (a1_' + (1 : Int32)).toInt).toNat < (8 - a1_'.toInt).toNat by omega⟩
theorem sf_Scene_meetingsOf (v0 : Nat) (v1 : Int32) (M : Mem) (hk_v0 : kd v0 = 10 + 7) (hp_v1 : (0 : Int) ≤ v1.toInt ∧ v1.toInt ≤ (7 : Int)) (hJ : J M) : ∃ r : Int32, f_Scene_meetingsOf v0 v1 M = some r ∧ (True) := by
  unfold f_Scene_meetingsOf
  refine c_i hk_v0 ?_
  refine bind_i (sl_Scene_meetingsOf_4 v0 v1 M (0 : Int32) (0 : Int32) hk_v0 (⟨show (0 : Int) ≤ v1.toInt by omega, show v1.toInt ≤ (7 : Int) by omega⟩) hJ (show (0 : Int) ≤ (0 : Int32).toInt by decide) (show (0 : Int32).toInt ≤ (8 : Int) by decide)) (fun x3 _ q => ?_)
  exact ⟨x3, rfl, trivial⟩
theorem sl_Scene_isUnderPlank_2 (v0 : Nat) (v2 : Int32) (M : Mem) (a0_ : Int32) (hk_v0 : kd v0 = 10 + 7) (hJ_M : J M) (i0_ : (0 : Int) ≤ a0_.toInt) (i1_ : a0_.toInt ≤ (6 : Int)) : ∃ x, iter (lb_Scene_isUnderPlank_2 v0 v2 M) FU a0_ = some x ∧ (SQ (fun r : Unit => True) (fun r : Unit => True)) x := by
  refine iter_r (fun s : Int32 => (0 : Int) ≤ s.toInt ∧ s.toInt ≤ (6 : Int)) (fun s : Int32 => (6 - s.toInt).toNat) (SQ (fun r : Unit => True) (fun r : Unit => True)) ?_ FU a0_ ⟨i0_, i1_⟩ (by show (6 - a0_.toInt).toNat < FU; rw [FU_v]; omega)
  clear i1_ i0_
  rintro a0_' ⟨i0_, i1_⟩
  unfold lb_Scene_isUnderPlank_2
  refine if_i (fun c => ?_) (fun c => ?_)
  · have c1 := c
    have d2 : (M.1 v0 6).toInt ≤ a0_'.toInt := lei.mp c1
    exact ⟨_, rfl, trivial⟩
  · have c3 := c
    have d4 : a0_'.toInt < (M.1 v0 6).toInt := nlei.mp c3
    refine if_i (fun c => ?_) (fun c => ?_)
    · have c5 := c
      have d6 : (6 : Int) ≤ a0_'.toInt := lei.mp c5
      exact ⟨_, rfl, trivial⟩
    · have c7 := c
      have d8 : a0_'.toInt < (6 : Int) := nlei.mp c7
      refine inb_i (by omega) (by omega) ?_
      refine inb_i (by omega) (by omega) ?_
      refine bind_i (sf_Ground_between (M.1 (rf v0 4) a0_'.toNatClampNeg) (M.1 (rf v0 5) a0_'.toNatClampNeg) M hJ_M) (fun x1 _ q => ?_)
      obtain ⟨h9, h10⟩ := q
      refine if_i (fun c => ?_) (fun c => ?_)
      · have c11 := c
        have d12 : x1.toInt = v2.toInt := eqi.mp c11
        exact ⟨_, rfl, trivial⟩
      · have c13 := c
        have d14 : ¬ x1.toInt = v2.toInt := neqi.mp c13
        have q15 : (a0_' + (1 : Int32)).toInt = a0_'.toInt + (1 : Int) := add_ti rfl rfl (by omega) (by omega)
        exact ⟨_, rfl, ⟨(show (0 : Int) ≤ (a0_' + (1 : Int32)).toInt by omega), (show (a0_' + (1 : Int32)).toInt ≤ (6 : Int) by omega)⟩, show (6 - (a0_' + (1 : Int32)).toInt).toNat < (6 - a0_'.toInt).toNat by omega⟩
theorem sf_Scene_isUnderPlank (v0 : Nat) (v2 : Int32) (M : Mem) (hk_v0 : kd v0 = 10 + 7) (hJ : J M) : ∃ r : Int32, f_Scene_isUnderPlank v0 v2 M = some r ∧ ((0 : Int) ≤ r.toInt ∧ r.toInt ≤ (1 : Int)) := by
  unfold f_Scene_isUnderPlank
  refine c_i hk_v0 ?_
  refine bind_i (sl_Scene_isUnderPlank_2 v0 v2 M (0 : Int32) hk_v0 hJ (show (0 : Int) ≤ (0 : Int32).toInt by decide) (show (0 : Int32).toInt ≤ (6 : Int) by decide)) (fun x1 _ q => ?_)
  rcases x1 with y | y
  · have q9 : True := q
    dsimp only [Sum.elim_inl, Sum.elim_inr]
    exact ⟨(0 : Int32), rfl, (show (0 : Int) ≤ (0 : Int32).toInt by decide), (show (0 : Int32).toInt ≤ (1 : Int) by decide)⟩
  · have q9 : True := q
    dsimp only [Sum.elim_inl, Sum.elim_inr]
    exact ⟨(1 : Int32), rfl, (show (0 : Int) ≤ (1 : Int32).toInt by decide), (show (1 : Int32).toInt ≤ (1 : Int) by decide)⟩
theorem sf_Scene_copy (v0 : Nat) (v1 : Nat) (M : Mem) (hk_v0 : kd v0 = 10 + 7) (hk_v1 : kd v1 = 10 + 7) (hJ : J M) : ∃ r : Mem, f_Scene_copy v0 v1 M = some r ∧ (J r ∧ Gc 0 M r ∧ r.1 46 2 = M.1 46 2) := by
  unfold f_Scene_copy
  refine c_i hk_v0 ?_
  refine c_i hk_v1 ?_
  refine mem_i (fun M1 e2 => ?_)
  have hJ3 : J M1 := by rw [e2]; exact Jc_scene0 hJ hk_v1 hk_v0
  have hG4 : Gc 0 M M1 := Gc_c Gc_r e2 (cl_scene0 hk_v0)
  have g5 : M1.1 46 2 = M.1 46 2 := (congrArg (fun m : Mem => m.1 46 2) e2).trans ((sc_ne (fun e => rfk_0_46 hk_v0 e.symm)).trans rfl)
  clear e2
  refine mem_i (fun M2 e7 => ?_)
  have hJ8 : J M2 := by rw [e7]; exact Jc_scene1 hJ3 hk_v1 hk_v0
  have hG9 : Gc 0 M M2 := Gc_c hG4 e7 (cl_scene1 hk_v0)
  have g10 : M2.1 46 2 = M.1 46 2 := (congrArg (fun m : Mem => m.1 46 2) e7).trans ((sc_ne (fun e => rfk_1_46 hk_v0 e.symm)).trans g5)
  clear e7
  refine mem_i (fun M3 e12 => ?_)
  have hJ13 : J M3 := by rw [e12]; exact Jc_scene2 hJ8 hk_v1 hk_v0
  have hG14 : Gc 0 M M3 := Gc_c hG9 e12 (cl_scene2 hk_v0)
  have g15 : M3.1 46 2 = M.1 46 2 := (congrArg (fun m : Mem => m.1 46 2) e12).trans ((sc_ne (fun e => rfk_2_46 hk_v0 e.symm)).trans g10)
  clear e12
  refine mem_i (fun M4 e17 => ?_)
  have hJ18 : J M4 := by rw [e17]; exact Jc_scene3 hJ13 hk_v1 hk_v0
  have hG19 : Gc 0 M M4 := Gc_c hG14 e17 (cl_scene3 hk_v0)
  have g20 : M4.1 46 2 = M.1 46 2 := (congrArg (fun m : Mem => m.1 46 2) e17).trans ((sc_ne (fun e => rfk_3_46 hk_v0 e.symm)).trans g15)
  clear e17
  refine mem_i (fun M5 e22 => ?_)
  have hJ23 : J M5 := by rw [e22]; exact Jc_scene4 hJ18 hk_v1 hk_v0
  have hG24 : Gc 0 M M5 := Gc_c hG19 e22 (cl_scene4 hk_v0)
  have g25 : M5.1 46 2 = M.1 46 2 := (congrArg (fun m : Mem => m.1 46 2) e22).trans ((sc_ne (fun e => rfk_4_46 hk_v0 e.symm)).trans g20)
  clear e22
  refine mem_i (fun M6 e27 => ?_)
  have hJ28 : J M6 := by rw [e27]; exact Jc_scene5 hJ23 hk_v1 hk_v0
  have hG29 : Gc 0 M M6 := Gc_c hG24 e27 (cl_scene5 hk_v0)
  have g30 : M6.1 46 2 = M.1 46 2 := (congrArg (fun m : Mem => m.1 46 2) e27).trans ((sc_ne (fun e => rfk_5_46 hk_v0 e.symm)).trans g25)
  clear e27
  refine mem_i (fun M7 e32 => ?_)
  have hJ33 : J M7 := by rw [e32]; exact Jw_scene hJ28 hk_v0 6 (M6.1 v1 6)
  have hG34 : Gc 0 M M7 := Gc_i hG29 e32 (cl_scene hk_v0)
  have g35 : M7.1 46 2 = M.1 46 2 := (congrArg (fun m : Mem => m.1 46 2) e32).trans ((si_ne (by exact fun e => vk_46 hk_v0 e.1.symm)).trans g30)
  clear e32
  refine mem_i (fun M8 e37 => ?_)
  have hJ38 : J M8 := by rw [e37]; exact Jw_scene hJ33 hk_v0 7 (M7.1 v1 7)
  have hG39 : Gc 0 M M8 := Gc_i hG34 e37 (cl_scene hk_v0)
  have g40 : M8.1 46 2 = M.1 46 2 := (congrArg (fun m : Mem => m.1 46 2) e37).trans ((si_ne (by exact fun e => vk_46 hk_v0 e.1.symm)).trans g35)
  clear e37
  refine mem_i (fun M9 e42 => ?_)
  have hJ43 : J M9 := by rw [e42]; exact Jw_scene hJ38 hk_v0 8 (M8.1 v1 8)
  have hG44 : Gc 0 M M9 := Gc_i hG39 e42 (cl_scene hk_v0)
  have g45 : M9.1 46 2 = M.1 46 2 := (congrArg (fun m : Mem => m.1 46 2) e42).trans ((si_ne (by exact fun e => vk_46 hk_v0 e.1.symm)).trans g40)
  clear e42
  refine mem_i (fun M10 e47 => ?_)
  have hJ48 : J M10 := by rw [e47]; exact Jw_scene hJ43 hk_v0 9 (M9.1 v1 9)
  have hG49 : Gc 0 M M10 := Gc_i hG44 e47 (cl_scene hk_v0)
  have g50 : M10.1 46 2 = M.1 46 2 := (congrArg (fun m : Mem => m.1 46 2) e47).trans ((si_ne (by exact fun e => vk_46 hk_v0 e.1.symm)).trans g45)
  clear e47
  exact ⟨M10, rfl, hJ48, hG49, (g50)⟩
theorem sf_Scene_hasPlank (v0 : Nat) (v1 : Int32) (v2 : Int32) (M : Mem) (hk_v0 : kd v0 = 10 + 7) (hJ : J M) : ∃ r : Int32, f_Scene_hasPlank v0 v1 v2 M = some r ∧ ((0 : Int) ≤ r.toInt ∧ r.toInt ≤ (1 : Int)) := by
  unfold f_Scene_hasPlank
  refine c_i hk_v0 ?_
  refine bind_i (sf_Scene_planksAt v0 v1 M hk_v0 hJ) (fun x1 _ q => ?_)
  refine bind_i (sf_Scene_planksAt v0 v2 M hk_v0 hJ) (fun x2 _ q => ?_)
  refine if_i (fun c => ?_) (fun c => ?_)
  · have c1 := c
    have d2 : (x1 &&& x2).toInt = (0 : Int) := eqi.mp c1
    exact ⟨(0 : Int32), rfl, (show (0 : Int) ≤ (0 : Int32).toInt by decide), (show (0 : Int32).toInt ≤ (1 : Int) by decide)⟩
  · have c3 := c
    have d4 : ¬ (x1 &&& x2).toInt = (0 : Int) := neqi.mp c3
    exact ⟨(1 : Int32), rfl, (show (0 : Int) ≤ (1 : Int32).toInt by decide), (show (1 : Int32).toInt ≤ (1 : Int) by decide)⟩
theorem sf_Scene_addPlank (v0 : Nat) (v1 : Int32) (v2 : Int32) (M : Mem) (hk_v0 : kd v0 = 10 + 7) (hp_v1 : (0 : Int) ≤ v1.toInt ∧ v1.toInt ≤ (35 : Int)) (hp_v2 : (0 : Int) ≤ v2.toInt ∧ v2.toInt ≤ (35 : Int)) (hJ : J M) : ∃ r : Int32 × Mem, f_Scene_addPlank v0 v1 v2 M = some r ∧ (J r.2 ∧ Gc 0 M r.2 ∧ (0 : Int) ≤ r.1.toInt ∧ r.1.toInt ≤ (1 : Int)) := by
  unfold f_Scene_addPlank
  refine c_i hk_v0 ?_
  refine if_i (fun c => ?_) (fun c => ?_)
  · have c1 := c
    have d2 : (M.1 v0 6).toInt < (0 : Int) := lti.mp c1
    exact ⟨((0 : Int32), M), rfl, hJ, Gc_r, (show (0 : Int) ≤ (0 : Int32).toInt by decide), (show (0 : Int32).toInt ≤ (1 : Int) by decide)⟩
  · have c3 := c
    have d4 : (0 : Int) ≤ (M.1 v0 6).toInt := nlti.mp c3
    refine if_i (fun c => ?_) (fun c => ?_)
    · have c5 := c
      have d6 : (M.1 v0 6).toInt < (6 : Int) := lti.mp c5
      refine inb_i (by omega) (by omega) ?_
      refine mem_i (fun M1 e8 => ?_)
      have hJ9 : J M1 := by rw [e8]; exact Jw_scene4 hJ hk_v0 (M.1 v0 6).toNatClampNeg v1 (show (0 : Int) ≤ v1.toInt by omega) (show v1.toInt ≤ (35 : Int) by omega)
      have hG10 : Gc 0 M M1 := Gc_i Gc_r e8 (cl_scene4 hk_v0)
      have f11 : (M1.1 v0 6).toInt = (M.1 v0 6).toInt := by rw [e8]; rw [si_ne (by exact rf_ne4_scene hk_v0)]
      have f12 : (M1.1 (rf v0 4) (M.1 v0 6).toNatClampNeg).toInt = v1.toInt := by rw [e8, si_eq]
      clear e8
      refine inb_i (by omega) (by omega) ?_
      refine mem_i (fun M2 e14 => ?_)
      have hJ15 : J M2 := by rw [e14]; exact Jw_scene5 hJ9 hk_v0 (M1.1 v0 6).toNatClampNeg v2 (show (0 : Int) ≤ v2.toInt by omega) (show v2.toInt ≤ (35 : Int) by omega)
      have hG16 : Gc 0 M M2 := Gc_i hG10 e14 (cl_scene5 hk_v0)
      have f17 : (M2.1 v0 6).toInt = (M1.1 v0 6).toInt := by rw [e14]; rw [si_ne (by exact rf_ne5_scene hk_v0)]
      have f18 : (M2.1 (rf v0 5) (M1.1 v0 6).toNatClampNeg).toInt = v2.toInt := by rw [e14, si_eq]
      clear e14
      refine mem_i (fun M3 e20 => ?_)
      have hJ21 : J M3 := by rw [e20]; exact Jw_scene hJ15 hk_v0 6 ((M2.1 v0 6) + (1 : Int32))
      have hG22 : Gc 0 M M3 := Gc_i hG16 e20 (cl_scene hk_v0)
      have f23 : (M3.1 (rf v0 5) (M1.1 v0 6).toNatClampNeg).toInt = (M2.1 (rf v0 5) (M1.1 v0 6).toNatClampNeg).toInt := by rw [e20]; rw [si_ne (by exact rf_en5_scene hk_v0)]
      have q24 : ((M2.1 v0 6) + (1 : Int32)).toInt = (M2.1 v0 6).toInt + (1 : Int) := add_ti rfl rfl (by omega) (by omega)
      have f25 : (M3.1 v0 6).toInt = ((M2.1 v0 6) + (1 : Int32)).toInt := by rw [e20, si_eq]
      clear e20
      exact ⟨((1 : Int32), M3), rfl, hJ21, hG22, (show (0 : Int) ≤ (1 : Int32).toInt by decide), (show (1 : Int32).toInt ≤ (1 : Int) by decide)⟩
    · have c26 := c
      have d27 : (6 : Int) ≤ (M.1 v0 6).toInt := nlti.mp c26
      exact ⟨((0 : Int32), M), rfl, hJ, Gc_r, (show (0 : Int) ≤ (0 : Int32).toInt by decide), (show (0 : Int32).toInt ≤ (1 : Int) by decide)⟩
theorem sf_Scene_addMeeting (v0 : Nat) (v1 : Int32) (v2 : Int32) (M : Mem) (hk_v0 : kd v0 = 10 + 7) (hp_v1 : (0 : Int) ≤ v1.toInt ∧ v1.toInt ≤ (7 : Int)) (hp_v2 : (0 : Int) ≤ v2.toInt ∧ v2.toInt ≤ (7 : Int)) (hJ : J M) : ∃ r : Mem, f_Scene_addMeeting v0 v1 v2 M = some r ∧ (J r ∧ Gc 0 M r) := by
  unfold f_Scene_addMeeting
  refine c_i hk_v0 ?_
  have q1 : (v1 * (8 : Int32)).toInt = v1.toInt * (8 : Int) := mul_ti rfl rfl (by omega) (by omega)
  have q2 : ((v1 * (8 : Int32)) + v2).toInt = (v1 * (8 : Int32)).toInt + v2.toInt := add_ti rfl rfl (by omega) (by omega)
  refine inb_i (by omega) (by omega) ?_
  refine inb_i (by omega) (by omega) ?_
  refine mem_i (fun M1 e4 => ?_)
  have hJ5 : J M1 := by rw [e4]; exact Jw_scene3 hJ hk_v0 ((v1 * (8 : Int32)) + v2).toNatClampNeg ((M.1 (rf v0 3) ((v1 * (8 : Int32)) + v2).toNatClampNeg) + (1 : Int32))
  have hG6 : Gc 0 M M1 := Gc_i Gc_r e4 (cl_scene3 hk_v0)
  clear e4
  exact ⟨M1, rfl, hJ5, hG6⟩
theorem sl_Scene_guarded_5 (v0 : Nat) (v1 : Int32) (v2 : Int32) (M : Mem) (a0_ : Int64) (a1_ : Int32) (hk_v0 : kd v0 = 10 + 7) (hJ_M : J M) (i0_ : (0 : Int) ≤ a1_.toInt) (i1_ : a1_.toInt ≤ (8 : Int)) : ∃ x, iter (lb_Scene_guarded_5 v0 v1 v2 M) FU (a0_, a1_) = some x ∧ (fun r : Int64 => True) x := by
  refine iter_r (fun s : Int64 × Int32 => (0 : Int) ≤ s.2.toInt ∧ s.2.toInt ≤ (8 : Int)) (fun s : Int64 × Int32 => (8 - s.2.toInt).toNat) (fun r : Int64 => True) ?_ FU (a0_, a1_) ⟨i0_, i1_⟩ (by show (8 - a1_.toInt).toNat < FU; rw [FU_v]; omega)
  clear i1_ i0_
  rintro ⟨a0_', a1_'⟩ ⟨i0_, i1_⟩
  dsimp only at i0_ i1_
  unfold lb_Scene_guarded_5
  dsimp only
  refine if_i (fun c => ?_) (fun c => ?_)
  · have c1 := c
    have d2 : (8 : Int) ≤ a1_'.toInt := lei.mp c1
    exact ⟨_, rfl, trivial⟩
  · have c3 := c
    have d4 : a1_'.toInt < (8 : Int) := nlei.mp c3
    refine if_i (fun c => ?_) (fun c => ?_)
    · have c5 := c
      have q6 : (0 : Int) ≤ ((v2 >>> (a1_' &&& 31)) &&& (1 : Int32)).toInt ∧ ((v2 >>> (a1_' &&& 31)) &&& (1 : Int32)).toInt ≤ 1 := and_rng (by decide)
      have d7 : ((v2 >>> (a1_' &&& 31)) &&& (1 : Int32)).toInt = (0 : Int) := eqi.mp c5
      have q8 : (a1_' + (1 : Int32)).toInt = a1_'.toInt + (1 : Int) := add_ti rfl rfl (by omega) (by omega)
      exact ⟨_, rfl, ⟨(show (0 : Int) ≤ (a1_' + (1 : Int32)).toInt by omega), (show (a1_' + (1 : Int32)).toInt ≤ (8 : Int) by omega)⟩, show (8 - (a1_' + (1 : Int32)).toInt).toNat < (8 - a1_'.toInt).toNat by omega⟩
    · have c9 := c
      have q10 : (0 : Int) ≤ ((v2 >>> (a1_' &&& 31)) &&& (1 : Int32)).toInt ∧ ((v2 >>> (a1_' &&& 31)) &&& (1 : Int32)).toInt ≤ 1 := and_rng (by decide)
      have d11 : ¬ ((v2 >>> (a1_' &&& 31)) &&& (1 : Int32)).toInt = (0 : Int) := neqi.mp c9
      refine inb_i (by omega) (by omega) ?_
      refine if_i (fun c => ?_) (fun c => ?_)
      · have c12 := c
        have r13 := Jr_scene1 hJ_M hk_v0 a1_'.toNatClampNeg
        have d14 : (M.1 (rf v0 1) a1_'.toNatClampNeg).toInt = v1.toInt := eqi.mp c12
        refine inb_i (by omega) (by omega) ?_
        have q15 : (a1_' + (1 : Int32)).toInt = a1_'.toInt + (1 : Int) := add_ti rfl rfl (by omega) (by omega)
        exact ⟨_, rfl, ⟨(show (0 : Int) ≤ (a1_' + (1 : Int32)).toInt by omega), (show (a1_' + (1 : Int32)).toInt ≤ (8 : Int) by omega)⟩, show (8 - (a1_' + (1 : Int32)).toInt).toNat < (8 - a1_'.toInt).toNat by omega⟩
      · have c16 := c
        have r17 := Jr_scene1 hJ_M hk_v0 a1_'.toNatClampNeg
        have d18 : ¬ (M.1 (rf v0 1) a1_'.toNatClampNeg).toInt = v1.toInt := neqi.mp c16
        have q19 : (a1_' + (1 : Int32)).toInt = a1_'.toInt + (1 : Int) := add_ti rfl rfl (by omega) (by omega)
        exact ⟨_, rfl, ⟨(show (0 : Int) ≤ (a1_' + (1 : Int32)).toInt by omega), (show (a1_' + (1 : Int32)).toInt ≤ (8 : Int) by omega)⟩, show (8 - (a1_' + (1 : Int32)).toInt).toNat < (8 - a1_'.toInt).toNat by omega⟩
theorem sf_Scene_guarded (v0 : Nat) (v1 : Int32) (v2 : Int32) (M : Mem) (hk_v0 : kd v0 = 10 + 7) (hJ : J M) : ∃ r : Int64, f_Scene_guarded v0 v1 v2 M = some r ∧ (True) := by
  unfold f_Scene_guarded
  refine c_i hk_v0 ?_
  refine bind_i (sl_Scene_guarded_5 v0 v1 v2 M (0 : Int64) (0 : Int32) hk_v0 hJ (show (0 : Int) ≤ (0 : Int32).toInt by decide) (show (0 : Int32).toInt ≤ (8 : Int) by decide)) (fun x4 _ q => ?_)
  exact ⟨x4, rfl, trivial⟩
theorem sf_Scene_occupied (v0 : Nat) (v1 : Int32) (v2 : Int32) (M : Mem) (hk_v0 : kd v0 = 10 + 7) (hJ : J M) : ∃ r : Int64, f_Scene_occupied v0 v1 v2 M = some r ∧ (True) := by
  unfold f_Scene_occupied
  refine c_i hk_v0 ?_
  refine bind_i (sf_Scene_guarded v0 v1 (((1 : Int32) <<< (v2 &&& 31)) - (1 : Int32)) M hk_v0 hJ) (fun x1 _ q => ?_)
  exact ⟨x1, rfl, trivial⟩
theorem sl_Scene_allMeetings_4 (v0 : Nat) (M : Mem) (a0_ : Int32) (a1_ : Int32) (hk_v0 : kd v0 = 10 + 7) (hJ_M : J M) (i0_ : (0 : Int) ≤ a1_.toInt) (i1_ : a1_.toInt ≤ (64 : Int)) : ∃ x, iter (lb_Scene_allMeetings_4 v0 M) FU (a0_, a1_) = some x ∧ (fun r : Int32 => True) x := by
  refine iter_r (fun s : Int32 × Int32 => (0 : Int) ≤ s.2.toInt ∧ s.2.toInt ≤ (64 : Int)) (fun s : Int32 × Int32 => (64 - s.2.toInt).toNat) (fun r : Int32 => True) ?_ FU (a0_, a1_) ⟨i0_, i1_⟩ (by show (64 - a1_.toInt).toNat < FU; rw [FU_v]; omega)
  clear i1_ i0_
  rintro ⟨a0_', a1_'⟩ ⟨i0_, i1_⟩
  dsimp only at i0_ i1_
  unfold lb_Scene_allMeetings_4
  dsimp only
  refine if_i (fun c => ?_) (fun c => ?_)
  · have c1 := c
    have d2 : (64 : Int) ≤ a1_'.toInt := lei.mp c1
    exact ⟨_, rfl, trivial⟩
  · have c3 := c
    have d4 : a1_'.toInt < (64 : Int) := nlei.mp c3
    refine inb_i (by omega) (by omega) ?_
    have q5 : (a1_' + (1 : Int32)).toInt = a1_'.toInt + (1 : Int) := add_ti rfl rfl (by omega) (by omega)
    exact ⟨_, rfl, ⟨(show (0 : Int) ≤ (a1_' + (1 : Int32)).toInt by omega), (show (a1_' + (1 : Int32)).toInt ≤ (64 : Int) by omega)⟩, show (64 - (a1_' + (1 : Int32)).toInt).toNat < (64 - a1_'.toInt).toNat by omega⟩
end
