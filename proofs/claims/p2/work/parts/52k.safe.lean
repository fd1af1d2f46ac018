/-! safety of the class, 11 -/
theorem sl_Acts_read_18  (a0_ : Int32) (a1_ : Int32) (N_ : Mem) (hN : J N_) (i1_ : (0 : Int) ≤ a0_.toInt) (i2_ : a0_.toInt ≤ (80 : Int)) (i3_ : (0 : Int) ≤ a1_.toInt) (i4_ : a1_.toInt ≤ (32 : Int)) : ∃ x, iter (lb_Acts_read_18) FU (a0_, a1_, N_) = some x ∧ (SQ (fun r : Int32 × Mem => J r.2 ∧ (0 : Int) ≤ r.1.toInt ∧ r.1.toInt ≤ (80 : Int)) (SQ (fun r : Int32 × Mem => J r.2 ∧ r.1.toInt ≤ (-1 : Int)) (SQ (fun r : Mem => J r) (fun r : Int32 × Mem => J r.2 ∧ (0 : Int) ≤ r.1.toInt ∧ r.1.toInt ≤ (79 : Int))))) x := by
  refine iter_r (fun s : Int32 × Int32 × Mem => J s.2.2 ∧ (0 : Int) ≤ s.1.toInt ∧ s.1.toInt ≤ (80 : Int) ∧ (0 : Int) ≤ s.2.1.toInt ∧ s.2.1.toInt ≤ (32 : Int)) (fun s : Int32 × Int32 × Mem => (32 - s.2.1.toInt).toNat) (SQ (fun r : Int32 × Mem => J r.2 ∧ (0 : Int) ≤ r.1.toInt ∧ r.1.toInt ≤ (80 : Int)) (SQ (fun r : Int32 × Mem => J r.2 ∧ r.1.toInt ≤ (-1 : Int)) (SQ (fun r : Mem => J r) (fun r : Int32 × Mem => J r.2 ∧ (0 : Int) ≤ r.1.toInt ∧ r.1.toInt ≤ (79 : Int))))) ?_ FU (a0_, a1_, N_) ⟨hN, i1_, i2_, i3_, i4_⟩ (by show (32 - a1_.toInt).toNat < FU; rw [FU_v]; omega)
  clear i4_ i3_ i2_ i1_ hN
  rintro ⟨a0_', a1_', N_'⟩ ⟨hN, i1_, i2_, i3_, i4_⟩
  dsimp only at hN i1_ i2_ i3_ i4_
  unfold lb_Acts_read_18
  dsimp only
  refine if_i (fun c => ?_) (fun c => ?_)
  · have c1 := c
    have d2 : (32 : Int) ≤ a1_'.toInt := lei.mp c1
    exact ⟨_, rfl, hN, (show (0 : Int) ≤ a0_'.toInt by omega), (show a0_'.toInt ≤ (80 : Int) by omega)⟩
  · have c3 := c
    have d4 : a1_'.toInt < (32 : Int) := nlei.mp c3
    refine bind_i (sf_Acts_readAct a0_' N_' hN) (fun x2 _ q => ?_)
    have h5 := q
    refine if_i (fun c => ?_) (fun c => ?_)
    · have c6 := c
      have d7 : (0 : Int) ≤ x2.1.toInt := lei.mp c6
      refine bind_i (sf_Signs_at x2.1 (60 : Int32) x2.2 h5) (fun x3 _ q => ?_)
      obtain ⟨h8, h9, h10⟩ := q
      refine if_i (fun c => ?_) (fun c => ?_)
      · have c11 := c
        have d12 : x3.toInt = (-1 : Int) := eqi.mp c11
        exact ⟨_, rfl, h5⟩
      · have c13 := c
        have d14 : ¬ x3.toInt = (-1 : Int) := neqi.mp c13
        refine if_i (fun c => ?_) (fun c => ?_)
        · have c15 := c
          have d16 : x3.toInt = (59 : Int) := eqi.mp c15
          have q17 : (x2.1 + (1 : Int32)).toInt = x2.1.toInt + (1 : Int) := add_ti rfl rfl (by omega) (by omega)
          have q18 : (a1_' + (1 : Int32)).toInt = a1_'.toInt + (1 : Int) := add_ti rfl rfl (by omega) (by omega)
          exact ⟨_, rfl, ⟨h5, (show (0 : Int) ≤ (x2.1 + (1 : Int32)).toInt by omega), (show (x2.1 + (1 : Int32)).toInt ≤ (80 : Int) by omega), (show (0 : Int) ≤ (a1_' + (1 : Int32)).toInt by omega), (show (a1_' + (1 : Int32)).toInt ≤ (32 : Int) by omega)⟩, show (32 - (a1_' + (1 : Int32)).toInt).toNat < (32 - a1_'.toInt).toNat by omega⟩
        · have c19 := c
          have d20 : ¬ x3.toInt = (59 : Int) := neqi.mp c19
          exact ⟨_, rfl, h5, (show (0 : Int) ≤ x2.1.toInt by omega), (show x2.1.toInt ≤ (79 : Int) by omega)⟩
    · have c21 := c
      have d22 : x2.1.toInt < (0 : Int) := nlei.mp c21
      exact ⟨_, rfl, h5, (show x2.1.toInt ≤ (-1 : Int) by omega)⟩
theorem sf_Acts_read (M : Mem) (hJ : J M) : ∃ r : Int32 × Mem, f_Acts_read M = some r ∧ (J r.2 ∧ r.1.toInt ≤ (32 : Int)) := by
  unfold f_Acts_read
  refine mem_i (fun M1 e2 => ?_)
  have hJ3 : J M1 := by rw [e2]; exact Jw_147_3 hJ (0 : Int32) (show (0 : Int) ≤ (0 : Int32).toInt by decide) (show (0 : Int32).toInt ≤ (32 : Int) by decide)
  have f4 : (M1.1 147 3).toInt = (0 : Int) := by rw [e2, si_eq]; rfl
  clear e2
  refine if_i (fun c => ?_) (fun c => ?_)
  · have c5 := c
    have r6 := Jr_1_1 hJ3
    have d7 : (M1.1 1 1).toInt = (0 : Int) := eqi.mp c5
    exact ⟨((0 : Int32), M1), rfl, hJ3, (show (0 : Int32).toInt ≤ (32 : Int) by decide)⟩
  · have c8 := c
    have r9 := Jr_1_1 hJ3
    have d10 : ¬ (M1.1 1 1).toInt = (0 : Int) := neqi.mp c8
    refine bind_i (sl_Acts_read_18  (0 : Int32) (0 : Int32) M1 hJ3 (show (0 : Int) ≤ (0 : Int32).toInt by decide) (show (0 : Int32).toInt ≤ (80 : Int) by decide) (show (0 : Int) ≤ (0 : Int32).toInt by decide) (show (0 : Int32).toInt ≤ (32 : Int) by decide)) (fun x11 _ q => ?_)
    rcases x11 with y | y | y | y
    · have q9 : J y.2 ∧ (0 : Int) ≤ y.1.toInt ∧ y.1.toInt ≤ (80 : Int) := q
      dsimp only [Sum.elim_inl, Sum.elim_inr]
      obtain ⟨h13, h14, h15⟩ := q9
      have q16 : ((-1 : Int32) - y.1).toInt = (-1 : Int) - y.1.toInt := sub_ti rfl rfl (by omega) (by omega)
      exact ⟨(((-1 : Int32) - y.1), y.2), rfl, h13, (show ((-1 : Int32) - y.1).toInt ≤ (32 : Int) by rw [q16]; clear q16; omega)⟩
    · have q9 : J y.2 ∧ y.1.toInt ≤ (-1 : Int) := q
      dsimp only [Sum.elim_inl, Sum.elim_inr]
      obtain ⟨h18, h19⟩ := q9
      exact ⟨(y.1, y.2), rfl, h18, (show y.1.toInt ≤ (32 : Int) by omega)⟩
    · have q9 : J y := q
      dsimp only [Sum.elim_inl, Sum.elim_inr]
      have h21 := q9
      refine if_i (fun c => ?_) (fun c => ?_)
      · have c22 := c
        have r23 := Jr_1_1 h21
        have d24 : (y.1 1 1).toInt ≤ (60 : Int) := lei.mp c22
        have r25 := Jr_147_3 h21
        exact ⟨((y.1 147 3), y), rfl, h21, (show (y.1 147 3).toInt ≤ (32 : Int) by omega)⟩
      · have c26 := c
        have r27 := Jr_1_1 h21
        have d28 : (60 : Int) < (y.1 1 1).toInt := nlei.mp c26
        exact ⟨((-61 : Int32), y), rfl, h21, (show (-61 : Int32).toInt ≤ (32 : Int) by decide)⟩
    · have q9 : J y.2 ∧ (0 : Int) ≤ y.1.toInt ∧ y.1.toInt ≤ (79 : Int) := q
      dsimp only [Sum.elim_inl, Sum.elim_inr]
      obtain ⟨h30, h31, h32⟩ := q9
      have q33 : ((-1 : Int32) - y.1).toInt = (-1 : Int) - y.1.toInt := sub_ti rfl rfl (by omega) (by omega)
      exact ⟨(((-1 : Int32) - y.1), y.2), rfl, h30, (show ((-1 : Int32) - y.1).toInt ≤ (32 : Int) by rw [q33]; clear q33; omega)⟩
theorem sl_Ways_begin_2 (v1 : Int32) (a0_ : Int32) (N_ : Mem) (hp_v1 : (0 : Int) ≤ v1.toInt ∧ v1.toInt ≤ (71 : Int)) (hN : J N_) (i1_ : (0 : Int) ≤ a0_.toInt) (i2_ : a0_.toInt ≤ (72 : Int)) : ∃ x, iter (lb_Ways_begin_2 v1) FU (a0_, N_) = some x ∧ (fun r : Mem => J r) x := by
  refine iter_r (fun s : Int32 × Mem => J s.2 ∧ (0 : Int) ≤ s.1.toInt ∧ s.1.toInt ≤ (72 : Int)) (fun s : Int32 × Mem => (72 - s.1.toInt).toNat) (fun r : Mem => J r) ?_ FU (a0_, N_) ⟨hN, i1_, i2_⟩ (by show (72 - a0_.toInt).toNat < FU; rw [FU_v]; omega)
  clear i2_ i1_ hN
  rintro ⟨a0_', N_'⟩ ⟨hN, i1_, i2_⟩
  dsimp only at hN i1_ i2_
  unfold lb_Ways_begin_2
  dsimp only
  refine if_i (fun c => ?_) (fun c => ?_)
  · have c1 := c
    have d2 : (72 : Int) ≤ a0_'.toInt := lei.mp c1
    exact ⟨_, rfl, hN⟩
  · have c3 := c
    have d4 : a0_'.toInt < (72 : Int) := nlei.mp c3
    refine inb_i (by omega) (by omega) ?_
    refine mem_i (fun M1 e6 => ?_)
    have hJ7 : J M1 := by rw [e6]; exact Jw_any ok_158 hN a0_'.toNatClampNeg (1000000 : Int32)
    clear e6
    have q8 : (a0_' + (1 : Int32)).toInt = a0_'.toInt + (1 : Int) := add_ti rfl rfl (by omega) (by omega)
    exact ⟨_, rfl, ⟨hJ7, (show (0 : Int) ≤ (a0_' + (1 : Int32)).toInt by omega), (show (a0_' + (1 : Int32)).toInt ≤ (72 : Int) by omega)⟩, show (72 - (a0_' + (1 : Int32)).toInt).toNat < (72 - a0_'.toInt).toNat by omega⟩
theorem sf_Ways_begin (v1 : Int32) (M : Mem) (hp_v1 : (0 : Int) ≤ v1.toInt ∧ v1.toInt ≤ (71 : Int)) (hJ : J M) : ∃ r : Mem, f_Ways_begin v1 M = some r ∧ (J r) := by
  unfold f_Ways_begin
  refine bind_i (sl_Ways_begin_2 v1 (0 : Int32) M (⟨show (0 : Int) ≤ v1.toInt by omega, show v1.toInt ≤ (71 : Int) by omega⟩) hJ (show (0 : Int) ≤ (0 : Int32).toInt by decide) (show (0 : Int32).toInt ≤ (72 : Int) by decide)) (fun x3 _ q => ?_)
  have h1 := q
  refine inb_i (by omega) (by omega) ?_
  refine mem_i (fun M4 e3 => ?_)
  have hJ4 : J M4 := by rw [e3]; exact Jw_any ok_158 h1 v1.toNatClampNeg (0 : Int32)
  clear e3
  exact ⟨M4, rfl, hJ4⟩
theorem sf_Ways_lower (v1 : Int32) (v2 : Int32) (M : Mem) (hp_v1 : (0 : Int) ≤ v1.toInt ∧ v1.toInt ≤ (71 : Int)) (hJ : J M) : ∃ r : Int32 × Mem, f_Ways_lower v1 v2 M = some r ∧ (J r.2 ∧ (0 : Int) ≤ r.1.toInt ∧ r.1.toInt ≤ (1 : Int)) := by
  unfold f_Ways_lower
  refine inb_i (by omega) (by omega) ?_
  refine if_i (fun c => ?_) (fun c => ?_)
  · have c1 := c
    have d2 : v2.toInt < (M.1 158 v1.toNatClampNeg).toInt := lti.mp c1
    refine inb_i (by omega) (by omega) ?_
    refine mem_i (fun M1 e4 => ?_)
    have hJ5 : J M1 := by rw [e4]; exact Jw_any ok_158 hJ v1.toNatClampNeg v2
    clear e4
    exact ⟨((1 : Int32), M1), rfl, hJ5, (show (0 : Int) ≤ (1 : Int32).toInt by decide), (show (1 : Int32).toInt ≤ (1 : Int) by decide)⟩
  · have c6 := c
    have d7 : (M.1 158 v1.toNatClampNeg).toInt ≤ v2.toInt := nlti.mp c6
    exact ⟨((0 : Int32), M), rfl, hJ, (show (0 : Int) ≤ (0 : Int32).toInt by decide), (show (0 : Int32).toInt ≤ (1 : Int) by decide)⟩
theorem sl_Ways_leave_28 (v1 : Nat) (v2 : Int32) (v3 : Int32) (v4 : Int32) (a0_ : Int32) (a1_ : Int32) (N_ : Mem) (hk_v1 : kd v1 = 10 + 6) (hp_v2 : (0 : Int) ≤ v2.toInt ∧ v2.toInt ≤ (1 : Int)) (hp_v3 : (0 : Int) ≤ v3.toInt ∧ v3.toInt ≤ (35 : Int)) (hp_v4 : v4.toInt ≤ (999999 : Int)) (hN : J N_) (i1_ : (0 : Int) ≤ a0_.toInt) (i2_ : a0_.toInt ≤ (1 : Int)) (i3_ : (0 : Int) ≤ a1_.toInt) (i4_ : a1_.toInt ≤ (4 : Int)) : ∃ x, iter (lb_Ways_leave_28 v1 v2 v3 v4) FU (a0_, a1_, N_) = some x ∧ (fun r : Int32 × Mem => J r.2 ∧ (0 : Int) ≤ r.1.toInt ∧ r.1.toInt ≤ (1 : Int)) x := by
  refine iter_r (fun s : Int32 × Int32 × Mem => J s.2.2 ∧ (0 : Int) ≤ s.1.toInt ∧ s.1.toInt ≤ (1 : Int) ∧ (0 : Int) ≤ s.2.1.toInt ∧ s.2.1.toInt ≤ (4 : Int)) (fun s : Int32 × Int32 × Mem => (4 - s.2.1.toInt).toNat) (fun r : Int32 × Mem => J r.2 ∧ (0 : Int) ≤ r.1.toInt ∧ r.1.toInt ≤ (1 : Int)) ?_ FU (a0_, a1_, N_) ⟨hN, i1_, i2_, i3_, i4_⟩ (by show (4 - a1_.toInt).toNat < FU; rw [FU_v]; omega)
  clear i4_ i3_ i2_ i1_ hN
  rintro ⟨a0_', a1_', N_'⟩ ⟨hN, i1_, i2_, i3_, i4_⟩
  dsimp only at hN i1_ i2_ i3_ i4_
  unfold lb_Ways_leave_28
  dsimp only
  refine if_i (fun c => ?_) (fun c => ?_)
  · have c1 := c
    have d2 : (4 : Int) ≤ a1_'.toInt := lei.mp c1
    exact ⟨_, rfl, hN, (show (0 : Int) ≤ a0_'.toInt by omega), (show a0_'.toInt ≤ (1 : Int) by omega)⟩
  · have c3 := c
    have d4 : a1_'.toInt < (4 : Int) := nlei.mp c3
    refine bind_i (sf_Nets_toward v1 v2 v3 a1_' N_' hk_v1 (⟨show (0 : Int) ≤ v3.toInt by omega, show v3.toInt ≤ (35 : Int) by omega⟩) hN) (fun x1 _ q => ?_)
    obtain ⟨h5, h6⟩ := q
    refine if_i (fun c => ?_) (fun c => ?_)
    · have c7 := c
      have d8 : x1.toInt = (-1 : Int) := eqi.mp c7
      have q9 : (a1_' + (1 : Int32)).toInt = a1_'.toInt + (1 : Int) := add_ti rfl rfl (by omega) (by omega)
      exact ⟨_, rfl, ⟨hN, (show (0 : Int) ≤ a0_'.toInt by omega), (show a0_'.toInt ≤ (1 : Int) by omega), (show (0 : Int) ≤ (a1_' + (1 : Int32)).toInt by omega), (show (a1_' + (1 : Int32)).toInt ≤ (4 : Int) by omega)⟩, show (4 - (a1_' + (1 : Int32)).toInt).toNat < (4 - a1_'.toInt).toNat by omega⟩
    · have c10 := c
      have d11 : ¬ x1.toInt = (-1 : Int) := neqi.mp c10
      have q12 : (v2 * (36 : Int32)).toInt = v2.toInt * (36 : Int) := mul_ti rfl rfl (by omega) (by omega)
      have q13 : ((v2 * (36 : Int32)) + x1).toInt = (v2 * (36 : Int32)).toInt + x1.toInt := add_ti rfl rfl (by omega) (by omega)
      refine bind_i (sf_Ways_lower ((v2 * (36 : Int32)) + x1) ((v4 + (100 : Int32)) + v2) N_' (⟨show (0 : Int) ≤ ((v2 * (36 : Int32)) + x1).toInt by omega, show ((v2 * (36 : Int32)) + x1).toInt ≤ (71 : Int) by omega⟩) hN) (fun x2 _ q => ?_)
      obtain ⟨h14, h15, h16⟩ := q
      have q17 := or01 (a := a0_') (b := x2.1) (by omega) (by omega) (by omega) (by omega)
      have q18 : (a1_' + (1 : Int32)).toInt = a1_'.toInt + (1 : Int) := add_ti rfl rfl (by omega) (by omega)
      exact ⟨_, rfl, ⟨h14, (show (0 : Int) ≤ (a0_' ||| x2.1).toInt by omega), (show (a0_' ||| x2.1).toInt ≤ (1 : Int) by omega), (show (0 : Int) ≤ (a1_' + (1 : Int32)).toInt by omega), (show (a1_' + (1 : Int32)).toInt ≤ (4 : Int) by omega)⟩, show (4 - (a1_' + (1 : Int32)).toInt).toNat < (4 - a1_'.toInt).toNat by omega⟩
theorem sf_Ways_leave (v1 : Nat) (v2 : Int32) (v3 : Int32) (M : Mem) (hk_v1 : kd v1 = 10 + 6) (hp_v2 : (0 : Int) ≤ v2.toInt ∧ v2.toInt ≤ (1 : Int)) (hp_v3 : (0 : Int) ≤ v3.toInt ∧ v3.toInt ≤ (35 : Int)) (hJ : J M) : ∃ r : Int32 × Mem, f_Ways_leave v1 v2 v3 M = some r ∧ (J r.2 ∧ (0 : Int) ≤ r.1.toInt ∧ r.1.toInt ≤ (1 : Int)) := by
  unfold f_Ways_leave
  refine c_i hk_v1 ?_
  have q1 : (v2 * (36 : Int32)).toInt = v2.toInt * (36 : Int) := mul_ti rfl rfl (by omega) (by omega)
  have q2 : ((v2 * (36 : Int32)) + v3).toInt = (v2 * (36 : Int32)).toInt + v3.toInt := add_ti rfl rfl (by omega) (by omega)
  refine inb_i (by omega) (by omega) ?_
  refine if_i (fun c => ?_) (fun c => ?_)
  · have c3 := c
    have d4 : (M.1 158 ((v2 * (36 : Int32)) + v3).toNatClampNeg).toInt < (1000000 : Int) := lti.mp c3
    refine bind_i (sl_Ways_leave_28 v1 v2 v3 (M.1 158 ((v2 * (36 : Int32)) + v3).toNatClampNeg) (0 : Int32) (0 : Int32) M hk_v1 (⟨show (0 : Int) ≤ v2.toInt by omega, show v2.toInt ≤ (1 : Int) by omega⟩) (⟨show (0 : Int) ≤ v3.toInt by omega, show v3.toInt ≤ (35 : Int) by omega⟩) (show (M.1 158 ((v2 * (36 : Int32)) + v3).toNatClampNeg).toInt ≤ (999999 : Int) by omega) hJ (show (0 : Int) ≤ (0 : Int32).toInt by decide) (show (0 : Int32).toInt ≤ (1 : Int) by decide) (show (0 : Int) ≤ (0 : Int32).toInt by decide) (show (0 : Int32).toInt ≤ (4 : Int) by decide)) (fun x5 _ q => ?_)
    obtain ⟨h5, h6, h7⟩ := q
    refine bind_i (sf_Nets_stairs v1 x5.2 hk_v1 h5) (fun x6 _ q => ?_)
    refine if_i (fun c => ?_) (fun c => ?_)
    · have c8 := c
      have d9 : (lg_cmp ((x6 >>> (v3.toInt64 &&& 63)) &&& (1 : Int64)) (0 : Int64)).toInt = (0 : Int) := eqi.mp c8
      refine c_i (bool_of (by omega) (by omega)) ?_
      exact ⟨(x5.1, x5.2), rfl, h5, (show (0 : Int) ≤ x5.1.toInt by omega), (show x5.1.toInt ≤ (1 : Int) by omega)⟩
    · have c10 := c
      have d11 : ¬ (lg_cmp ((x6 >>> (v3.toInt64 &&& 63)) &&& (1 : Int64)) (0 : Int64)).toInt = (0 : Int) := neqi.mp c10
      have q12 : ((1 : Int32) - v2).toInt = (1 : Int) - v2.toInt := sub_ti rfl rfl (by omega) (by omega)
      have q13 : (((1 : Int32) - v2) * (36 : Int32)).toInt = ((1 : Int32) - v2).toInt * (36 : Int) := mul_ti rfl rfl (by omega) (by omega)
      have q14 : ((((1 : Int32) - v2) * (36 : Int32)) + v3).toInt = (((1 : Int32) - v2) * (36 : Int32)).toInt + v3.toInt := add_ti rfl rfl (by omega) (by omega)
      refine bind_i (sf_Ways_lower ((((1 : Int32) - v2) * (36 : Int32)) + v3) (M.1 158 ((v2 * (36 : Int32)) + v3).toNatClampNeg) x5.2 (⟨show (0 : Int) ≤ ((((1 : Int32) - v2) * (36 : Int32)) + v3).toInt by omega, show ((((1 : Int32) - v2) * (36 : Int32)) + v3).toInt ≤ (71 : Int) by omega⟩) h5) (fun x7 _ q => ?_)
      obtain ⟨h15, h16, h17⟩ := q
      have q18 := or01 (a := x5.1) (b := x7.1) (by omega) (by omega) (by omega) (by omega)
      refine c_i (bool_of (by omega) (by omega)) ?_
      exact ⟨((x5.1 ||| x7.1), x7.2), rfl, h15, (show (0 : Int) ≤ (x5.1 ||| x7.1).toInt by omega), (show (x5.1 ||| x7.1).toInt ≤ (1 : Int) by omega)⟩
  · have c19 := c
    have d20 : (1000000 : Int) ≤ (M.1 158 ((v2 * (36 : Int32)) + v3).toNatClampNeg).toInt := nlti.mp c19
    exact ⟨((0 : Int32), M), rfl, hJ, (show (0 : Int) ≤ (0 : Int32).toInt by decide), (show (0 : Int32).toInt ≤ (1 : Int) by decide)⟩
theorem sl_Ways_acrossLevels_29 (v1 : Nat) (v3 : Int32) (v5 : Int32) (a0_ : Int32) (a1_ : Int32) (N_ : Mem) (hk_v1 : kd v1 = 10 + 6) (hp_v3 : (0 : Int) ≤ v3.toInt ∧ v3.toInt ≤ (71 : Int)) (hp_v5 : (0 : Int) ≤ v5.toInt ∧ v5.toInt ≤ (71 : Int)) (hN : J N_) (i1_ : (0 : Int) ≤ a0_.toInt) (i2_ : a0_.toInt ≤ (1 : Int)) (i3_ : (0 : Int) ≤ a1_.toInt) (i4_ : a1_.toInt ≤ (36 : Int)) : ∃ x, iter (lb_Ways_acrossLevels_29 v1 v3 v5) FU (a0_, a1_, N_) = some x ∧ (fun r : Int32 × Mem => J r.2 ∧ (0 : Int) ≤ r.1.toInt ∧ r.1.toInt ≤ (1 : Int)) x := by
  refine iter_r (fun s : Int32 × Int32 × Mem => J s.2.2 ∧ (0 : Int) ≤ s.1.toInt ∧ s.1.toInt ≤ (1 : Int) ∧ (0 : Int) ≤ s.2.1.toInt ∧ s.2.1.toInt ≤ (36 : Int)) (fun s : Int32 × Int32 × Mem => (36 - s.2.1.toInt).toNat) (fun r : Int32 × Mem => J r.2 ∧ (0 : Int) ≤ r.1.toInt ∧ r.1.toInt ≤ (1 : Int)) ?_ FU (a0_, a1_, N_) ⟨hN, i1_, i2_, i3_, i4_⟩ (by show (36 - a1_.toInt).toNat < FU; rw [FU_v]; omega)
  clear i4_ i3_ i2_ i1_ hN
  rintro ⟨a0_', a1_', N_'⟩ ⟨hN, i1_, i2_, i3_, i4_⟩
  dsimp only at hN i1_ i2_ i3_ i4_
  unfold lb_Ways_acrossLevels_29
  dsimp only
  refine if_i (fun c => ?_) (fun c => ?_)
  · have c1 := c
    have d2 : (36 : Int) ≤ a1_'.toInt := lei.mp c1
    exact ⟨_, rfl, hN, (show (0 : Int) ≤ a0_'.toInt by omega), (show a0_'.toInt ≤ (1 : Int) by omega)⟩
  · have c3 := c
    have d4 : a1_'.toInt < (36 : Int) := nlei.mp c3
    refine bind_i (sf_Ways_leave v1 (0 : Int32) a1_' N_' hk_v1 (⟨by decide, by decide⟩) (⟨show (0 : Int) ≤ a1_'.toInt by omega, show a1_'.toInt ≤ (35 : Int) by omega⟩) hN) (fun x2 _ q => ?_)
    obtain ⟨h5, h6, h7⟩ := q
    refine bind_i (sf_Ways_leave v1 (1 : Int32) a1_' x2.2 hk_v1 (⟨by decide, by decide⟩) (⟨show (0 : Int) ≤ a1_'.toInt by omega, show a1_'.toInt ≤ (35 : Int) by omega⟩) h5) (fun x3 _ q => ?_)
    obtain ⟨h8, h9, h10⟩ := q
    have q11 := or01 (a := a0_') (b := x2.1) (by omega) (by omega) (by omega) (by omega)
    have q12 := or01 (a := (a0_' ||| x2.1)) (b := x3.1) (by omega) (by omega) (by omega) (by omega)
    have q13 : (a1_' + (1 : Int32)).toInt = a1_'.toInt + (1 : Int) := add_ti rfl rfl (by omega) (by omega)
    exact ⟨_, rfl, ⟨h8, (show (0 : Int) ≤ ((a0_' ||| x2.1) ||| x3.1).toInt by omega), (show ((a0_' ||| x2.1) ||| x3.1).toInt ≤ (1 : Int) by omega), (show (0 : Int) ≤ (a1_' + (1 : Int32)).toInt by omega), (show (a1_' + (1 : Int32)).toInt ≤ (36 : Int) by omega)⟩, show (36 - (a1_' + (1 : Int32)).toInt).toNat < (36 - a1_'.toInt).toNat by omega⟩
theorem sl_Ways_acrossLevels_11 (v1 : Nat) (v3 : Int32) (a0_ : Int32) (a1_ : Int32) (N_ : Mem) (hk_v1 : kd v1 = 10 + 6) (hp_v3 : (0 : Int) ≤ v3.toInt ∧ v3.toInt ≤ (71 : Int)) (hN : J N_) (i1_ : (0 : Int) ≤ a0_.toInt) (i2_ : a0_.toInt ≤ (1 : Int)) (i3_ : (0 : Int) ≤ a1_.toInt) (i4_ : a1_.toInt ≤ (72 : Int)) : ∃ x, iter (lb_Ways_acrossLevels_11 v1 v3) FU (a0_, a1_, N_) = some x ∧ (fun r : Mem => J r) x := by
  refine iter_r (fun s : Int32 × Int32 × Mem => J s.2.2 ∧ (0 : Int) ≤ s.1.toInt ∧ s.1.toInt ≤ (1 : Int) ∧ (0 : Int) ≤ s.2.1.toInt ∧ s.2.1.toInt ≤ (72 : Int)) (fun s : Int32 × Int32 × Mem => (72 - s.2.1.toInt).toNat) (fun r : Mem => J r) ?_ FU (a0_, a1_, N_) ⟨hN, i1_, i2_, i3_, i4_⟩ (by show (72 - a1_.toInt).toNat < FU; rw [FU_v]; omega)
  clear i4_ i3_ i2_ i1_ hN
  rintro ⟨a0_', a1_', N_'⟩ ⟨hN, i1_, i2_, i3_, i4_⟩
  dsimp only at hN i1_ i2_ i3_ i4_
  unfold lb_Ways_acrossLevels_11
  dsimp only
  refine if_i (fun c => ?_) (fun c => ?_)
  · have c1 := c
    have d2 : (72 : Int) ≤ a1_'.toInt := lei.mp c1
    exact ⟨_, rfl, hN⟩
  · have c3 := c
    have d4 : a1_'.toInt < (72 : Int) := nlei.mp c3
    refine if_i (fun c => ?_) (fun c => ?_)
    · have c5 := c
      have d6 : a0_'.toInt = (0 : Int) := eqi.mp c5
      exact ⟨_, rfl, hN⟩
    · have c7 := c
      have d8 : ¬ a0_'.toInt = (0 : Int) := neqi.mp c7
      refine bind_i (sl_Ways_acrossLevels_29 v1 v3 a1_' (0 : Int32) (0 : Int32) N_' hk_v1 (⟨show (0 : Int) ≤ v3.toInt by omega, show v3.toInt ≤ (71 : Int) by omega⟩) (⟨show (0 : Int) ≤ a1_'.toInt by omega, show a1_'.toInt ≤ (71 : Int) by omega⟩) hN (show (0 : Int) ≤ (0 : Int32).toInt by decide) (show (0 : Int32).toInt ≤ (1 : Int) by decide) (show (0 : Int) ≤ (0 : Int32).toInt by decide) (show (0 : Int32).toInt ≤ (36 : Int) by decide)) (fun x5 _ q => ?_)
      obtain ⟨h9, h10, h11⟩ := q
      have q12 : (a1_' + (1 : Int32)).toInt = a1_'.toInt + (1 : Int) := add_ti rfl rfl (by omega) (by omega)
      exact ⟨_, rfl, ⟨h9, (show (0 : Int) ≤ x5.1.toInt by omega), (show x5.1.toInt ≤ (1 : Int) by omega), (show (0 : Int) ≤ (a1_' + (1 : Int32)).toInt by omega), (show (a1_' + (1 : Int32)).toInt ≤ (72 : Int) by omega)⟩, show (72 - (a1_' + (1 : Int32)).toInt).toNat < (72 - a1_'.toInt).toNat by omega⟩
theorem sf_Ways_acrossLevels (v1 : Nat) (v2 : Int32) (v3 : Int32) (M : Mem) (hk_v1 : kd v1 = 10 + 6) (hp_v2 : (0 : Int) ≤ v2.toInt ∧ v2.toInt ≤ (71 : Int)) (hp_v3 : (0 : Int) ≤ v3.toInt ∧ v3.toInt ≤ (71 : Int)) (hJ : J M) : ∃ r : Int32 × Mem, f_Ways_acrossLevels v1 v2 v3 M = some r ∧ (J r.2) := by
  unfold f_Ways_acrossLevels
  refine c_i hk_v1 ?_
  refine bind_i (sf_Ways_begin v2 M (⟨show (0 : Int) ≤ v2.toInt by omega, show v2.toInt ≤ (71 : Int) by omega⟩) hJ) (fun x1 _ q => ?_)
  have h1 := q
  refine bind_i (sl_Ways_acrossLevels_11 v1 v3 (1 : Int32) (0 : Int32) x1 hk_v1 (⟨show (0 : Int) ≤ v3.toInt by omega, show v3.toInt ≤ (71 : Int) by omega⟩) h1 (show (0 : Int) ≤ (1 : Int32).toInt by decide) (show (1 : Int32).toInt ≤ (1 : Int) by decide) (show (0 : Int) ≤ (0 : Int32).toInt by decide) (show (0 : Int32).toInt ≤ (72 : Int) by decide)) (fun x8 _ q => ?_)
  have h2 := q
  refine inb_i (by omega) (by omega) ?_
  exact ⟨((x8.1 158 v3.toNatClampNeg), x8), rfl, h2⟩
theorem sf_Ways_later (v1 : Int32) (M : Mem) (hp_v1 : (0 : Int) ≤ v1.toInt ∧ v1.toInt ≤ (35 : Int)) (hJ : J M) : ∃ r : Int32, f_Ways_later v1 M = some r ∧ (True) := by
  unfold f_Ways_later
  refine inb_i (by omega) (by omega) ?_
  refine inb_i (by omega) (by omega) ?_
  exact ⟨(if (M.1 155 v1.toNatClampNeg) < (M.1 156 v1.toNatClampNeg) then (M.1 156 v1.toNatClampNeg) else (M.1 155 v1.toNatClampNeg)), rfl, trivial⟩
theorem sl_Ways_cross_6 (v2 : Nat) (v3 : Int32) (a0_ : Int32) (a1_ : Int32) (N_ : Mem) (hk_v2 : kd v2 = 10 + 6) (hp_v3 : (0 : Int) ≤ v3.toInt ∧ v3.toInt ≤ (35 : Int)) (hN : J N_) (i1_ : (0 : Int) ≤ a0_.toInt) (i2_ : a0_.toInt ≤ (1 : Int)) (i3_ : (0 : Int) ≤ a1_.toInt) (i4_ : a1_.toInt ≤ (4 : Int)) : ∃ x, iter (lb_Ways_cross_6 v2 v3) FU (a0_, a1_, N_) = some x ∧ (fun r : Int32 × Mem => J r.2 ∧ (0 : Int) ≤ r.1.toInt ∧ r.1.toInt ≤ (1 : Int)) x := by
  refine iter_r (fun s : Int32 × Int32 × Mem => J s.2.2 ∧ (0 : Int) ≤ s.1.toInt ∧ s.1.toInt ≤ (1 : Int) ∧ (0 : Int) ≤ s.2.1.toInt ∧ s.2.1.toInt ≤ (4 : Int)) (fun s : Int32 × Int32 × Mem => (4 - s.2.1.toInt).toNat) (fun r : Int32 × Mem => J r.2 ∧ (0 : Int) ≤ r.1.toInt ∧ r.1.toInt ≤ (1 : Int)) ?_ FU (a0_, a1_, N_) ⟨hN, i1_, i2_, i3_, i4_⟩ (by show (4 - a1_.toInt).toNat < FU; rw [FU_v]; omega)
  clear i4_ i3_ i2_ i1_ hN
  rintro ⟨a0_', a1_', N_'⟩ ⟨hN, i1_, i2_, i3_, i4_⟩
  dsimp only at hN i1_ i2_ i3_ i4_
  unfold lb_Ways_cross_6
  dsimp only
  refine if_i (fun c => ?_) (fun c => ?_)
  · have c1 := c
    have d2 : (4 : Int) ≤ a1_'.toInt := lei.mp c1
    exact ⟨_, rfl, hN, (show (0 : Int) ≤ a0_'.toInt by omega), (show a0_'.toInt ≤ (1 : Int) by omega)⟩
  · have c3 := c
    have d4 : a1_'.toInt < (4 : Int) := nlei.mp c3
    refine bind_i (sf_Nets_toward v2 (1 : Int32) v3 a1_' N_' hk_v2 (⟨show (0 : Int) ≤ v3.toInt by omega, show v3.toInt ≤ (35 : Int) by omega⟩) hN) (fun x1 _ q => ?_)
    obtain ⟨h5, h6⟩ := q
    refine bind_i (sf_Ground_beside v3 a1_' N_' hN) (fun x2 _ q => ?_)
    obtain ⟨h7, h8, h9⟩ := q
    refine bind_i (sf_Ground_beside x2 a1_' N_' hN) (fun x3 _ q => ?_)
    obtain ⟨h10, h11, h12⟩ := q
    refine if_i (fun c => ?_) (fun c => ?_)
    · have c13 := c
      have d14 : x1.toInt = (-1 : Int) := eqi.mp c13
      refine bind_i (sf_Ground_holds (1 : Int32) x3 N_' hN) (fun x4 _ q => ?_)
      obtain ⟨h15, h16, h17, h18⟩ := q
      clear h17
      refine if_i (fun c => ?_) (fun c => ?_)
      · have c19 := c
        have d20 : x4.toInt = (0 : Int) := eqi.mp c19
        have q21 : (a1_' + (1 : Int32)).toInt = a1_'.toInt + (1 : Int) := add_ti rfl rfl (by omega) (by omega)
        exact ⟨_, rfl, ⟨hN, (show (0 : Int) ≤ a0_'.toInt by omega), (show a0_'.toInt ≤ (1 : Int) by omega), (show (0 : Int) ≤ (a1_' + (1 : Int32)).toInt by omega), (show (a1_' + (1 : Int32)).toInt ≤ (4 : Int) by omega)⟩, show (4 - (a1_' + (1 : Int32)).toInt).toNat < (4 - a1_'.toInt).toNat by omega⟩
      · have c22 := c
        have d23 : ¬ x4.toInt = (0 : Int) := neqi.mp c22
        refine inb_i (by omega) (by omega) ?_
        refine bind_i (sf_Ways_lower x3 (((N_'.1 158 v3.toNatClampNeg) + (100 : Int32)) + (1 : Int32)) N_' (⟨show (0 : Int) ≤ x3.toInt by omega, show x3.toInt ≤ (71 : Int) by omega⟩) hN) (fun x5 _ q => ?_)
        obtain ⟨h24, h25, h26⟩ := q
        have q27 := or01 (a := a0_') (b := x5.1) (by omega) (by omega) (by omega) (by omega)
        have q28 : (a1_' + (1 : Int32)).toInt = a1_'.toInt + (1 : Int) := add_ti rfl rfl (by omega) (by omega)
        exact ⟨_, rfl, ⟨h24, (show (0 : Int) ≤ (a0_' ||| x5.1).toInt by omega), (show (a0_' ||| x5.1).toInt ≤ (1 : Int) by omega), (show (0 : Int) ≤ (a1_' + (1 : Int32)).toInt by omega), (show (a1_' + (1 : Int32)).toInt ≤ (4 : Int) by omega)⟩, show (4 - (a1_' + (1 : Int32)).toInt).toNat < (4 - a1_'.toInt).toNat by omega⟩
    · have c29 := c
      have d30 : ¬ x1.toInt = (-1 : Int) := neqi.mp c29
      refine inb_i (by omega) (by omega) ?_
      refine bind_i (sf_Ways_lower x1 ((N_'.1 158 v3.toNatClampNeg) + (1 : Int32)) N_' (⟨show (0 : Int) ≤ x1.toInt by omega, show x1.toInt ≤ (71 : Int) by omega⟩) hN) (fun x7 _ q => ?_)
      obtain ⟨h31, h32, h33⟩ := q
      have q34 := or01 (a := a0_') (b := x7.1) (by omega) (by omega) (by omega) (by omega)
      have q35 : (a1_' + (1 : Int32)).toInt = a1_'.toInt + (1 : Int) := add_ti rfl rfl (by omega) (by omega)
      exact ⟨_, rfl, ⟨h31, (show (0 : Int) ≤ (a0_' ||| x7.1).toInt by omega), (show (a0_' ||| x7.1).toInt ≤ (1 : Int) by omega), (show (0 : Int) ≤ (a1_' + (1 : Int32)).toInt by omega), (show (a1_' + (1 : Int32)).toInt ≤ (4 : Int) by omega)⟩, show (4 - (a1_' + (1 : Int32)).toInt).toNat < (4 - a1_'.toInt).toNat by omega⟩
theorem sf_Ways_cross (v2 : Nat) (v3 : Int32) (M : Mem) (hk_v2 : kd v2 = 10 + 6) (hp_v3 : (0 : Int) ≤ v3.toInt ∧ v3.toInt ≤ (35 : Int)) (hJ : J M) : ∃ r : Int32 × Mem, f_Ways_cross v2 v3 M = some r ∧ (J r.2 ∧ (0 : Int) ≤ r.1.toInt ∧ r.1.toInt ≤ (1 : Int)) := by
  unfold f_Ways_cross
  refine c_i hk_v2 ?_
  refine bind_i (sl_Ways_cross_6 v2 v3 (0 : Int32) (0 : Int32) M hk_v2 (⟨show (0 : Int) ≤ v3.toInt by omega, show v3.toInt ≤ (35 : Int) by omega⟩) hJ (show (0 : Int) ≤ (0 : Int32).toInt by decide) (show (0 : Int32).toInt ≤ (1 : Int) by decide) (show (0 : Int) ≤ (0 : Int32).toInt by decide) (show (0 : Int32).toInt ≤ (4 : Int) by decide)) (fun x10 _ q => ?_)
  obtain ⟨h1, h2, h3⟩ := q
  refine c_i (bool_of (by omega) (by omega)) ?_
  exact ⟨(x10.1, x10.2), rfl, h1, (show (0 : Int) ≤ x10.1.toInt by omega), (show x10.1.toInt ≤ (1 : Int) by omega)⟩
