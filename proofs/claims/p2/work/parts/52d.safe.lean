/-! safety of the class, 4 -/
theorem sl_Crowd_read_19  (a0_ : Int32) (a1_ : Int32) (N_ : Mem) (hN : J N_) (i1_ : (0 : Int) ≤ a0_.toInt) (i2_ : a0_.toInt ≤ (80 : Int)) (i3_ : (0 : Int) ≤ a1_.toInt) (i4_ : a1_.toInt ≤ (9 : Int)) : ∃ x, iter (lb_Crowd_read_19) FU (a0_, a1_, N_) = some x ∧ (SQ (fun r : Int32 × Mem => J r.2 ∧ (0 : Int) ≤ r.1.toInt ∧ r.1.toInt ≤ (80 : Int)) (SQ (fun r : Int32 × Mem => J r.2 ∧ (-84 : Int) ≤ r.1.toInt ∧ r.1.toInt ≤ (-1 : Int)) (SQ (fun r : Int32 × Mem => J r.2 ∧ (0 : Int) ≤ r.1.toInt ∧ r.1.toInt ≤ (8 : Int) ∧ (r.2.1 6 4).toInt + r.1.toInt + 1 ≤ (8 : Int)) (fun r : Int32 × Mem => J r.2 ∧ (0 : Int) ≤ r.1.toInt ∧ r.1.toInt ≤ (79 : Int))))) x := by
  refine iter_r (fun s : Int32 × Int32 × Mem => J s.2.2 ∧ (0 : Int) ≤ s.1.toInt ∧ s.1.toInt ≤ (80 : Int) ∧ (0 : Int) ≤ s.2.1.toInt ∧ s.2.1.toInt ≤ (9 : Int)) (fun s : Int32 × Int32 × Mem => (9 - s.2.1.toInt).toNat) (SQ (fun r : Int32 × Mem => J r.2 ∧ (0 : Int) ≤ r.1.toInt ∧ r.1.toInt ≤ (80 : Int)) (SQ (fun r : Int32 × Mem => J r.2 ∧ (-84 : Int) ≤ r.1.toInt ∧ r.1.toInt ≤ (-1 : Int)) (SQ (fun r : Int32 × Mem => J r.2 ∧ (0 : Int) ≤ r.1.toInt ∧ r.1.toInt ≤ (8 : Int) ∧ (r.2.1 6 4).toInt + r.1.toInt + 1 ≤ (8 : Int)) (fun r : Int32 × Mem => J r.2 ∧ (0 : Int) ≤ r.1.toInt ∧ r.1.toInt ≤ (79 : Int))))) ?_ FU (a0_, a1_, N_) ⟨hN, i1_, i2_, i3_, i4_⟩ (by show (9 - a1_.toInt).toNat < FU; rw [FU_v]; omega)
  clear i4_ i3_ i2_ i1_ hN
  rintro ⟨a0_', a1_', N_'⟩ ⟨hN, i1_, i2_, i3_, i4_⟩
  dsimp only at hN i1_ i2_ i3_ i4_
  unfold lb_Crowd_read_19
  dsimp only
  refine if_i (fun c => ?_) (fun c => ?_)
  · have c1 := c
    have d2 : (8 : Int) < a1_'.toInt := lti.mp c1
    exact ⟨_, rfl, hN, (show (0 : Int) ≤ a0_'.toInt by omega), (show a0_'.toInt ≤ (80 : Int) by omega)⟩
  · have c3 := c
    have d4 : a1_'.toInt ≤ (8 : Int) := nlti.mp c3
    have r5 := Jr_6_4 hN
    have q6 : ((N_'.1 6 4) + a1_').toInt = (N_'.1 6 4).toInt + a1_'.toInt := add_ti rfl rfl (by omega) (by omega)
    refine bind_i (sf_Crowd_readLine ((N_'.1 6 4) + a1_') a0_' N_' (⟨show (0 : Int) ≤ a0_'.toInt by omega, show a0_'.toInt ≤ (80 : Int) by omega⟩) hN) (fun x2 _ q => ?_)
    obtain ⟨h7, h8, h9, h10, h11⟩ := q
    have f12 : (x2.2.1 6 4).toInt = (N_'.1 6 4).toInt := by rw [h11]
    refine if_i (fun c => ?_) (fun c => ?_)
    · have c13 := c
      have d14 : (0 : Int) ≤ x2.1.toInt := lei.mp c13
      refine bind_i (sf_Signs_at x2.1 (76 : Int32) x2.2 h7) (fun x3 _ q => ?_)
      obtain ⟨h15, h16, h17⟩ := q
      refine if_i (fun c => ?_) (fun c => ?_)
      · have c18 := c
        have d19 : x3.toInt = (-1 : Int) := eqi.mp c18
        have r20 := Jr_6_4 h7
        exact ⟨_, rfl, h7, (show (0 : Int) ≤ a1_'.toInt by omega), (show a1_'.toInt ≤ (8 : Int) by omega), (show (x2.2.1 6 4).toInt + a1_'.toInt + 1 ≤ (8 : Int) by omega)⟩
      · have c21 := c
        have d22 : ¬ x3.toInt = (-1 : Int) := neqi.mp c21
        refine if_i (fun c => ?_) (fun c => ?_)
        · have c23 := c
          have d24 : x3.toInt = (59 : Int) := eqi.mp c23
          have q25 : (x2.1 + (1 : Int32)).toInt = x2.1.toInt + (1 : Int) := add_ti rfl rfl (by omega) (by omega)
          have q26 : (a1_' + (1 : Int32)).toInt = a1_'.toInt + (1 : Int) := add_ti rfl rfl (by omega) (by omega)
          exact ⟨_, rfl, ⟨h7, (show (0 : Int) ≤ (x2.1 + (1 : Int32)).toInt by omega), (show (x2.1 + (1 : Int32)).toInt ≤ (80 : Int) by omega), (show (0 : Int) ≤ (a1_' + (1 : Int32)).toInt by omega), (show (a1_' + (1 : Int32)).toInt ≤ (9 : Int) by omega)⟩, show (9 - (a1_' + (1 : Int32)).toInt).toNat < (9 - a1_'.toInt).toNat by omega⟩
        · have c27 := c
          have d28 : ¬ x3.toInt = (59 : Int) := neqi.mp c27
          exact ⟨_, rfl, h7, (show (0 : Int) ≤ x2.1.toInt by omega), (show x2.1.toInt ≤ (79 : Int) by omega)⟩
    · have c29 := c
      have d30 : x2.1.toInt < (0 : Int) := nlei.mp c29
      exact ⟨_, rfl, h7, (show (-84 : Int) ≤ x2.1.toInt by omega), (show x2.1.toInt ≤ (-1 : Int) by omega)⟩
theorem sf_Crowd_read (M : Mem) (hJ : J M) : ∃ r : Int32 × Mem, f_Crowd_read M = some r ∧ (J r.2 ∧ (-84 : Int) ≤ r.1.toInt ∧ r.1.toInt ≤ (9 : Int) ∧ ((1 : Int) ≤ r.1.toInt → (r.2.1 6 4).toInt + r.1.toInt ≤ (8 : Int))) := by
  unfold f_Crowd_read
  refine if_i (fun c => ?_) (fun c => ?_)
  · have c1 := c
    have r2 := Jr_1_1 hJ
    have d3 : (M.1 1 1).toInt = (0 : Int) := eqi.mp c1
    have r4 := Jr_6_4 hJ
    exact ⟨((0 : Int32), M), rfl, hJ, (show (-84 : Int) ≤ (0 : Int32).toInt by decide), (show (0 : Int32).toInt ≤ (9 : Int) by decide), (fun hh => by have hh : (1 : Int) ≤ (0 : Int) := hh; show (M.1 6 4).toInt + (0 : Int32).toInt ≤ (8 : Int); omega)⟩
  · have c5 := c
    have r6 := Jr_1_1 hJ
    have d7 : ¬ (M.1 1 1).toInt = (0 : Int) := neqi.mp c5
    refine mem_i (fun M1 e9 => ?_)
    have hJ10 : J M1 := by rw [e9]; exact Jw_fld okf_6_6 hJ (0 : Int32)
    have f11 : (M1.1 1 1).toInt = (M.1 1 1).toInt := by rw [e9]; rw [si_ne (by exact fun e => absurd e.1 (by decide))]
    have f12 : (M1.1 6 6).toInt = (0 : Int) := by rw [e9, si_eq]; rfl
    clear e9
    refine bind_i (sl_Crowd_read_19  (0 : Int32) (0 : Int32) M1 hJ10 (show (0 : Int) ≤ (0 : Int32).toInt by decide) (show (0 : Int32).toInt ≤ (80 : Int) by decide) (show (0 : Int) ≤ (0 : Int32).toInt by decide) (show (0 : Int32).toInt ≤ (9 : Int) by decide)) (fun x13 _ q => ?_)
    rcases x13 with y | y | y | y
    · have q9 : J y.2 ∧ (0 : Int) ≤ y.1.toInt ∧ y.1.toInt ≤ (80 : Int) := q
      dsimp only [Sum.elim_inl, Sum.elim_inr]
      obtain ⟨h15, h16, h17⟩ := q9
      have q18 : ((-1 : Int32) - y.1).toInt = (-1 : Int) - y.1.toInt := sub_ti rfl rfl (by omega) (by omega)
      have r19 := Jr_6_4 h15
      exact ⟨(((-1 : Int32) - y.1), y.2), rfl, h15, (show (-84 : Int) ≤ ((-1 : Int32) - y.1).toInt by rw [q18]; clear q18; omega), (show ((-1 : Int32) - y.1).toInt ≤ (9 : Int) by rw [q18]; clear q18; omega), (fun hh => by have hh : (1 : Int) ≤ ((-1 : Int32) - y.1).toInt := hh; show (y.2.1 6 4).toInt + ((-1 : Int32) - y.1).toInt ≤ (8 : Int); omega)⟩
    · have q9 : J y.2 ∧ (-84 : Int) ≤ y.1.toInt ∧ y.1.toInt ≤ (-1 : Int) := q
      dsimp only [Sum.elim_inl, Sum.elim_inr]
      obtain ⟨h21, h22, h23⟩ := q9
      have r24 := Jr_6_4 h21
      exact ⟨(y.1, y.2), rfl, h21, (show (-84 : Int) ≤ y.1.toInt by omega), (show y.1.toInt ≤ (9 : Int) by omega), (fun hh => by have hh : (1 : Int) ≤ y.1.toInt := hh; show (y.2.1 6 4).toInt + y.1.toInt ≤ (8 : Int); omega)⟩
    · have q9 : J y.2 ∧ (0 : Int) ≤ y.1.toInt ∧ y.1.toInt ≤ (8 : Int) ∧ (y.2.1 6 4).toInt + y.1.toInt + 1 ≤ (8 : Int) := q
      dsimp only [Sum.elim_inl, Sum.elim_inr]
      obtain ⟨h26, h27, h28, h29⟩ := q9
      refine if_i (fun c => ?_) (fun c => ?_)
      · have c30 := c
        have r31 := Jr_1_1 h26
        have d32 : (y.2.1 1 1).toInt ≤ (76 : Int) := lei.mp c30
        have q33 : (y.1 + (1 : Int32)).toInt = y.1.toInt + (1 : Int) := add_ti rfl rfl (by omega) (by omega)
        have r34 := Jr_6_4 h26
        exact ⟨((y.1 + (1 : Int32)), y.2), rfl, h26, (show (-84 : Int) ≤ (y.1 + (1 : Int32)).toInt by omega), (show (y.1 + (1 : Int32)).toInt ≤ (9 : Int) by omega), (fun hh => by have hh : (1 : Int) ≤ (y.1 + (1 : Int32)).toInt := hh; show (y.2.1 6 4).toInt + (y.1 + (1 : Int32)).toInt ≤ (8 : Int); omega)⟩
      · have c35 := c
        have r36 := Jr_1_1 h26
        have d37 : (76 : Int) < (y.2.1 1 1).toInt := nlei.mp c35
        have r38 := Jr_6_4 h26
        exact ⟨((-77 : Int32), y.2), rfl, h26, (show (-84 : Int) ≤ (-77 : Int32).toInt by decide), (show (-77 : Int32).toInt ≤ (9 : Int) by decide), (fun hh => by have hh : (1 : Int) ≤ (-77 : Int) := hh; show (y.2.1 6 4).toInt + (-77 : Int32).toInt ≤ (8 : Int); omega)⟩
    · have q9 : J y.2 ∧ (0 : Int) ≤ y.1.toInt ∧ y.1.toInt ≤ (79 : Int) := q
      dsimp only [Sum.elim_inl, Sum.elim_inr]
      obtain ⟨h40, h41, h42⟩ := q9
      have q43 : ((-1 : Int32) - y.1).toInt = (-1 : Int) - y.1.toInt := sub_ti rfl rfl (by omega) (by omega)
      have r44 := Jr_6_4 h40
      exact ⟨(((-1 : Int32) - y.1), y.2), rfl, h40, (show (-84 : Int) ≤ ((-1 : Int32) - y.1).toInt by rw [q43]; clear q43; omega), (show ((-1 : Int32) - y.1).toInt ≤ (9 : Int) by rw [q43]; clear q43; omega), (fun hh => by have hh : (1 : Int) ≤ ((-1 : Int32) - y.1).toInt := hh; show (y.2.1 6 4).toInt + ((-1 : Int32) - y.1).toInt ≤ (8 : Int); omega)⟩
theorem sf_Crowd_letIn (v1 : Int32) (M : Mem) (hp_v1 : (0 : Int) ≤ v1.toInt ∧ v1.toInt ≤ (8 : Int)) (hJ : J M) (hx0 : (M.1 6 4).toInt + v1.toInt ≤ (8 : Int)) : ∃ r : Mem, f_Crowd_letIn v1 M = some r ∧ (J r) := by
  unfold f_Crowd_letIn
  have r2 := Jr_6_4 hJ
  have q3 : ((M.1 6 4) + v1).toInt = (M.1 6 4).toInt + v1.toInt := add_ti rfl rfl (by omega) (by omega)
  refine mem_i (fun M1 e4 => ?_)
  have hJ5 : J M1 := by rw [e4]; exact Jw_6_4 hJ ((M.1 6 4) + v1) (show (0 : Int) ≤ ((M.1 6 4) + v1).toInt by omega) (show ((M.1 6 4) + v1).toInt ≤ (8 : Int) by omega)
  have f6 : (M1.1 6 4).toInt = ((M.1 6 4) + v1).toInt := by rw [e4, si_eq]
  clear e4
  refine mem_i (fun M2 e8 => ?_)
  have hJ9 : J M2 := by rw [e8]; exact Jw_fld okf_6_5 hJ5 ((M1.1 6 5) ||| (M1.1 6 6))
  have f10 : (M2.1 6 4).toInt = (M1.1 6 4).toInt := by rw [e8]; rw [si_ne (by exact fun e => absurd e.2 (by decide))]
  clear e8
  exact ⟨M2, rfl, hJ9⟩
theorem sf_Crowd_woman (v1 : Int32) (M : Mem) (hJ : J M) : ∃ r : Int32, f_Crowd_woman v1 M = some r ∧ ((0 : Int) ≤ r.toInt ∧ r.toInt ≤ (1 : Int)) := by
  unfold f_Crowd_woman
  refine if_i (fun c => ?_) (fun c => ?_)
  · have c1 := c
    have q2 : (0 : Int) ≤ (((M.1 6 5) >>> (v1 &&& 31)) &&& (1 : Int32)).toInt ∧ (((M.1 6 5) >>> (v1 &&& 31)) &&& (1 : Int32)).toInt ≤ 1 := and_rng (by decide)
    have d3 : (((M.1 6 5) >>> (v1 &&& 31)) &&& (1 : Int32)).toInt = (0 : Int) := eqi.mp c1
    exact ⟨(0 : Int32), rfl, (show (0 : Int) ≤ (0 : Int32).toInt by decide), (show (0 : Int32).toInt ≤ (1 : Int) by decide)⟩
  · have c4 := c
    have q5 : (0 : Int) ≤ (((M.1 6 5) >>> (v1 &&& 31)) &&& (1 : Int32)).toInt ∧ (((M.1 6 5) >>> (v1 &&& 31)) &&& (1 : Int32)).toInt ≤ 1 := and_rng (by decide)
    have d6 : ¬ (((M.1 6 5) >>> (v1 &&& 31)) &&& (1 : Int32)).toInt = (0 : Int) := neqi.mp c4
    exact ⟨(1 : Int32), rfl, (show (0 : Int) ≤ (1 : Int32).toInt by decide), (show (1 : Int32).toInt ≤ (1 : Int) by decide)⟩
theorem sf_Crowd_has (v1 : Int32) (M : Mem) (hJ : J M) : ∃ r : Int32, f_Crowd_has v1 M = some r ∧ ((0 : Int) ≤ r.toInt ∧ r.toInt ≤ (1 : Int) ∧ (¬ r.toInt = 0 → (0 : Int) ≤ v1.toInt ∧ v1.toInt ≤ (7 : Int))) := by
  unfold f_Crowd_has
  refine if_i (fun c => ?_) (fun c => ?_)
  · have c1 := c
    have d2 : v1.toInt < (0 : Int) := lti.mp c1
    exact ⟨(0 : Int32), rfl, (show (0 : Int) ≤ (0 : Int32).toInt by decide), (show (0 : Int32).toInt ≤ (1 : Int) by decide), (fun hh => by have hh : ¬ (0 : Int32).toInt = 0 := hh; have zz : (0 : Int32).toInt = 0 := rfl; omega)⟩
  · have c3 := c
    have d4 : (0 : Int) ≤ v1.toInt := nlti.mp c3
    refine if_i (fun c => ?_) (fun c => ?_)
    · have c5 := c
      have r6 := Jr_6_4 hJ
      have d7 : (M.1 6 4).toInt ≤ v1.toInt := lei.mp c5
      exact ⟨(0 : Int32), rfl, (show (0 : Int) ≤ (0 : Int32).toInt by decide), (show (0 : Int32).toInt ≤ (1 : Int) by decide), (fun hh => by have hh : ¬ (0 : Int32).toInt = 0 := hh; have zz : (0 : Int32).toInt = 0 := rfl; omega)⟩
    · have c8 := c
      have r9 := Jr_6_4 hJ
      have d10 : v1.toInt < (M.1 6 4).toInt := nlei.mp c8
      refine if_i (fun c => ?_) (fun c => ?_)
      · have c11 := c
        have d12 : (8 : Int) ≤ v1.toInt := lei.mp c11
        exfalso; omega
      · have c13 := c
        have d14 : v1.toInt < (8 : Int) := nlei.mp c13
        exact ⟨(1 : Int32), rfl, (show (0 : Int) ≤ (1 : Int32).toInt by decide), (show (1 : Int32).toInt ≤ (1 : Int) by decide), (fun hh => by have hh : ¬ (1 : Int32).toInt = 0 := hh; have zz : (1 : Int32).toInt = 1 := rfl; omega)⟩
theorem sl_Crowd_tellWay_40 (v1 : Int32) (v3 : Int32) (a0_ : Int32) (N_ : Mem) (hp_v1 : (0 : Int) ≤ v1.toInt ∧ v1.toInt ≤ (7 : Int)) (hp_v3 : (1 : Int) ≤ v3.toInt ∧ v3.toInt ≤ (9 : Int)) (hN : J N_) (i1_ : (0 : Int) ≤ a0_.toInt) (i2_ : a0_.toInt ≤ (9 : Int)) : ∃ x, iter (lb_Crowd_tellWay_40 v1 v3) FU (a0_, N_) = some x ∧ (fun r : Mem => J r) x := by
  refine iter_r (fun s : Int32 × Mem => J s.2 ∧ (0 : Int) ≤ s.1.toInt ∧ s.1.toInt ≤ (9 : Int)) (fun s : Int32 × Mem => (9 - s.1.toInt).toNat) (fun r : Mem => J r) ?_ FU (a0_, N_) ⟨hN, i1_, i2_⟩ (by show (9 - a0_.toInt).toNat < FU; rw [FU_v]; omega)
  clear i2_ i1_ hN
  rintro ⟨a0_', N_'⟩ ⟨hN, i1_, i2_⟩
  dsimp only at hN i1_ i2_
  unfold lb_Crowd_tellWay_40
  dsimp only
  refine if_i (fun c => ?_) (fun c => ?_)
  · have c1 := c
    have d2 : (9 : Int) ≤ a0_'.toInt := lei.mp c1
    exact ⟨_, rfl, hN⟩
  · have c3 := c
    have d4 : a0_'.toInt < (9 : Int) := nlei.mp c3
    refine inb_i (by omega) (by omega) ?_
    have q5 : (v1 * (9 : Int32)).toInt = v1.toInt * (9 : Int) := mul_ti rfl rfl (by omega) (by omega)
    have q6 : ((v1 * (9 : Int32)) + a0_').toInt = (v1 * (9 : Int32)).toInt + a0_'.toInt := add_ti rfl rfl (by omega) (by omega)
    refine inb_i (by omega) (by omega) ?_
    refine mem_i (fun M3 e8 => ?_)
    have hJ9 : J M3 := by rw [e8]; exact Jw_any ok_7 hN ((v1 * (9 : Int32)) + a0_').toNatClampNeg (N_'.1 10 a0_'.toNatClampNeg)
    clear e8
    have q10 : (a0_' + (1 : Int32)).toInt = a0_'.toInt + (1 : Int) := add_ti rfl rfl (by omega) (by omega)
    exact ⟨_, rfl, ⟨hJ9, (show (0 : Int) ≤ (a0_' + (1 : Int32)).toInt by omega), (show (a0_' + (1 : Int32)).toInt ≤ (9 : Int) by omega)⟩, show (9 - (a0_' + (1 : Int32)).toInt).toNat < (9 - a0_'.toInt).toNat by omega⟩
theorem sf_Crowd_tellWay (v1 : Int32) (M : Mem) (hJ : J M) : ∃ r : Int32 × Mem, f_Crowd_tellWay v1 M = some r ∧ (J r.2 ∧ (-10 : Int) ≤ r.1.toInt ∧ r.1.toInt ≤ (9 : Int)) := by
  unfold f_Crowd_tellWay
  refine bind_i (sf_Signs_steps (0 : Int32) (80 : Int32) 10 (0 : Int32) M FS_10 (⟨by decide, by decide⟩) hJ) (fun x1 _ q => ?_)
  obtain ⟨h1, h2, h3, h4⟩ := q
  refine bind_i (sf_Crowd_has v1 x1.2 h1) (fun x2 _ q => ?_)
  obtain ⟨h5, h6, h7⟩ := q
  refine if_i (fun c => ?_) (fun c => ?_)
  · have c8 := c
    have d9 : x2.toInt = (0 : Int) := eqi.mp c8
    have q10 : ((-1 : Int32) - x1.1).toInt = (-1 : Int) - x1.1.toInt := sub_ti rfl rfl (by omega) (by omega)
    exact ⟨(((-1 : Int32) - x1.1), x1.2), rfl, h1, (show (-10 : Int) ≤ ((-1 : Int32) - x1.1).toInt by rw [q10]; clear q10; omega), (show ((-1 : Int32) - x1.1).toInt ≤ (9 : Int) by rw [q10]; clear q10; omega)⟩
  · have c11 := c
    have d12 : ¬ x2.toInt = (0 : Int) := neqi.mp c11
    refine if_i (fun c => ?_) (fun c => ?_)
    · have c13 := c
      have d14 : x1.1.toInt = (0 : Int) := eqi.mp c13
      have q15 : ((-1 : Int32) - x1.1).toInt = (-1 : Int) - x1.1.toInt := sub_ti rfl rfl (by omega) (by omega)
      exact ⟨(((-1 : Int32) - x1.1), x1.2), rfl, h1, (show (-10 : Int) ≤ ((-1 : Int32) - x1.1).toInt by rw [q15]; clear q15; omega), (show ((-1 : Int32) - x1.1).toInt ≤ (9 : Int) by rw [q15]; clear q15; omega)⟩
    · have c16 := c
      have d17 : ¬ x1.1.toInt = (0 : Int) := neqi.mp c16
      refine if_i (fun c => ?_) (fun c => ?_)
      · have c18 := c
        have r19 := Jr_1_1 h1
        have d20 : (x1.2.1 1 1).toInt ≤ x1.1.toInt := lei.mp c18
        refine bind_i (sl_Crowd_tellWay_40 v1 x1.1 (0 : Int32) x1.2 (⟨show (0 : Int) ≤ v1.toInt by omega, show v1.toInt ≤ (7 : Int) by omega⟩) (⟨show (1 : Int) ≤ x1.1.toInt by omega, show x1.1.toInt ≤ (9 : Int) by omega⟩) h1 (show (0 : Int) ≤ (0 : Int32).toInt by decide) (show (0 : Int32).toInt ≤ (9 : Int) by decide)) (fun x5 _ q => ?_)
        have h21 := q
        refine inb_i (by omega) (by omega) ?_
        refine mem_i (fun M6 e23 => ?_)
        have hJ24 : J M6 := by rw [e23]; exact Jw_any ok_8 h21 v1.toNatClampNeg x1.1
        clear e23
        exact ⟨(x1.1, M6), rfl, hJ24, (show (-10 : Int) ≤ x1.1.toInt by omega), (show x1.1.toInt ≤ (9 : Int) by omega)⟩
      · have c25 := c
        have r26 := Jr_1_1 h1
        have d27 : x1.1.toInt < (x1.2.1 1 1).toInt := nlei.mp c25
        have q28 : ((-1 : Int32) - x1.1).toInt = (-1 : Int) - x1.1.toInt := sub_ti rfl rfl (by omega) (by omega)
        exact ⟨(((-1 : Int32) - x1.1), x1.2), rfl, h1, (show (-10 : Int) ≤ ((-1 : Int32) - x1.1).toInt by rw [q28]; clear q28; omega), (show ((-1 : Int32) - x1.1).toInt ≤ (9 : Int) by rw [q28]; clear q28; omega)⟩
theorem sf_Crowd_within (v1 : Int32) (v2 : Int32) (M : Mem) (hJ : J M) : ∃ r : Int32, f_Crowd_within v1 v2 M = some r ∧ ((0 : Int) ≤ r.toInt) := by
  unfold f_Crowd_within
  refine bind_i (sf_Crowd_has v1 M hJ) (fun x1 _ q => ?_)
  obtain ⟨h1, h2, h3⟩ := q
  refine if_i (fun c => ?_) (fun c => ?_)
  · have c4 := c
    have d5 : x1.toInt = (0 : Int) := eqi.mp c4
    exact ⟨(0 : Int32), rfl, (show (0 : Int) ≤ (0 : Int32).toInt by decide)⟩
  · have c6 := c
    have d7 : ¬ x1.toInt = (0 : Int) := neqi.mp c6
    refine inb_i (by omega) (by omega) ?_
    have q8 : (0 : Int) ≤ (if (0 : Int32) < (if ((M.1 8 v1.toNatClampNeg) - (1 : Int32)) < v2 then ((M.1 8 v1.toNatClampNeg) - (1 : Int32)) else v2) then (if ((M.1 8 v1.toNatClampNeg) - (1 : Int32)) < v2 then ((M.1 8 v1.toNatClampNeg) - (1 : Int32)) else v2) else (0 : Int32)).toInt := by
      by_cases cc : (0 : Int32) < (if ((M.1 8 v1.toNatClampNeg) - (1 : Int32)) < v2 then ((M.1 8 v1.toNatClampNeg) - (1 : Int32)) else v2)
      · rw [if_pos cc]
        have d9 : (0 : Int) < (if ((M.1 8 v1.toNatClampNeg) - (1 : Int32)) < v2 then ((M.1 8 v1.toNatClampNeg) - (1 : Int32)) else v2).toInt := lti.mp cc
        omega
      · rw [if_neg cc]
        have d10 : (if ((M.1 8 v1.toNatClampNeg) - (1 : Int32)) < v2 then ((M.1 8 v1.toNatClampNeg) - (1 : Int32)) else v2).toInt ≤ (0 : Int) := nlti.mp cc
        decide
    exact ⟨(if (0 : Int32) < (if ((M.1 8 v1.toNatClampNeg) - (1 : Int32)) < v2 then ((M.1 8 v1.toNatClampNeg) - (1 : Int32)) else v2) then (if ((M.1 8 v1.toNatClampNeg) - (1 : Int32)) < v2 then ((M.1 8 v1.toNatClampNeg) - (1 : Int32)) else v2) else (0 : Int32)), rfl, (show (0 : Int) ≤ (if (0 : Int32) < (if ((M.1 8 v1.toNatClampNeg) - (1 : Int32)) < v2 then ((M.1 8 v1.toNatClampNeg) - (1 : Int32)) else v2) then (if ((M.1 8 v1.toNatClampNeg) - (1 : Int32)) < v2 then ((M.1 8 v1.toNatClampNeg) - (1 : Int32)) else v2) else (0 : Int32)).toInt by omega)⟩
theorem sf_Crowd_stepAt (v1 : Int32) (v2 : Int32) (M : Mem) (hJ : J M) : ∃ r : Int32, f_Crowd_stepAt v1 v2 M = some r ∧ (True) := by
  unfold f_Crowd_stepAt
  refine bind_i (sf_Crowd_has v1 M hJ) (fun x1 _ q => ?_)
  obtain ⟨h1, h2, h3⟩ := q
  refine if_i (fun c => ?_) (fun c => ?_)
  · have c4 := c
    have d5 : x1.toInt = (0 : Int) := eqi.mp c4
    exact ⟨(4 : Int32), rfl, trivial⟩
  · have c6 := c
    have d7 : ¬ x1.toInt = (0 : Int) := neqi.mp c6
    refine if_i (fun c => ?_) (fun c => ?_)
    · have c8 := c
      have d9 : v2.toInt < (0 : Int) := lti.mp c8
      exact ⟨(4 : Int32), rfl, trivial⟩
    · have c10 := c
      have d11 : (0 : Int) ≤ v2.toInt := nlti.mp c10
      refine inb_i (by omega) (by omega) ?_
      refine if_i (fun c => ?_) (fun c => ?_)
      · have c12 := c
        have d13 : (M.1 8 v1.toNatClampNeg).toInt ≤ v2.toInt := lei.mp c12
        exact ⟨(4 : Int32), rfl, trivial⟩
      · have c14 := c
        have d15 : v2.toInt < (M.1 8 v1.toNatClampNeg).toInt := nlei.mp c14
        refine if_i (fun c => ?_) (fun c => ?_)
        · have c16 := c
          have d17 : v2.toInt < (9 : Int) := lti.mp c16
          have q18 : (v1 * (9 : Int32)).toInt = v1.toInt * (9 : Int) := mul_ti rfl rfl (by omega) (by omega)
          have q19 : ((v1 * (9 : Int32)) + v2).toInt = (v1 * (9 : Int32)).toInt + v2.toInt := add_ti rfl rfl (by omega) (by omega)
          refine inb_i (by omega) (by omega) ?_
          exact ⟨(M.1 7 ((v1 * (9 : Int32)) + v2).toNatClampNeg), rfl, trivial⟩
        · have c20 := c
          have d21 : (9 : Int) ≤ v2.toInt := nlti.mp c20
          exact ⟨(4 : Int32), rfl, trivial⟩
theorem sf_Crowd_placeBehind (v1 : Int32) (v2 : Int32) (M : Mem) (hJ : J M) : ∃ r : Int32, f_Crowd_placeBehind v1 v2 M = some r ∧ (True) := by
  unfold f_Crowd_placeBehind
  refine bind_i (sf_Crowd_has v1 M hJ) (fun x1 _ q => ?_)
  obtain ⟨h1, h2, h3⟩ := q
  refine if_i (fun c => ?_) (fun c => ?_)
  · have c4 := c
    have d5 : x1.toInt = (0 : Int) := eqi.mp c4
    exact ⟨(0 : Int32), rfl, trivial⟩
  · have c6 := c
    have d7 : ¬ x1.toInt = (0 : Int) := neqi.mp c6
    refine inb_i (by omega) (by omega) ?_
    refine if_i (fun c => ?_) (fun c => ?_)
    · have c8 := c
      have d9 : (M.1 8 v1.toNatClampNeg).toInt ≤ (v2 + (1 : Int32)).toInt := lei.mp c8
      exact ⟨(0 : Int32), rfl, trivial⟩
    · have c10 := c
      have d11 : (v2 + (1 : Int32)).toInt < (M.1 8 v1.toNatClampNeg).toInt := nlei.mp c10
      exact ⟨(v2 + (1 : Int32)), rfl, trivial⟩
theorem sf_Scene_put (v0 : Nat) (v1 : Int32) (v2 : Int32) (v3 : Int32) (M : Mem) (hk_v0 : kd v0 = 10 + 7) (hp_v1 : (0 : Int) ≤ v1.toInt ∧ v1.toInt ≤ (7 : Int)) (hp_v2 : (0 : Int) ≤ v2.toInt ∧ v2.toInt ≤ (35 : Int)) (hp_v3 : (0 : Int) ≤ v3.toInt ∧ v3.toInt ≤ (1 : Int)) (hJ : J M) : ∃ r : Mem, f_Scene_put v0 v1 v2 v3 M = some r ∧ (J r) := by
  unfold f_Scene_put
  refine c_i hk_v0 ?_
  refine inb_i (by omega) (by omega) ?_
  refine mem_i (fun M1 e2 => ?_)
  have hJ3 : J M1 := by rw [e2]; exact Jw_scene0 hJ hk_v0 v1.toNatClampNeg v2 (show (0 : Int) ≤ v2.toInt by omega) (show v2.toInt ≤ (35 : Int) by omega)
  have f4 : (M1.1 (rf v0 0) v1.toNatClampNeg).toInt = v2.toInt := by rw [e2, si_eq]
  clear e2
  refine inb_i (by omega) (by omega) ?_
  refine mem_i (fun M2 e6 => ?_)
  have hJ7 : J M2 := by rw [e6]; exact Jw_scene1 hJ3 hk_v0 v1.toNatClampNeg v3 (show (0 : Int) ≤ v3.toInt by omega) (show v3.toInt ≤ (1 : Int) by omega)
  have f8 : (M2.1 (rf v0 1) v1.toNatClampNeg).toInt = v3.toInt := by rw [e6, si_eq]
  clear e6
  refine inb_i (by omega) (by omega) ?_
  refine mem_i (fun M3 e10 => ?_)
  have hJ11 : J M3 := by rw [e10]; exact Jw_scene2 hJ7 hk_v0 v1.toNatClampNeg (0 : Int32)
  have f12 : (M3.1 (rf v0 2) v1.toNatClampNeg).toInt = (0 : Int) := by rw [e10, si_eq]; rfl
  clear e10
  exact ⟨M3, rfl, hJ11⟩
theorem sl_Scene_clear_2 (v0 : Nat) (a0_ : Int32) (N_ : Mem) (hk_v0 : kd v0 = 10 + 7) (hN : J N_) (i1_ : (0 : Int) ≤ a0_.toInt) (i2_ : a0_.toInt ≤ (8 : Int)) : ∃ x, iter (lb_Scene_clear_2 v0) FU (a0_, N_) = some x ∧ (fun r : Mem => J r) x := by
  refine iter_r (fun s : Int32 × Mem => J s.2 ∧ (0 : Int) ≤ s.1.toInt ∧ s.1.toInt ≤ (8 : Int)) (fun s : Int32 × Mem => (8 - s.1.toInt).toNat) (fun r : Mem => J r) ?_ FU (a0_, N_) ⟨hN, i1_, i2_⟩ (by show (8 - a0_.toInt).toNat < FU; rw [FU_v]; omega)
  clear i2_ i1_ hN
  rintro ⟨a0_', N_'⟩ ⟨hN, i1_, i2_⟩
  dsimp only at hN i1_ i2_
  unfold lb_Scene_clear_2
  dsimp only
  refine if_i (fun c => ?_) (fun c => ?_)
  · have c1 := c
    have d2 : (8 : Int) ≤ a0_'.toInt := lei.mp c1
    exact ⟨_, rfl, hN⟩
  · have c3 := c
    have d4 : a0_'.toInt < (8 : Int) := nlei.mp c3
    refine bind_i (sf_Scene_put v0 a0_' (0 : Int32) (0 : Int32) N_' hk_v0 (⟨show (0 : Int) ≤ a0_'.toInt by omega, show a0_'.toInt ≤ (7 : Int) by omega⟩) (⟨by decide, by decide⟩) (⟨by decide, by decide⟩) hN) (fun x1 _ q => ?_)
    have h5 := q
    have q6 : (a0_' + (1 : Int32)).toInt = a0_'.toInt + (1 : Int) := add_ti rfl rfl (by omega) (by omega)
    exact ⟨_, rfl, ⟨h5, (show (0 : Int) ≤ (a0_' + (1 : Int32)).toInt by omega), (show (a0_' + (1 : Int32)).toInt ≤ (8 : Int) by omega)⟩, show (8 - (a0_' + (1 : Int32)).toInt).toNat < (8 - a0_'.toInt).toNat by omega⟩
theorem sl_Scene_clear_23 (v0 : Nat) (a0_ : Int32) (N_ : Mem) (hk_v0 : kd v0 = 10 + 7) (hN : J N_) (i1_ : (0 : Int) ≤ a0_.toInt) (i2_ : a0_.toInt ≤ (64 : Int)) : ∃ x, iter (lb_Scene_clear_23 v0) FU (a0_, N_) = some x ∧ (fun r : Mem => J r) x := by
  refine iter_r (fun s : Int32 × Mem => J s.2 ∧ (0 : Int) ≤ s.1.toInt ∧ s.1.toInt ≤ (64 : Int)) (fun s : Int32 × Mem => (64 - s.1.toInt).toNat) (fun r : Mem => J r) ?_ FU (a0_, N_) ⟨hN, i1_, i2_⟩ (by show (64 - a0_.toInt).toNat < FU; rw [FU_v]; omega)
  clear i2_ i1_ hN
  rintro ⟨a0_', N_'⟩ ⟨hN, i1_, i2_⟩
  dsimp only at hN i1_ i2_
  unfold lb_Scene_clear_23
  dsimp only
  refine if_i (fun c => ?_) (fun c => ?_)
  · have c1 := c
    have d2 : (64 : Int) ≤ a0_'.toInt := lei.mp c1
    exact ⟨_, rfl, hN⟩
  · have c3 := c
    have d4 : a0_'.toInt < (64 : Int) := nlei.mp c3
    refine inb_i (by omega) (by omega) ?_
    refine mem_i (fun M4 e6 => ?_)
    have hJ7 : J M4 := by rw [e6]; exact Jw_scene3 hN hk_v0 a0_'.toNatClampNeg (0 : Int32)
    have f8 : (M4.1 (rf v0 3) a0_'.toNatClampNeg).toInt = (0 : Int) := by rw [e6, si_eq]; rfl
    clear e6
    have q9 : (a0_' + (1 : Int32)).toInt = a0_'.toInt + (1 : Int) := add_ti rfl rfl (by omega) (by omega)
    exact ⟨_, rfl, ⟨hJ7, (show (0 : Int) ≤ (a0_' + (1 : Int32)).toInt by omega), (show (a0_' + (1 : Int32)).toInt ≤ (64 : Int) by omega)⟩, show (64 - (a0_' + (1 : Int32)).toInt).toNat < (64 - a0_'.toInt).toNat by omega⟩
theorem sf_Scene_clear (v0 : Nat) (M : Mem) (hk_v0 : kd v0 = 10 + 7) (hJ : J M) : ∃ r : Mem, f_Scene_clear v0 M = some r ∧ (J r) := by
  unfold f_Scene_clear
  refine c_i hk_v0 ?_
  refine bind_i (sl_Scene_clear_2 v0 (0 : Int32) M hk_v0 hJ (show (0 : Int) ≤ (0 : Int32).toInt by decide) (show (0 : Int32).toInt ≤ (8 : Int) by decide)) (fun x3 _ q => ?_)
  have h1 := q
  refine bind_i (sl_Scene_clear_23 v0 (0 : Int32) x3 hk_v0 h1 (show (0 : Int) ≤ (0 : Int32).toInt by decide) (show (0 : Int32).toInt ≤ (64 : Int) by decide)) (fun x6 _ q => ?_)
  have h2 := q
  refine mem_i (fun M7 e4 => ?_)
  have hJ5 : J M7 := by rw [e4]; exact Jw_scene h2 hk_v0 6 (0 : Int32)
  have f6 : (M7.1 v0 6).toInt = (0 : Int) := by rw [e4, si_eq]; rfl
  clear e4
  refine mem_i (fun M8 e8 => ?_)
  have hJ9 : J M8 := by rw [e8]; exact Jw_scene hJ5 hk_v0 7 (0 : Int32)
  have f10 : (M8.1 v0 6).toInt = (M7.1 v0 6).toInt := by rw [e8]; rw [si_ne (by exact fun e => absurd e.2 (by decide))]
  have f11 : (M8.1 v0 7).toInt = (0 : Int) := by rw [e8, si_eq]; rfl
  clear e8
  refine mem_i (fun M9 e13 => ?_)
  have hJ14 : J M9 := by rw [e13]; exact Jw_scene hJ9 hk_v0 8 (0 : Int32)
  have f15 : (M9.1 v0 6).toInt = (M8.1 v0 6).toInt := by rw [e13]; rw [si_ne (by exact fun e => absurd e.2 (by decide))]
  have f16 : (M9.1 v0 7).toInt = (M8.1 v0 7).toInt := by rw [e13]; rw [si_ne (by exact fun e => absurd e.2 (by decide))]
  have f17 : (M9.1 v0 8).toInt = (0 : Int) := by rw [e13, si_eq]; rfl
  clear e13
  refine mem_i (fun M10 e19 => ?_)
  have hJ20 : J M10 := by rw [e19]; exact Jw_scene hJ14 hk_v0 9 (0 : Int32)
  have f21 : (M10.1 v0 6).toInt = (M9.1 v0 6).toInt := by rw [e19]; rw [si_ne (by exact fun e => absurd e.2 (by decide))]
  have f22 : (M10.1 v0 7).toInt = (M9.1 v0 7).toInt := by rw [e19]; rw [si_ne (by exact fun e => absurd e.2 (by decide))]
  have f23 : (M10.1 v0 8).toInt = (M9.1 v0 8).toInt := by rw [e19]; rw [si_ne (by exact fun e => absurd e.2 (by decide))]
  have f24 : (M10.1 v0 9).toInt = (0 : Int) := by rw [e19, si_eq]; rfl
  clear e19
  exact ⟨M10, rfl, hJ20⟩
