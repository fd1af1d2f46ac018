/-! safety of the class, 13 -/
theorem sf_Thief_record (v1 : Int32) (v2 : Int64) (v4 : Int64) (M : Mem) (hJ : J M) : ∃ r : Mem, f_Thief_record v1 v2 v4 M = some r ∧ (J r) := by
  unfold f_Thief_record
  refine if_i (fun c => ?_) (fun c => ?_)
  · have c1 := c
    have d2 : v1.toInt < (0 : Int) := lti.mp c1
    exact ⟨M, rfl, hJ⟩
  · have c3 := c
    have d4 : (0 : Int) ≤ v1.toInt := nlti.mp c3
    refine if_i (fun c => ?_) (fun c => ?_)
    · have c5 := c
      have d6 : (30 : Int) ≤ v1.toInt := lei.mp c5
      exact ⟨M, rfl, hJ⟩
    · have c7 := c
      have d8 : v1.toInt < (30 : Int) := nlei.mp c7
      refine inb_i (by omega) (by omega) ?_
      refine mem_i (fun M1 e10 => ?_)
      have hJ11 : J M1 := by rw [e10]; exact Jl hJ
      clear e10
      refine inb_i (by omega) (by omega) ?_
      refine mem_i (fun M2 e13 => ?_)
      have hJ14 : J M2 := by rw [e13]; exact Jl hJ11
      clear e13
      exact ⟨M2, rfl, hJ14⟩
theorem sf_Thief_strike (v1 : Int32) (M : Mem) (hJ : J M) : ∃ r : Mem, f_Thief_strike v1 M = some r ∧ (J r) := by
  unfold f_Thief_strike
  refine if_i (fun c => ?_) (fun c => ?_)
  · have c1 := c
    have d2 : v1.toInt < (0 : Int) := lti.mp c1
    exact ⟨M, rfl, hJ⟩
  · have c3 := c
    have d4 : (0 : Int) ≤ v1.toInt := nlti.mp c3
    refine if_i (fun c => ?_) (fun c => ?_)
    · have c5 := c
      have d6 : (30 : Int) ≤ v1.toInt := lei.mp c5
      exact ⟨M, rfl, hJ⟩
    · have c7 := c
      have d8 : v1.toInt < (30 : Int) := nlei.mp c7
      refine inb_i (by omega) (by omega) ?_
      refine mem_i (fun M1 e10 => ?_)
      have hJ11 : J M1 := by rw [e10]; exact Jl hJ
      clear e10
      refine inb_i (by omega) (by omega) ?_
      refine mem_i (fun M2 e13 => ?_)
      have hJ14 : J M2 := by rw [e13]; exact Jl hJ11
      clear e13
      exact ⟨M2, rfl, hJ14⟩
theorem sf_Thief_gone (M : Mem) (hJ : J M) : ∃ r : Int32, f_Thief_gone M = some r ∧ ((0 : Int) ≤ r.toInt ∧ r.toInt ≤ (1 : Int)) := by
  unfold f_Thief_gone
  refine if_i (fun c => ?_) (fun c => ?_)
  · have c1 := c
    have d2 : (lg_cmp ((M.2.1 151 2) ||| (M.2.1 151 3)) (0 : Int64)).toInt = (0 : Int) := eqi.mp c1
    exact ⟨(1 : Int32), rfl, (show (0 : Int) ≤ (1 : Int32).toInt by decide), (show (1 : Int32).toInt ≤ (1 : Int) by decide)⟩
  · have c3 := c
    have d4 : ¬ (lg_cmp ((M.2.1 151 2) ||| (M.2.1 151 3)) (0 : Int64)).toInt = (0 : Int) := neqi.mp c3
    exact ⟨(0 : Int32), rfl, (show (0 : Int) ≤ (0 : Int32).toInt by decide), (show (0 : Int32).toInt ≤ (1 : Int) by decide)⟩
theorem sl_Thief_roam_2 (v1 : Nat) (a0_ : Int32) (N_ : Mem) (hk_v1 : kd v1 = 10 + 6) (hN : J N_) (i1_ : (0 : Int) ≤ a0_.toInt) (i2_ : a0_.toInt ≤ (72 : Int)) : ∃ x, iter (lb_Thief_roam_2 v1) FU (a0_, N_) = some x ∧ (SQ (fun r : Mem => J r) (fun r : Mem => J r)) x := by
  refine iter_r (fun s : Int32 × Mem => J s.2 ∧ (0 : Int) ≤ s.1.toInt ∧ s.1.toInt ≤ (72 : Int)) (fun s : Int32 × Mem => (72 - s.1.toInt).toNat) (SQ (fun r : Mem => J r) (fun r : Mem => J r)) ?_ FU (a0_, N_) ⟨hN, i1_, i2_⟩ (by show (72 - a0_.toInt).toNat < FU; rw [FU_v]; omega)
  clear i2_ i1_ hN
  rintro ⟨a0_', N_'⟩ ⟨hN, i1_, i2_⟩
  dsimp only at hN i1_ i2_
  unfold lb_Thief_roam_2
  dsimp only
  refine if_i (fun c => ?_) (fun c => ?_)
  · have c1 := c
    have d2 : (72 : Int) ≤ a0_'.toInt := lei.mp c1
    exact ⟨_, rfl, hN⟩
  · have c3 := c
    have d4 : a0_'.toInt < (72 : Int) := nlei.mp c3
    refine bind_i (sf_Thief_stir v1 N_' hk_v1 hN) (fun x1 _ q => ?_)
    have h5 := q
    refine mem_i (fun M2 e7 => ?_)
    have hJ8 : J M2 := by rw [e7]; exact Jl h5
    clear e7
    refine mem_i (fun M3 e10 => ?_)
    have hJ11 : J M3 := by rw [e10]; exact Jl hJ8
    clear e10
    refine if_i (fun c => ?_) (fun c => ?_)
    · have c12 := c
      have d13 : (lg_cmp (M3.2.1 151 2) (N_'.2.1 151 2)).toInt = (0 : Int) := eqi.mp c12
      refine if_i (fun c => ?_) (fun c => ?_)
      · have c14 := c
        have d15 : (lg_cmp (M3.2.1 151 3) (N_'.2.1 151 3)).toInt = (0 : Int) := eqi.mp c14
        exact ⟨_, rfl, hJ11⟩
      · have c16 := c
        have d17 : ¬ (lg_cmp (M3.2.1 151 3) (N_'.2.1 151 3)).toInt = (0 : Int) := neqi.mp c16
        have q18 : (a0_' + (1 : Int32)).toInt = a0_'.toInt + (1 : Int) := add_ti rfl rfl (by omega) (by omega)
        exact ⟨_, rfl, ⟨hJ11, (show (0 : Int) ≤ (a0_' + (1 : Int32)).toInt by omega), (show (a0_' + (1 : Int32)).toInt ≤ (72 : Int) by omega)⟩, show (72 - (a0_' + (1 : Int32)).toInt).toNat < (72 - a0_'.toInt).toNat by omega⟩
    · have c19 := c
      have d20 : ¬ (lg_cmp (M3.2.1 151 2) (N_'.2.1 151 2)).toInt = (0 : Int) := neqi.mp c19
      have q21 : (a0_' + (1 : Int32)).toInt = a0_'.toInt + (1 : Int) := add_ti rfl rfl (by omega) (by omega)
      exact ⟨_, rfl, ⟨hJ11, (show (0 : Int) ≤ (a0_' + (1 : Int32)).toInt by omega), (show (a0_' + (1 : Int32)).toInt ≤ (72 : Int) by omega)⟩, show (72 - (a0_' + (1 : Int32)).toInt).toNat < (72 - a0_'.toInt).toNat by omega⟩
theorem sf_Thief_roam (v1 : Nat) (M : Mem) (hk_v1 : kd v1 = 10 + 6) (hJ : J M) : ∃ r : Mem, f_Thief_roam v1 M = some r ∧ (J r) := by
  unfold f_Thief_roam
  refine c_i hk_v1 ?_
  refine bind_i (sl_Thief_roam_2 v1 (0 : Int32) M hk_v1 hJ (show (0 : Int) ≤ (0 : Int32).toInt by decide) (show (0 : Int32).toInt ≤ (72 : Int) by decide)) (fun x1 _ q => ?_)
  rcases x1 with y | y
  · have q9 : J y := q
    dsimp only [Sum.elim_inl, Sum.elim_inr]
    have h3 := q9
    exact ⟨y, rfl, h3⟩
  · have q9 : J y := q
    dsimp only [Sum.elim_inl, Sum.elim_inr]
    have h5 := q9
    exact ⟨y, rfl, h5⟩
theorem sf_Thief_isIn (v1 : Int32) (v2 : Int32) (M : Mem) (hJ : J M) : ∃ r : Int32, f_Thief_isIn v1 v2 M = some r ∧ ((0 : Int) ≤ r.toInt ∧ r.toInt ≤ (1 : Int)) := by
  unfold f_Thief_isIn
  refine if_i (fun c => ?_) (fun c => ?_)
  · have c1 := c
    have d2 : v1.toInt = (1 : Int) := eqi.mp c1
    unfold j_Thief_isIn_16
    refine if_i (fun c => ?_) (fun c => ?_)
    · have c3 := c
      have d4 : (lg_cmp (((M.2.1 151 3) >>> (v2.toInt64 &&& 63)) &&& (1 : Int64)) (0 : Int64)).toInt = (0 : Int) := eqi.mp c3
      exact ⟨(0 : Int32), rfl, (show (0 : Int) ≤ (0 : Int32).toInt by decide), (show (0 : Int32).toInt ≤ (1 : Int) by decide)⟩
    · have c5 := c
      have d6 : ¬ (lg_cmp (((M.2.1 151 3) >>> (v2.toInt64 &&& 63)) &&& (1 : Int64)) (0 : Int64)).toInt = (0 : Int) := neqi.mp c5
      exact ⟨(1 : Int32), rfl, (show (0 : Int) ≤ (1 : Int32).toInt by decide), (show (1 : Int32).toInt ≤ (1 : Int) by decide)⟩
  · have c7 := c
    have d8 : ¬ v1.toInt = (1 : Int) := neqi.mp c7
    unfold j_Thief_isIn_16
    refine if_i (fun c => ?_) (fun c => ?_)
    · have c9 := c
      have d10 : (lg_cmp (((M.2.1 151 2) >>> (v2.toInt64 &&& 63)) &&& (1 : Int64)) (0 : Int64)).toInt = (0 : Int) := eqi.mp c9
      exact ⟨(0 : Int32), rfl, (show (0 : Int) ≤ (0 : Int32).toInt by decide), (show (0 : Int32).toInt ≤ (1 : Int) by decide)⟩
    · have c11 := c
      have d12 : ¬ (lg_cmp (((M.2.1 151 2) >>> (v2.toInt64 &&& 63)) &&& (1 : Int64)) (0 : Int64)).toInt = (0 : Int) := neqi.mp c11
      exact ⟨(1 : Int32), rfl, (show (0 : Int) ≤ (1 : Int32).toInt by decide), (show (1 : Int32).toInt ≤ (1 : Int) by decide)⟩
theorem sf_Top_sign (v1 : Int32) (M : Mem) (hJ : J M) : ∃ r : Int32 × Mem, f_Top_sign v1 M = some r ∧ (J r.2 ∧ (-1 : Int) ≤ r.1.toInt ∧ r.1.toInt ≤ (80 : Int)) := by
  unfold f_Top_sign
  refine bind_i (sf_Signs_add v1 M hJ) (fun x1 _ q => ?_)
  obtain ⟨h1, h2, h3⟩ := q
  refine if_i (fun c => ?_) (fun c => ?_)
  · have c4 := c
    have d5 : x1.1.toInt = (0 : Int) := eqi.mp c4
    exact ⟨((-1 : Int32), x1.2), rfl, h1, (show (-1 : Int) ≤ (-1 : Int32).toInt by decide), (show (-1 : Int32).toInt ≤ (80 : Int) by decide)⟩
  · have c6 := c
    have d7 : ¬ x1.1.toInt = (0 : Int) := neqi.mp c6
    have r8 := Jr_1_1 h1
    exact ⟨((x1.2.1 1 1), x1.2), rfl, h1, (show (-1 : Int) ≤ (x1.2.1 1 1).toInt by omega), (show (x1.2.1 1 1).toInt ≤ (80 : Int) by omega)⟩
theorem sf_Top_end (v1 : Int32) (M : Mem) (hJ : J M) : ∃ r : Int32 × Mem, f_Top_end v1 M = some r ∧ (J r.2 ∧ (0 : Int) ≤ r.1.toInt ∧ r.1.toInt ≤ (1 : Int)) := by
  unfold f_Top_end
  refine if_i (fun c => ?_) (fun c => ?_)
  · have c1 := c
    have d2 : v1.toInt < (0 : Int) := lti.mp c1
    exact ⟨((0 : Int32), M), rfl, hJ, (show (0 : Int) ≤ (0 : Int32).toInt by decide), (show (0 : Int32).toInt ≤ (1 : Int) by decide)⟩
  · have c3 := c
    have d4 : (0 : Int) ≤ v1.toInt := nlti.mp c3
    refine if_i (fun c => ?_) (fun c => ?_)
    · have c5 := c
      have r6 := Jr_1_1 hJ
      have d7 : v1.toInt ≤ (M.1 1 1).toInt := lei.mp c5
      refine mem_i (fun M1 e9 => ?_)
      have hJ10 : J M1 := by rw [e9]; exact Jw_1_1 hJ v1 (show (0 : Int) ≤ v1.toInt by omega) (show v1.toInt ≤ (80 : Int) by omega)
      have f11 : (M1.1 1 1).toInt = v1.toInt := by rw [e9, si_eq]
      clear e9
      exact ⟨((1 : Int32), M1), rfl, hJ10, (show (0 : Int) ≤ (1 : Int32).toInt by decide), (show (1 : Int32).toInt ≤ (1 : Int) by decide)⟩
    · have c12 := c
      have r13 := Jr_1_1 hJ
      have d14 : (M.1 1 1).toInt < v1.toInt := nlei.mp c12
      exact ⟨((0 : Int32), M), rfl, hJ, (show (0 : Int) ≤ (0 : Int32).toInt by decide), (show (0 : Int32).toInt ≤ (1 : Int) by decide)⟩
theorem sf_Top_town (M : Mem) (hJ : J M) : ∃ r : Int32 × Mem, f_Top_town M = some r ∧ (J r.2 ∧ (-81 : Int) ≤ r.1.toInt ∧ r.1.toInt ≤ (36 : Int)) := by
  unfold f_Top_town
  refine bind_i (sf_Ground_read M hJ) (fun x1 _ q => ?_)
  obtain ⟨h1, h2, h3⟩ := q
  refine mem_i (fun M2 e5 => ?_)
  have hJ6 : J M2 := by rw [e5]; exact Jw_1_1 h1 (0 : Int32) (show (0 : Int) ≤ (0 : Int32).toInt by decide) (show (0 : Int32).toInt ≤ (80 : Int) by decide)
  have f7 : (M2.1 1 1).toInt = (0 : Int) := by rw [e5, si_eq]; rfl
  clear e5
  refine if_i (fun c => ?_) (fun c => ?_)
  · have c8 := c
    have d9 : (0 : Int) ≤ x1.1.toInt := lei.mp c8
    refine bind_i (sf_Crowd_clear M2 hJ6) (fun x3 _ q => ?_)
    have h10 := q
    refine bind_i (sf_Scene_clear 11 x3 kd_11 h10) (fun x4 _ q => ?_)
    have h11 := q
    refine bind_i (sf_History_clear x4 h11) (fun x5 _ q => ?_)
    have h12 := q
    refine mem_i (fun M6 e14 => ?_)
    have hJ15 : J M6 := by rw [e14]; exact Jw_any ok_0 h12 16 (-1 : Int32)
    have f16 : (M6.1 0 16).toInt = (-1 : Int) := by rw [e14, si_eq]; rfl
    clear e14
    refine bind_i (sf_Nets_lay 32 11 (-1 : Int32) M6 kd_32 kd_11 hJ15) (fun x7 _ q => ?_)
    have h17 := q
    exact ⟨(x1.1, x7), rfl, h17, (show (-81 : Int) ≤ x1.1.toInt by omega), (show x1.1.toInt ≤ (36 : Int) by omega)⟩
  · have c18 := c
    have d19 : x1.1.toInt < (0 : Int) := nlei.mp c18
    exact ⟨(x1.1, M2), rfl, hJ6, (show (-81 : Int) ≤ x1.1.toInt by omega), (show x1.1.toInt ≤ (36 : Int) by omega)⟩
theorem sl_Top_folk_48 (v1 : Int32) (a0_ : Int32) (N_ : Mem) (hp_v1 : (1 : Int) ≤ v1.toInt ∧ v1.toInt ≤ (9 : Int)) (hN : J N_) (i1_ : (0 : Int) ≤ a0_.toInt) (i2_ : a0_.toInt ≤ (8 : Int)) : ∃ x, iter (lb_Top_folk_48 v1) FU (a0_, N_) = some x ∧ (fun r : Mem => J r) x := by
  refine iter_r (fun s : Int32 × Mem => J s.2 ∧ (0 : Int) ≤ s.1.toInt ∧ s.1.toInt ≤ (8 : Int)) (fun s : Int32 × Mem => (8 - s.1.toInt).toNat) (fun r : Mem => J r) ?_ FU (a0_, N_) ⟨hN, i1_, i2_⟩ (by show (8 - a0_.toInt).toNat < FU; rw [FU_v]; omega)
  clear i2_ i1_ hN
  rintro ⟨a0_', N_'⟩ ⟨hN, i1_, i2_⟩
  dsimp only at hN i1_ i2_
  unfold lb_Top_folk_48
  dsimp only
  refine if_i (fun c => ?_) (fun c => ?_)
  · have c1 := c
    have r2 := Jr_6_4 hN
    have d3 : (N_'.1 6 4).toInt ≤ a0_'.toInt := lei.mp c1
    exact ⟨_, rfl, hN⟩
  · have c4 := c
    have r5 := Jr_6_4 hN
    have d6 : a0_'.toInt < (N_'.1 6 4).toInt := nlei.mp c4
    refine inb_i (by omega) (by omega) ?_
    refine bind_i (sf_Crowd_woman a0_' N_' hN) (fun x4 _ q => ?_)
    obtain ⟨h7, h8⟩ := q
    refine if_i (fun c => ?_) (fun c => ?_)
    · have c9 := c
      have d10 : x4.toInt = (0 : Int) := eqi.mp c9
      unfold j_Top_folk_89_48
      have r11 := Jr_9 hN a0_'.toNatClampNeg
      refine bind_i (sf_Scene_put 11 a0_' (N_'.1 9 a0_'.toNatClampNeg) (0 : Int32) N_' kd_11 (⟨show (0 : Int) ≤ a0_'.toInt by omega, show a0_'.toInt ≤ (7 : Int) by omega⟩) (⟨show (0 : Int) ≤ (N_'.1 9 a0_'.toNatClampNeg).toInt by omega, show (N_'.1 9 a0_'.toNatClampNeg).toInt ≤ (35 : Int) by omega⟩) (⟨by decide, by decide⟩) hN) (fun x5 _ q => ?_)
      have h12 := q
      have q13 : (a0_' + (1 : Int32)).toInt = a0_'.toInt + (1 : Int) := add_ti rfl rfl (by omega) (by omega)
      exact ⟨_, rfl, ⟨h12, (show (0 : Int) ≤ (a0_' + (1 : Int32)).toInt by omega), (show (a0_' + (1 : Int32)).toInt ≤ (8 : Int) by omega)⟩, show (8 - (a0_' + (1 : Int32)).toInt).toNat < (8 - a0_'.toInt).toNat by omega⟩
    · have c14 := c
      have d15 : ¬ x4.toInt = (0 : Int) := neqi.mp c14
      unfold j_Top_folk_89_48
      have r16 := Jr_9 hN a0_'.toNatClampNeg
      refine bind_i (sf_Scene_put 11 a0_' (N_'.1 9 a0_'.toNatClampNeg) (1 : Int32) N_' kd_11 (⟨show (0 : Int) ≤ a0_'.toInt by omega, show a0_'.toInt ≤ (7 : Int) by omega⟩) (⟨show (0 : Int) ≤ (N_'.1 9 a0_'.toNatClampNeg).toInt by omega, show (N_'.1 9 a0_'.toNatClampNeg).toInt ≤ (35 : Int) by omega⟩) (⟨by decide, by decide⟩) hN) (fun x5 _ q => ?_)
      have h17 := q
      have q18 : (a0_' + (1 : Int32)).toInt = a0_'.toInt + (1 : Int) := add_ti rfl rfl (by omega) (by omega)
      exact ⟨_, rfl, ⟨h17, (show (0 : Int) ≤ (a0_' + (1 : Int32)).toInt by omega), (show (a0_' + (1 : Int32)).toInt ≤ (8 : Int) by omega)⟩, show (8 - (a0_' + (1 : Int32)).toInt).toNat < (8 - a0_'.toInt).toNat by omega⟩
theorem sf_Top_folk (M : Mem) (hJ : J M) : ∃ r : Int32 × Mem, f_Top_folk M = some r ∧ (J r.2 ∧ (-84 : Int) ≤ r.1.toInt ∧ r.1.toInt ≤ (9 : Int)) := by
  unfold f_Top_folk
  refine bind_i (sf_Crowd_read M hJ) (fun x1 _ q => ?_)
  obtain ⟨h1, h2, h3, h4⟩ := q
  have r5 := Jr_6_4 h1
  refine mem_i (fun M2 e7 => ?_)
  have hJ8 : J M2 := by rw [e7]; exact Jw_1_1 h1 (0 : Int32) (show (0 : Int) ≤ (0 : Int32).toInt by decide) (show (0 : Int32).toInt ≤ (80 : Int) by decide)
  have f9 : (M2.1 6 4).toInt = (x1.2.1 6 4).toInt := by rw [e7]; rw [si_ne (by exact fun e => absurd e.1 (by decide))]
  have f10 : (M2.1 1 1).toInt = (0 : Int) := by rw [e7, si_eq]; rfl
  clear e7
  refine if_i (fun c => ?_) (fun c => ?_)
  · have c11 := c
    have d12 : (0 : Int) < x1.1.toInt := lti.mp c11
    refine bind_i (sf_Crowd_letIn x1.1 M2 (⟨show (0 : Int) ≤ x1.1.toInt by omega, show x1.1.toInt ≤ (8 : Int) by omega⟩) hJ8 (show (M2.1 6 4).toInt + x1.1.toInt ≤ (8 : Int) by omega)) (fun x3 _ q => ?_)
    have h13 := q
    refine bind_i (sl_Top_folk_48 x1.1 (M2.1 6 4) x3 (⟨show (1 : Int) ≤ x1.1.toInt by omega, show x1.1.toInt ≤ (9 : Int) by omega⟩) h13 (show (0 : Int) ≤ (M2.1 6 4).toInt by omega) (show (M2.1 6 4).toInt ≤ (8 : Int) by omega)) (fun x8 _ q => ?_)
    have h14 := q
    refine bind_i (sf_History_forget x8 h14) (fun x9 _ q => ?_)
    have h15 := q
    refine bind_i (sf_History_spoil x9 h15) (fun x10 _ q => ?_)
    have h16 := q
    exact ⟨(x1.1, x10), rfl, h16, (show (-84 : Int) ≤ x1.1.toInt by omega), (show x1.1.toInt ≤ (9 : Int) by omega)⟩
  · have c17 := c
    have d18 : x1.1.toInt ≤ (0 : Int) := nlti.mp c17
    exact ⟨(x1.1, M2), rfl, hJ8, (show (-84 : Int) ≤ x1.1.toInt by omega), (show x1.1.toInt ≤ (9 : Int) by omega)⟩
theorem sf_Top_rule (M : Mem) (hJ : J M) : ∃ r : Int32 × Mem, f_Top_rule M = some r ∧ (J r.2 ∧ (-83 : Int) ≤ r.1.toInt ∧ r.1.toInt ≤ (0 : Int)) := by
  unfold f_Top_rule
  refine bind_i (sf_Law_read M hJ) (fun x1 _ q => ?_)
  obtain ⟨h1, h2, h3⟩ := q
  refine mem_i (fun M2 e5 => ?_)
  have hJ6 : J M2 := by rw [e5]; exact Jw_1_1 h1 (0 : Int32) (show (0 : Int) ≤ (0 : Int32).toInt by decide) (show (0 : Int32).toInt ≤ (80 : Int) by decide)
  have f7 : (M2.1 1 1).toInt = (0 : Int) := by rw [e5, si_eq]; rfl
  clear e5
  exact ⟨(x1.1, M2), rfl, hJ6, (show (-83 : Int) ≤ x1.1.toInt by omega), (show x1.1.toInt ≤ (0 : Int) by omega)⟩
theorem sf_Top_route (v1 : Int32) (M : Mem) (hJ : J M) : ∃ r : Int32 × Mem, f_Top_route v1 M = some r ∧ (J r.2 ∧ (-100 : Int) ≤ r.1.toInt ∧ r.1.toInt ≤ (9 : Int)) := by
  unfold f_Top_route
  refine bind_i (sf_Crowd_has v1 M hJ) (fun x1 _ q => ?_)
  obtain ⟨h1, h2, h3⟩ := q
  refine if_i (fun c => ?_) (fun c => ?_)
  · have c4 := c
    have d5 : x1.toInt = (0 : Int) := eqi.mp c4
    unfold j_Top_route_28
    refine mem_i (fun M2 e7 => ?_)
    have hJ8 : J M2 := by rw [e7]; exact Jw_1_1 hJ (0 : Int32) (show (0 : Int) ≤ (0 : Int32).toInt by decide) (show (0 : Int32).toInt ≤ (80 : Int) by decide)
    have f9 : (M2.1 1 1).toInt = (0 : Int) := by rw [e7, si_eq]; rfl
    clear e7
    refine if_i (fun c => ?_) (fun c => ?_)
    · have c10 := c
      have d11 : (0 : Int) ≤ (-100 : Int) := lei.mp c10
      exfalso; omega
    · have c12 := c
      have d13 : (-100 : Int) < (0 : Int) := nlei.mp c12
      exact ⟨((-100 : Int32), M2), rfl, hJ8, (show (-100 : Int) ≤ (-100 : Int32).toInt by decide), (show (-100 : Int32).toInt ≤ (9 : Int) by decide)⟩
  · have c14 := c
    have d15 : ¬ x1.toInt = (0 : Int) := neqi.mp c14
    refine bind_i (sf_Crowd_tellWay v1 M hJ) (fun x7 _ q => ?_)
    obtain ⟨h16, h17, h18⟩ := q
    unfold j_Top_route_28
    refine mem_i (fun M2 e20 => ?_)
    have hJ21 : J M2 := by rw [e20]; exact Jw_1_1 h16 (0 : Int32) (show (0 : Int) ≤ (0 : Int32).toInt by decide) (show (0 : Int32).toInt ≤ (80 : Int) by decide)
    have f22 : (M2.1 1 1).toInt = (0 : Int) := by rw [e20, si_eq]; rfl
    clear e20
    refine if_i (fun c => ?_) (fun c => ?_)
    · have c23 := c
      have d24 : (0 : Int) ≤ x7.1.toInt := lei.mp c23
      refine inb_i (by omega) (by omega) ?_
      refine mem_i (fun M3 e26 => ?_)
      have hJ27 : J M3 := by rw [e26]; exact Jw_any ok_14 hJ21 v1.toNatClampNeg (0 : Int32)
      have f28 : (M3.1 1 1).toInt = (M2.1 1 1).toInt := by rw [e26]; rw [si_ne (by exact fun e => absurd e.1 (by decide))]
      clear e26
      refine bind_i (sf_History_forget M3 hJ27) (fun x4 _ q => ?_)
      have h29 := q
      refine bind_i (sf_History_spoil x4 h29) (fun x5 _ q => ?_)
      have h30 := q
      exact ⟨(x7.1, x5), rfl, h30, (show (-100 : Int) ≤ x7.1.toInt by omega), (show x7.1.toInt ≤ (9 : Int) by omega)⟩
    · have c31 := c
      have d32 : x7.1.toInt < (0 : Int) := nlei.mp c31
      exact ⟨(x7.1, M2), rfl, hJ21, (show (-100 : Int) ≤ x7.1.toInt by omega), (show x7.1.toInt ≤ (9 : Int) by omega)⟩
theorem sl_Top_canBecome_2 (v1 : Int32) (v2 : Int32) (M : Mem) (a0_ : Int32) (hJ_M : J M) (i0_ : (0 : Int) ≤ a0_.toInt) (i1_ : a0_.toInt ≤ (2 : Int)) : ∃ x, iter (lb_Top_canBecome_2 v1 v2 M) FU a0_ = some x ∧ (SQ (fun r : Unit => True) (fun r : Unit => True)) x := by
  refine iter_r (fun s : Int32 => (0 : Int) ≤ s.toInt ∧ s.toInt ≤ (2 : Int)) (fun s : Int32 => (2 - s.toInt).toNat) (SQ (fun r : Unit => True) (fun r : Unit => True)) ?_ FU a0_ ⟨i0_, i1_⟩ (by show (2 - a0_.toInt).toNat < FU; rw [FU_v]; omega)
  clear i1_ i0_
  rintro a0_' ⟨i0_, i1_⟩
  unfold lb_Top_canBecome_2
  refine if_i (fun c => ?_) (fun c => ?_)
  · have c1 := c
    have d2 : (1 : Int) < a0_'.toInt := lti.mp c1
    exact ⟨_, rfl, trivial⟩
  · have c3 := c
    have d4 : a0_'.toInt ≤ (1 : Int) := nlti.mp c3
    refine if_i (fun c => ?_) (fun c => ?_)
    · have c5 := c
      have q6 : (0 : Int) ≤ ((v2 >>> (a0_' &&& 31)) &&& (1 : Int32)).toInt ∧ ((v2 >>> (a0_' &&& 31)) &&& (1 : Int32)).toInt ≤ 1 := and_rng (by decide)
      have d7 : ((v2 >>> (a0_' &&& 31)) &&& (1 : Int32)).toInt = (0 : Int) := eqi.mp c5
      unfold j_Top_canBecome_20_2
      refine if_i (fun c => ?_) (fun c => ?_)
      · have c8 := c
        have d9 : (1 : Int) = (0 : Int) := eqi.mp c8
        exfalso; omega
      · have c10 := c
        have d11 : ¬ (1 : Int) = (0 : Int) := neqi.mp c10
        have r12 := Jr_6_4 hJ_M
        refine bind_i (sf_Scene_standing 11 a0_' v1 (M.1 6 4) M kd_11 (⟨show (0 : Int) ≤ (M.1 6 4).toInt by omega, show (M.1 6 4).toInt ≤ (8 : Int) by omega⟩) hJ_M) (fun x1 _ q => ?_)
        refine if_i (fun c => ?_) (fun c => ?_)
        · have c13 := c
          have d14 : x1.toInt = (0 : Int) := eqi.mp c13
          have q15 : (a0_' + (1 : Int32)).toInt = a0_'.toInt + (1 : Int) := add_ti rfl rfl (by omega) (by omega)
          exact ⟨_, rfl, ⟨(show (0 : Int) ≤ (a0_' + (1 : Int32)).toInt by omega), (show (a0_' + (1 : Int32)).toInt ≤ (2 : Int) by omega)⟩, show (2 - (a0_' + (1 : Int32)).toInt).toNat < (2 - a0_'.toInt).toNat by omega⟩
        · have c16 := c
          have d17 : ¬ x1.toInt = (0 : Int) := neqi.mp c16
          exact ⟨_, rfl, trivial⟩
    · have c18 := c
      have q19 : (0 : Int) ≤ ((v2 >>> (a0_' &&& 31)) &&& (1 : Int32)).toInt ∧ ((v2 >>> (a0_' &&& 31)) &&& (1 : Int32)).toInt ≤ 1 := and_rng (by decide)
      have d20 : ¬ ((v2 >>> (a0_' &&& 31)) &&& (1 : Int32)).toInt = (0 : Int) := neqi.mp c18
      unfold j_Top_canBecome_20_2
      refine if_i (fun c => ?_) (fun c => ?_)
      · have c21 := c
        have d22 : (0 : Int) = (0 : Int) := eqi.mp c21
        have q23 : (a0_' + (1 : Int32)).toInt = a0_'.toInt + (1 : Int) := add_ti rfl rfl (by omega) (by omega)
        exact ⟨_, rfl, ⟨(show (0 : Int) ≤ (a0_' + (1 : Int32)).toInt by omega), (show (a0_' + (1 : Int32)).toInt ≤ (2 : Int) by omega)⟩, show (2 - (a0_' + (1 : Int32)).toInt).toNat < (2 - a0_'.toInt).toNat by omega⟩
      · have c24 := c
        have d25 : ¬ (0 : Int) = (0 : Int) := neqi.mp c24
        exfalso; omega
theorem sf_Top_canBecome (v1 : Int32) (v2 : Int32) (M : Mem) (hJ : J M) : ∃ r : Int32, f_Top_canBecome v1 v2 M = some r ∧ ((0 : Int) ≤ r.toInt ∧ r.toInt ≤ (1 : Int)) := by
  unfold f_Top_canBecome
  refine bind_i (sl_Top_canBecome_2 v1 v2 M (0 : Int32) hJ (show (0 : Int) ≤ (0 : Int32).toInt by decide) (show (0 : Int32).toInt ≤ (2 : Int) by decide)) (fun x1 _ q => ?_)
  rcases x1 with y | y
  · have q9 : True := q
    dsimp only [Sum.elim_inl, Sum.elim_inr]
    refine if_i (fun c => ?_) (fun c => ?_)
    · have c3 := c
      have q4 : (0 : Int) ≤ ((v2 >>> ((1 : Int32) &&& 31)) &&& (1 : Int32)).toInt ∧ ((v2 >>> ((1 : Int32) &&& 31)) &&& (1 : Int32)).toInt ≤ 1 := and_rng (by decide)
      have d5 : ((v2 >>> ((1 : Int32) &&& 31)) &&& (1 : Int32)).toInt = (0 : Int) := eqi.mp c3
      unfold j_Top_canBecome_67
      refine if_i (fun c => ?_) (fun c => ?_)
      · have c6 := c
        have d7 : (0 : Int) = (0 : Int) := eqi.mp c6
        refine bind_i (sf_Scene_planksAt 11 v1 M kd_11 hJ) (fun x8 _ q => ?_)
        refine if_i (fun c => ?_) (fun c => ?_)
        · have c8 := c
          have d9 : x8.toInt = (0 : Int) := eqi.mp c8
          exact ⟨(1 : Int32), rfl, (show (0 : Int) ≤ (1 : Int32).toInt by decide), (show (1 : Int32).toInt ≤ (1 : Int) by decide)⟩
        · have c10 := c
          have d11 : ¬ x8.toInt = (0 : Int) := neqi.mp c10
          exact ⟨(0 : Int32), rfl, (show (0 : Int) ≤ (0 : Int32).toInt by decide), (show (0 : Int32).toInt ≤ (1 : Int) by decide)⟩
      · have c12 := c
        have d13 : ¬ (0 : Int) = (0 : Int) := neqi.mp c12
        exfalso; omega
    · have c14 := c
      have q15 : (0 : Int) ≤ ((v2 >>> ((1 : Int32) &&& 31)) &&& (1 : Int32)).toInt ∧ ((v2 >>> ((1 : Int32) &&& 31)) &&& (1 : Int32)).toInt ≤ 1 := and_rng (by decide)
      have d16 : ¬ ((v2 >>> ((1 : Int32) &&& 31)) &&& (1 : Int32)).toInt = (0 : Int) := neqi.mp c14
      unfold j_Top_canBecome_67
      refine if_i (fun c => ?_) (fun c => ?_)
      · have c17 := c
        have d18 : (1 : Int) = (0 : Int) := eqi.mp c17
        exfalso; omega
      · have c19 := c
        have d20 : ¬ (1 : Int) = (0 : Int) := neqi.mp c19
        refine bind_i (sf_Scene_isUnderPlank 11 v1 M kd_11 hJ) (fun x10 _ q => ?_)
        obtain ⟨h21, h22⟩ := q
        refine if_i (fun c => ?_) (fun c => ?_)
        · have c23 := c
          have d24 : x10.toInt = (0 : Int) := eqi.mp c23
          exact ⟨(1 : Int32), rfl, (show (0 : Int) ≤ (1 : Int32).toInt by decide), (show (1 : Int32).toInt ≤ (1 : Int) by decide)⟩
        · have c25 := c
          have d26 : ¬ x10.toInt = (0 : Int) := neqi.mp c25
          exact ⟨(0 : Int32), rfl, (show (0 : Int) ≤ (0 : Int32).toInt by decide), (show (0 : Int32).toInt ≤ (1 : Int) by decide)⟩
  · have q9 : True := q
    dsimp only [Sum.elim_inl, Sum.elim_inr]
    exact ⟨(0 : Int32), rfl, (show (0 : Int) ≤ (0 : Int32).toInt by decide), (show (0 : Int32).toInt ≤ (1 : Int) by decide)⟩
theorem sf_Top_build (v1 : Int32) (v2 : Int32) (M : Mem) (hJ : J M) : ∃ r : Int32 × Mem, f_Top_build v1 v2 M = some r ∧ (J r.2) := by
  unfold f_Top_build
  refine bind_i (sf_Ground_has v1 M hJ) (fun x1 _ q => ?_)
  obtain ⟨h1, h2, h3⟩ := q
  refine if_i (fun c => ?_) (fun c => ?_)
  · have c4 := c
    have d5 : x1.toInt = (0 : Int) := eqi.mp c4
    exact ⟨((-1 : Int32), M), rfl, hJ⟩
  · have c6 := c
    have d7 : ¬ x1.toInt = (0 : Int) := neqi.mp c6
    refine if_i (fun c => ?_) (fun c => ?_)
    · have c8 := c
      have d9 : v2.toInt < (0 : Int) := lti.mp c8
      exact ⟨((-1 : Int32), M), rfl, hJ⟩
    · have c10 := c
      have d11 : (0 : Int) ≤ v2.toInt := nlti.mp c10
      refine if_i (fun c => ?_) (fun c => ?_)
      · have c12 := c
        have d13 : (3 : Int) < v2.toInt := lti.mp c12
        exact ⟨((-1 : Int32), M), rfl, hJ⟩
      · have c14 := c
        have d15 : v2.toInt ≤ (3 : Int) := nlti.mp c14
        refine bind_i (sf_Top_canBecome v1 v2 M hJ) (fun x2 _ q => ?_)
        obtain ⟨h16, h17⟩ := q
        refine if_i (fun c => ?_) (fun c => ?_)
        · have c18 := c
          have d19 : x2.toInt = (0 : Int) := eqi.mp c18
          exact ⟨((-1 : Int32), M), rfl, hJ⟩
        · have c20 := c
          have d21 : ¬ x2.toInt = (0 : Int) := neqi.mp c20
          refine inb_i (by omega) (by omega) ?_
          refine inb_i (by omega) (by omega) ?_
          refine mem_i (fun M3 e23 => ?_)
          have hJ24 : J M3 := by rw [e23]; exact Jw_any ok_4 hJ v1.toNatClampNeg v2
          clear e23
          refine bind_i (sf_History_forget M3 hJ24) (fun x4 _ q => ?_)
          have h25 := q
          refine bind_i (sf_History_spoil x4 h25) (fun x5 _ q => ?_)
          have h26 := q
          refine bind_i (sf_Nets_lay 32 11 (-1 : Int32) x5 kd_32 kd_11 h26) (fun x6 _ q => ?_)
          have h27 := q
          exact ⟨((M.1 4 v1.toNatClampNeg), x6), rfl, h27⟩
