/-! safety of the class, 3 -/
theorem sf_Crowd_clear (M : Mem) (hJ : J M) : ∃ r : Mem, f_Crowd_clear M = some r ∧ (J r) := by
  unfold f_Crowd_clear
  refine mem_i (fun M1 e2 => ?_)
  have hJ3 : J M1 := by rw [e2]; exact Jw_6_4 hJ (0 : Int32) (show (0 : Int) ≤ (0 : Int32).toInt by decide) (show (0 : Int32).toInt ≤ (8 : Int) by decide)
  have f4 : (M1.1 6 4).toInt = (0 : Int) := by rw [e2, si_eq]; rfl
  clear e2
  refine mem_i (fun M2 e6 => ?_)
  have hJ7 : J M2 := by rw [e6]; exact Jw_fld okf_6_5 hJ3 (0 : Int32)
  have f8 : (M2.1 6 4).toInt = (M1.1 6 4).toInt := by rw [e6]; rw [si_ne (by exact fun e => absurd e.2 (by decide))]
  have f9 : (M2.1 6 5).toInt = (0 : Int) := by rw [e6, si_eq]; rfl
  clear e6
  exact ⟨M2, rfl, hJ7⟩
theorem sl_Crowd_isCutOff_26 (v2 : Int32) (M : Mem) (a0_ : Int32) (hJ_M : J M) (i0_ : (0 : Int) ≤ a0_.toInt) (i1_ : a0_.toInt ≤ (10 : Int)) : ∃ x, iter (lb_Crowd_isCutOff_26 v2 M) FU a0_ = some x ∧ (SQ (fun r : Unit => True) (fun r : Unit => True)) x := by
  refine iter_r (fun s : Int32 => (0 : Int) ≤ s.toInt ∧ s.toInt ≤ (10 : Int)) (fun s : Int32 => (10 - s.toInt).toNat) (SQ (fun r : Unit => True) (fun r : Unit => True)) ?_ FU a0_ ⟨i0_, i1_⟩ (by show (10 - a0_.toInt).toNat < FU; rw [FU_v]; omega)
  clear i1_ i0_
  rintro a0_' ⟨i0_, i1_⟩
  unfold lb_Crowd_isCutOff_26
  refine if_i (fun c => ?_) (fun c => ?_)
  · have c1 := c
    have d2 : (10 : Int) ≤ a0_'.toInt := lei.mp c1
    exact ⟨_, rfl, trivial⟩
  · have c3 := c
    have d4 : a0_'.toInt < (10 : Int) := nlei.mp c3
    refine bind_i (sf_Ground_holds v2 (((M.1 1 2) * (10 : Int32)) + a0_') M hJ_M) (fun x1 _ q => ?_)
    obtain ⟨h5, h6, h7, h8⟩ := q
    refine if_i (fun c => ?_) (fun c => ?_)
    · have c9 := c
      have d10 : x1.toInt = (0 : Int) := eqi.mp c9
      have q11 : (a0_' + (1 : Int32)).toInt = a0_'.toInt + (1 : Int) := add_ti rfl rfl (by omega) (by omega)
      exact ⟨_, rfl, ⟨(show (0 : Int) ≤ (a0_' + (1 : Int32)).toInt by omega), (show (a0_' + (1 : Int32)).toInt ≤ (10 : Int) by omega)⟩, show (10 - (a0_' + (1 : Int32)).toInt).toNat < (10 - a0_'.toInt).toNat by omega⟩
    · have c12 := c
      have d13 : ¬ x1.toInt = (0 : Int) := neqi.mp c12
      exact ⟨_, rfl, trivial⟩
theorem sf_Crowd_isCutOff (v2 : Int32) (v3 : Int32) (v4 : Int32) (M : Mem) (hJ : J M) : ∃ r : Int32, f_Crowd_isCutOff v2 v3 v4 M = some r ∧ ((0 : Int) ≤ r.toInt ∧ r.toInt ≤ (1 : Int)) := by
  unfold f_Crowd_isCutOff
  refine if_i (fun c => ?_) (fun c => ?_)
  · have c1 := c
    have d2 : v4.toInt = (1 : Int) := eqi.mp c1
    refine if_i (fun c => ?_) (fun c => ?_)
    · have c3 := c
      have d4 : v3.toInt = (76 : Int) := eqi.mp c3
      refine if_i (fun c => ?_) (fun c => ?_)
      · have c5 := c
        have r6 := Jr_1_1 hJ
        have d7 : (76 : Int) < (M.1 1 1).toInt := lti.mp c5
        refine bind_i (sl_Crowd_isCutOff_26 v2 M (0 : Int32) hJ (show (0 : Int) ≤ (0 : Int32).toInt by decide) (show (0 : Int32).toInt ≤ (10 : Int) by decide)) (fun x8 _ q => ?_)
        rcases x8 with y | y
        · have q9 : True := q
          dsimp only [Sum.elim_inl, Sum.elim_inr]
          exact ⟨(0 : Int32), rfl, (show (0 : Int) ≤ (0 : Int32).toInt by decide), (show (0 : Int32).toInt ≤ (1 : Int) by decide)⟩
        · have q9 : True := q
          dsimp only [Sum.elim_inl, Sum.elim_inr]
          exact ⟨(1 : Int32), rfl, (show (0 : Int) ≤ (1 : Int32).toInt by decide), (show (1 : Int32).toInt ≤ (1 : Int) by decide)⟩
      · have c11 := c
        have r12 := Jr_1_1 hJ
        have d13 : (M.1 1 1).toInt ≤ (76 : Int) := nlti.mp c11
        exact ⟨(0 : Int32), rfl, (show (0 : Int) ≤ (0 : Int32).toInt by decide), (show (0 : Int32).toInt ≤ (1 : Int) by decide)⟩
    · have c14 := c
      have d15 : ¬ v3.toInt = (76 : Int) := neqi.mp c14
      exact ⟨(0 : Int32), rfl, (show (0 : Int) ≤ (0 : Int32).toInt by decide), (show (0 : Int32).toInt ≤ (1 : Int) by decide)⟩
  · have c16 := c
    have d17 : ¬ v4.toInt = (1 : Int) := neqi.mp c16
    exact ⟨(0 : Int32), rfl, (show (0 : Int) ≤ (0 : Int32).toInt by decide), (show (0 : Int32).toInt ≤ (1 : Int) by decide)⟩
theorem sf_Crowd_readLine (v3 : Int32) (v4 : Int32) (M : Mem) (hp_v4 : (0 : Int) ≤ v4.toInt ∧ v4.toInt ≤ (80 : Int)) (hJ : J M) : ∃ r : Int32 × Mem, f_Crowd_readLine v3 v4 M = some r ∧ (J r.2 ∧ (-84 : Int) ≤ r.1.toInt ∧ r.1.toInt ≤ (89 : Int) ∧ ((0 : Int) ≤ r.1.toInt → (0 : Int) ≤ v3.toInt ∧ v3.toInt ≤ (7 : Int)) ∧ r.2.1 6 4 = M.1 6 4) := by
  unfold f_Crowd_readLine
  refine bind_i (sf_Signs_at v4 (76 : Int32) M hJ) (fun x1 _ q => ?_)
  obtain ⟨h1, h2, h3⟩ := q
  refine if_i (fun c => ?_) (fun c => ?_)
  · have c4 := c
    have d5 : v3.toInt < (0 : Int) := lti.mp c4
    have q6 : ((-1 : Int32) - v4).toInt = (-1 : Int) - v4.toInt := sub_ti rfl rfl (by omega) (by omega)
    exact ⟨(((-1 : Int32) - v4), M), rfl, hJ, (show (-84 : Int) ≤ ((-1 : Int32) - v4).toInt by rw [q6]; clear q6; omega), (show ((-1 : Int32) - v4).toInt ≤ (89 : Int) by rw [q6]; clear q6; omega), (fun hh => by have hh : (0 : Int) ≤ ((-1 : Int32) - v4).toInt := hh; rw [q6] at hh; clear q6; omega), (rfl)⟩
  · have c7 := c
    have d8 : (0 : Int) ≤ v3.toInt := nlti.mp c7
    refine if_i (fun c => ?_) (fun c => ?_)
    · have c9 := c
      have d10 : (8 : Int) ≤ v3.toInt := lei.mp c9
      have q11 : ((-1 : Int32) - v4).toInt = (-1 : Int) - v4.toInt := sub_ti rfl rfl (by omega) (by omega)
      exact ⟨(((-1 : Int32) - v4), M), rfl, hJ, (show (-84 : Int) ≤ ((-1 : Int32) - v4).toInt by rw [q11]; clear q11; omega), (show ((-1 : Int32) - v4).toInt ≤ (89 : Int) by rw [q11]; clear q11; omega), (fun hh => by have hh : (0 : Int) ≤ ((-1 : Int32) - v4).toInt := hh; rw [q11] at hh; clear q11; omega), (rfl)⟩
    · have c12 := c
      have d13 : v3.toInt < (8 : Int) := nlei.mp c12
      refine if_i (fun c => ?_) (fun c => ?_)
      · have c14 := c
        have d15 : x1.toInt = (109 : Int) := eqi.mp c14
        unfold j_Crowd_readLine_39
        refine if_i (fun c => ?_) (fun c => ?_)
        · have c16 := c
          have d17 : x1.toInt = (119 : Int) := eqi.mp c16
          exfalso; omega
        · have c18 := c
          have d19 : ¬ x1.toInt = (119 : Int) := neqi.mp c18
          unfold j_Crowd_readLine_51
          refine bind_i (sf_Signs_digits (v4 + (1 : Int32)) (76 : Int32) (2 : Int32) M (⟨by decide, by decide⟩) hJ) (fun x2 _ q => ?_)
          obtain ⟨h20, h21, h22, h23⟩ := q
          have g24 := h23.trans (rfl : M.1 6 4 = M.1 6 4)
          refine if_i (fun c => ?_) (fun c => ?_)
          · have c25 := c
            have d26 : x2.1.toInt = (0 : Int) := eqi.mp c25
            have q27 : (v4 + (1 : Int32)).toInt = v4.toInt + (1 : Int) := add_ti rfl rfl (by omega) (by omega)
            have q28 : ((v4 + (1 : Int32)) + x2.1).toInt = (v4 + (1 : Int32)).toInt + x2.1.toInt := add_ti rfl rfl (by omega) (by omega)
            have q29 : ((-1 : Int32) - ((v4 + (1 : Int32)) + x2.1)).toInt = (-1 : Int) - ((v4 + (1 : Int32)) + x2.1).toInt := sub_ti rfl rfl (by omega) (by omega)
            exact ⟨(((-1 : Int32) - ((v4 + (1 : Int32)) + x2.1)), x2.2), rfl, h20, (show (-84 : Int) ≤ ((-1 : Int32) - ((v4 + (1 : Int32)) + x2.1)).toInt by rw [q29]; clear q29; omega), (show ((-1 : Int32) - ((v4 + (1 : Int32)) + x2.1)).toInt ≤ (89 : Int) by rw [q29]; clear q29; omega), (fun hh => by have hh : (0 : Int) ≤ ((-1 : Int32) - ((v4 + (1 : Int32)) + x2.1)).toInt := hh; rw [q29] at hh; clear q29; omega), (g24)⟩
          · have c30 := c
            have d31 : ¬ x2.1.toInt = (0 : Int) := neqi.mp c30
            refine bind_i (sf_Ground_holds (0 : Int32) (x2.2.1 1 2) x2.2 h20) (fun x3 _ q => ?_)
            obtain ⟨h32, h33, h34, h35⟩ := q
            clear h34
            refine if_i (fun c => ?_) (fun c => ?_)
            · have c36 := c
              have d37 : x3.toInt = (0 : Int) := eqi.mp c36
              refine bind_i (sf_Crowd_isCutOff (0 : Int32) ((v4 + (1 : Int32)) + x2.1) x2.1 x2.2 h20) (fun x11 _ q => ?_)
              obtain ⟨h38, h39⟩ := q
              refine if_i (fun c => ?_) (fun c => ?_)
              · have c40 := c
                have d41 : x11.toInt = (0 : Int) := eqi.mp c40
                have q42 : (v4 + (1 : Int32)).toInt = v4.toInt + (1 : Int) := add_ti rfl rfl (by omega) (by omega)
                have q43 : ((v4 + (1 : Int32)) + x2.1).toInt = (v4 + (1 : Int32)).toInt + x2.1.toInt := add_ti rfl rfl (by omega) (by omega)
                have q44 : (-((v4 + (1 : Int32)) + x2.1)).toInt = -((v4 + (1 : Int32)) + x2.1).toInt := neg_ti rfl (by omega) (by omega)
                exact ⟨((-((v4 + (1 : Int32)) + x2.1)), x2.2), rfl, h20, (show (-84 : Int) ≤ (-((v4 + (1 : Int32)) + x2.1)).toInt by omega), (show (-((v4 + (1 : Int32)) + x2.1)).toInt ≤ (89 : Int) by omega), (fun hh => by have hh : (0 : Int) ≤ (-((v4 + (1 : Int32)) + x2.1)).toInt := hh; omega), (g24)⟩
              · have c45 := c
                have d46 : ¬ x11.toInt = (0 : Int) := neqi.mp c45
                have q47 : (v4 + (1 : Int32)).toInt = v4.toInt + (1 : Int) := add_ti rfl rfl (by omega) (by omega)
                have q48 : ((v4 + (1 : Int32)) + x2.1).toInt = (v4 + (1 : Int32)).toInt + x2.1.toInt := add_ti rfl rfl (by omega) (by omega)
                have q49 : ((-1 : Int32) - ((v4 + (1 : Int32)) + x2.1)).toInt = (-1 : Int) - ((v4 + (1 : Int32)) + x2.1).toInt := sub_ti rfl rfl (by omega) (by omega)
                exact ⟨(((-1 : Int32) - ((v4 + (1 : Int32)) + x2.1)), x2.2), rfl, h20, (show (-84 : Int) ≤ ((-1 : Int32) - ((v4 + (1 : Int32)) + x2.1)).toInt by rw [q49]; clear q49; omega), (show ((-1 : Int32) - ((v4 + (1 : Int32)) + x2.1)).toInt ≤ (89 : Int) by rw [q49]; clear q49; omega), (fun hh => by have hh : (0 : Int) ≤ ((-1 : Int32) - ((v4 + (1 : Int32)) + x2.1)).toInt := hh; rw [q49] at hh; clear q49; omega), (g24)⟩
            · have c50 := c
              have d51 : ¬ x3.toInt = (0 : Int) := neqi.mp c50
              have q52 : (v4 + (1 : Int32)).toInt = v4.toInt + (1 : Int) := add_ti rfl rfl (by omega) (by omega)
              have q53 : ((v4 + (1 : Int32)) + x2.1).toInt = (v4 + (1 : Int32)).toInt + x2.1.toInt := add_ti rfl rfl (by omega) (by omega)
              refine bind_i (sf_Signs_at ((v4 + (1 : Int32)) + x2.1) (76 : Int32) x2.2 h20) (fun x4 _ q => ?_)
              obtain ⟨h54, h55, h56⟩ := q
              refine if_i (fun c => ?_) (fun c => ?_)
              · have c57 := c
                have d58 : x4.toInt = (58 : Int) := eqi.mp c57
                refine inb_i (by omega) (by omega) ?_
                refine mem_i (fun M5 e60 => ?_)
                have hJ61 : J M5 := by rw [e60]; exact Jw_9 h20 v3.toNatClampNeg (x2.2.1 1 2) (show (0 : Int) ≤ (x2.2.1 1 2).toInt by omega) (show (x2.2.1 1 2).toInt ≤ (35 : Int) by omega)
                have f62 : (M5.1 1 2).toInt = (x2.2.1 1 2).toInt := by rw [e60]; rw [si_ne (by exact fun e => absurd e.1 (by decide))]
                have g63 : M5.1 6 4 = M.1 6 4 := (congrArg (fun m : Mem => m.1 6 4) e60).trans ((si_ne (by exact fun e => absurd e.1 (by decide))).trans g24)
                clear e60
                refine mem_i (fun M6 e65 => ?_)
                have hJ66 : J M6 := by rw [e65]; exact Jw_fld okf_6_6 hJ61 ((M5.1 6 6) ||| ((0 : Int32) <<< (v3 &&& 31)))
                have f67 : (M6.1 1 2).toInt = (M5.1 1 2).toInt := by rw [e65]; rw [si_ne (by exact fun e => absurd e.1 (by decide))]
                have g68 : M6.1 6 4 = M.1 6 4 := (congrArg (fun m : Mem => m.1 6 4) e65).trans ((si_ne (by exact fun e => absurd e.2 (by decide))).trans g63)
                clear e65
                have q69 : (v3 * (9 : Int32)).toInt = v3.toInt * (9 : Int) := mul_ti rfl rfl (by omega) (by omega)
                refine bind_i (sf_Signs_steps (((v4 + (1 : Int32)) + x2.1) + (1 : Int32)) (76 : Int32) 7 (v3 * (9 : Int32)) M6 FS_7 (⟨show (0 : Int) ≤ (v3 * (9 : Int32)).toInt by omega, show (v3 * (9 : Int32)).toInt ≤ (63 : Int) by omega⟩) hJ66) (fun x7 _ q => ?_)
                obtain ⟨h70, h71, h72, h73⟩ := q
                have g74 := h73.trans g68
                refine inb_i (by omega) (by omega) ?_
                refine mem_i (fun M8 e76 => ?_)
                have hJ77 : J M8 := by rw [e76]; exact Jw_any ok_8 h70 v3.toNatClampNeg x7.1
                have f78 : (M8.1 8 v3.toNatClampNeg).toInt = x7.1.toInt := by rw [e76, si_eq]
                have g79 : M8.1 6 4 = M.1 6 4 := (congrArg (fun m : Mem => m.1 6 4) e76).trans ((si_ne (by exact fun e => absurd e.1 (by decide))).trans g74)
                clear e76
                refine inb_i (by omega) (by omega) ?_
                refine inb_i (by omega) (by omega) ?_
                refine if_i (fun c => ?_) (fun c => ?_)
                · have c80 := c
                  have d81 : (M8.1 8 v3.toNatClampNeg).toInt = (0 : Int) := eqi.mp c80
                  have q82 : (((v4 + (1 : Int32)) + x2.1) + (1 : Int32)).toInt = ((v4 + (1 : Int32)) + x2.1).toInt + (1 : Int) := add_ti rfl rfl (by omega) (by omega)
                  have q83 : ((((v4 + (1 : Int32)) + x2.1) + (1 : Int32)) + (M8.1 8 v3.toNatClampNeg)).toInt = (((v4 + (1 : Int32)) + x2.1) + (1 : Int32)).toInt + (M8.1 8 v3.toNatClampNeg).toInt := add_ti rfl rfl (by omega) (by omega)
                  have q84 : ((-1 : Int32) - ((((v4 + (1 : Int32)) + x2.1) + (1 : Int32)) + (M8.1 8 v3.toNatClampNeg))).toInt = (-1 : Int) - ((((v4 + (1 : Int32)) + x2.1) + (1 : Int32)) + (M8.1 8 v3.toNatClampNeg)).toInt := sub_ti rfl rfl (by omega) (by omega)
                  exact ⟨(((-1 : Int32) - ((((v4 + (1 : Int32)) + x2.1) + (1 : Int32)) + (M8.1 8 v3.toNatClampNeg))), M8), rfl, hJ77, (show (-84 : Int) ≤ ((-1 : Int32) - ((((v4 + (1 : Int32)) + x2.1) + (1 : Int32)) + (M8.1 8 v3.toNatClampNeg))).toInt by rw [q84]; clear q84; omega), (show ((-1 : Int32) - ((((v4 + (1 : Int32)) + x2.1) + (1 : Int32)) + (M8.1 8 v3.toNatClampNeg))).toInt ≤ (89 : Int) by rw [q84]; clear q84; omega), (fun hh => by have hh : (0 : Int) ≤ ((-1 : Int32) - ((((v4 + (1 : Int32)) + x2.1) + (1 : Int32)) + (M8.1 8 v3.toNatClampNeg))).toInt := hh; rw [q84] at hh; clear q84; omega), (g79)⟩
                · have c85 := c
                  have d86 : ¬ (M8.1 8 v3.toNatClampNeg).toInt = (0 : Int) := neqi.mp c85
                  have q87 : (((v4 + (1 : Int32)) + x2.1) + (1 : Int32)).toInt = ((v4 + (1 : Int32)) + x2.1).toInt + (1 : Int) := add_ti rfl rfl (by omega) (by omega)
                  have q88 : ((((v4 + (1 : Int32)) + x2.1) + (1 : Int32)) + (M8.1 8 v3.toNatClampNeg)).toInt = (((v4 + (1 : Int32)) + x2.1) + (1 : Int32)).toInt + (M8.1 8 v3.toNatClampNeg).toInt := add_ti rfl rfl (by omega) (by omega)
                  exact ⟨(((((v4 + (1 : Int32)) + x2.1) + (1 : Int32)) + (M8.1 8 v3.toNatClampNeg)), M8), rfl, hJ77, (show (-84 : Int) ≤ ((((v4 + (1 : Int32)) + x2.1) + (1 : Int32)) + (M8.1 8 v3.toNatClampNeg)).toInt by omega), (show ((((v4 + (1 : Int32)) + x2.1) + (1 : Int32)) + (M8.1 8 v3.toNatClampNeg)).toInt ≤ (89 : Int) by omega), (fun hh => by have hh : (0 : Int) ≤ ((((v4 + (1 : Int32)) + x2.1) + (1 : Int32)) + (M8.1 8 v3.toNatClampNeg)).toInt := hh; omega), (g79)⟩
              · have c89 := c
                have d90 : ¬ x4.toInt = (58 : Int) := neqi.mp c89
                have q91 : ((-1 : Int32) - ((v4 + (1 : Int32)) + x2.1)).toInt = (-1 : Int) - ((v4 + (1 : Int32)) + x2.1).toInt := sub_ti rfl rfl (by omega) (by omega)
                exact ⟨(((-1 : Int32) - ((v4 + (1 : Int32)) + x2.1)), x2.2), rfl, h20, (show (-84 : Int) ≤ ((-1 : Int32) - ((v4 + (1 : Int32)) + x2.1)).toInt by rw [q91]; clear q91; omega), (show ((-1 : Int32) - ((v4 + (1 : Int32)) + x2.1)).toInt ≤ (89 : Int) by rw [q91]; clear q91; omega), (fun hh => by have hh : (0 : Int) ≤ ((-1 : Int32) - ((v4 + (1 : Int32)) + x2.1)).toInt := hh; rw [q91] at hh; clear q91; omega), (g24)⟩
      · have c92 := c
        have d93 : ¬ x1.toInt = (109 : Int) := neqi.mp c92
        refine if_i (fun c => ?_) (fun c => ?_)
        · have c94 := c
          have d95 : x1.toInt = (119 : Int) := eqi.mp c94
          unfold j_Crowd_readLine_39
          refine if_i (fun c => ?_) (fun c => ?_)
          · have c96 := c
            have d97 : x1.toInt = (119 : Int) := eqi.mp c96
            unfold j_Crowd_readLine_51
            refine bind_i (sf_Signs_digits (v4 + (1 : Int32)) (76 : Int32) (2 : Int32) M (⟨by decide, by decide⟩) hJ) (fun x2 _ q => ?_)
            obtain ⟨h98, h99, h100, h101⟩ := q
            have g102 := h101.trans (rfl : M.1 6 4 = M.1 6 4)
            refine if_i (fun c => ?_) (fun c => ?_)
            · have c103 := c
              have d104 : x2.1.toInt = (0 : Int) := eqi.mp c103
              have q105 : (v4 + (1 : Int32)).toInt = v4.toInt + (1 : Int) := add_ti rfl rfl (by omega) (by omega)
              have q106 : ((v4 + (1 : Int32)) + x2.1).toInt = (v4 + (1 : Int32)).toInt + x2.1.toInt := add_ti rfl rfl (by omega) (by omega)
              have q107 : ((-1 : Int32) - ((v4 + (1 : Int32)) + x2.1)).toInt = (-1 : Int) - ((v4 + (1 : Int32)) + x2.1).toInt := sub_ti rfl rfl (by omega) (by omega)
              exact ⟨(((-1 : Int32) - ((v4 + (1 : Int32)) + x2.1)), x2.2), rfl, h98, (show (-84 : Int) ≤ ((-1 : Int32) - ((v4 + (1 : Int32)) + x2.1)).toInt by rw [q107]; clear q107; omega), (show ((-1 : Int32) - ((v4 + (1 : Int32)) + x2.1)).toInt ≤ (89 : Int) by rw [q107]; clear q107; omega), (fun hh => by have hh : (0 : Int) ≤ ((-1 : Int32) - ((v4 + (1 : Int32)) + x2.1)).toInt := hh; rw [q107] at hh; clear q107; omega), (g102)⟩
            · have c108 := c
              have d109 : ¬ x2.1.toInt = (0 : Int) := neqi.mp c108
              refine bind_i (sf_Ground_holds (1 : Int32) (x2.2.1 1 2) x2.2 h98) (fun x3 _ q => ?_)
              obtain ⟨h110, h111, h112, h113⟩ := q
              clear h112
              refine if_i (fun c => ?_) (fun c => ?_)
              · have c114 := c
                have d115 : x3.toInt = (0 : Int) := eqi.mp c114
                refine bind_i (sf_Crowd_isCutOff (1 : Int32) ((v4 + (1 : Int32)) + x2.1) x2.1 x2.2 h98) (fun x11 _ q => ?_)
                obtain ⟨h116, h117⟩ := q
                refine if_i (fun c => ?_) (fun c => ?_)
                · have c118 := c
                  have d119 : x11.toInt = (0 : Int) := eqi.mp c118
                  have q120 : (v4 + (1 : Int32)).toInt = v4.toInt + (1 : Int) := add_ti rfl rfl (by omega) (by omega)
                  have q121 : ((v4 + (1 : Int32)) + x2.1).toInt = (v4 + (1 : Int32)).toInt + x2.1.toInt := add_ti rfl rfl (by omega) (by omega)
                  have q122 : (-((v4 + (1 : Int32)) + x2.1)).toInt = -((v4 + (1 : Int32)) + x2.1).toInt := neg_ti rfl (by omega) (by omega)
                  exact ⟨((-((v4 + (1 : Int32)) + x2.1)), x2.2), rfl, h98, (show (-84 : Int) ≤ (-((v4 + (1 : Int32)) + x2.1)).toInt by omega), (show (-((v4 + (1 : Int32)) + x2.1)).toInt ≤ (89 : Int) by omega), (fun hh => by have hh : (0 : Int) ≤ (-((v4 + (1 : Int32)) + x2.1)).toInt := hh; omega), (g102)⟩
                · have c123 := c
                  have d124 : ¬ x11.toInt = (0 : Int) := neqi.mp c123
                  have q125 : (v4 + (1 : Int32)).toInt = v4.toInt + (1 : Int) := add_ti rfl rfl (by omega) (by omega)
                  have q126 : ((v4 + (1 : Int32)) + x2.1).toInt = (v4 + (1 : Int32)).toInt + x2.1.toInt := add_ti rfl rfl (by omega) (by omega)
                  have q127 : ((-1 : Int32) - ((v4 + (1 : Int32)) + x2.1)).toInt = (-1 : Int) - ((v4 + (1 : Int32)) + x2.1).toInt := sub_ti rfl rfl (by omega) (by omega)
                  exact ⟨(((-1 : Int32) - ((v4 + (1 : Int32)) + x2.1)), x2.2), rfl, h98, (show (-84 : Int) ≤ ((-1 : Int32) - ((v4 + (1 : Int32)) + x2.1)).toInt by rw [q127]; clear q127; omega), (show ((-1 : Int32) - ((v4 + (1 : Int32)) + x2.1)).toInt ≤ (89 : Int) by rw [q127]; clear q127; omega), (fun hh => by have hh : (0 : Int) ≤ ((-1 : Int32) - ((v4 + (1 : Int32)) + x2.1)).toInt := hh; rw [q127] at hh; clear q127; omega), (g102)⟩
              · have c128 := c
                have d129 : ¬ x3.toInt = (0 : Int) := neqi.mp c128
                have q130 : (v4 + (1 : Int32)).toInt = v4.toInt + (1 : Int) := add_ti rfl rfl (by omega) (by omega)
                have q131 : ((v4 + (1 : Int32)) + x2.1).toInt = (v4 + (1 : Int32)).toInt + x2.1.toInt := add_ti rfl rfl (by omega) (by omega)
                refine bind_i (sf_Signs_at ((v4 + (1 : Int32)) + x2.1) (76 : Int32) x2.2 h98) (fun x4 _ q => ?_)
                obtain ⟨h132, h133, h134⟩ := q
                refine if_i (fun c => ?_) (fun c => ?_)
                · have c135 := c
                  have d136 : x4.toInt = (58 : Int) := eqi.mp c135
                  refine inb_i (by omega) (by omega) ?_
                  refine mem_i (fun M5 e138 => ?_)
                  have hJ139 : J M5 := by rw [e138]; exact Jw_9 h98 v3.toNatClampNeg (x2.2.1 1 2) (show (0 : Int) ≤ (x2.2.1 1 2).toInt by omega) (show (x2.2.1 1 2).toInt ≤ (35 : Int) by omega)
                  have f140 : (M5.1 1 2).toInt = (x2.2.1 1 2).toInt := by rw [e138]; rw [si_ne (by exact fun e => absurd e.1 (by decide))]
                  have g141 : M5.1 6 4 = M.1 6 4 := (congrArg (fun m : Mem => m.1 6 4) e138).trans ((si_ne (by exact fun e => absurd e.1 (by decide))).trans g102)
                  clear e138
                  refine mem_i (fun M6 e143 => ?_)
                  have hJ144 : J M6 := by rw [e143]; exact Jw_fld okf_6_6 hJ139 ((M5.1 6 6) ||| ((1 : Int32) <<< (v3 &&& 31)))
                  have f145 : (M6.1 1 2).toInt = (M5.1 1 2).toInt := by rw [e143]; rw [si_ne (by exact fun e => absurd e.1 (by decide))]
                  have g146 : M6.1 6 4 = M.1 6 4 := (congrArg (fun m : Mem => m.1 6 4) e143).trans ((si_ne (by exact fun e => absurd e.2 (by decide))).trans g141)
                  clear e143
                  have q147 : (v3 * (9 : Int32)).toInt = v3.toInt * (9 : Int) := mul_ti rfl rfl (by omega) (by omega)
                  refine bind_i (sf_Signs_steps (((v4 + (1 : Int32)) + x2.1) + (1 : Int32)) (76 : Int32) 7 (v3 * (9 : Int32)) M6 FS_7 (⟨show (0 : Int) ≤ (v3 * (9 : Int32)).toInt by omega, show (v3 * (9 : Int32)).toInt ≤ (63 : Int) by omega⟩) hJ144) (fun x7 _ q => ?_)
                  obtain ⟨h148, h149, h150, h151⟩ := q
                  have g152 := h151.trans g146
                  refine inb_i (by omega) (by omega) ?_
                  refine mem_i (fun M8 e154 => ?_)
                  have hJ155 : J M8 := by rw [e154]; exact Jw_any ok_8 h148 v3.toNatClampNeg x7.1
                  have f156 : (M8.1 8 v3.toNatClampNeg).toInt = x7.1.toInt := by rw [e154, si_eq]
                  have g157 : M8.1 6 4 = M.1 6 4 := (congrArg (fun m : Mem => m.1 6 4) e154).trans ((si_ne (by exact fun e => absurd e.1 (by decide))).trans g152)
                  clear e154
                  refine inb_i (by omega) (by omega) ?_
                  refine inb_i (by omega) (by omega) ?_
                  refine if_i (fun c => ?_) (fun c => ?_)
                  · have c158 := c
                    have d159 : (M8.1 8 v3.toNatClampNeg).toInt = (0 : Int) := eqi.mp c158
                    have q160 : (((v4 + (1 : Int32)) + x2.1) + (1 : Int32)).toInt = ((v4 + (1 : Int32)) + x2.1).toInt + (1 : Int) := add_ti rfl rfl (by omega) (by omega)
                    have q161 : ((((v4 + (1 : Int32)) + x2.1) + (1 : Int32)) + (M8.1 8 v3.toNatClampNeg)).toInt = (((v4 + (1 : Int32)) + x2.1) + (1 : Int32)).toInt + (M8.1 8 v3.toNatClampNeg).toInt := add_ti rfl rfl (by omega) (by omega)
                    have q162 : ((-1 : Int32) - ((((v4 + (1 : Int32)) + x2.1) + (1 : Int32)) + (M8.1 8 v3.toNatClampNeg))).toInt = (-1 : Int) - ((((v4 + (1 : Int32)) + x2.1) + (1 : Int32)) + (M8.1 8 v3.toNatClampNeg)).toInt := sub_ti rfl rfl (by omega) (by omega)
                    exact ⟨(((-1 : Int32) - ((((v4 + (1 : Int32)) + x2.1) + (1 : Int32)) + (M8.1 8 v3.toNatClampNeg))), M8), rfl, hJ155, (show (-84 : Int) ≤ ((-1 : Int32) - ((((v4 + (1 : Int32)) + x2.1) + (1 : Int32)) + (M8.1 8 v3.toNatClampNeg))).toInt by rw [q162]; clear q162; omega), (show ((-1 : Int32) - ((((v4 + (1 : Int32)) + x2.1) + (1 : Int32)) + (M8.1 8 v3.toNatClampNeg))).toInt ≤ (89 : Int) by rw [q162]; clear q162; omega), (fun hh => by have hh : (0 : Int) ≤ ((-1 : Int32) - ((((v4 + (1 : Int32)) + x2.1) + (1 : Int32)) + (M8.1 8 v3.toNatClampNeg))).toInt := hh; rw [q162] at hh; clear q162; omega), (g157)⟩
                  · have c163 := c
                    have d164 : ¬ (M8.1 8 v3.toNatClampNeg).toInt = (0 : Int) := neqi.mp c163
                    have q165 : (((v4 + (1 : Int32)) + x2.1) + (1 : Int32)).toInt = ((v4 + (1 : Int32)) + x2.1).toInt + (1 : Int) := add_ti rfl rfl (by omega) (by omega)
                    have q166 : ((((v4 + (1 : Int32)) + x2.1) + (1 : Int32)) + (M8.1 8 v3.toNatClampNeg)).toInt = (((v4 + (1 : Int32)) + x2.1) + (1 : Int32)).toInt + (M8.1 8 v3.toNatClampNeg).toInt := add_ti rfl rfl (by omega) (by omega)
                    exact ⟨(((((v4 + (1 : Int32)) + x2.1) + (1 : Int32)) + (M8.1 8 v3.toNatClampNeg)), M8), rfl, hJ155, (show (-84 : Int) ≤ ((((v4 + (1 : Int32)) + x2.1) + (1 : Int32)) + (M8.1 8 v3.toNatClampNeg)).toInt by omega), (show ((((v4 + (1 : Int32)) + x2.1) + (1 : Int32)) + (M8.1 8 v3.toNatClampNeg)).toInt ≤ (89 : Int) by omega), (fun hh => by have hh : (0 : Int) ≤ ((((v4 + (1 : Int32)) + x2.1) + (1 : Int32)) + (M8.1 8 v3.toNatClampNeg)).toInt := hh; omega), (g157)⟩
                · have c167 := c
                  have d168 : ¬ x4.toInt = (58 : Int) := neqi.mp c167
                  have q169 : ((-1 : Int32) - ((v4 + (1 : Int32)) + x2.1)).toInt = (-1 : Int) - ((v4 + (1 : Int32)) + x2.1).toInt := sub_ti rfl rfl (by omega) (by omega)
                  exact ⟨(((-1 : Int32) - ((v4 + (1 : Int32)) + x2.1)), x2.2), rfl, h98, (show (-84 : Int) ≤ ((-1 : Int32) - ((v4 + (1 : Int32)) + x2.1)).toInt by rw [q169]; clear q169; omega), (show ((-1 : Int32) - ((v4 + (1 : Int32)) + x2.1)).toInt ≤ (89 : Int) by rw [q169]; clear q169; omega), (fun hh => by have hh : (0 : Int) ≤ ((-1 : Int32) - ((v4 + (1 : Int32)) + x2.1)).toInt := hh; rw [q169] at hh; clear q169; omega), (g102)⟩
          · have c170 := c
            have d171 : ¬ x1.toInt = (119 : Int) := neqi.mp c170
            exfalso; omega
        · have c172 := c
          have d173 : ¬ x1.toInt = (119 : Int) := neqi.mp c172
          have q174 : ((-1 : Int32) - v4).toInt = (-1 : Int) - v4.toInt := sub_ti rfl rfl (by omega) (by omega)
          exact ⟨(((-1 : Int32) - v4), M), rfl, hJ, (show (-84 : Int) ≤ ((-1 : Int32) - v4).toInt by rw [q174]; clear q174; omega), (show ((-1 : Int32) - v4).toInt ≤ (89 : Int) by rw [q174]; clear q174; omega), (fun hh => by have hh : (0 : Int) ≤ ((-1 : Int32) - v4).toInt := hh; rw [q174] at hh; clear q174; omega), (rfl)⟩
