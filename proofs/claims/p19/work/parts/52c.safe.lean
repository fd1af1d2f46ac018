/-! safety of the class, 3 -/
theorem sf_Ground_between (v1 : Int32) (v2 : Int32) (M : Mem) (hJ : J M) : ∃ r : Int32, f_Ground_between v1 v2 M = some r ∧ ((-1 : Int) ≤ r.toInt ∧ r.toInt ≤ (35 : Int)) := by
  unfold f_Ground_between
  refine bind_i (sf_Ground_across v1 v2 M hJ) (fun x1 _ q => ?_)
  obtain ⟨h1, h2⟩ := q
  refine bind_i (sf_Ground_beside v1 x1 M hJ) (fun x2 _ q => ?_)
  obtain ⟨h3, h4, h5⟩ := q
  exact ⟨x2, rfl, (show (-1 : Int) ≤ x2.toInt by omega), (show x2.toInt ≤ (35 : Int) by omega)⟩
theorem sf_Crowd_clear (M : Mem) (hJ : J M) : ∃ r : Mem, f_Crowd_clear M = some r ∧ (J r ∧ Gc 0 M r) := by
  unfold f_Crowd_clear
  refine mem_i (fun M1 e2 => ?_)
  have hJ3 : J M1 := by rw [e2]; exact Jw_6_4 hJ (0 : Int32) (show (0 : Int) ≤ (0 : Int32).toInt by decide) (show (0 : Int32).toInt ≤ (8 : Int) by decide)
  have hG4 : Gc 0 M M1 := Gc_i Gc_r e2 (by decide)
  have f5 : (M1.1 6 4).toInt = (0 : Int) := by rw [e2, si_eq]; rfl
  clear e2
  refine mem_i (fun M2 e7 => ?_)
  have hJ8 : J M2 := by rw [e7]; exact Jw_fld okf_6_5 hJ3 (0 : Int32)
  have hG9 : Gc 0 M M2 := Gc_i hG4 e7 (by decide)
  have f10 : (M2.1 6 4).toInt = (M1.1 6 4).toInt := by rw [e7]; rw [si_ne (by exact fun e => absurd e.2 (by decide))]
  have f11 : (M2.1 6 5).toInt = (0 : Int) := by rw [e7, si_eq]; rfl
  clear e7
  exact ⟨M2, rfl, hJ8, hG9⟩
theorem sl_Crowd_isCutOff_26 (v2 : Int32) (M : Mem) (a0_ : Int32) (hJ_M : J M) (i0_ : (0 : Int) ≤ a0_.toInt) (i1_ : a0_.toInt ≤ (10 : Int)) : ∃ x, iter (lb_Crowd_isCutOff_26 v2 M) FU a0_ = some x ∧ (SQ (fun r : Unit => True) (fun r : Unit => True)) x := by
  refine iter_r (fun s : Int32 => (0 : Int) ≤ s.toInt ∧ s.toInt ≤ (10 : Int)) (fun s : Int32 => (10 - s.toInt).toNat) (SQ (fun r : Unit => True) (fun r : Unit => True)) ?_ FU a0_ ⟨i0_, i1_⟩ (by show (10 - a0_.toInt).toNat < FU; rw [FU_v]; omega)
  clear i1_ i0_
  rintro a0_' ⟨i0_, i1_⟩
  unfold lb_Crowd_isCutOff_26
  refine if_i (fun c => ?_) (fun c => ?_)
  · have c1 := c
    have d2 : (10 : Int) ≤ a0_'.toInt := lei.mp c1
    exact ⟨_, rfl, trivial⟩
  · have c3 := c
    have d4 : a0_'.toInt < (10 : Int) := nlei.mp c3
    refine bind_i (sf_Ground_holds v2 (((M.1 1 2) * (10 : Int32)) + a0_') M hJ_M) (fun x1 _ q => ?_)
    obtain ⟨h5, h6, h7, h8⟩ := q
    refine if_i (fun c => ?_) (fun c => ?_)
    · have c9 := c
      have d10 : x1.toInt = (0 : Int) := eqi.mp c9
      have q11 : (a0_' + (1 : Int32)).toInt = a0_'.toInt + (1 : Int) := add_ti rfl rfl (by omega) (by omega)
      exact ⟨_, rfl, ⟨(show (0 : Int) ≤ (a0_' + (1 : Int32)).toInt by omega), (show (a0_' + (1 : Int32)).toInt ≤ (10 : Int) by omega)⟩, show (10 - (a0_' + (1 : Int32)).toInt).toNat < (10 - a0_'.toInt).toNat by omega⟩
    · have c12 := c
      have d13 : ¬ x1.toInt = (0 : Int) := neqi.mp c12
      exact ⟨_, rfl, trivial⟩
theorem sf_Crowd_isCutOff (v2 : Int32) (v3 : Int32) (v4 : Int32) (M : Mem) (hJ : J M) : ∃ r : Int32, f_Crowd_isCutOff v2 v3 v4 M = some r ∧ ((0 : Int) ≤ r.toInt ∧ r.toInt ≤ (1 : Int)) := by
  unfold f_Crowd_isCutOff
  refine if_i (fun c => ?_) (fun c => ?_)
  · have c1 := c
    have d2 : v4.toInt = (1 : Int) := eqi.mp c1
    refine if_i (fun c => ?_) (fun c => ?_)
    · have c3 := c
      have d4 : v3.toInt = (76 : Int) := eqi.mp c3
      refine if_i (fun c => ?_) (fun c => ?_)
      · have c5 := c
        have r6 := Jr_1_1 hJ
        have d7 : (76 : Int) < (M.1 1 1).toInt := lti.mp c5
        refine bind_i (sl_Crowd_isCutOff_26 v2 M (0 : Int32) hJ (show (0 : Int) ≤ (0 : Int32).toInt by decide) (show (0 : Int32).toInt ≤ (10 : Int) by decide)) (fun x8 _ q => ?_)
        rcases x8 with y | y
        · have q9 : True := q
          dsimp only [Sum.elim_inl, Sum.elim_inr]
          exact ⟨(0 : Int32), rfl, (show (0 : Int) ≤ (0 : Int32).toInt by decide), (show (0 : Int32).toInt ≤ (1 : Int) by decide)⟩
        · have q9 : True := q
          dsimp only [Sum.elim_inl, Sum.elim_inr]
          exact ⟨(1 : Int32), rfl, (show (0 : Int) ≤ (1 : Int32).toInt by decide), (show (1 : Int32).toInt ≤ (1 : Int) by decide)⟩
      · have c11 := c
        have r12 := Jr_1_1 hJ
        have d13 : (M.1 1 1).toInt ≤ (76 : Int) := nlti.mp c11
        exact ⟨(0 : Int32), rfl, (show (0 : Int) ≤ (0 : Int32).toInt by decide), (show (0 : Int32).toInt ≤ (1 : Int) by decide)⟩
    · have c14 := c
      have d15 : ¬ v3.toInt = (76 : Int) := neqi.mp c14
      exact ⟨(0 : Int32), rfl, (show (0 : Int) ≤ (0 : Int32).toInt by decide), (show (0 : Int32).toInt ≤ (1 : Int) by decide)⟩
  · have c16 := c
    have d17 : ¬ v4.toInt = (1 : Int) := neqi.mp c16
    exact ⟨(0 : Int32), rfl, (show (0 : Int) ≤ (0 : Int32).toInt by decide), (show (0 : Int32).toInt ≤ (1 : Int) by decide)⟩
theorem sf_Crowd_readLine (v3 : Int32) (v4 : Int32) (M : Mem) (hp_v4 : (0 : Int) ≤ v4.toInt ∧ v4.toInt ≤ (80 : Int)) (hJ : J M) : ∃ r : Int32 × Mem, f_Crowd_readLine v3 v4 M = some r ∧ (J r.2 ∧ Gc 0 M r.2 ∧ (-84 : Int) ≤ r.1.toInt ∧ r.1.toInt ≤ (89 : Int) ∧ ((0 : Int) ≤ r.1.toInt → (0 : Int) ≤ v3.toInt ∧ v3.toInt ≤ (7 : Int)) ∧ r.2.1 6 4 = M.1 6 4) := by
  unfold f_Crowd_readLine
  refine bind_i (sf_Signs_at v4 (76 : Int32) M hJ) (fun x1 _ q => ?_)
  obtain ⟨h1, h2, h3⟩ := q
  refine if_i (fun c => ?_) (fun c => ?_)
  · have c4 := c
    have d5 : v3.toInt < (0 : Int) := lti.mp c4
    have q6 : ((-1 : Int32) - v4).toInt = (-1 : Int) - v4.toInt := sub_ti rfl rfl (by omega) (by omega)
    exact ⟨(((-1 : Int32) - v4), M), rfl, hJ, Gc_r, (show (-84 : Int) ≤ ((-1 : Int32) - v4).toInt by rw [q6]; clear q6; omega), (show ((-1 : Int32) - v4).toInt ≤ (89 : Int) by rw [q6]; clear q6; omega), (fun hh => by have hh : (0 : Int) ≤ ((-1 : Int32) - v4).toInt := hh; rw [q6] at hh; clear q6; omega), (rfl)⟩
  · have c7 := c
    have d8 : (0 : Int) ≤ v3.toInt := nlti.mp c7
    refine if_i (fun c => ?_) (fun c => ?_)
    · have c9 := c
      have d10 : (8 : Int) ≤ v3.toInt := lei.mp c9
      have q11 : ((-1 : Int32) - v4).toInt = (-1 : Int) - v4.toInt := sub_ti rfl rfl (by omega) (by omega)
      exact ⟨(((-1 : Int32) - v4), M), rfl, hJ, Gc_r, (show (-84 : Int) ≤ ((-1 : Int32) - v4).toInt by rw [q11]; clear q11; omega), (show ((-1 : Int32) - v4).toInt ≤ (89 : Int) by rw [q11]; clear q11; omega), (fun hh => by have hh : (0 : Int) ≤ ((-1 : Int32) - v4).toInt := hh; rw [q11] at hh; clear q11; omega), (rfl)⟩
    · have c12 := c
      have d13 : v3.toInt < (8 : Int) := nlei.mp c12
      refine if_i (fun c => ?_) (fun c => ?_)
      · have c14 := c
        have d15 : x1.toInt = (109 : Int) := eqi.mp c14
        unfold j_Crowd_readLine_39
        refine if_i (fun c => ?_) (fun c => ?_)
        · have c16 := c
          have d17 : x1.toInt = (119 : Int) := eqi.mp c16
          exfalso; omega
        · have c18 := c
          have d19 : ¬ x1.toInt = (119 : Int) := neqi.mp c18
          unfold j_Crowd_readLine_51
          refine bind_i (sf_Signs_digits (v4 + (1 : Int32)) (76 : Int32) (2 : Int32) M (⟨by decide, by decide⟩) hJ) (fun x2 _ q => ?_)
          obtain ⟨h20, h21, h22, h23, h24⟩ := q
          have hG25 : Gc 0 M x2.2 := Gc_t Gc_r h21
          have g26 := h24.trans (rfl : M.1 6 4 = M.1 6 4)
          refine if_i (fun c => ?_) (fun c => ?_)
          · have c27 := c
            have d28 : x2.1.toInt = (0 : Int) := eqi.mp c27
            have q29 : (v4 + (1 : Int32)).toInt = v4.toInt + (1 : Int) := add_ti rfl rfl (by omega) (by omega)
            have q30 : ((v4 + (1 : Int32)) + x2.1).toInt = (v4 + (1 : Int32)).toInt + x2.1.toInt := add_ti rfl rfl (by omega) (by omega)
            have q31 : ((-1 : Int32) - ((v4 + (1 : Int32)) + x2.1)).toInt = (-1 : Int) - ((v4 + (1 : Int32)) + x2.1).toInt := sub_ti rfl rfl (by omega) (by omega)
            exact ⟨(((-1 : Int32) - ((v4 + (1 : Int32)) + x2.1)), x2.2), rfl, h20, hG25, (show (-84 : Int) ≤ ((-1 : Int32) - ((v4 + (1 : Int32)) + x2.1)).toInt by rw [q31]; clear q31; omega), (show ((-1 : Int32) - ((v4 + (1 : Int32)) + x2.1)).toInt ≤ (89 : Int) by rw [q31]; clear q31; omega), (fun hh => by have hh : (0 : Int) ≤ ((-1 : Int32) - ((v4 + (1 : Int32)) + x2.1)).toInt := hh; rw [q31] at hh; clear q31; omega), (g26)⟩
          · have c32 := c
            have d33 : ¬ x2.1.toInt = (0 : Int) := neqi.mp c32
            refine bind_i (sf_Ground_holds (0 : Int32) (x2.2.1 1 2) x2.2 h20) (fun x3 _ q => ?_)
            obtain ⟨h34, h35, h36, h37⟩ := q
            clear h36
            refine if_i (fun c => ?_) (fun c => ?_)
            · have c38 := c
              have d39 : x3.toInt = (0 : Int) := eqi.mp c38
              refine bind_i (sf_Crowd_isCutOff (0 : Int32) ((v4 + (1 : Int32)) + x2.1) x2.1 x2.2 h20) (fun x11 _ q => ?_)
              obtain ⟨h40, h41⟩ := q
              refine if_i (fun c => ?_) (fun c => ?_)
              · have c42 := c
                have d43 : x11.toInt = (0 : Int) := eqi.mp c42
                have q44 : (v4 + (1 : Int32)).toInt = v4.toInt + (1 : Int) := add_ti rfl rfl (by omega) (by omega)
                have q45 : ((v4 + (1 : Int32)) + x2.1).toInt = (v4 + (1 : Int32)).toInt + x2.1.toInt := add_ti rfl rfl (by omega) (by omega)
                have q46 : (-((v4 + (1 : Int32)) + x2.1)).toInt = -((v4 + (1 : Int32)) + x2.1).toInt := neg_ti rfl (by omega) (by omega)
                exact ⟨((-((v4 + (1 : Int32)) + x2.1)), x2.2), rfl, h20, hG25, (show (-84 : Int) ≤ (-((v4 + (1 : Int32)) + x2.1)).toInt by omega), (show (-((v4 + (1 : Int32)) + x2.1)).toInt ≤ (89 : Int) by omega), (fun hh => by have hh : (0 : Int) ≤ (-((v4 + (1 : Int32)) + x2.1)).toInt := hh; omega), (g26)⟩
              · have c47 := c
                have d48 : ¬ x11.toInt = (0 : Int) := neqi.mp c47
                have q49 : (v4 + (1 : Int32)).toInt = v4.toInt + (1 : Int) := add_ti rfl rfl (by omega) (by omega)
                have q50 : ((v4 + (1 : Int32)) + x2.1).toInt = (v4 + (1 : Int32)).toInt + x2.1.toInt := add_ti rfl rfl (by omega) (by omega)
                have q51 : ((-1 : Int32) - ((v4 + (1 : Int32)) + x2.1)).toInt = (-1 : Int) - ((v4 + (1 : Int32)) + x2.1).toInt := sub_ti rfl rfl (by omega) (by omega)
                exact ⟨(((-1 : Int32) - ((v4 + (1 : Int32)) + x2.1)), x2.2), rfl, h20, hG25, (show (-84 : Int) ≤ ((-1 : Int32) - ((v4 + (1 : Int32)) + x2.1)).toInt by rw [q51]; clear q51; omega), (show ((-1 : Int32) - ((v4 + (1 : Int32)) + x2.1)).toInt ≤ (89 : Int) by rw [q51]; clear q51; omega), (fun hh => by have hh : (0 : Int) ≤ ((-1 : Int32) - ((v4 + (1 : Int32)) + x2.1)).toInt := hh; rw [q51] at hh; clear q51; omega), (g26)⟩
            · have c52 := c
              have d53 : ¬ x3.toInt = (0 : Int) := neqi.mp c52
              have q54 : (v4 + (1 : Int32)).toInt = v4.toInt + (1 : Int) := add_ti rfl rfl (by omega) (by omega)
              have q55 : ((v4 + (1 : Int32)) + x2.1).toInt = (v4 + (1 : Int32)).toInt + x2.1.toInt := add_ti rfl rfl (by omega) (by omega)
              refine bind_i (sf_Signs_at ((v4 + (1 : Int32)) + x2.1) (76 : Int32) x2.2 h20) (fun x4 _ q => ?_)
              obtain ⟨h56, h57, h58⟩ := q
              refine if_i (fun c => ?_) (fun c => ?_)
              · have c59 := c
                have d60 : x4.toInt = (58 : Int) := eqi.mp c59
                refine inb_i (by omega) (by omega) ?_
                refine mem_i (fun M5 e62 => ?_)
                have hJ63 : J M5 := by rw [e62]; exact Jw_9 h20 v3.toNatClampNeg (x2.2.1 1 2) (show (0 : Int) ≤ (x2.2.1 1 2).toInt by omega) (show (x2.2.1 1 2).toInt ≤ (35 : Int) by omega)
                have hG64 : Gc 0 M M5 := Gc_i hG25 e62 (by decide)
                have f65 : (M5.1 1 2).toInt = (x2.2.1 1 2).toInt := by rw [e62]; rw [si_ne (by exact fun e => absurd e.1 (by decide))]
                have g66 : M5.1 6 4 = M.1 6 4 := (congrArg (fun m : Mem => m.1 6 4) e62).trans ((si_ne (by exact fun e => absurd e.1 (by decide))).trans g26)
                clear e62
                refine mem_i (fun M6 e68 => ?_)
                have hJ69 : J M6 := by rw [e68]; exact Jw_fld okf_6_6 hJ63 ((M5.1 6 6) ||| ((0 : Int32) <<< (v3 &&& 31)))
                have hG70 : Gc 0 M M6 := Gc_i hG64 e68 (by decide)
                have f71 : (M6.1 1 2).toInt = (M5.1 1 2).toInt := by rw [e68]; rw [si_ne (by exact fun e => absurd e.1 (by decide))]
                have g72 : M6.1 6 4 = M.1 6 4 := (congrArg (fun m : Mem => m.1 6 4) e68).trans ((si_ne (by exact fun e => absurd e.2 (by decide))).trans g66)
                clear e68
                have q73 : (v3 * (9 : Int32)).toInt = v3.toInt * (9 : Int) := mul_ti rfl rfl (by omega) (by omega)
                refine bind_i (sf_Signs_steps (((v4 + (1 : Int32)) + x2.1) + (1 : Int32)) (76 : Int32) 7 (v3 * (9 : Int32)) M6 FS_7 (⟨show (0 : Int) ≤ (v3 * (9 : Int32)).toInt by omega, show (v3 * (9 : Int32)).toInt ≤ (63 : Int) by omega⟩) hJ69) (fun x7 _ q => ?_)
                obtain ⟨h74, h75, h76, h77, h78⟩ := q
                have hG79 : Gc 0 M x7.2 := Gc_t hG70 h75
                have g80 := h78.trans g72
                refine inb_i (by omega) (by omega) ?_
                refine mem_i (fun M8 e82 => ?_)
                have hJ83 : J M8 := by rw [e82]; exact Jw_any ok_8 h74 v3.toNatClampNeg x7.1
                have hG84 : Gc 0 M M8 := Gc_i hG79 e82 (by decide)
                have f85 : (M8.1 8 v3.toNatClampNeg).toInt = x7.1.toInt := by rw [e82, si_eq]
                have g86 : M8.1 6 4 = M.1 6 4 := (congrArg (fun m : Mem => m.1 6 4) e82).trans ((si_ne (by exact fun e => absurd e.1 (by decide))).trans g80)
                clear e82
                refine inb_i (by omega) (by omega) ?_
                refine inb_i (by omega) (by omega) ?_
                refine if_i (fun c => ?_) (fun c => ?_)
                · have c87 := c
                  have d88 : (M8.1 8 v3.toNatClampNeg).toInt = (0 : Int) := eqi.mp c87
                  have q89 : (((v4 + (1 : Int32)) + x2.1) + (1 : Int32)).toInt = ((v4 + (1 : Int32)) + x2.1).toInt + (1 : Int) := add_ti rfl rfl (by omega) (by omega)
                  have q90 : ((((v4 + (1 : Int32)) + x2.1) + (1 : Int32)) + (M8.1 8 v3.toNatClampNeg)).toInt = (((v4 + (1 : Int32)) + x2.1) + (1 : Int32)).toInt + (M8.1 8 v3.toNatClampNeg).toInt := add_ti rfl rfl (by omega) (by omega)
                  have q91 : ((-1 : Int32) - ((((v4 + (1 : Int32)) + x2.1) + (1 : Int32)) + (M8.1 8 v3.toNatClampNeg))).toInt = (-1 : Int) - ((((v4 + (1 : Int32)) + x2.1) + (1 : Int32)) + (M8.1 8 v3.toNatClampNeg)).toInt := sub_ti rfl rfl (by omega) (by omega)
                  exact ⟨(((-1 : Int32) - ((((v4 + (1 : Int32)) + x2.1) + (1 : Int32)) + (M8.1 8 v3.toNatClampNeg))), M8), rfl, hJ83, hG84, (show (-84 : Int) ≤ ((-1 : Int32) - ((((v4 + (1 : Int32)) + x2.1) + (1 : Int32)) + (M8.1 8 v3.toNatClampNeg))).toInt by rw [q91]; clear q91; omega), (show ((-1 : Int32) - ((((v4 + (1 : Int32)) + x2.1) + (1 : Int32)) + (M8.1 8 v3.toNatClampNeg))).toInt ≤ (89 : Int) by rw [q91]; clear q91; omega), (fun hh => by have hh : (0 : Int) ≤ ((-1 : Int32) - ((((v4 + (1 : Int32)) + x2.1) + (1 : Int32)) + (M8.1 8 v3.toNatClampNeg))).toInt := hh; rw [q91] at hh; clear q91; omega), (g86)⟩
                · have c92 := c
                  have d93 : ¬ (M8.1 8 v3.toNatClampNeg).toInt = (0 : Int) := neqi.mp c92
                  have q94 : (((v4 + (1 : Int32)) + x2.1) + (1 : Int32)).toInt = ((v4 + (1 : Int32)) + x2.1).toInt + (1 : Int) := add_ti rfl rfl (by omega) (by omega)
                  have q95 : ((((v4 + (1 : Int32)) + x2.1) + (1 : Int32)) + (M8.1 8 v3.toNatClampNeg)).toInt = (((v4 + (1 : Int32)) + x2.1) + (1 : Int32)).toInt + (M8.1 8 v3.toNatClampNeg).toInt := add_ti rfl rfl (by omega) (by omega)
                  exact ⟨(((((v4 + (1 : Int32)) + x2.1) + (1 : Int32)) + (M8.1 8 v3.toNatClampNeg)), M8), rfl, hJ83, hG84, (show (-84 : Int) ≤ ((((v4 + (1 : Int32)) + x2.1) + (1 : Int32)) + (M8.1 8 v3.toNatClampNeg)).toInt by omega), (show ((((v4 + (1 : Int32)) + x2.1) + (1 : Int32)) + (M8.1 8 v3.toNatClampNeg)).toInt ≤ (89 : Int) by omega), (fun hh => by have hh : (0 : Int) ≤ ((((v4 + (1 : Int32)) + x2.1) + (1 : Int32)) + (M8.1 8 v3.toNatClampNeg)).toInt := hh; omega), (g86)⟩
              · have c96 := c
                have d97 : ¬ x4.toInt = (58 : Int) := neqi.mp c96
                have q98 : ((-1 : Int32) - ((v4 + (1 : Int32)) + x2.1)).toInt = (-1 : Int) - ((v4 + (1 : Int32)) + x2.1).toInt := sub_ti rfl rfl (by omega) (by omega)
                exact ⟨(((-1 : Int32) - ((v4 + (1 : Int32)) + x2.1)), x2.2), rfl, h20, hG25, (show (-84 : Int) ≤ ((-1 : Int32) - ((v4 + (1 : Int32)) + x2.1)).toInt by rw [q98]; clear q98; omega), (show ((-1 : Int32) - ((v4 + (1 : Int32)) + x2.1)).toInt ≤ (89 : Int) by rw [q98]; clear q98; omega), (fun hh => by have hh : (0 : Int) ≤ ((-1 : Int32) - ((v4 + (1 : Int32)) + x2.1)).toInt := hh; rw [q98] at hh; clear q98; omega), (g26)⟩
      · have c99 := c
        have d100 : ¬ x1.toInt = (109 : Int) := neqi.mp c99
        refine if_i (fun c => ?_) (fun c => ?_)
        · have c101 := c
          have d102 : x1.toInt = (119 : Int) := eqi.mp c101
          unfold j_Crowd_readLine_39
          refine if_i (fun c => ?_) (fun c => ?_)
          · have c103 := c
            have d104 : x1.toInt = (119 : Int) := eqi.mp c103
            unfold j_Crowd_readLine_51
            refine bind_i (sf_Signs_digits (v4 + (1 : Int32)) (76 : Int32) (2 : Int32) M (⟨by decide, by decide⟩) hJ) (fun x2 _ q => ?_)
            obtain ⟨h105, h106, h107, h108, h109⟩ := q
            have hG110 : Gc 0 M x2.2 := Gc_t Gc_r h106
            have g111 := h109.trans (rfl : M.1 6 4 = M.1 6 4)
            refine if_i (fun c => ?_) (fun c => ?_)
            · have c112 := c
              have d113 : x2.1.toInt = (0 : Int) := eqi.mp c112
              have q114 : (v4 + (1 : Int32)).toInt = v4.toInt + (1 : Int) := add_ti rfl rfl (by omega) (by omega)
              have q115 : ((v4 + (1 : Int32)) + x2.1).toInt = (v4 + (1 : Int32)).toInt + x2.1.toInt := add_ti rfl rfl (by omega) (by omega)
              have q116 : ((-1 : Int32) - ((v4 + (1 : Int32)) + x2.1)).toInt = (-1 : Int) - ((v4 + (1 : Int32)) + x2.1).toInt := sub_ti rfl rfl (by omega) (by omega)
              exact ⟨(((-1 : Int32) - ((v4 + (1 : Int32)) + x2.1)), x2.2), rfl, h105, hG110, (show (-84 : Int) ≤ ((-1 : Int32) - ((v4 + (1 : Int32)) + x2.1)).toInt by rw [q116]; clear q116; omega), (show ((-1 : Int32) - ((v4 + (1 : Int32)) + x2.1)).toInt ≤ (89 : Int) by rw [q116]; clear q116; omega), (fun hh => by have hh : (0 : Int) ≤ ((-1 : Int32) - ((v4 + (1 : Int32)) + x2.1)).toInt := hh; rw [q116] at hh; clear q116; omega), (g111)⟩
            · have c117 := c
              have d118 : ¬ x2.1.toInt = (0 : Int) := neqi.mp c117
              refine bind_i (sf_Ground_holds (1 : Int32) (x2.2.1 1 2) x2.2 h105) (fun x3 _ q => ?_)
              obtain ⟨h119, h120, h121, h122⟩ := q
              clear h121
              refine if_i (fun c => ?_) (fun c => ?_)
              · have c123 := c
                have d124 : x3.toInt = (0 : Int) := eqi.mp c123
                refine bind_i (sf_Crowd_isCutOff (1 : Int32) ((v4 + (1 : Int32)) + x2.1) x2.1 x2.2 h105) (fun x11 _ q => ?_)
                obtain ⟨h125, h126⟩ := q
                refine if_i (fun c => ?_) (fun c => ?_)
                · have c127 := c
                  have d128 : x11.toInt = (0 : Int) := eqi.mp c127
                  have q129 : (v4 + (1 : Int32)).toInt = v4.toInt + (1 : Int) := add_ti rfl rfl (by omega) (by omega)
                  have q130 : ((v4 + (1 : Int32)) + x2.1).toInt = (v4 + (1 : Int32)).toInt + x2.1.toInt := add_ti rfl rfl (by omega) (by omega)
                  have q131 : (-((v4 + (1 : Int32)) + x2.1)).toInt = -((v4 + (1 : Int32)) + x2.1).toInt := neg_ti rfl (by omega) (by omega)
                  exact ⟨((-((v4 + (1 : Int32)) + x2.1)), x2.2), rfl, h105, hG110, (show (-84 : Int) ≤ (-((v4 + (1 : Int32)) + x2.1)).toInt by omega), (show (-((v4 + (1 : Int32)) + x2.1)).toInt ≤ (89 : Int) by omega), (fun hh => by have hh : (0 : Int) ≤ (-((v4 + (1 : Int32)) + x2.1)).toInt := hh; omega), (g111)⟩
                · have c132 := c
                  have d133 : ¬ x11.toInt = (0 : Int) := neqi.mp c132
                  have q134 : (v4 + (1 : Int32)).toInt = v4.toInt + (1 : Int) := add_ti rfl rfl (by omega) (by omega)
                  have q135 : ((v4 + (1 : Int32)) + x2.1).toInt = (v4 + (1 : Int32)).toInt + x2.1.toInt := add_ti rfl rfl (by omega) (by omega)
                  have q136 : ((-1 : Int32) - ((v4 + (1 : Int32)) + x2.1)).toInt = (-1 : Int) - ((v4 + (1 : Int32)) + x2.1).toInt := sub_ti rfl rfl (by omega) (by omega)
                  exact ⟨(((-1 : Int32) - ((v4 + (1 : Int32)) + x2.1)), x2.2), rfl, h105, hG110, (show (-84 : Int) ≤ ((-1 : Int32) - ((v4 + (1 : Int32)) + x2.1)).toInt by rw [q136]; clear q136; omega), (show ((-1 : Int32) - ((v4 + (1 : Int32)) + x2.1)).toInt ≤ (89 : Int) by rw [q136]; clear q136; omega), (fun hh => by have hh : (0 : Int) ≤ ((-1 : Int32) - ((v4 + (1 : Int32)) + x2.1)).toInt := hh; rw [q136] at hh; clear q136; omega), (g111)⟩
              · have c137 := c
                have d138 : ¬ x3.toInt = (0 : Int) := neqi.mp c137
                have q139 : (v4 + (1 : Int32)).toInt = v4.toInt + (1 : Int) := add_ti rfl rfl (by omega) (by omega)
                have q140 : ((v4 + (1 : Int32)) + x2.1).toInt = (v4 + (1 : Int32)).toInt + x2.1.toInt := add_ti rfl rfl (by omega) (by omega)
                refine bind_i (sf_Signs_at ((v4 + (1 : Int32)) + x2.1) (76 : Int32) x2.2 h105) (fun x4 _ q => ?_)
                obtain ⟨h141, h142, h143⟩ := q
                refine if_i (fun c => ?_) (fun c => ?_)
                · have c144 := c
                  have d145 : x4.toInt = (58 : Int) := eqi.mp c144
                  refine inb_i (by omega) (by omega) ?_
                  refine mem_i (fun M5 e147 => ?_)
                  have hJ148 : J M5 := by rw [e147]; exact Jw_9 h105 v3.toNatClampNeg (x2.2.1 1 2) (show (0 : Int) ≤ (x2.2.1 1 2).toInt by omega) (show (x2.2.1 1 2).toInt ≤ (35 : Int) by omega)
                  have hG149 : Gc 0 M M5 := Gc_i hG110 e147 (by decide)
                  have f150 : (M5.1 1 2).toInt = (x2.2.1 1 2).toInt := by rw [e147]; rw [si_ne (by exact fun e => absurd e.1 (by decide))]
                  have g151 : M5.1 6 4 = M.1 6 4 := (congrArg (fun m : Mem => m.1 6 4) e147).trans ((si_ne (by exact fun e => absurd e.1 (by decide))).trans g111)
                  clear e147
                  refine mem_i (fun M6 e153 => ?_)
                  have hJ154 : J M6 := by rw [e153]; exact Jw_fld okf_6_6 hJ148 ((M5.1 6 6) ||| ((1 : Int32) <<< (v3 &&& 31)))
                  have hG155 : Gc 0 M M6 := Gc_i hG149 e153 (by decide)
                  have f156 : (M6.1 1 2).toInt = (M5.1 1 2).toInt := by rw [e153]; rw [si_ne (by exact fun e => absurd e.1 (by decide))]
                  have g157 : M6.1 6 4 = M.1 6 4 := (congrArg (fun m : Mem => m.1 6 4) e153).trans ((si_ne (by exact fun e => absurd e.2 (by decide))).trans g151)
                  clear e153
                  have q158 : (v3 * (9 : Int32)).toInt = v3.toInt * (9 : Int) := mul_ti rfl rfl (by omega) (by omega)
                  refine bind_i (sf_Signs_steps (((v4 + (1 : Int32)) + x2.1) + (1 : Int32)) (76 : Int32) 7 (v3 * (9 : Int32)) M6 FS_7 (⟨show (0 : Int) ≤ (v3 * (9 : Int32)).toInt by omega, show (v3 * (9 : Int32)).toInt ≤ (63 : Int) by omega⟩) hJ154) (fun x7 _ q => ?_)
                  obtain ⟨h159, h160, h161, h162, h163⟩ := q
                  have hG164 : Gc 0 M x7.2 := Gc_t hG155 h160
                  have g165 := h163.trans g157
                  refine inb_i (by omega) (by omega) ?_
                  refine mem_i (fun M8 e167 => ?_)
                  have hJ168 : J M8 := by rw [e167]; exact Jw_any ok_8 h159 v3.toNatClampNeg x7.1
                  have hG169 : Gc 0 M M8 := Gc_i hG164 e167 (by decide)
                  have f170 : (M8.1 8 v3.toNatClampNeg).toInt = x7.1.toInt := by rw [e167, si_eq]
                  have g171 : M8.1 6 4 = M.1 6 4 := (congrArg (fun m : Mem => m.1 6 4) e167).trans ((si_ne (by exact fun e => absurd e.1 (by decide))).trans g165)
                  clear e167
                  refine inb_i (by omega) (by omega) ?_
                  refine inb_i (by omega) (by omega) ?_
                  refine if_i (fun c => ?_) (fun c => ?_)
                  · have c172 := c
                    have d173 : (M8.1 8 v3.toNatClampNeg).toInt = (0 : Int) := eqi.mp c172
                    have q174 : (((v4 + (1 : Int32)) + x2.1) + (1 : Int32)).toInt = ((v4 + (1 : Int32)) + x2.1).toInt + (1 : Int) := add_ti rfl rfl (by omega) (by omega)
                    have q175 : ((((v4 + (1 : Int32)) + x2.1) + (1 : Int32)) + (M8.1 8 v3.toNatClampNeg)).toInt = (((v4 + (1 : Int32)) + x2.1) + (1 : Int32)).toInt + (M8.1 8 v3.toNatClampNeg).toInt := add_ti rfl rfl (by omega) (by omega)
                    have q176 : ((-1 : Int32) - ((((v4 + (1 : Int32)) + x2.1) + (1 : Int32)) + (M8.1 8 v3.toNatClampNeg))).toInt = (-1 : Int) - ((((v4 + (1 : Int32)) + x2.1) + (1 : Int32)) + (M8.1 8 v3.toNatClampNeg)).toInt := sub_ti rfl rfl (by omega) (by omega)
                    exact ⟨(((-1 : Int32) - ((((v4 + (1 : Int32)) + x2.1) + (1 : Int32)) + (M8.1 8 v3.toNatClampNeg))), M8), rfl, hJ168, hG169, (show (-84 : Int) ≤ ((-1 : Int32) - ((((v4 + (1 : Int32)) + x2.1) + (1 : Int32)) + (M8.1 8 v3.toNatClampNeg))).toInt by rw [q176]; clear q176; omega), (show ((-1 : Int32) - ((((v4 + (1 : Int32)) + x2.1) + (1 : Int32)) + (M8.1 8 v3.toNatClampNeg))).toInt ≤ (89 : Int) by rw [q176]; clear q176; omega), (fun hh => by have hh : (0 : Int) ≤ ((-1 : Int32) - ((((v4 + (1 : Int32)) + x2.1) + (1 : Int32)) + (M8.1 8 v3.toNatClampNeg))).toInt := hh; rw [q176] at hh; clear q176; omega), (g171)⟩
                  · have c177 := c
                    have d178 : ¬ (M8.1 8 v3.toNatClampNeg).toInt = (0 : Int) := neqi.mp c177
                    have q179 : (((v4 + (1 : Int32)) + x2.1) + (1 : Int32)).toInt = ((v4 + (1 : Int32)) + x2.1).toInt + (1 : Int) := add_ti rfl rfl (by omega) (by omega)
                    have q180 : ((((v4 + (1 : Int32)) + x2.1) + (1 : Int32)) + (M8.1 8 v3.toNatClampNeg)).toInt = (((v4 + (1 : Int32)) + x2.1) + (1 : Int32)).toInt + (M8.1 8 v3.toNatClampNeg).toInt := add_ti rfl rfl (by omega) (by omega)
                    exact ⟨(((((v4 + (1 : Int32)) + x2.1) + (1 : Int32)) + (M8.1 8 v3.toNatClampNeg)), M8), rfl, hJ168, hG169, (show (-84 : Int) ≤ ((((v4 + (1 : Int32)) + x2.1) + (1 : Int32)) + (M8.1 8 v3.toNatClampNeg)).toInt by omega), (show ((((v4 + (1 : Int32)) + x2.1) + (1 : Int32)) + (M8.1 8 v3.toNatClampNeg)).toInt ≤ (89 : Int) by omega), (fun hh => by have hh : (0 : Int) ≤ ((((v4 + (1 : Int32)) + x2.1) + (1 : Int32)) + (M8.1 8 v3.toNatClampNeg)).toInt := hh; omega), (g171)⟩
                · have c181 := c
                  have d182 : ¬ x4.toInt = (58 : Int) := neqi.mp c181
                  have q183 : ((-1 : Int32) - ((v4 + (1 : Int32)) + x2.1)).toInt = (-1 : Int) - ((v4 + (1 : Int32)) + x2.1).toInt := sub_ti rfl rfl (by omega) (by omega)
                  exact ⟨(((-1 : Int32) - ((v4 + (1 : Int32)) + x2.1)), x2.2), rfl, h105, hG110, (show (-84 : Int) ≤ ((-1 : Int32) - ((v4 + (1 : Int32)) + x2.1)).toInt by rw [q183]; clear q183; omega), (show ((-1 : Int32) - ((v4 + (1 : Int32)) + x2.1)).toInt ≤ (89 : Int) by rw [q183]; clear q183; omega), (fun hh => by have hh : (0 : Int) ≤ ((-1 : Int32) - ((v4 + (1 : Int32)) + x2.1)).toInt := hh; rw [q183] at hh; clear q183; omega), (g111)⟩
          · have c184 := c
            have d185 : ¬ x1.toInt = (119 : Int) := neqi.mp c184
            exfalso; omega
        · have c186 := c
          have d187 : ¬ x1.toInt = (119 : Int) := neqi.mp c186
          have q188 : ((-1 : Int32) - v4).toInt = (-1 : Int) - v4.toInt := sub_ti rfl rfl (by omega) (by omega)
          exact ⟨(((-1 : Int32) - v4), M), rfl, hJ, Gc_r, (show (-84 : Int) ≤ ((-1 : Int32) - v4).toInt by rw [q188]; clear q188; omega), (show ((-1 : Int32) - v4).toInt ≤ (89 : Int) by rw [q188]; clear q188; omega), (fun hh => by have hh : (0 : Int) ≤ ((-1 : Int32) - v4).toInt := hh; rw [q188] at hh; clear q188; omega), (rfl)⟩
