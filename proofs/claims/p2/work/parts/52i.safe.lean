/-! safety of the class, 9 -/
theorem sl_Law_read_29  (a0_ : Int32) (a1_ : Int32) (N_ : Mem) (hN : J N_) (i1_ : (0 : Int) ≤ a0_.toInt) (i2_ : a0_.toInt ≤ (82 : Int)) (i3_ : (0 : Int) ≤ a1_.toInt) (i4_ : a1_.toInt ≤ (41 : Int)) : ∃ x, iter (lb_Law_read_29) FU (a0_, a1_, N_) = some x ∧ (SQ (fun r : Mem => J r) (SQ (fun r : Int32 × Mem => J r.2 ∧ (0 : Int) ≤ r.1.toInt ∧ r.1.toInt ≤ (82 : Int)) (fun r : Int32 × Mem => J r.2 ∧ (0 : Int) ≤ r.1.toInt ∧ r.1.toInt ≤ (79 : Int)))) x := by
  refine iter_r (fun s : Int32 × Int32 × Mem => J s.2.2 ∧ (0 : Int) ≤ s.1.toInt ∧ s.1.toInt ≤ (82 : Int) ∧ (0 : Int) ≤ s.2.1.toInt ∧ s.2.1.toInt ≤ (41 : Int)) (fun s : Int32 × Int32 × Mem => (41 - s.2.1.toInt).toNat) (SQ (fun r : Mem => J r) (SQ (fun r : Int32 × Mem => J r.2 ∧ (0 : Int) ≤ r.1.toInt ∧ r.1.toInt ≤ (82 : Int)) (fun r : Int32 × Mem => J r.2 ∧ (0 : Int) ≤ r.1.toInt ∧ r.1.toInt ≤ (79 : Int)))) ?_ FU (a0_, a1_, N_) ⟨hN, i1_, i2_, i3_, i4_⟩ (by show (41 - a1_.toInt).toNat < FU; rw [FU_v]; omega)
  clear i4_ i3_ i2_ i1_ hN
  rintro ⟨a0_', a1_', N_'⟩ ⟨hN, i1_, i2_, i3_, i4_⟩
  dsimp only at hN i1_ i2_ i3_ i4_
  unfold lb_Law_read_29
  dsimp only
  refine if_i (fun c => ?_) (fun c => ?_)
  · have c1 := c
    have d2 : (40 : Int) < a1_'.toInt := lti.mp c1
    exact ⟨_, rfl, hN⟩
  · have c3 := c
    have d4 : a1_'.toInt ≤ (40 : Int) := nlti.mp c3
    refine if_i (fun c => ?_) (fun c => ?_)
    · have c5 := c
      have r6 := Jr_1_1 hN
      have d7 : (N_'.1 1 1).toInt ≤ (0 : Int) := lei.mp c5
      exact ⟨_, rfl, hN⟩
    · have c8 := c
      have r9 := Jr_1_1 hN
      have d10 : (0 : Int) < (N_'.1 1 1).toInt := nlei.mp c8
      refine bind_i (sf_Signs_at a0_' (40 : Int32) N_' hN) (fun x6 _ q => ?_)
      obtain ⟨h11, h12, h13⟩ := q
      refine if_i (fun c => ?_) (fun c => ?_)
      · have c14 := c
        have d15 : x6.toInt = (-1 : Int) := eqi.mp c14
        exact ⟨_, rfl, hN, (show (0 : Int) ≤ a0_'.toInt by omega), (show a0_'.toInt ≤ (82 : Int) by omega)⟩
      · have c16 := c
        have d17 : ¬ x6.toInt = (-1 : Int) := neqi.mp c16
        refine if_i (fun c => ?_) (fun c => ?_)
        · have c18 := c
          have d19 : (N_'.1 40 10).toInt = (0 : Int) := eqi.mp c18
          refine bind_i (sf_Law_readThing a0_' x6 N_' hN) (fun x7 _ q => ?_)
          obtain ⟨h20, h21, h22⟩ := q
          unfold j_Law_read_108_29
          refine if_i (fun c => ?_) (fun c => ?_)
          · have c23 := c
            have d24 : x7.1.toInt = (0 : Int) := eqi.mp c23
            exact ⟨_, rfl, h20, (show (0 : Int) ≤ a0_'.toInt by omega), (show a0_'.toInt ≤ (79 : Int) by omega)⟩
          · have c25 := c
            have d26 : ¬ x7.1.toInt = (0 : Int) := neqi.mp c25
            have q27 : (a0_' + x7.1).toInt = a0_'.toInt + x7.1.toInt := add_ti rfl rfl (by omega) (by omega)
            have q28 : (a1_' + (1 : Int32)).toInt = a1_'.toInt + (1 : Int) := add_ti rfl rfl (by omega) (by omega)
            exact ⟨_, rfl, ⟨h20, (show (0 : Int) ≤ (a0_' + x7.1).toInt by omega), (show (a0_' + x7.1).toInt ≤ (82 : Int) by omega), (show (0 : Int) ≤ (a1_' + (1 : Int32)).toInt by omega), (show (a1_' + (1 : Int32)).toInt ≤ (41 : Int) by omega)⟩, show (41 - (a1_' + (1 : Int32)).toInt).toNat < (41 - a1_'.toInt).toNat by omega⟩
        · have c29 := c
          have d30 : ¬ (N_'.1 40 10).toInt = (0 : Int) := neqi.mp c29
          refine bind_i (sf_Law_readBehind x6 N_' hN) (fun x9 _ q => ?_)
          obtain ⟨h31, h32, h33⟩ := q
          unfold j_Law_read_108_29
          refine if_i (fun c => ?_) (fun c => ?_)
          · have c34 := c
            have d35 : x9.1.toInt = (0 : Int) := eqi.mp c34
            exact ⟨_, rfl, h31, (show (0 : Int) ≤ a0_'.toInt by omega), (show a0_'.toInt ≤ (79 : Int) by omega)⟩
          · have c36 := c
            have d37 : ¬ x9.1.toInt = (0 : Int) := neqi.mp c36
            have q38 : (a0_' + x9.1).toInt = a0_'.toInt + x9.1.toInt := add_ti rfl rfl (by omega) (by omega)
            have q39 : (a1_' + (1 : Int32)).toInt = a1_'.toInt + (1 : Int) := add_ti rfl rfl (by omega) (by omega)
            exact ⟨_, rfl, ⟨h31, (show (0 : Int) ≤ (a0_' + x9.1).toInt by omega), (show (a0_' + x9.1).toInt ≤ (82 : Int) by omega), (show (0 : Int) ≤ (a1_' + (1 : Int32)).toInt by omega), (show (a1_' + (1 : Int32)).toInt ≤ (41 : Int) by omega)⟩, show (41 - (a1_' + (1 : Int32)).toInt).toNat < (41 - a1_'.toInt).toNat by omega⟩
theorem sf_Law_read (M : Mem) (hJ : J M) : ∃ r : Int32 × Mem, f_Law_read M = some r ∧ (J r.2 ∧ (-83 : Int) ≤ r.1.toInt ∧ r.1.toInt ≤ (0 : Int)) := by
  unfold f_Law_read
  refine mem_i (fun M1 e2 => ?_)
  have hJ3 : J M1 := by rw [e2]; exact Jw_any ok_40 hJ 5 (0 : Int32)
  have f4 : (M1.1 40 5).toInt = (0 : Int) := by rw [e2, si_eq]; rfl
  clear e2
  refine mem_i (fun M2 e6 => ?_)
  have hJ7 : J M2 := by rw [e6]; exact Jw_any ok_40 hJ3 6 (0 : Int32)
  have f8 : (M2.1 40 5).toInt = (M1.1 40 5).toInt := by rw [e6]; rw [si_ne (by exact fun e => absurd e.2 (by decide))]
  have f9 : (M2.1 40 6).toInt = (0 : Int) := by rw [e6, si_eq]; rfl
  clear e6
  refine mem_i (fun M3 e11 => ?_)
  have hJ12 : J M3 := by rw [e11]; exact Jw_any ok_40 hJ7 8 (0 : Int32)
  have f13 : (M3.1 40 5).toInt = (M2.1 40 5).toInt := by rw [e11]; rw [si_ne (by exact fun e => absurd e.2 (by decide))]
  have f14 : (M3.1 40 6).toInt = (M2.1 40 6).toInt := by rw [e11]; rw [si_ne (by exact fun e => absurd e.2 (by decide))]
  have f15 : (M3.1 40 8).toInt = (0 : Int) := by rw [e11, si_eq]; rfl
  clear e11
  refine mem_i (fun M4 e17 => ?_)
  have hJ18 : J M4 := by rw [e17]; exact Jw_any ok_40 hJ12 9 (0 : Int32)
  have f19 : (M4.1 40 5).toInt = (M3.1 40 5).toInt := by rw [e17]; rw [si_ne (by exact fun e => absurd e.2 (by decide))]
  have f20 : (M4.1 40 6).toInt = (M3.1 40 6).toInt := by rw [e17]; rw [si_ne (by exact fun e => absurd e.2 (by decide))]
  have f21 : (M4.1 40 8).toInt = (M3.1 40 8).toInt := by rw [e17]; rw [si_ne (by exact fun e => absurd e.2 (by decide))]
  have f22 : (M4.1 40 9).toInt = (0 : Int) := by rw [e17, si_eq]; rfl
  clear e17
  refine mem_i (fun M5 e24 => ?_)
  have hJ25 : J M5 := by rw [e24]; exact Jw_any ok_40 hJ18 10 (0 : Int32)
  have f26 : (M5.1 40 5).toInt = (M4.1 40 5).toInt := by rw [e24]; rw [si_ne (by exact fun e => absurd e.2 (by decide))]
  have f27 : (M5.1 40 6).toInt = (M4.1 40 6).toInt := by rw [e24]; rw [si_ne (by exact fun e => absurd e.2 (by decide))]
  have f28 : (M5.1 40 8).toInt = (M4.1 40 8).toInt := by rw [e24]; rw [si_ne (by exact fun e => absurd e.2 (by decide))]
  have f29 : (M5.1 40 9).toInt = (M4.1 40 9).toInt := by rw [e24]; rw [si_ne (by exact fun e => absurd e.2 (by decide))]
  have f30 : (M5.1 40 10).toInt = (0 : Int) := by rw [e24, si_eq]; rfl
  clear e24
  refine bind_i (sl_Law_read_29  (0 : Int32) (0 : Int32) M5 hJ25 (show (0 : Int) ≤ (0 : Int32).toInt by decide) (show (0 : Int32).toInt ≤ (82 : Int) by decide) (show (0 : Int) ≤ (0 : Int32).toInt by decide) (show (0 : Int32).toInt ≤ (41 : Int) by decide)) (fun x31 _ q => ?_)
  rcases x31 with y | y | y
  · have q9 : J y := q
    dsimp only [Sum.elim_inl, Sum.elim_inr]
    have h33 := q9
    unfold j_Law_read_130
    refine bind_i (sf_Law_settle (0 : Int32) y h33) (fun x16 _ q => ?_)
    have h34 := q
    refine mem_i (fun M17 e36 => ?_)
    have hJ37 : J M17 := by rw [e36]; exact Jc_any (k0 := 42) (k1 := 41) ⟨ok_42, ok_41⟩ h34
    clear e36
    refine mem_i (fun M18 e39 => ?_)
    have hJ40 : J M18 := by rw [e39]; exact Jw_any ok_40 hJ37 4 (M17.1 40 5)
    clear e39
    exact ⟨((0 : Int32), M18), rfl, hJ40, (show (-83 : Int) ≤ (0 : Int32).toInt by decide), (show (0 : Int32).toInt ≤ (0 : Int) by decide)⟩
  · have q9 : J y.2 ∧ (0 : Int) ≤ y.1.toInt ∧ y.1.toInt ≤ (82 : Int) := q
    dsimp only [Sum.elim_inl, Sum.elim_inr]
    obtain ⟨h42, h43, h44⟩ := q9
    refine if_i (fun c => ?_) (fun c => ?_)
    · have c45 := c
      have r46 := Jr_1_1 h42
      have d47 : (40 : Int) < (y.2.1 1 1).toInt := lti.mp c45
      have q48 : ((-1 : Int32) - y.1).toInt = (-1 : Int) - y.1.toInt := sub_ti rfl rfl (by omega) (by omega)
      exact ⟨(((-1 : Int32) - y.1), y.2), rfl, h42, (show (-83 : Int) ≤ ((-1 : Int32) - y.1).toInt by rw [q48]; clear q48; omega), (show ((-1 : Int32) - y.1).toInt ≤ (0 : Int) by rw [q48]; clear q48; omega)⟩
    · have c49 := c
      have r50 := Jr_1_1 h42
      have d51 : (y.2.1 1 1).toInt ≤ (40 : Int) := nlti.mp c49
      refine if_i (fun c => ?_) (fun c => ?_)
      · have c52 := c
        have d53 : (y.2.1 40 10).toInt = (0 : Int) := eqi.mp c52
        have q54 : ((-1 : Int32) - y.1).toInt = (-1 : Int) - y.1.toInt := sub_ti rfl rfl (by omega) (by omega)
        exact ⟨(((-1 : Int32) - y.1), y.2), rfl, h42, (show (-83 : Int) ≤ ((-1 : Int32) - y.1).toInt by rw [q54]; clear q54; omega), (show ((-1 : Int32) - y.1).toInt ≤ (0 : Int) by rw [q54]; clear q54; omega)⟩
      · have c55 := c
        have d56 : ¬ (y.2.1 40 10).toInt = (0 : Int) := neqi.mp c55
        refine if_i (fun c => ?_) (fun c => ?_)
        · have c57 := c
          have d58 : (y.2.1 40 8).toInt ≤ (0 : Int) := lei.mp c57
          unfold j_Law_read_130
          refine bind_i (sf_Law_settle (0 : Int32) y.2 h42) (fun x16 _ q => ?_)
          have h59 := q
          refine mem_i (fun M17 e61 => ?_)
          have hJ62 : J M17 := by rw [e61]; exact Jc_any (k0 := 42) (k1 := 41) ⟨ok_42, ok_41⟩ h59
          clear e61
          refine mem_i (fun M18 e64 => ?_)
          have hJ65 : J M18 := by rw [e64]; exact Jw_any ok_40 hJ62 4 (M17.1 40 5)
          clear e64
          exact ⟨((0 : Int32), M18), rfl, hJ65, (show (-83 : Int) ≤ (0 : Int32).toInt by decide), (show (0 : Int32).toInt ≤ (0 : Int) by decide)⟩
        · have c66 := c
          have d67 : (0 : Int) < (y.2.1 40 8).toInt := nlei.mp c66
          have q68 : ((-1 : Int32) - y.1).toInt = (-1 : Int) - y.1.toInt := sub_ti rfl rfl (by omega) (by omega)
          exact ⟨(((-1 : Int32) - y.1), y.2), rfl, h42, (show (-83 : Int) ≤ ((-1 : Int32) - y.1).toInt by rw [q68]; clear q68; omega), (show ((-1 : Int32) - y.1).toInt ≤ (0 : Int) by rw [q68]; clear q68; omega)⟩
  · have q9 : J y.2 ∧ (0 : Int) ≤ y.1.toInt ∧ y.1.toInt ≤ (79 : Int) := q
    dsimp only [Sum.elim_inl, Sum.elim_inr]
    obtain ⟨h70, h71, h72⟩ := q9
    have q73 : ((-1 : Int32) - y.1).toInt = (-1 : Int) - y.1.toInt := sub_ti rfl rfl (by omega) (by omega)
    exact ⟨(((-1 : Int32) - y.1), y.2), rfl, h70, (show (-83 : Int) ≤ ((-1 : Int32) - y.1).toInt by rw [q73]; clear q73; omega), (show ((-1 : Int32) - y.1).toInt ≤ (0 : Int) by rw [q73]; clear q73; omega)⟩
theorem sf_Law_push (v1 : Int32) (M : Mem) (hJ : J M) : ∃ r : Mem, f_Law_push v1 M = some r ∧ (J r) := by
  unfold f_Law_push
  refine if_i (fun c => ?_) (fun c => ?_)
  · have c1 := c
    have d2 : (M.1 40 7).toInt < (0 : Int) := lti.mp c1
    exact ⟨M, rfl, hJ⟩
  · have c3 := c
    have d4 : (0 : Int) ≤ (M.1 40 7).toInt := nlti.mp c3
    refine if_i (fun c => ?_) (fun c => ?_)
    · have c5 := c
      have d6 : (40 : Int) ≤ (M.1 40 7).toInt := lei.mp c5
      exact ⟨M, rfl, hJ⟩
    · have c7 := c
      have d8 : (M.1 40 7).toInt < (40 : Int) := nlei.mp c7
      refine inb_i (by omega) (by omega) ?_
      refine mem_i (fun M1 e10 => ?_)
      have hJ11 : J M1 := by rw [e10]; exact Jw_any ok_44 hJ (M.1 40 7).toNatClampNeg v1
      have f12 : (M1.1 40 7).toInt = (M.1 40 7).toInt := by rw [e10]; rw [si_ne (by exact fun e => absurd e.1 (by decide))]
      clear e10
      refine mem_i (fun M2 e14 => ?_)
      have hJ15 : J M2 := by rw [e14]; exact Jw_any ok_40 hJ11 7 ((M1.1 40 7) + (1 : Int32))
      have q16 : ((M1.1 40 7) + (1 : Int32)).toInt = (M1.1 40 7).toInt + (1 : Int) := add_ti rfl rfl (by omega) (by omega)
      have f17 : (M2.1 40 7).toInt = ((M1.1 40 7) + (1 : Int32)).toInt := by rw [e14, si_eq]
      clear e14
      exact ⟨M2, rfl, hJ15⟩
theorem sf_Law_quality (v0 : Int32) (v1 : Int32) (v2 : Nat) (M : Mem) (hp_v1 : (0 : Int) ≤ v1.toInt ∧ v1.toInt ≤ (7 : Int)) (hk_v2 : kd v2 = 10 + 7) (hJ : J M) : ∃ r : Int32, f_Law_quality v0 v1 v2 M = some r ∧ (True) := by
  unfold f_Law_quality
  refine c_i hk_v2 ?_
  refine inb_i (by omega) (by omega) ?_
  refine if_i (fun c => ?_) (fun c => ?_)
  · have c1 := c
    have d2 : v0.toInt = (105 : Int) := eqi.mp c1
    exact ⟨v1, rfl, trivial⟩
  · have c3 := c
    have d4 : ¬ v0.toInt = (105 : Int) := neqi.mp c3
    refine if_i (fun c => ?_) (fun c => ?_)
    · have c5 := c
      have d6 : v0.toInt = (107 : Int) := eqi.mp c5
      exact ⟨(((M.1 v2 8) >>> (v1 &&& 31)) &&& (1 : Int32)), rfl, trivial⟩
    · have c7 := c
      have d8 : ¬ v0.toInt = (107 : Int) := neqi.mp c7
      refine if_i (fun c => ?_) (fun c => ?_)
      · have c9 := c
        have d10 : v0.toInt = (109 : Int) := eqi.mp c9
        exact ⟨(M.1 v2 7), rfl, trivial⟩
      · have c11 := c
        have d12 : ¬ v0.toInt = (109 : Int) := neqi.mp c11
        refine if_i (fun c => ?_) (fun c => ?_)
        · have c13 := c
          have d14 : v0.toInt = (110 : Int) := eqi.mp c13
          refine inb_i (by omega) (by omega) ?_
          have r15 := Jr_6_4 hJ
          refine bind_i (sf_Scene_standing v2 (M.1 (rf v2 1) v1.toNatClampNeg) (M.1 (rf v2 0) v1.toNatClampNeg) (M.1 6 4) M hk_v2 (⟨show (0 : Int) ≤ (M.1 6 4).toInt by omega, show (M.1 6 4).toInt ≤ (8 : Int) by omega⟩) hJ) (fun x4 _ q => ?_)
          refine bind_i (sf_JInteger_bitCount x4) (fun x5 _ q => ?_)
          obtain ⟨h16, h17⟩ := q
          exact ⟨(x5 - (1 : Int32)), rfl, trivial⟩
        · have c18 := c
          have d19 : ¬ v0.toInt = (110 : Int) := neqi.mp c18
          refine if_i (fun c => ?_) (fun c => ?_)
          · have c20 := c
            have d21 : v0.toInt = (115 : Int) := eqi.mp c20
            have r22 := Jr_scene0 hJ hk_v2 v1.toNatClampNeg
            refine bind_i (sf_Ground_isStair (M.1 (rf v2 0) v1.toNatClampNeg) M hJ) (fun x7 _ q => ?_)
            obtain ⟨h23, h24, h25⟩ := q
            refine if_i (fun c => ?_) (fun c => ?_)
            · have c26 := c
              have d27 : x7.toInt = (0 : Int) := eqi.mp c26
              exact ⟨(0 : Int32), rfl, trivial⟩
            · have c28 := c
              have d29 : ¬ x7.toInt = (0 : Int) := neqi.mp c28
              exact ⟨(1 : Int32), rfl, trivial⟩
          · have c30 := c
            have d31 : ¬ v0.toInt = (115 : Int) := neqi.mp c30
            refine if_i (fun c => ?_) (fun c => ?_)
            · have c32 := c
              have d33 : v0.toInt = (119 : Int) := eqi.mp c32
              refine bind_i (sf_Crowd_woman v1 M hJ) (fun x10 _ q => ?_)
              obtain ⟨h34, h35⟩ := q
              refine if_i (fun c => ?_) (fun c => ?_)
              · have c36 := c
                have d37 : x10.toInt = (0 : Int) := eqi.mp c36
                exact ⟨(0 : Int32), rfl, trivial⟩
              · have c38 := c
                have d39 : ¬ x10.toInt = (0 : Int) := neqi.mp c38
                exact ⟨(1 : Int32), rfl, trivial⟩
            · have c40 := c
              have d41 : ¬ v0.toInt = (119 : Int) := neqi.mp c40
              refine if_i (fun c => ?_) (fun c => ?_)
              · have c42 := c
                have d43 : v0.toInt = (120 : Int) := eqi.mp c42
                refine bind_i (sf_Ground_column (M.1 (rf v2 0) v1.toNatClampNeg) M hJ) (fun x13 _ q => ?_)
                exact ⟨x13, rfl, trivial⟩
              · have c44 := c
                have d45 : ¬ v0.toInt = (120 : Int) := neqi.mp c44
                refine if_i (fun c => ?_) (fun c => ?_)
                · have c46 := c
                  have d47 : v0.toInt = (121 : Int) := eqi.mp c46
                  refine bind_i (sf_Ground_line (M.1 (rf v2 0) v1.toNatClampNeg) M hJ) (fun x15 _ q => ?_)
                  exact ⟨x15, rfl, trivial⟩
                · have c48 := c
                  have d49 : ¬ v0.toInt = (121 : Int) := neqi.mp c48
                  exact ⟨(0 : Int32), rfl, trivial⟩
theorem sf_Law_pop (M : Mem) (hJ : J M) : ∃ r : Int32 × Mem, f_Law_pop M = some r ∧ (J r.2) := by
  unfold f_Law_pop
  refine if_i (fun c => ?_) (fun c => ?_)
  · have c1 := c
    have d2 : (M.1 40 7).toInt < (1 : Int) := lti.mp c1
    exact ⟨((0 : Int32), M), rfl, hJ⟩
  · have c3 := c
    have d4 : (1 : Int) ≤ (M.1 40 7).toInt := nlti.mp c3
    refine if_i (fun c => ?_) (fun c => ?_)
    · have c5 := c
      have d6 : (M.1 40 7).toInt ≤ (40 : Int) := lei.mp c5
      refine mem_i (fun M1 e8 => ?_)
      have hJ9 : J M1 := by rw [e8]; exact Jw_any ok_40 hJ 7 ((M.1 40 7) - (1 : Int32))
      have q10 : ((M.1 40 7) - (1 : Int32)).toInt = (M.1 40 7).toInt - (1 : Int) := sub_ti rfl rfl (by omega) (by omega)
      have f11 : (M1.1 40 7).toInt = ((M.1 40 7) - (1 : Int32)).toInt := by rw [e8, si_eq]
      clear e8
      refine inb_i (by omega) (by omega) ?_
      exact ⟨((M1.1 44 (M1.1 40 7).toNatClampNeg), M1), rfl, hJ9⟩
    · have c12 := c
      have d13 : (40 : Int) < (M.1 40 7).toInt := nlei.mp c12
      exact ⟨((0 : Int32), M), rfl, hJ⟩
theorem sf_Law_joined (v0 : Int32) (v1 : Int32) (v2 : Int32) : ∃ r : Int32, f_Law_joined v0 v1 v2 = some r ∧ (True) := by
  unfold f_Law_joined
  refine if_i (fun c => ?_) (fun c => ?_)
  · have c1 := c
    have d2 : v1.toInt = (42 : Int) := eqi.mp c1
    exact ⟨(v0 * v2), rfl, trivial⟩
  · have c3 := c
    have d4 : ¬ v1.toInt = (42 : Int) := neqi.mp c3
    refine if_i (fun c => ?_) (fun c => ?_)
    · have c5 := c
      have d6 : v1.toInt = (43 : Int) := eqi.mp c5
      exact ⟨(v0 + v2), rfl, trivial⟩
    · have c7 := c
      have d8 : ¬ v1.toInt = (43 : Int) := neqi.mp c7
      refine if_i (fun c => ?_) (fun c => ?_)
      · have c9 := c
        have d10 : v1.toInt = (45 : Int) := eqi.mp c9
        exact ⟨(v0 - v2), rfl, trivial⟩
      · have c11 := c
        have d12 : ¬ v1.toInt = (45 : Int) := neqi.mp c11
        refine if_i (fun c => ?_) (fun c => ?_)
        · have c13 := c
          have d14 : v1.toInt = (47 : Int) := eqi.mp c13
          refine if_i (fun c => ?_) (fun c => ?_)
          · have c15 := c
            have d16 : v2.toInt = (0 : Int) := eqi.mp c15
            exact ⟨(0 : Int32), rfl, trivial⟩
          · have c17 := c
            have d18 : ¬ v2.toInt = (0 : Int) := neqi.mp c17
            refine z_i (nz2_of (by omega)) ?_
            exact ⟨(v0 / v2), rfl, trivial⟩
        · have c19 := c
          have d20 : ¬ v1.toInt = (47 : Int) := neqi.mp c19
          refine if_i (fun c => ?_) (fun c => ?_)
          · have c21 := c
            have d22 : v1.toInt = (60 : Int) := eqi.mp c21
            refine if_i (fun c => ?_) (fun c => ?_)
            · have c23 := c
              have d24 : v2.toInt ≤ v0.toInt := lei.mp c23
              exact ⟨(0 : Int32), rfl, trivial⟩
            · have c25 := c
              have d26 : v0.toInt < v2.toInt := nlei.mp c25
              exact ⟨(1 : Int32), rfl, trivial⟩
          · have c27 := c
            have d28 : ¬ v1.toInt = (60 : Int) := neqi.mp c27
            refine if_i (fun c => ?_) (fun c => ?_)
            · have c29 := c
              have d30 : v1.toInt = (61 : Int) := eqi.mp c29
              refine if_i (fun c => ?_) (fun c => ?_)
              · have c31 := c
                have d32 : v0.toInt = v2.toInt := eqi.mp c31
                exact ⟨(1 : Int32), rfl, trivial⟩
              · have c33 := c
                have d34 : ¬ v0.toInt = v2.toInt := neqi.mp c33
                exact ⟨(0 : Int32), rfl, trivial⟩
            · have c35 := c
              have d36 : ¬ v1.toInt = (61 : Int) := neqi.mp c35
              refine if_i (fun c => ?_) (fun c => ?_)
              · have c37 := c
                have d38 : v1.toInt = (62 : Int) := eqi.mp c37
                refine if_i (fun c => ?_) (fun c => ?_)
                · have c39 := c
                  have d40 : v0.toInt ≤ v2.toInt := lei.mp c39
                  exact ⟨(0 : Int32), rfl, trivial⟩
                · have c41 := c
                  have d42 : v2.toInt < v0.toInt := nlei.mp c41
                  exact ⟨(1 : Int32), rfl, trivial⟩
              · have c43 := c
                have d44 : ¬ v1.toInt = (62 : Int) := neqi.mp c43
                exact ⟨(0 : Int32), rfl, trivial⟩
theorem sf_Law_work (v1 : Int32) (M : Mem) (hJ : J M) : ∃ r : Mem, f_Law_work v1 M = some r ∧ (J r) := by
  unfold f_Law_work
  refine bind_i (sf_Law_pop M hJ) (fun x1 _ q => ?_)
  have h1 := q
  refine if_i (fun c => ?_) (fun c => ?_)
  · have c2 := c
    have d3 : v1.toInt = (256 : Int) := eqi.mp c2
    refine bind_i (sf_Law_push (-x1.1) x1.2 h1) (fun x5 _ q => ?_)
    have h4 := q
    exact ⟨x5, rfl, h4⟩
  · have c5 := c
    have d6 : ¬ v1.toInt = (256 : Int) := neqi.mp c5
    refine bind_i (sf_Law_pop x1.2 h1) (fun x2 _ q => ?_)
    have h7 := q
    refine bind_i (sf_Law_joined x2.1 v1 x1.1) (fun x3 _ q => ?_)
    refine bind_i (sf_Law_push x3 x2.2 h7) (fun x4 _ q => ?_)
    have h8 := q
    exact ⟨x4, rfl, h8⟩
theorem sl_Law_goes_28 (v1 : Int32) (v2 : Nat) (a0_ : Int32) (N_ : Mem) (hp_v1 : (0 : Int) ≤ v1.toInt ∧ v1.toInt ≤ (7 : Int)) (hk_v2 : kd v2 = 10 + 7) (hN : J N_) (i1_ : (0 : Int) ≤ a0_.toInt) (i2_ : a0_.toInt ≤ (40 : Int)) : ∃ x, iter (lb_Law_goes_28 v1 v2) FU (a0_, N_) = some x ∧ (fun r : Mem => J r) x := by
  refine iter_r (fun s : Int32 × Mem => J s.2 ∧ (0 : Int) ≤ s.1.toInt ∧ s.1.toInt ≤ (40 : Int)) (fun s : Int32 × Mem => (40 - s.1.toInt).toNat) (fun r : Mem => J r) ?_ FU (a0_, N_) ⟨hN, i1_, i2_⟩ (by show (40 - a0_.toInt).toNat < FU; rw [FU_v]; omega)
  clear i2_ i1_ hN
  rintro ⟨a0_', N_'⟩ ⟨hN, i1_, i2_⟩
  dsimp only at hN i1_ i2_
  unfold lb_Law_goes_28
  dsimp only
  refine if_i (fun c => ?_) (fun c => ?_)
  · have c1 := c
    have d2 : (N_'.1 40 4).toInt ≤ a0_'.toInt := lei.mp c1
    exact ⟨_, rfl, hN⟩
  · have c3 := c
    have d4 : a0_'.toInt < (N_'.1 40 4).toInt := nlei.mp c3
    refine if_i (fun c => ?_) (fun c => ?_)
    · have c5 := c
      have d6 : (40 : Int) ≤ a0_'.toInt := lei.mp c5
      exact ⟨_, rfl, hN⟩
    · have c7 := c
      have d8 : a0_'.toInt < (40 : Int) := nlei.mp c7
      refine inb_i (by omega) (by omega) ?_
      refine if_i (fun c => ?_) (fun c => ?_)
      · have c9 := c
        have d10 : (N_'.1 41 a0_'.toNatClampNeg).toInt < (0 : Int) := lti.mp c9
        refine bind_i (sf_Law_isQuality (-(N_'.1 41 a0_'.toNatClampNeg))) (fun x2 _ q => ?_)
        obtain ⟨h11, h12⟩ := q
        refine if_i (fun c => ?_) (fun c => ?_)
        · have c13 := c
          have d14 : x2.toInt = (0 : Int) := eqi.mp c13
          refine bind_i (sf_Law_work (-(N_'.1 41 a0_'.toNatClampNeg)) N_' hN) (fun x3 _ q => ?_)
          have h15 := q
          have q16 : (a0_' + (1 : Int32)).toInt = a0_'.toInt + (1 : Int) := add_ti rfl rfl (by omega) (by omega)
          exact ⟨_, rfl, ⟨h15, (show (0 : Int) ≤ (a0_' + (1 : Int32)).toInt by omega), (show (a0_' + (1 : Int32)).toInt ≤ (40 : Int) by omega)⟩, show (40 - (a0_' + (1 : Int32)).toInt).toNat < (40 - a0_'.toInt).toNat by omega⟩
        · have c17 := c
          have d18 : ¬ x2.toInt = (0 : Int) := neqi.mp c17
          refine bind_i (sf_Law_quality (-(N_'.1 41 a0_'.toNatClampNeg)) v1 v2 N_' (⟨show (0 : Int) ≤ v1.toInt by omega, show v1.toInt ≤ (7 : Int) by omega⟩) hk_v2 hN) (fun x4 _ q => ?_)
          refine bind_i (sf_Law_push x4 N_' hN) (fun x5 _ q => ?_)
          have h19 := q
          have q20 : (a0_' + (1 : Int32)).toInt = a0_'.toInt + (1 : Int) := add_ti rfl rfl (by omega) (by omega)
          exact ⟨_, rfl, ⟨h19, (show (0 : Int) ≤ (a0_' + (1 : Int32)).toInt by omega), (show (a0_' + (1 : Int32)).toInt ≤ (40 : Int) by omega)⟩, show (40 - (a0_' + (1 : Int32)).toInt).toNat < (40 - a0_'.toInt).toNat by omega⟩
      · have c21 := c
        have d22 : (0 : Int) ≤ (N_'.1 41 a0_'.toNatClampNeg).toInt := nlti.mp c21
        refine bind_i (sf_Law_push (N_'.1 41 a0_'.toNatClampNeg) N_' hN) (fun x7 _ q => ?_)
        have h23 := q
        have q24 : (a0_' + (1 : Int32)).toInt = a0_'.toInt + (1 : Int) := add_ti rfl rfl (by omega) (by omega)
        exact ⟨_, rfl, ⟨h23, (show (0 : Int) ≤ (a0_' + (1 : Int32)).toInt by omega), (show (a0_' + (1 : Int32)).toInt ≤ (40 : Int) by omega)⟩, show (40 - (a0_' + (1 : Int32)).toInt).toNat < (40 - a0_'.toInt).toNat by omega⟩
theorem sf_Law_goes (v1 : Int32) (v2 : Nat) (M : Mem) (hp_v1 : (0 : Int) ≤ v1.toInt ∧ v1.toInt ≤ (7 : Int)) (hk_v2 : kd v2 = 10 + 7) (hJ : J M) : ∃ r : Int32 × Mem, f_Law_goes v1 v2 M = some r ∧ (J r.2 ∧ (0 : Int) ≤ r.1.toInt ∧ r.1.toInt ≤ (1 : Int)) := by
  unfold f_Law_goes
  refine c_i hk_v2 ?_
  refine if_i (fun c => ?_) (fun c => ?_)
  · have c1 := c
    have d2 : (M.1 v2 9).toInt = (1 : Int) := eqi.mp c1
    refine inb_i (by omega) (by omega) ?_
    refine if_i (fun c => ?_) (fun c => ?_)
    · have c3 := c
      have r4 := Jr_scene1 hJ hk_v2 v1.toNatClampNeg
      have d5 : (M.1 (rf v2 1) v1.toNatClampNeg).toInt = (1 : Int) := eqi.mp c3
      exact ⟨((0 : Int32), M), rfl, hJ, (show (0 : Int) ≤ (0 : Int32).toInt by decide), (show (0 : Int32).toInt ≤ (1 : Int) by decide)⟩
    · have c6 := c
      have r7 := Jr_scene1 hJ hk_v2 v1.toNatClampNeg
      have d8 : ¬ (M.1 (rf v2 1) v1.toNatClampNeg).toInt = (1 : Int) := neqi.mp c6
      refine mem_i (fun M15 e10 => ?_)
      have hJ11 : J M15 := by rw [e10]; exact Jw_any ok_40 hJ 7 (0 : Int32)
      have f12 : (M15.1 40 7).toInt = (0 : Int) := by rw [e10, si_eq]; rfl
      clear e10
      refine bind_i (sl_Law_goes_28 v1 v2 (0 : Int32) M15 (⟨show (0 : Int) ≤ v1.toInt by omega, show v1.toInt ≤ (7 : Int) by omega⟩) hk_v2 hJ11 (show (0 : Int) ≤ (0 : Int32).toInt by decide) (show (0 : Int32).toInt ≤ (40 : Int) by decide)) (fun x16 _ q => ?_)
      have h13 := q
      unfold j_Law_goes_107
      refine if_i (fun c => ?_) (fun c => ?_)
      · have c14 := c
        have d15 : (x16.1 40 4).toInt = (0 : Int) := eqi.mp c14
        exact ⟨((1 : Int32), x16), rfl, h13, (show (0 : Int) ≤ (1 : Int32).toInt by decide), (show (1 : Int32).toInt ≤ (1 : Int) by decide)⟩
      · have c16 := c
        have d17 : ¬ (x16.1 40 4).toInt = (0 : Int) := neqi.mp c16
        refine bind_i (sf_Law_pop x16 h13) (fun x12 _ q => ?_)
        have h18 := q
        refine if_i (fun c => ?_) (fun c => ?_)
        · have c19 := c
          have d20 : x12.1.toInt = (0 : Int) := eqi.mp c19
          exact ⟨((0 : Int32), x12.2), rfl, h18, (show (0 : Int) ≤ (0 : Int32).toInt by decide), (show (0 : Int32).toInt ≤ (1 : Int) by decide)⟩
        · have c21 := c
          have d22 : ¬ x12.1.toInt = (0 : Int) := neqi.mp c21
          exact ⟨((1 : Int32), x12.2), rfl, h18, (show (0 : Int) ≤ (1 : Int32).toInt by decide), (show (1 : Int32).toInt ≤ (1 : Int) by decide)⟩
  · have c23 := c
    have d24 : ¬ (M.1 v2 9).toInt = (1 : Int) := neqi.mp c23
    refine mem_i (fun M1 e26 => ?_)
    have hJ27 : J M1 := by rw [e26]; exact Jw_any ok_40 hJ 7 (0 : Int32)
    have f28 : (M1.1 40 7).toInt = (0 : Int) := by rw [e26, si_eq]; rfl
    clear e26
    refine bind_i (sl_Law_goes_28 v1 v2 (0 : Int32) M1 (⟨show (0 : Int) ≤ v1.toInt by omega, show v1.toInt ≤ (7 : Int) by omega⟩) hk_v2 hJ27 (show (0 : Int) ≤ (0 : Int32).toInt by decide) (show (0 : Int32).toInt ≤ (40 : Int) by decide)) (fun x11 _ q => ?_)
    have h29 := q
    unfold j_Law_goes_107
    refine if_i (fun c => ?_) (fun c => ?_)
    · have c30 := c
      have d31 : (x11.1 40 4).toInt = (0 : Int) := eqi.mp c30
      exact ⟨((1 : Int32), x11), rfl, h29, (show (0 : Int) ≤ (1 : Int32).toInt by decide), (show (1 : Int32).toInt ≤ (1 : Int) by decide)⟩
    · have c32 := c
      have d33 : ¬ (x11.1 40 4).toInt = (0 : Int) := neqi.mp c32
      refine bind_i (sf_Law_pop x11 h29) (fun x12 _ q => ?_)
      have h34 := q
      refine if_i (fun c => ?_) (fun c => ?_)
      · have c35 := c
        have d36 : x12.1.toInt = (0 : Int) := eqi.mp c35
        exact ⟨((0 : Int32), x12.2), rfl, h34, (show (0 : Int) ≤ (0 : Int32).toInt by decide), (show (0 : Int32).toInt ≤ (1 : Int) by decide)⟩
      · have c37 := c
        have d38 : ¬ x12.1.toInt = (0 : Int) := neqi.mp c37
        exact ⟨((1 : Int32), x12.2), rfl, h34, (show (0 : Int) ≤ (1 : Int32).toInt by decide), (show (1 : Int32).toInt ≤ (1 : Int) by decide)⟩
