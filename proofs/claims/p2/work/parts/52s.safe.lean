/-! safety of the class, 19 -/
theorem sf_Top_stepsToFire (v1 : Int32) (M : Mem) (hp_v1 : (0 : Int) ≤ v1.toInt ∧ v1.toInt ≤ (7 : Int)) (hJ : J M) : ∃ r : Int32 × Mem, f_Top_stepsToFire v1 M = some r ∧ (J r.2 ∧ r.1.toInt ≤ (1000000 : Int)) := by
  unfold f_Top_stepsToFire
  refine inb_i (by omega) (by omega) ?_
  refine inb_i (by omega) (by omega) ?_
  have r1 := Jr_13 hJ v1.toNatClampNeg
  have r2 := Jr_12 hJ v1.toNatClampNeg
  refine bind_i (sf_Nets_measure 32 (M.1 13 v1.toNatClampNeg) (M.1 12 v1.toNatClampNeg) 155 M kd_32 (⟨show (0 : Int) ≤ (M.1 13 v1.toNatClampNeg).toInt by omega, show (M.1 13 v1.toNatClampNeg).toInt ≤ (1 : Int) by omega⟩) (⟨show (0 : Int) ≤ (M.1 12 v1.toNatClampNeg).toInt by omega, show (M.1 12 v1.toNatClampNeg).toInt ≤ (35 : Int) by omega⟩) FA_155 hJ) (fun x1 _ q => ?_)
  have h3 := q
  refine bind_i (sl_Top_stepsToFire_38 x1 (1000000 : Int32) (0 : Int32) h3 (show (1000000 : Int32).toInt ≤ (1000000 : Int) by decide) (show (0 : Int) ≤ (0 : Int32).toInt by decide) (show (0 : Int32).toInt ≤ (4 : Int) by decide)) (fun x5 _ q => ?_)
  have h4 := q
  exact ⟨(x5, x1), rfl, h3, (show x5.toInt ≤ (1000000 : Int) by omega)⟩
theorem sl_Top_fights_27 (v1 : Int32) (a0_ : Int32) (a1_ : Int32) (N_ : Mem) (hp_v1 : (0 : Int) ≤ v1.toInt ∧ v1.toInt ≤ (60 : Int)) (hN : J N_) (i1_ : (0 : Int) ≤ a1_.toInt) (i2_ : a1_.toInt ≤ (8 : Int)) : ∃ x, iter (lb_Top_fights_27 v1) FU (a0_, a1_, N_) = some x ∧ (fun r : Int32 × Mem => J r.2) x := by
  refine iter_r (fun s : Int32 × Int32 × Mem => J s.2.2 ∧ (0 : Int) ≤ s.2.1.toInt ∧ s.2.1.toInt ≤ (8 : Int)) (fun s : Int32 × Int32 × Mem => (8 - s.2.1.toInt).toNat) (fun r : Int32 × Mem => J r.2) ?_ FU (a0_, a1_, N_) ⟨hN, i1_, i2_⟩ (by show (8 - a1_.toInt).toNat < FU; rw [FU_v]; omega)
  clear i2_ i1_ hN
  rintro ⟨a0_', a1_', N_'⟩ ⟨hN, i1_, i2_⟩
  dsimp only at hN i1_ i2_
  unfold lb_Top_fights_27
  dsimp only
  refine if_i (fun c => ?_) (fun c => ?_)
  · have c1 := c
    have r2 := Jr_6_4 hN
    have d3 : (N_'.1 6 4).toInt ≤ a1_'.toInt := lei.mp c1
    exact ⟨_, rfl, hN⟩
  · have c4 := c
    have r5 := Jr_6_4 hN
    have d6 : a1_'.toInt < (N_'.1 6 4).toInt := nlei.mp c4
    refine bind_i (sf_Top_stepsToFire a1_' N_' (⟨show (0 : Int) ≤ a1_'.toInt by omega, show a1_'.toInt ≤ (7 : Int) by omega⟩) hN) (fun x1 _ q => ?_)
    obtain ⟨h7, h8⟩ := q
    refine if_i (fun c => ?_) (fun c => ?_)
    · have c9 := c
      have d10 : v1.toInt < x1.1.toInt := lti.mp c9
      have q11 : (a1_' + (1 : Int32)).toInt = a1_'.toInt + (1 : Int) := add_ti rfl rfl (by omega) (by omega)
      exact ⟨_, rfl, ⟨h7, (show (0 : Int) ≤ (a1_' + (1 : Int32)).toInt by omega), (show (a1_' + (1 : Int32)).toInt ≤ (8 : Int) by omega)⟩, show (8 - (a1_' + (1 : Int32)).toInt).toNat < (8 - a1_'.toInt).toNat by omega⟩
    · have c12 := c
      have d13 : x1.1.toInt ≤ v1.toInt := nlti.mp c12
      have q14 : (a1_' + (1 : Int32)).toInt = a1_'.toInt + (1 : Int) := add_ti rfl rfl (by omega) (by omega)
      exact ⟨_, rfl, ⟨h7, (show (0 : Int) ≤ (a1_' + (1 : Int32)).toInt by omega), (show (a1_' + (1 : Int32)).toInt ≤ (8 : Int) by omega)⟩, show (8 - (a1_' + (1 : Int32)).toInt).toNat < (8 - a1_'.toInt).toNat by omega⟩
theorem sf_Top_fights (v1 : Int32) (M : Mem) (hJ : J M) : ∃ r : Int32 × Mem, f_Top_fights v1 M = some r ∧ (J r.2) := by
  unfold f_Top_fights
  refine if_i (fun c => ?_) (fun c => ?_)
  · have c1 := c
    have d2 : v1.toInt < (0 : Int) := lti.mp c1
    exact ⟨((-1 : Int32), M), rfl, hJ⟩
  · have c3 := c
    have d4 : (0 : Int) ≤ v1.toInt := nlti.mp c3
    refine if_i (fun c => ?_) (fun c => ?_)
    · have c5 := c
      have d6 : v1.toInt ≤ (60 : Int) := lei.mp c5
      refine if_i (fun c => ?_) (fun c => ?_)
      · have c7 := c
        have d8 : (M.1 0 16).toInt = (-1 : Int) := eqi.mp c7
        exact ⟨((-2 : Int32), M), rfl, hJ⟩
      · have c9 := c
        have d10 : ¬ (M.1 0 16).toInt = (-1 : Int) := neqi.mp c9
        refine bind_i (sl_Top_fights_27 v1 (0 : Int32) (0 : Int32) M (⟨show (0 : Int) ≤ v1.toInt by omega, show v1.toInt ≤ (60 : Int) by omega⟩) hJ (show (0 : Int) ≤ (0 : Int32).toInt by decide) (show (0 : Int32).toInt ≤ (8 : Int) by decide)) (fun x4 _ q => ?_)
        have h11 := q
        refine bind_i (sf_JInteger_bitCount (x4.1 &&& (x4.2.1 6 5))) (fun x5 _ q => ?_)
        obtain ⟨h12, h13⟩ := q
        refine bind_i (sf_Top_emptyRow x4.2 h11) (fun x6 _ q => ?_)
        have h14 := q
        refine bind_i (sf_JInteger_bitCount x4.1) (fun x7 _ q => ?_)
        obtain ⟨h15, h16⟩ := q
        refine bind_i (sf_Top_note (x7 - x5) x6 h14) (fun x8 _ q => ?_)
        have h17 := q
        refine bind_i (sf_Top_note x5 x8 h17) (fun x9 _ q => ?_)
        have h18 := q
        exact ⟨(x4.1, x9), rfl, h18⟩
    · have c19 := c
      have d20 : (60 : Int) < v1.toInt := nlei.mp c19
      exact ⟨((-1 : Int32), M), rfl, hJ⟩
theorem sl_Top_soonestAtFire_9 (v1 : Int32) (a0_ : Int32) (a1_ : Int32) (a2_ : Int32) (N_ : Mem) (hN : J N_) (i1_ : (-1 : Int) ≤ a0_.toInt) (i2_ : a0_.toInt ≤ (7 : Int)) (i3_ : a1_.toInt ≤ (1000000 : Int)) (i4_ : (0 : Int) ≤ a2_.toInt) (i5_ : a2_.toInt ≤ (8 : Int)) : ∃ x, iter (lb_Top_soonestAtFire_9 v1) FU (a0_, a1_, a2_, N_) = some x ∧ (fun r : Int32 × Mem => J r.2 ∧ (-1 : Int) ≤ r.1.toInt ∧ r.1.toInt ≤ (7 : Int)) x := by
  refine iter_r (fun s : Int32 × Int32 × Int32 × Mem => J s.2.2.2 ∧ (-1 : Int) ≤ s.1.toInt ∧ s.1.toInt ≤ (7 : Int) ∧ s.2.1.toInt ≤ (1000000 : Int) ∧ (0 : Int) ≤ s.2.2.1.toInt ∧ s.2.2.1.toInt ≤ (8 : Int)) (fun s : Int32 × Int32 × Int32 × Mem => (8 - s.2.2.1.toInt).toNat) (fun r : Int32 × Mem => J r.2 ∧ (-1 : Int) ≤ r.1.toInt ∧ r.1.toInt ≤ (7 : Int)) ?_ FU (a0_, a1_, a2_, N_) ⟨hN, i1_, i2_, i3_, i4_, i5_⟩ (by show (8 - a2_.toInt).toNat < FU; rw [FU_v]; omega)
  clear i5_ i4_ i3_ i2_ i1_ hN
  rintro ⟨a0_', a1_', a2_', N_'⟩ ⟨hN, i1_, i2_, i3_, i4_, i5_⟩
  dsimp only at hN i1_ i2_ i3_ i4_ i5_
  unfold lb_Top_soonestAtFire_9
  dsimp only
  refine if_i (fun c => ?_) (fun c => ?_)
  · have c1 := c
    have r2 := Jr_6_4 hN
    have d3 : (N_'.1 6 4).toInt ≤ a2_'.toInt := lei.mp c1
    exact ⟨_, rfl, hN, (show (-1 : Int) ≤ a0_'.toInt by omega), (show a0_'.toInt ≤ (7 : Int) by omega)⟩
  · have c4 := c
    have r5 := Jr_6_4 hN
    have d6 : a2_'.toInt < (N_'.1 6 4).toInt := nlei.mp c4
    refine bind_i (sf_Crowd_woman a2_' N_' hN) (fun x1 _ q => ?_)
    obtain ⟨h7, h8⟩ := q
    refine if_i (fun c => ?_) (fun c => ?_)
    · have c9 := c
      have d10 : x1.toInt = v1.toInt := eqi.mp c9
      refine bind_i (sf_Top_stepsToFire a2_' N_' (⟨show (0 : Int) ≤ a2_'.toInt by omega, show a2_'.toInt ≤ (7 : Int) by omega⟩) hN) (fun x2 _ q => ?_)
      obtain ⟨h11, h12⟩ := q
      refine if_i (fun c => ?_) (fun c => ?_)
      · have c13 := c
        have d14 : a1_'.toInt ≤ x2.1.toInt := lei.mp c13
        have q15 : (a2_' + (1 : Int32)).toInt = a2_'.toInt + (1 : Int) := add_ti rfl rfl (by omega) (by omega)
        exact ⟨_, rfl, ⟨h11, (show (-1 : Int) ≤ a0_'.toInt by omega), (show a0_'.toInt ≤ (7 : Int) by omega), (show a1_'.toInt ≤ (1000000 : Int) by omega), (show (0 : Int) ≤ (a2_' + (1 : Int32)).toInt by omega), (show (a2_' + (1 : Int32)).toInt ≤ (8 : Int) by omega)⟩, show (8 - (a2_' + (1 : Int32)).toInt).toNat < (8 - a2_'.toInt).toNat by omega⟩
      · have c16 := c
        have d17 : x2.1.toInt < a1_'.toInt := nlei.mp c16
        refine bind_i (sf_Top_stepsToFire a2_' x2.2 (⟨show (0 : Int) ≤ a2_'.toInt by omega, show a2_'.toInt ≤ (7 : Int) by omega⟩) h11) (fun x3 _ q => ?_)
        obtain ⟨h18, h19⟩ := q
        have q20 : (a2_' + (1 : Int32)).toInt = a2_'.toInt + (1 : Int) := add_ti rfl rfl (by omega) (by omega)
        exact ⟨_, rfl, ⟨h18, (show (-1 : Int) ≤ a2_'.toInt by omega), (show a2_'.toInt ≤ (7 : Int) by omega), (show x3.1.toInt ≤ (1000000 : Int) by omega), (show (0 : Int) ≤ (a2_' + (1 : Int32)).toInt by omega), (show (a2_' + (1 : Int32)).toInt ≤ (8 : Int) by omega)⟩, show (8 - (a2_' + (1 : Int32)).toInt).toNat < (8 - a2_'.toInt).toNat by omega⟩
    · have c21 := c
      have d22 : ¬ x1.toInt = v1.toInt := neqi.mp c21
      have q23 : (a2_' + (1 : Int32)).toInt = a2_'.toInt + (1 : Int) := add_ti rfl rfl (by omega) (by omega)
      exact ⟨_, rfl, ⟨hN, (show (-1 : Int) ≤ a0_'.toInt by omega), (show a0_'.toInt ≤ (7 : Int) by omega), (show a1_'.toInt ≤ (1000000 : Int) by omega), (show (0 : Int) ≤ (a2_' + (1 : Int32)).toInt by omega), (show (a2_' + (1 : Int32)).toInt ≤ (8 : Int) by omega)⟩, show (8 - (a2_' + (1 : Int32)).toInt).toNat < (8 - a2_'.toInt).toNat by omega⟩
theorem sf_Top_soonestAtFire (v1 : Int32) (M : Mem) (hJ : J M) : ∃ r : Int32 × Mem, f_Top_soonestAtFire v1 M = some r ∧ (J r.2 ∧ (-1 : Int) ≤ r.1.toInt ∧ r.1.toInt ≤ (7 : Int)) := by
  unfold f_Top_soonestAtFire
  refine bind_i (sl_Top_soonestAtFire_9 v1 (-1 : Int32) (1000000 : Int32) (0 : Int32) M hJ (show (-1 : Int) ≤ (-1 : Int32).toInt by decide) (show (-1 : Int32).toInt ≤ (7 : Int) by decide) (show (1000000 : Int32).toInt ≤ (1000000 : Int) by decide) (show (0 : Int) ≤ (0 : Int32).toInt by decide) (show (0 : Int32).toInt ≤ (8 : Int) by decide)) (fun x7 _ q => ?_)
  obtain ⟨h1, h2, h3⟩ := q
  exact ⟨(x7.1, x7.2), rfl, h1, (show (-1 : Int) ≤ x7.1.toInt by omega), (show x7.1.toInt ≤ (7 : Int) by omega)⟩
theorem sf_Top_saved (M : Mem) (hJ : J M) : ∃ r : Int32 × Mem, f_Top_saved M = some r ∧ (J r.2 ∧ r.1.toInt ≤ (1000000 : Int)) := by
  unfold f_Top_saved
  refine if_i (fun c => ?_) (fun c => ?_)
  · have c1 := c
    have d2 : (M.1 0 16).toInt = (-1 : Int) := eqi.mp c1
    exact ⟨((-2 : Int32), M), rfl, hJ, (show (-2 : Int32).toInt ≤ (1000000 : Int) by decide)⟩
  · have c3 := c
    have d4 : ¬ (M.1 0 16).toInt = (-1 : Int) := neqi.mp c3
    refine bind_i (sf_Top_soonestAtFire (0 : Int32) M hJ) (fun x1 _ q => ?_)
    obtain ⟨h5, h6, h7⟩ := q
    refine bind_i (sf_Top_soonestAtFire (1 : Int32) x1.2 h5) (fun x2 _ q => ?_)
    obtain ⟨h8, h9, h10⟩ := q
    refine if_i (fun c => ?_) (fun c => ?_)
    · have c11 := c
      have d12 : x1.1.toInt = (-1 : Int) := eqi.mp c11
      exact ⟨((-2 : Int32), x2.2), rfl, h8, (show (-2 : Int32).toInt ≤ (1000000 : Int) by decide)⟩
    · have c13 := c
      have d14 : ¬ x1.1.toInt = (-1 : Int) := neqi.mp c13
      refine if_i (fun c => ?_) (fun c => ?_)
      · have c15 := c
        have d16 : x2.1.toInt = (-1 : Int) := eqi.mp c15
        exact ⟨((-2 : Int32), x2.2), rfl, h8, (show (-2 : Int32).toInt ≤ (1000000 : Int) by decide)⟩
      · have c17 := c
        have d18 : ¬ x2.1.toInt = (-1 : Int) := neqi.mp c17
        refine bind_i (sf_Top_emptyRow x2.2 h8) (fun x3 _ q => ?_)
        have h19 := q
        refine bind_i (sf_Top_note x1.1 x3 h19) (fun x4 _ q => ?_)
        have h20 := q
        refine bind_i (sf_Top_note x2.1 x4 h20) (fun x5 _ q => ?_)
        have h21 := q
        refine bind_i (sf_Top_stepsToFire x1.1 x5 (⟨show (0 : Int) ≤ x1.1.toInt by omega, show x1.1.toInt ≤ (7 : Int) by omega⟩) h21) (fun x6 _ q => ?_)
        obtain ⟨h22, h23⟩ := q
        refine bind_i (sf_Top_stepsToFire x2.1 x6.2 (⟨show (0 : Int) ≤ x2.1.toInt by omega, show x2.1.toInt ≤ (7 : Int) by omega⟩) h22) (fun x7 _ q => ?_)
        obtain ⟨h24, h25⟩ := q
        have q26 : (if x6.1 < x7.1 then x7.1 else x6.1).toInt ≤ (1000000 : Int) := by
          by_cases cc : x6.1 < x7.1
          · rw [if_pos cc]
            have d27 : x6.1.toInt < x7.1.toInt := lti.mp cc
            omega
          · rw [if_neg cc]
            have d28 : x7.1.toInt ≤ x6.1.toInt := nlti.mp cc
            omega
        exact ⟨((if x6.1 < x7.1 then x7.1 else x6.1), x7.2), rfl, h24, (show (if x6.1 < x7.1 then x7.1 else x6.1).toInt ≤ (1000000 : Int) by omega)⟩
theorem sl_Top_wardrobe_71 (v4 : Int32) (a0_ : Int32) (a1_ : Int32) (N_ : Mem) (hp_v4 : v4.toInt ≤ (999999 : Int)) (hN : J N_) (i1_ : (-1 : Int) ≤ a0_.toInt) (i2_ : a0_.toInt ≤ (179 : Int)) (i3_ : (0 : Int) ≤ a1_.toInt) (i4_ : a1_.toInt ≤ (10 : Int)) : ∃ x, iter (lb_Top_wardrobe_71 v4) FU (a0_, a1_, N_) = some x ∧ (fun r : Mem => J r) x := by
  refine iter_r (fun s : Int32 × Int32 × Mem => J s.2.2 ∧ (-1 : Int) ≤ s.1.toInt ∧ s.1.toInt ≤ (179 : Int) ∧ (0 : Int) ≤ s.2.1.toInt ∧ s.2.1.toInt ≤ (10 : Int)) (fun s : Int32 × Int32 × Mem => (10 - s.2.1.toInt).toNat) (fun r : Mem => J r) ?_ FU (a0_, a1_, N_) ⟨hN, i1_, i2_, i3_, i4_⟩ (by show (10 - a1_.toInt).toNat < FU; rw [FU_v]; omega)
  clear i4_ i3_ i2_ i1_ hN
  rintro ⟨a0_', a1_', N_'⟩ ⟨hN, i1_, i2_, i3_, i4_⟩
  dsimp only at hN i1_ i2_ i3_ i4_
  unfold lb_Top_wardrobe_71
  dsimp only
  refine if_i (fun c => ?_) (fun c => ?_)
  · have c1 := c
    have d2 : v4.toInt ≤ a1_'.toInt := lei.mp c1
    exact ⟨_, rfl, hN⟩
  · have c3 := c
    have d4 : a1_'.toInt < v4.toInt := nlei.mp c3
    refine if_i (fun c => ?_) (fun c => ?_)
    · have c5 := c
      have d6 : (10 : Int) ≤ a1_'.toInt := lei.mp c5
      exact ⟨_, rfl, hN⟩
    · have c7 := c
      have d8 : a1_'.toInt < (10 : Int) := nlei.mp c7
      refine if_i (fun c => ?_) (fun c => ?_)
      · have c9 := c
        have d10 : a0_'.toInt = (-1 : Int) := eqi.mp c9
        exact ⟨_, rfl, hN⟩
      · have c11 := c
        have d12 : ¬ a0_'.toInt = (-1 : Int) := neqi.mp c11
        refine bind_i (sf_Ways_pairNearer a0_' N_' (⟨show (0 : Int) ≤ a0_'.toInt by omega, show a0_'.toInt ≤ (179 : Int) by omega⟩) hN) (fun x5 _ q => ?_)
        obtain ⟨h13, h14⟩ := q
        refine bind_i (sf_Top_note (((x5 / (5 : Int32)) * (10 : Int32)) + (x5 - ((x5 / (5 : Int32)) * (5 : Int32)))) N_' hN) (fun x6 _ q => ?_)
        have h15 := q
        refine bind_i (sf_Ways_pairAfter a0_' x5 x6 (⟨show (0 : Int) ≤ a0_'.toInt by omega, show a0_'.toInt ≤ (179 : Int) by omega⟩) (⟨show (-1 : Int) ≤ x5.toInt by omega, show x5.toInt ≤ (24 : Int) by omega⟩) h15) (fun x7 _ q => ?_)
        obtain ⟨h16, h17⟩ := q
        have q18 : (a1_' + (1 : Int32)).toInt = a1_'.toInt + (1 : Int) := add_ti rfl rfl (by omega) (by omega)
        exact ⟨_, rfl, ⟨h15, (show (-1 : Int) ≤ x7.toInt by omega), (show x7.toInt ≤ (179 : Int) by omega), (show (0 : Int) ≤ (a1_' + (1 : Int32)).toInt by omega), (show (a1_' + (1 : Int32)).toInt ≤ (10 : Int) by omega)⟩, show (10 - (a1_' + (1 : Int32)).toInt).toNat < (10 - a1_'.toInt).toNat by omega⟩
theorem sf_Top_wardrobe (v1 : Int32) (v2 : Int32) (M : Mem) (hJ : J M) : ∃ r : Int32 × Mem, f_Top_wardrobe v1 v2 M = some r ∧ (J r.2 ∧ r.1.toInt ≤ (999999 : Int)) := by
  unfold f_Top_wardrobe
  refine bind_i (sf_Ground_isStair v1 M hJ) (fun x1 _ q => ?_)
  obtain ⟨h1, h2, h3⟩ := q
  refine if_i (fun c => ?_) (fun c => ?_)
  · have c4 := c
    have d5 : x1.toInt = (0 : Int) := eqi.mp c4
    exact ⟨((-1 : Int32), M), rfl, hJ, (show (-1 : Int32).toInt ≤ (999999 : Int) by decide)⟩
  · have c6 := c
    have d7 : ¬ x1.toInt = (0 : Int) := neqi.mp c6
    refine bind_i (sf_Ground_isStair v2 M hJ) (fun x2 _ q => ?_)
    obtain ⟨h8, h9, h10⟩ := q
    refine if_i (fun c => ?_) (fun c => ?_)
    · have c11 := c
      have d12 : x2.toInt = (0 : Int) := eqi.mp c11
      exact ⟨((-1 : Int32), M), rfl, hJ, (show (-1 : Int32).toInt ≤ (999999 : Int) by decide)⟩
    · have c13 := c
      have d14 : ¬ x2.toInt = (0 : Int) := neqi.mp c13
      refine bind_i (sf_Ways_measurePairs v2 M (⟨show (0 : Int) ≤ v2.toInt by omega, show v2.toInt ≤ (35 : Int) by omega⟩) hJ) (fun x3 _ q => ?_)
      have h15 := q
      have q16 : (v1 * (5 : Int32)).toInt = v1.toInt * (5 : Int) := mul_ti rfl rfl (by omega) (by omega)
      have q17 : ((v1 * (5 : Int32)) + (4 : Int32)).toInt = (v1 * (5 : Int32)).toInt + (4 : Int) := add_ti rfl rfl (by omega) (by omega)
      refine inb_i (by omega) (by omega) ?_
      refine if_i (fun c => ?_) (fun c => ?_)
      · have c18 := c
        have d19 : (x3.1 159 ((v1 * (5 : Int32)) + (4 : Int32)).toNatClampNeg).toInt < (1000000 : Int) := lti.mp c18
        refine bind_i (sf_Top_emptyRow x3 h15) (fun x4 _ q => ?_)
        have h20 := q
        refine bind_i (sl_Top_wardrobe_71 (x3.1 159 ((v1 * (5 : Int32)) + (4 : Int32)).toNatClampNeg) ((v1 * (5 : Int32)) + (4 : Int32)) (0 : Int32) x4 (show (x3.1 159 ((v1 * (5 : Int32)) + (4 : Int32)).toNatClampNeg).toInt ≤ (999999 : Int) by omega) h20 (show (-1 : Int) ≤ ((v1 * (5 : Int32)) + (4 : Int32)).toInt by omega) (show ((v1 * (5 : Int32)) + (4 : Int32)).toInt ≤ (179 : Int) by omega) (show (0 : Int) ≤ (0 : Int32).toInt by decide) (show (0 : Int32).toInt ≤ (10 : Int) by decide)) (fun x11 _ q => ?_)
        have h21 := q
        exact ⟨((x3.1 159 ((v1 * (5 : Int32)) + (4 : Int32)).toNatClampNeg), x11), rfl, h21, (show (x3.1 159 ((v1 * (5 : Int32)) + (4 : Int32)).toNatClampNeg).toInt ≤ (999999 : Int) by omega)⟩
      · have c22 := c
        have d23 : (1000000 : Int) ≤ (x3.1 159 ((v1 * (5 : Int32)) + (4 : Int32)).toNatClampNeg).toInt := nlti.mp c22
        exact ⟨((-2 : Int32), x3), rfl, h15, (show (-2 : Int32).toInt ≤ (999999 : Int) by decide)⟩
theorem sf_Top_hunt (M : Mem) (hJ : J M) : ∃ r : Mem, f_Top_hunt M = some r ∧ (J r) := by
  unfold f_Top_hunt
  refine bind_i (sf_Clock_pass 25 32 M kd_25 kd_32 hJ) (fun x1 _ q => ?_)
  have h1 := q
  refine bind_i (sf_Thief_stir 32 x1 kd_32 h1) (fun x2 _ q => ?_)
  have h2 := q
  refine bind_i (sf_Scene_occupied 25 (0 : Int32) (x2.1 6 4) x2 kd_25 h2) (fun x3 _ q => ?_)
  refine bind_i (sf_Scene_occupied 25 (1 : Int32) (x2.1 6 4) x2 kd_25 h2) (fun x4 _ q => ?_)
  refine bind_i (sf_Thief_record (0 : Int32) x3 x4 x2 h2) (fun x5 _ q => ?_)
  have h3 := q
  refine bind_i (sf_Thief_strike (0 : Int32) x5 h3) (fun x6 _ q => ?_)
  have h4 := q
  exact ⟨x6, rfl, h4⟩
theorem sl_Top_flees_48 (v3 : Int32) (a0_ : Int32) (N_ : Mem) (hp_v3 : (1 : Int) ≤ v3.toInt ∧ v3.toInt ≤ (30 : Int)) (hN : J N_) (i1_ : (0 : Int) ≤ a0_.toInt) (i2_ : a0_.toInt ≤ (30 : Int)) : ∃ x, iter (lb_Top_flees_48 v3) FU (a0_, N_) = some x ∧ (fun r : Mem => J r) x := by
  refine iter_r (fun s : Int32 × Mem => J s.2 ∧ (0 : Int) ≤ s.1.toInt ∧ s.1.toInt ≤ (30 : Int)) (fun s : Int32 × Mem => (30 - s.1.toInt).toNat) (fun r : Mem => J r) ?_ FU (a0_, N_) ⟨hN, i1_, i2_⟩ (by show (30 - a0_.toInt).toNat < FU; rw [FU_v]; omega)
  clear i2_ i1_ hN
  rintro ⟨a0_', N_'⟩ ⟨hN, i1_, i2_⟩
  dsimp only at hN i1_ i2_
  unfold lb_Top_flees_48
  dsimp only
  refine if_i (fun c => ?_) (fun c => ?_)
  · have c1 := c
    have d2 : v3.toInt ≤ a0_'.toInt := lei.mp c1
    exact ⟨_, rfl, hN⟩
  · have c3 := c
    have d4 : a0_'.toInt < v3.toInt := nlei.mp c3
    refine bind_i (sf_Top_hunt N_' hN) (fun x4 _ q => ?_)
    have h5 := q
    have q6 : (a0_' + (1 : Int32)).toInt = a0_'.toInt + (1 : Int) := add_ti rfl rfl (by omega) (by omega)
    exact ⟨_, rfl, ⟨h5, (show (0 : Int) ≤ (a0_' + (1 : Int32)).toInt by omega), (show (a0_' + (1 : Int32)).toInt ≤ (30 : Int) by omega)⟩, show (30 - (a0_' + (1 : Int32)).toInt).toNat < (30 - a0_'.toInt).toNat by omega⟩
theorem sf_Top_flees (v1 : Int32) (v2 : Int32) (v3 : Int32) (M : Mem) (hJ : J M) : ∃ r : Int32 × Mem, f_Top_flees v1 v2 v3 M = some r ∧ (J r.2 ∧ (-1 : Int) ≤ r.1.toInt ∧ r.1.toInt ≤ (1 : Int)) := by
  unfold f_Top_flees
  refine bind_i (sf_Ground_holds v2 v1 M hJ) (fun x1 _ q => ?_)
  obtain ⟨h1, h2, h3, h4⟩ := q
  refine if_i (fun c => ?_) (fun c => ?_)
  · have c5 := c
    have d6 : x1.toInt = (0 : Int) := eqi.mp c5
    exact ⟨((-1 : Int32), M), rfl, hJ, (show (-1 : Int) ≤ (-1 : Int32).toInt by decide), (show (-1 : Int32).toInt ≤ (1 : Int) by decide)⟩
  · have c7 := c
    have d8 : ¬ x1.toInt = (0 : Int) := neqi.mp c7
    refine if_i (fun c => ?_) (fun c => ?_)
    · have c9 := c
      have d10 : v3.toInt < (1 : Int) := lti.mp c9
      exact ⟨((-1 : Int32), M), rfl, hJ, (show (-1 : Int) ≤ (-1 : Int32).toInt by decide), (show (-1 : Int32).toInt ≤ (1 : Int) by decide)⟩
    · have c11 := c
      have d12 : (1 : Int) ≤ v3.toInt := nlti.mp c11
      refine if_i (fun c => ?_) (fun c => ?_)
      · have c13 := c
        have d14 : v3.toInt ≤ (30 : Int) := lei.mp c13
        refine bind_i (sf_Scene_copy 25 11 M kd_25 kd_11 hJ) (fun x2 _ q => ?_)
        obtain ⟨h15, h16⟩ := q
        refine bind_i (sf_Thief_start v2 v1 x2 h15) (fun x3 _ q => ?_)
        have h17 := q
        refine bind_i (sl_Top_flees_48 v3 (0 : Int32) x3 (⟨show (1 : Int) ≤ v3.toInt by omega, show v3.toInt ≤ (30 : Int) by omega⟩) h17 (show (0 : Int) ≤ (0 : Int32).toInt by decide) (show (0 : Int32).toInt ≤ (30 : Int) by decide)) (fun x6 _ q => ?_)
        have h18 := q
        refine bind_i (sf_Top_emptyRow x6 h18) (fun x7 _ q => ?_)
        have h19 := q
        refine bind_i (sf_Top_noteSet (x7.2.1 151 2) x7 h19) (fun x8 _ q => ?_)
        have h20 := q
        refine bind_i (sf_Top_noteSet (x8.2.1 151 3) x8 h20) (fun x9 _ q => ?_)
        have h21 := q
        refine bind_i (sf_Thief_gone x9 h21) (fun x10 _ q => ?_)
        obtain ⟨h22, h23⟩ := q
        refine if_i (fun c => ?_) (fun c => ?_)
        · have c24 := c
          have d25 : x10.toInt = (0 : Int) := eqi.mp c24
          exact ⟨((1 : Int32), x9), rfl, h21, (show (-1 : Int) ≤ (1 : Int32).toInt by decide), (show (1 : Int32).toInt ≤ (1 : Int) by decide)⟩
        · have c26 := c
          have d27 : ¬ x10.toInt = (0 : Int) := neqi.mp c26
          exact ⟨((0 : Int32), x9), rfl, h21, (show (-1 : Int) ≤ (0 : Int32).toInt by decide), (show (0 : Int32).toInt ≤ (1 : Int) by decide)⟩
      · have c28 := c
        have d29 : (30 : Int) < v3.toInt := nlei.mp c28
        exact ⟨((-1 : Int32), M), rfl, hJ, (show (-1 : Int) ≤ (-1 : Int32).toInt by decide), (show (-1 : Int32).toInt ≤ (1 : Int) by decide)⟩
theorem sl_Top_lairs_26 (v1 : Int32) (a0_ : Int32) (N_ : Mem) (hp_v1 : (1 : Int) ≤ v1.toInt ∧ v1.toInt ≤ (30 : Int)) (hN : J N_) (i1_ : (0 : Int) ≤ a0_.toInt) (i2_ : a0_.toInt ≤ (30 : Int)) : ∃ x, iter (lb_Top_lairs_26 v1) FU (a0_, N_) = some x ∧ (fun r : Mem => J r) x := by
  refine iter_r (fun s : Int32 × Mem => J s.2 ∧ (0 : Int) ≤ s.1.toInt ∧ s.1.toInt ≤ (30 : Int)) (fun s : Int32 × Mem => (30 - s.1.toInt).toNat) (fun r : Mem => J r) ?_ FU (a0_, N_) ⟨hN, i1_, i2_⟩ (by show (30 - a0_.toInt).toNat < FU; rw [FU_v]; omega)
  clear i2_ i1_ hN
  rintro ⟨a0_', N_'⟩ ⟨hN, i1_, i2_⟩
  dsimp only at hN i1_ i2_
  unfold lb_Top_lairs_26
  dsimp only
  refine if_i (fun c => ?_) (fun c => ?_)
  · have c1 := c
    have d2 : v1.toInt ≤ a0_'.toInt := lei.mp c1
    exact ⟨_, rfl, hN⟩
  · have c3 := c
    have d4 : a0_'.toInt < v1.toInt := nlei.mp c3
    refine bind_i (sf_Clock_pass 25 32 N_' kd_25 kd_32 hN) (fun x2 _ q => ?_)
    have h5 := q
    refine bind_i (sf_Scene_occupied 25 (0 : Int32) (x2.1 6 4) x2 kd_25 h5) (fun x3 _ q => ?_)
    refine bind_i (sf_Scene_occupied 25 (1 : Int32) (x2.1 6 4) x2 kd_25 h5) (fun x4 _ q => ?_)
    refine bind_i (sf_Thief_record a0_' x3 x4 x2 h5) (fun x5 _ q => ?_)
    have h6 := q
    have q7 : (a0_' + (1 : Int32)).toInt = a0_'.toInt + (1 : Int) := add_ti rfl rfl (by omega) (by omega)
    exact ⟨_, rfl, ⟨h6, (show (0 : Int) ≤ (a0_' + (1 : Int32)).toInt by omega), (show (a0_' + (1 : Int32)).toInt ≤ (30 : Int) by omega)⟩, show (30 - (a0_' + (1 : Int32)).toInt).toNat < (30 - a0_'.toInt).toNat by omega⟩
theorem sl_Top_lairs_138  (a0_ : Int32) (N_ : Mem) (hN : J N_) (i1_ : (-1 : Int) ≤ a0_.toInt) (i2_ : a0_.toInt ≤ (29 : Int)) : ∃ x, iter (lb_Top_lairs_138) FU (a0_, N_) = some x ∧ (fun r : Mem => J r) x := by
  refine iter_r (fun s : Int32 × Mem => J s.2 ∧ (-1 : Int) ≤ s.1.toInt ∧ s.1.toInt ≤ (29 : Int)) (fun s : Int32 × Mem => (s.1.toInt - (-1)).toNat) (fun r : Mem => J r) ?_ FU (a0_, N_) ⟨hN, i1_, i2_⟩ (by show (a0_.toInt - (-1)).toNat < FU; rw [FU_v]; omega)
  clear i2_ i1_ hN
  rintro ⟨a0_', N_'⟩ ⟨hN, i1_, i2_⟩
  dsimp only at hN i1_ i2_
  unfold lb_Top_lairs_138
  dsimp only
  refine if_i (fun c => ?_) (fun c => ?_)
  · have c1 := c
    have d2 : a0_'.toInt < (0 : Int) := lti.mp c1
    exact ⟨_, rfl, hN⟩
  · have c3 := c
    have d4 : (0 : Int) ≤ a0_'.toInt := nlti.mp c3
    refine bind_i (sf_Thief_strike a0_' N_' hN) (fun x10 _ q => ?_)
    have h5 := q
    refine bind_i (sf_Thief_stir 32 x10 kd_32 h5) (fun x11 _ q => ?_)
    have h6 := q
    have q7 : (a0_' + (-1 : Int32)).toInt = a0_'.toInt + (-1 : Int) := add_ti rfl rfl (by omega) (by omega)
    exact ⟨_, rfl, ⟨h6, (show (-1 : Int) ≤ (a0_' + (-1 : Int32)).toInt by omega), (show (a0_' + (-1 : Int32)).toInt ≤ (29 : Int) by omega)⟩, show ((a0_' + (-1 : Int32)).toInt - (-1)).toNat < (a0_'.toInt - (-1)).toNat by omega⟩
theorem sf_Top_lairs (v1 : Int32) (M : Mem) (hJ : J M) : ∃ r : Int32 × Mem, f_Top_lairs v1 M = some r ∧ (J r.2 ∧ (-1 : Int) ≤ r.1.toInt ∧ r.1.toInt ≤ (254 : Int)) := by
  unfold f_Top_lairs
  refine if_i (fun c => ?_) (fun c => ?_)
  · have c1 := c
    have d2 : v1.toInt < (1 : Int) := lti.mp c1
    exact ⟨((-1 : Int32), M), rfl, hJ, (show (-1 : Int) ≤ (-1 : Int32).toInt by decide), (show (-1 : Int32).toInt ≤ (254 : Int) by decide)⟩
  · have c3 := c
    have d4 : (1 : Int) ≤ v1.toInt := nlti.mp c3
    refine if_i (fun c => ?_) (fun c => ?_)
    · have c5 := c
      have d6 : v1.toInt ≤ (30 : Int) := lei.mp c5
      refine bind_i (sf_Scene_copy 25 11 M kd_25 kd_11 hJ) (fun x1 _ q => ?_)
      obtain ⟨h7, h8⟩ := q
      refine bind_i (sl_Top_lairs_26 v1 (0 : Int32) x1 (⟨show (1 : Int) ≤ v1.toInt by omega, show v1.toInt ≤ (30 : Int) by omega⟩) h7 (show (0 : Int) ≤ (0 : Int32).toInt by decide) (show (0 : Int32).toInt ≤ (30 : Int) by decide)) (fun x7 _ q => ?_)
      have h9 := q
      refine mem_i (fun M8 e11 => ?_)
      have hJ12 : J M8 := by rw [e11]; exact Jl h9
      clear e11
      refine mem_i (fun M9 e14 => ?_)
      have hJ15 : J M9 := by rw [e14]; exact Jl hJ12
      clear e14
      have q16 : (v1 - (1 : Int32)).toInt = v1.toInt - (1 : Int) := sub_ti rfl rfl (by omega) (by omega)
      refine bind_i (sl_Top_lairs_138  (v1 - (1 : Int32)) M9 hJ15 (show (-1 : Int) ≤ (v1 - (1 : Int32)).toInt by omega) (show (v1 - (1 : Int32)).toInt ≤ (29 : Int) by omega)) (fun x13 _ q => ?_)
      have h17 := q
      refine bind_i (sf_Top_emptyRow x13 h17) (fun x14 _ q => ?_)
      have h18 := q
      refine bind_i (sf_Top_noteSet (x14.2.1 151 2) x14 h18) (fun x15 _ q => ?_)
      have h19 := q
      refine bind_i (sf_Top_noteSet (x15.2.1 151 3) x15 h19) (fun x16 _ q => ?_)
      have h20 := q
      refine bind_i (sf_JLong_bitCount (x16.2.1 151 2)) (fun x17 _ q => ?_)
      obtain ⟨h21, h22⟩ := q
      refine bind_i (sf_JLong_bitCount (x16.2.1 151 3)) (fun x18 _ q => ?_)
      obtain ⟨h23, h24⟩ := q
      have q25 : (x17 + x18).toInt = x17.toInt + x18.toInt := add_ti rfl rfl (by omega) (by omega)
      exact ⟨((x17 + x18), x16), rfl, h20, (show (-1 : Int) ≤ (x17 + x18).toInt by omega), (show (x17 + x18).toInt ≤ (254 : Int) by omega)⟩
    · have c26 := c
      have d27 : (30 : Int) < v1.toInt := nlei.mp c26
      exact ⟨((-1 : Int32), M), rfl, hJ, (show (-1 : Int) ≤ (-1 : Int32).toInt by decide), (show (-1 : Int32).toInt ≤ (254 : Int) by decide)⟩
