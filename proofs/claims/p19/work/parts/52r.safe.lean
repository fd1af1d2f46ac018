/-! safety of the class, 18 -/
theorem sf_Top_noteSet (v1 : Int64) (M : Mem) (hJ : J M) : ∃ r : Mem, f_Top_noteSet v1 M = some r ∧ (J r ∧ Gc 0 M r) := by
  unfold f_Top_noteSet
  refine bind_i (sf_Top_note (v1 &&& (262143 : Int64)).toInt32 M hJ) (fun x1 _ q => ?_)
  obtain ⟨h1, h2⟩ := q
  have hG3 : Gc 0 M x1 := Gc_t Gc_r h2
  refine bind_i (sf_Top_note (v1 >>> ((18 : Int32).toInt64 &&& 63)).toInt32 x1 h1) (fun x2 _ q => ?_)
  obtain ⟨h4, h5⟩ := q
  have hG6 : Gc 0 M x2 := Gc_t hG3 h5
  exact ⟨x2, rfl, h4, hG6⟩
theorem sf_Top_reach (v1 : Int32) (v2 : Int32) (M : Mem) (hJ : J M) : ∃ r : Int32 × Mem, f_Top_reach v1 v2 M = some r ∧ (J r.2 ∧ Gc 0 M r.2 ∧ (-2 : Int) ≤ r.1.toInt ∧ r.1.toInt ≤ (127 : Int)) := by
  unfold f_Top_reach
  refine if_i (fun c => ?_) (fun c => ?_)
  · have c1 := c
    have d2 : v1.toInt < (0 : Int) := lti.mp c1
    exact ⟨((-1 : Int32), M), rfl, hJ, Gc_r, (show (-2 : Int) ≤ (-1 : Int32).toInt by decide), (show (-1 : Int32).toInt ≤ (127 : Int) by decide)⟩
  · have c3 := c
    have d4 : (0 : Int) ≤ v1.toInt := nlti.mp c3
    refine if_i (fun c => ?_) (fun c => ?_)
    · have c5 := c
      have d6 : (1 : Int) < v1.toInt := lti.mp c5
      exact ⟨((-1 : Int32), M), rfl, hJ, Gc_r, (show (-2 : Int) ≤ (-1 : Int32).toInt by decide), (show (-1 : Int32).toInt ≤ (127 : Int) by decide)⟩
    · have c7 := c
      have d8 : v1.toInt ≤ (1 : Int) := nlti.mp c7
      refine bind_i (sf_Ground_has v2 M hJ) (fun x1 _ q => ?_)
      obtain ⟨h9, h10, h11⟩ := q
      refine if_i (fun c => ?_) (fun c => ?_)
      · have c12 := c
        have d13 : x1.toInt = (0 : Int) := eqi.mp c12
        exact ⟨((-1 : Int32), M), rfl, hJ, Gc_r, (show (-2 : Int) ≤ (-1 : Int32).toInt by decide), (show (-1 : Int32).toInt ≤ (127 : Int) by decide)⟩
      · have c14 := c
        have d15 : ¬ x1.toInt = (0 : Int) := neqi.mp c14
        refine bind_i (sf_Ground_holds v1 v2 M hJ) (fun x2 _ q => ?_)
        obtain ⟨h16, h17, h18, h19⟩ := q
        refine if_i (fun c => ?_) (fun c => ?_)
        · have c20 := c
          have d21 : x2.toInt = (0 : Int) := eqi.mp c20
          exact ⟨((-2 : Int32), M), rfl, hJ, Gc_r, (show (-2 : Int) ≤ (-2 : Int32).toInt by decide), (show (-2 : Int32).toInt ≤ (127 : Int) by decide)⟩
        · have c22 := c
          have d23 : ¬ x2.toInt = (0 : Int) := neqi.mp c22
          refine bind_i (sf_Nets_flood 32 v1 v2 (0 : Int64) M kd_32 (⟨show (0 : Int) ≤ v1.toInt by omega, show v1.toInt ≤ (1 : Int) by omega⟩) hJ) (fun x3 _ q => ?_)
          refine bind_i (sf_Top_emptyRow M hJ) (fun x4 _ q => ?_)
          obtain ⟨h24, h25⟩ := q
          have hG26 : Gc 0 M x4 := Gc_t Gc_r h25
          refine bind_i (sf_Top_noteSet x3 x4 h24) (fun x5 _ q => ?_)
          obtain ⟨h27, h28⟩ := q
          have hG29 : Gc 0 M x5 := Gc_t hG26 h28
          refine bind_i (sf_JLong_bitCount x3) (fun x6 _ q => ?_)
          obtain ⟨h30, h31⟩ := q
          exact ⟨(x6, x5), rfl, h27, hG29, (show (-2 : Int) ≤ x6.toInt by omega), (show x6.toInt ≤ (127 : Int) by omega)⟩
theorem sl_Top_path_74 (v1 : Int32) (v4 : Int32) (a0_ : Int32) (a1_ : Int32) (N_ : Mem) (B_ : Mem) (hp_v1 : (0 : Int) ≤ v1.toInt ∧ v1.toInt ≤ (1 : Int)) (hp_v4 : v4.toInt ≤ (999999 : Int)) (hN : J N_) (hG : Gc 0 B_ N_) (i2_ : (-1 : Int) ≤ a0_.toInt) (i3_ : a0_.toInt ≤ (35 : Int)) (i4_ : (0 : Int) ≤ a1_.toInt) (i5_ : a1_.toInt ≤ (10 : Int)) : ∃ x, iter (lb_Top_path_74 v1 v4) FU (a0_, a1_, N_) = some x ∧ (fun r : Mem => J r ∧ Gc 0 B_ r) x := by
  refine iter_r (fun s : Int32 × Int32 × Mem => J s.2.2 ∧ Gc 0 B_ s.2.2 ∧ (-1 : Int) ≤ s.1.toInt ∧ s.1.toInt ≤ (35 : Int) ∧ (0 : Int) ≤ s.2.1.toInt ∧ s.2.1.toInt ≤ (10 : Int)) (fun s : Int32 × Int32 × Mem => (10 - s.2.1.toInt).toNat) (fun r : Mem => J r ∧ Gc 0 B_ r) ?_ FU (a0_, a1_, N_) ⟨hN, hG, i2_, i3_, i4_, i5_⟩ (by show (10 - a1_.toInt).toNat < FU; rw [FU_v]; omega)
  clear i5_ i4_ i3_ i2_ hG hN
  rintro ⟨a0_', a1_', N_'⟩ ⟨hN, hG, i2_, i3_, i4_, i5_⟩
  dsimp only at hN hG i2_ i3_ i4_ i5_
  unfold lb_Top_path_74
  dsimp only
  refine if_i (fun c => ?_) (fun c => ?_)
  · have c1 := c
    have d2 : v4.toInt ≤ a1_'.toInt := lei.mp c1
    exact ⟨_, rfl, hN, hG⟩
  · have c3 := c
    have d4 : a1_'.toInt < v4.toInt := nlei.mp c3
    refine if_i (fun c => ?_) (fun c => ?_)
    · have c5 := c
      have d6 : (10 : Int) ≤ a1_'.toInt := lei.mp c5
      exact ⟨_, rfl, hN, hG⟩
    · have c7 := c
      have d8 : a1_'.toInt < (10 : Int) := nlei.mp c7
      refine if_i (fun c => ?_) (fun c => ?_)
      · have c9 := c
        have d10 : a0_'.toInt = (-1 : Int) := eqi.mp c9
        exact ⟨_, rfl, hN, hG⟩
      · have c11 := c
        have d12 : ¬ a0_'.toInt = (-1 : Int) := neqi.mp c11
        refine bind_i (sf_Nets_stepNearer 32 v1 a0_' 155 N_' kd_32 (⟨show (0 : Int) ≤ v1.toInt by omega, show v1.toInt ≤ (1 : Int) by omega⟩) (⟨show (0 : Int) ≤ a0_'.toInt by omega, show a0_'.toInt ≤ (35 : Int) by omega⟩) FA_155 hN) (fun x5 _ q => ?_)
        obtain ⟨h13, h14⟩ := q
        refine bind_i (sf_Top_note x5 N_' hN) (fun x6 _ q => ?_)
        obtain ⟨h15, h16⟩ := q
        have hG17 : Gc 0 B_ x6 := Gc_t hG h16
        refine bind_i (sf_Nets_toward 32 v1 a0_' x5 x6 kd_32 (⟨show (0 : Int) ≤ a0_'.toInt by omega, show a0_'.toInt ≤ (35 : Int) by omega⟩) h15) (fun x7 _ q => ?_)
        obtain ⟨h18, h19⟩ := q
        have q20 : (a1_' + (1 : Int32)).toInt = a1_'.toInt + (1 : Int) := add_ti rfl rfl (by omega) (by omega)
        exact ⟨_, rfl, ⟨h15, hG17, (show (-1 : Int) ≤ x7.toInt by omega), (show x7.toInt ≤ (35 : Int) by omega), (show (0 : Int) ≤ (a1_' + (1 : Int32)).toInt by omega), (show (a1_' + (1 : Int32)).toInt ≤ (10 : Int) by omega)⟩, show (10 - (a1_' + (1 : Int32)).toInt).toNat < (10 - a1_'.toInt).toNat by omega⟩
theorem sf_Top_path (v1 : Int32) (v2 : Int32) (v3 : Int32) (M : Mem) (hJ : J M) : ∃ r : Int32 × Mem, f_Top_path v1 v2 v3 M = some r ∧ (J r.2 ∧ Gc 0 M r.2 ∧ r.1.toInt ≤ (999999 : Int)) := by
  unfold f_Top_path
  refine bind_i (sf_Ground_holds v1 v2 M hJ) (fun x1 _ q => ?_)
  obtain ⟨h1, h2, h3, h4⟩ := q
  refine if_i (fun c => ?_) (fun c => ?_)
  · have c5 := c
    have d6 : x1.toInt = (0 : Int) := eqi.mp c5
    exact ⟨((-1 : Int32), M), rfl, hJ, Gc_r, (show (-1 : Int32).toInt ≤ (999999 : Int) by decide)⟩
  · have c7 := c
    have d8 : ¬ x1.toInt = (0 : Int) := neqi.mp c7
    refine bind_i (sf_Ground_holds v1 v3 M hJ) (fun x2 _ q => ?_)
    obtain ⟨h9, h10, h11, h12⟩ := q
    refine if_i (fun c => ?_) (fun c => ?_)
    · have c13 := c
      have d14 : x2.toInt = (0 : Int) := eqi.mp c13
      exact ⟨((-1 : Int32), M), rfl, hJ, Gc_r, (show (-1 : Int32).toInt ≤ (999999 : Int) by decide)⟩
    · have c15 := c
      have d16 : ¬ x2.toInt = (0 : Int) := neqi.mp c15
      refine bind_i (sf_Nets_measure 32 v1 v3 155 M kd_32 (⟨show (0 : Int) ≤ v1.toInt by omega, show v1.toInt ≤ (1 : Int) by omega⟩) (⟨show (0 : Int) ≤ v3.toInt by omega, show v3.toInt ≤ (35 : Int) by omega⟩) FA_155 hJ) (fun x3 _ q => ?_)
      obtain ⟨h17, h18⟩ := q
      have hG19 : Gc 0 M x3 := Gc_t Gc_r h18
      refine inb_i (by omega) (by omega) ?_
      refine if_i (fun c => ?_) (fun c => ?_)
      · have c20 := c
        have d21 : (x3.1 155 v2.toNatClampNeg).toInt < (1000000 : Int) := lti.mp c20
        refine bind_i (sf_Top_emptyRow x3 h17) (fun x4 _ q => ?_)
        obtain ⟨h22, h23⟩ := q
        have hG24 : Gc 0 M x4 := Gc_t hG19 h23
        refine bind_i (sl_Top_path_74 v1 (x3.1 155 v2.toNatClampNeg) v2 (0 : Int32) x4 M (⟨show (0 : Int) ≤ v1.toInt by omega, show v1.toInt ≤ (1 : Int) by omega⟩) (show (x3.1 155 v2.toNatClampNeg).toInt ≤ (999999 : Int) by omega) h22 hG24 (show (-1 : Int) ≤ v2.toInt by omega) (show v2.toInt ≤ (35 : Int) by omega) (show (0 : Int) ≤ (0 : Int32).toInt by decide) (show (0 : Int32).toInt ≤ (10 : Int) by decide)) (fun x11 _ q => ?_)
        obtain ⟨h25, h26⟩ := q
        exact ⟨((x3.1 155 v2.toNatClampNeg), x11), rfl, h25, h26, (show (x3.1 155 v2.toNatClampNeg).toInt ≤ (999999 : Int) by omega)⟩
      · have c27 := c
        have d28 : (1000000 : Int) ≤ (x3.1 155 v2.toNatClampNeg).toInt := nlti.mp c27
        exact ⟨((-2 : Int32), x3), rfl, h17, hG19, (show (-2 : Int32).toInt ≤ (999999 : Int) by decide)⟩
theorem sf_Top_both (v1 : Int32) (v2 : Int32) (v3 : Int32) (v4 : Int32) (M : Mem) (hJ : J M) : ∃ r : Int32 × Mem, f_Top_both v1 v2 v3 v4 M = some r ∧ (J r.2 ∧ Gc 0 M r.2) := by
  unfold f_Top_both
  refine bind_i (sf_Ground_holds v1 v2 M hJ) (fun x1 _ q => ?_)
  obtain ⟨h1, h2, h3, h4⟩ := q
  refine if_i (fun c => ?_) (fun c => ?_)
  · have c5 := c
    have d6 : x1.toInt = (0 : Int) := eqi.mp c5
    exact ⟨((-1 : Int32), M), rfl, hJ, Gc_r⟩
  · have c7 := c
    have d8 : ¬ x1.toInt = (0 : Int) := neqi.mp c7
    refine bind_i (sf_Ground_holds v3 v4 M hJ) (fun x2 _ q => ?_)
    obtain ⟨h9, h10, h11, h12⟩ := q
    refine if_i (fun c => ?_) (fun c => ?_)
    · have c13 := c
      have d14 : x2.toInt = (0 : Int) := eqi.mp c13
      exact ⟨((-1 : Int32), M), rfl, hJ, Gc_r⟩
    · have c15 := c
      have d16 : ¬ x2.toInt = (0 : Int) := neqi.mp c15
      have q17 : (v1 * (36 : Int32)).toInt = v1.toInt * (36 : Int) := mul_ti rfl rfl (by omega) (by omega)
      have q18 : ((v1 * (36 : Int32)) + v2).toInt = (v1 * (36 : Int32)).toInt + v2.toInt := add_ti rfl rfl (by omega) (by omega)
      have q19 : (v3 * (36 : Int32)).toInt = v3.toInt * (36 : Int) := mul_ti rfl rfl (by omega) (by omega)
      have q20 : ((v3 * (36 : Int32)) + v4).toInt = (v3 * (36 : Int32)).toInt + v4.toInt := add_ti rfl rfl (by omega) (by omega)
      refine bind_i (sf_Ways_acrossLevels 32 ((v1 * (36 : Int32)) + v2) ((v3 * (36 : Int32)) + v4) M kd_32 (⟨show (0 : Int) ≤ ((v1 * (36 : Int32)) + v2).toInt by omega, show ((v1 * (36 : Int32)) + v2).toInt ≤ (71 : Int) by omega⟩) (⟨show (0 : Int) ≤ ((v3 * (36 : Int32)) + v4).toInt by omega, show ((v3 * (36 : Int32)) + v4).toInt ≤ (71 : Int) by omega⟩) hJ) (fun x3 _ q => ?_)
      obtain ⟨h21, h22⟩ := q
      have hG23 : Gc 0 M x3.2 := Gc_t Gc_r h22
      refine if_i (fun c => ?_) (fun c => ?_)
      · have c24 := c
        have d25 : x3.1.toInt < (1000000 : Int) := lti.mp c24
        refine bind_i (sf_Top_emptyRow x3.2 h21) (fun x4 _ q => ?_)
        obtain ⟨h26, h27⟩ := q
        have hG28 : Gc 0 M x4 := Gc_t hG23 h27
        refine bind_i (sf_Top_note (x3.1 - ((x3.1 / (100 : Int32)) * (100 : Int32))) x4 h26) (fun x5 _ q => ?_)
        obtain ⟨h29, h30⟩ := q
        have hG31 : Gc 0 M x5 := Gc_t hG28 h30
        exact ⟨((x3.1 / (100 : Int32)), x5), rfl, h29, hG31⟩
      · have c32 := c
        have d33 : (1000000 : Int) ≤ x3.1.toInt := nlti.mp c32
        exact ⟨((-2 : Int32), x3.2), rfl, h21, hG23⟩
theorem sl_Top_handOver_49 (v1 : Int32) (v2 : Int32) (v5 : Int32) (a0_ : Int32) (a1_ : Int32) (N_ : Mem) (B_ : Mem) (hp_v1 : (0 : Int) ≤ v1.toInt ∧ v1.toInt ≤ (7 : Int)) (hp_v2 : (0 : Int) ≤ v2.toInt ∧ v2.toInt ≤ (7 : Int)) (hN : J N_) (hG : Gc 0 B_ N_) (i2_ : (0 : Int) ≤ a1_.toInt) (i3_ : a1_.toInt ≤ (36 : Int)) : ∃ x, iter (lb_Top_handOver_49 v1 v2 v5) FU (a0_, a1_, N_) = some x ∧ (fun r : Int32 × Mem => J r.2 ∧ Gc 0 B_ r.2) x := by
  refine iter_r (fun s : Int32 × Int32 × Mem => J s.2.2 ∧ Gc 0 B_ s.2.2 ∧ (0 : Int) ≤ s.2.1.toInt ∧ s.2.1.toInt ≤ (36 : Int)) (fun s : Int32 × Int32 × Mem => (36 - s.2.1.toInt).toNat) (fun r : Int32 × Mem => J r.2 ∧ Gc 0 B_ r.2) ?_ FU (a0_, a1_, N_) ⟨hN, hG, i2_, i3_⟩ (by show (36 - a1_.toInt).toNat < FU; rw [FU_v]; omega)
  clear i3_ i2_ hG hN
  rintro ⟨a0_', a1_', N_'⟩ ⟨hN, hG, i2_, i3_⟩
  dsimp only at hN hG i2_ i3_
  unfold lb_Top_handOver_49
  dsimp only
  refine if_i (fun c => ?_) (fun c => ?_)
  · have c1 := c
    have r2 := Jr_3_3 hN
    have d3 : (N_'.1 3 3).toInt ≤ a1_'.toInt := lei.mp c1
    exact ⟨_, rfl, hN, hG⟩
  · have c4 := c
    have r5 := Jr_3_3 hN
    have d6 : a1_'.toInt < (N_'.1 3 3).toInt := nlei.mp c4
    refine bind_i (sf_Ground_isStair a1_' N_' hN) (fun x2 _ q => ?_)
    obtain ⟨h7, h8, h9⟩ := q
    refine if_i (fun c => ?_) (fun c => ?_)
    · have c10 := c
      have d11 : x2.toInt = (0 : Int) := eqi.mp c10
      have q12 : (a1_' + (1 : Int32)).toInt = a1_'.toInt + (1 : Int) := add_ti rfl rfl (by omega) (by omega)
      exact ⟨_, rfl, ⟨hN, hG, (show (0 : Int) ≤ (a1_' + (1 : Int32)).toInt by omega), (show (a1_' + (1 : Int32)).toInt ≤ (36 : Int) by omega)⟩, show (36 - (a1_' + (1 : Int32)).toInt).toNat < (36 - a1_'.toInt).toNat by omega⟩
    · have c13 := c
      have d14 : ¬ x2.toInt = (0 : Int) := neqi.mp c13
      refine inb_i (by omega) (by omega) ?_
      refine inb_i (by omega) (by omega) ?_
      refine inb_i (by omega) (by omega) ?_
      refine if_i (fun c => ?_) (fun c => ?_)
      · have c15 := c
        have d16 : a0_'.toInt ≤ ((if (v5 + (N_'.1 155 a1_'.toNatClampNeg)) < (N_'.1 157 a1_'.toNatClampNeg) then (N_'.1 157 a1_'.toNatClampNeg) else (v5 + (N_'.1 155 a1_'.toNatClampNeg))) + (N_'.1 156 a1_'.toNatClampNeg)).toInt := lei.mp c15
        have q17 : (a1_' + (1 : Int32)).toInt = a1_'.toInt + (1 : Int) := add_ti rfl rfl (by omega) (by omega)
        exact ⟨_, rfl, ⟨hN, hG, (show (0 : Int) ≤ (a1_' + (1 : Int32)).toInt by omega), (show (a1_' + (1 : Int32)).toInt ≤ (36 : Int) by omega)⟩, show (36 - (a1_' + (1 : Int32)).toInt).toNat < (36 - a1_'.toInt).toNat by omega⟩
      · have c18 := c
        have d19 : ((if (v5 + (N_'.1 155 a1_'.toNatClampNeg)) < (N_'.1 157 a1_'.toNatClampNeg) then (N_'.1 157 a1_'.toNatClampNeg) else (v5 + (N_'.1 155 a1_'.toNatClampNeg))) + (N_'.1 156 a1_'.toNatClampNeg)).toInt < a0_'.toInt := nlei.mp c18
        refine bind_i (sf_Top_emptyRow N_' hN) (fun x3 _ q => ?_)
        obtain ⟨h20, h21⟩ := q
        have hG22 : Gc 0 B_ x3 := Gc_t hG h21
        refine bind_i (sf_Top_note v1 x3 h20) (fun x4 _ q => ?_)
        obtain ⟨h23, h24⟩ := q
        have hG25 : Gc 0 B_ x4 := Gc_t hG22 h24
        refine bind_i (sf_Top_note v2 x4 h23) (fun x5 _ q => ?_)
        obtain ⟨h26, h27⟩ := q
        have hG28 : Gc 0 B_ x5 := Gc_t hG25 h27
        refine bind_i (sf_Top_note a1_' x5 h26) (fun x6 _ q => ?_)
        obtain ⟨h29, h30⟩ := q
        have hG31 : Gc 0 B_ x6 := Gc_t hG28 h30
        have q32 : (a1_' + (1 : Int32)).toInt = a1_'.toInt + (1 : Int) := add_ti rfl rfl (by omega) (by omega)
        exact ⟨_, rfl, ⟨h29, hG31, (show (0 : Int) ≤ (a1_' + (1 : Int32)).toInt by omega), (show (a1_' + (1 : Int32)).toInt ≤ (36 : Int) by omega)⟩, show (36 - (a1_' + (1 : Int32)).toInt).toNat < (36 - a1_'.toInt).toNat by omega⟩
theorem sf_Top_handOver (v1 : Int32) (v2 : Int32) (v3 : Int32) (M : Mem) (hp_v1 : (0 : Int) ≤ v1.toInt ∧ v1.toInt ≤ (7 : Int)) (hp_v2 : (0 : Int) ≤ v2.toInt ∧ v2.toInt ≤ (7 : Int)) (hJ : J M) : ∃ r : Int32 × Mem, f_Top_handOver v1 v2 v3 M = some r ∧ (J r.2 ∧ Gc 0 M r.2) := by
  unfold f_Top_handOver
  refine inb_i (by omega) (by omega) ?_
  have r1 := Jr_12 hJ v2.toNatClampNeg
  refine bind_i (sf_Nets_measure 32 (1 : Int32) (M.1 12 v2.toNatClampNeg) 157 M kd_32 (⟨by decide, by decide⟩) (⟨show (0 : Int) ≤ (M.1 12 v2.toNatClampNeg).toInt by omega, show (M.1 12 v2.toNatClampNeg).toInt ≤ (35 : Int) by omega⟩) FA_157 hJ) (fun x1 _ q => ?_)
  obtain ⟨h2, h3⟩ := q
  have hG4 : Gc 0 M x1 := Gc_t Gc_r h3
  refine inb_i (by omega) (by omega) ?_
  have r5 := Jr_12 h2 v1.toNatClampNeg
  refine inb_i (by omega) (by omega) ?_
  refine bind_i (sl_Top_handOver_49 v1 v2 (x1.1 155 (x1.1 12 v1.toNatClampNeg).toNatClampNeg) v3 (0 : Int32) x1 M (⟨show (0 : Int) ≤ v1.toInt by omega, show v1.toInt ≤ (7 : Int) by omega⟩) (⟨show (0 : Int) ≤ v2.toInt by omega, show v2.toInt ≤ (7 : Int) by omega⟩) h2 hG4 (show (0 : Int) ≤ (0 : Int32).toInt by decide) (show (0 : Int32).toInt ≤ (36 : Int) by decide)) (fun x10 _ q => ?_)
  obtain ⟨h6, h7⟩ := q
  exact ⟨(x10.1, x10.2), rfl, h6, h7⟩
theorem sl_Top_errand_80 (v4 : Int32) (a0_ : Int32) (a1_ : Int32) (N_ : Mem) (B_ : Mem) (hp_v4 : (0 : Int) ≤ v4.toInt ∧ v4.toInt ≤ (7 : Int)) (hN : J N_) (hG : Gc 0 B_ N_) (i2_ : (0 : Int) ≤ a1_.toInt) (i3_ : a1_.toInt ≤ (8 : Int)) : ∃ x, iter (lb_Top_errand_80 v4) FU (a0_, a1_, N_) = some x ∧ (fun r : Int32 × Mem => J r.2 ∧ Gc 0 B_ r.2) x := by
  refine iter_r (fun s : Int32 × Int32 × Mem => J s.2.2 ∧ Gc 0 B_ s.2.2 ∧ (0 : Int) ≤ s.2.1.toInt ∧ s.2.1.toInt ≤ (8 : Int)) (fun s : Int32 × Int32 × Mem => (8 - s.2.1.toInt).toNat) (fun r : Int32 × Mem => J r.2 ∧ Gc 0 B_ r.2) ?_ FU (a0_, a1_, N_) ⟨hN, hG, i2_, i3_⟩ (by show (8 - a1_.toInt).toNat < FU; rw [FU_v]; omega)
  clear i3_ i2_ hG hN
  rintro ⟨a0_', a1_', N_'⟩ ⟨hN, hG, i2_, i3_⟩
  dsimp only at hN hG i2_ i3_
  unfold lb_Top_errand_80
  dsimp only
  refine if_i (fun c => ?_) (fun c => ?_)
  · have c1 := c
    have r2 := Jr_6_4 hN
    have d3 : (N_'.1 6 4).toInt ≤ a1_'.toInt := lei.mp c1
    exact ⟨_, rfl, hN, hG⟩
  · have c4 := c
    have r5 := Jr_6_4 hN
    have d6 : a1_'.toInt < (N_'.1 6 4).toInt := nlei.mp c4
    refine bind_i (sf_Crowd_woman v4 N_' hN) (fun x5 _ q => ?_)
    obtain ⟨h7, h8⟩ := q
    refine if_i (fun c => ?_) (fun c => ?_)
    · have c9 := c
      have d10 : x5.toInt = (0 : Int) := eqi.mp c9
      refine bind_i (sf_Crowd_woman a1_' N_' hN) (fun x6 _ q => ?_)
      obtain ⟨h11, h12⟩ := q
      refine if_i (fun c => ?_) (fun c => ?_)
      · have c13 := c
        have d14 : x6.toInt = (0 : Int) := eqi.mp c13
        have q15 : (a1_' + (1 : Int32)).toInt = a1_'.toInt + (1 : Int) := add_ti rfl rfl (by omega) (by omega)
        exact ⟨_, rfl, ⟨hN, hG, (show (0 : Int) ≤ (a1_' + (1 : Int32)).toInt by omega), (show (a1_' + (1 : Int32)).toInt ≤ (8 : Int) by omega)⟩, show (8 - (a1_' + (1 : Int32)).toInt).toNat < (8 - a1_'.toInt).toNat by omega⟩
      · have c16 := c
        have d17 : ¬ x6.toInt = (0 : Int) := neqi.mp c16
        refine inb_i (by omega) (by omega) ?_
        refine if_i (fun c => ?_) (fun c => ?_)
        · have c18 := c
          have r19 := Jr_13 hN a1_'.toNatClampNeg
          have d20 : (N_'.1 13 a1_'.toNatClampNeg).toInt = (1 : Int) := eqi.mp c18
          refine bind_i (sf_Top_handOver v4 a1_' a0_' N_' (⟨show (0 : Int) ≤ v4.toInt by omega, show v4.toInt ≤ (7 : Int) by omega⟩) (⟨show (0 : Int) ≤ a1_'.toInt by omega, show a1_'.toInt ≤ (7 : Int) by omega⟩) hN) (fun x7 _ q => ?_)
          obtain ⟨h21, h22⟩ := q
          have hG23 : Gc 0 B_ x7.2 := Gc_t hG h22
          have q24 : (a1_' + (1 : Int32)).toInt = a1_'.toInt + (1 : Int) := add_ti rfl rfl (by omega) (by omega)
          exact ⟨_, rfl, ⟨h21, hG23, (show (0 : Int) ≤ (a1_' + (1 : Int32)).toInt by omega), (show (a1_' + (1 : Int32)).toInt ≤ (8 : Int) by omega)⟩, show (8 - (a1_' + (1 : Int32)).toInt).toNat < (8 - a1_'.toInt).toNat by omega⟩
        · have c25 := c
          have r26 := Jr_13 hN a1_'.toNatClampNeg
          have d27 : ¬ (N_'.1 13 a1_'.toNatClampNeg).toInt = (1 : Int) := neqi.mp c25
          have q28 : (a1_' + (1 : Int32)).toInt = a1_'.toInt + (1 : Int) := add_ti rfl rfl (by omega) (by omega)
          exact ⟨_, rfl, ⟨hN, hG, (show (0 : Int) ≤ (a1_' + (1 : Int32)).toInt by omega), (show (a1_' + (1 : Int32)).toInt ≤ (8 : Int) by omega)⟩, show (8 - (a1_' + (1 : Int32)).toInt).toNat < (8 - a1_'.toInt).toNat by omega⟩
    · have c29 := c
      have d30 : ¬ x5.toInt = (0 : Int) := neqi.mp c29
      have q31 : (a1_' + (1 : Int32)).toInt = a1_'.toInt + (1 : Int) := add_ti rfl rfl (by omega) (by omega)
      exact ⟨_, rfl, ⟨hN, hG, (show (0 : Int) ≤ (a1_' + (1 : Int32)).toInt by omega), (show (a1_' + (1 : Int32)).toInt ≤ (8 : Int) by omega)⟩, show (8 - (a1_' + (1 : Int32)).toInt).toNat < (8 - a1_'.toInt).toNat by omega⟩
theorem sl_Top_errand_65  (a0_ : Int32) (a1_ : Int32) (N_ : Mem) (B_ : Mem) (hN : J N_) (hG : Gc 0 B_ N_) (i2_ : (0 : Int) ≤ a1_.toInt) (i3_ : a1_.toInt ≤ (8 : Int)) : ∃ x, iter (lb_Top_errand_65) FU (a0_, a1_, N_) = some x ∧ (fun r : Int32 × Mem => J r.2 ∧ Gc 0 B_ r.2) x := by
  refine iter_r (fun s : Int32 × Int32 × Mem => J s.2.2 ∧ Gc 0 B_ s.2.2 ∧ (0 : Int) ≤ s.2.1.toInt ∧ s.2.1.toInt ≤ (8 : Int)) (fun s : Int32 × Int32 × Mem => (8 - s.2.1.toInt).toNat) (fun r : Int32 × Mem => J r.2 ∧ Gc 0 B_ r.2) ?_ FU (a0_, a1_, N_) ⟨hN, hG, i2_, i3_⟩ (by show (8 - a1_.toInt).toNat < FU; rw [FU_v]; omega)
  clear i3_ i2_ hG hN
  rintro ⟨a0_', a1_', N_'⟩ ⟨hN, hG, i2_, i3_⟩
  dsimp only at hN hG i2_ i3_
  unfold lb_Top_errand_65
  dsimp only
  refine if_i (fun c => ?_) (fun c => ?_)
  · have c1 := c
    have r2 := Jr_6_4 hN
    have d3 : (N_'.1 6 4).toInt ≤ a1_'.toInt := lei.mp c1
    exact ⟨_, rfl, hN, hG⟩
  · have c4 := c
    have r5 := Jr_6_4 hN
    have d6 : a1_'.toInt < (N_'.1 6 4).toInt := nlei.mp c4
    refine bind_i (sl_Top_errand_80 a1_' a0_' (0 : Int32) N_' B_ (⟨show (0 : Int) ≤ a1_'.toInt by omega, show a1_'.toInt ≤ (7 : Int) by omega⟩) hN hG (show (0 : Int) ≤ (0 : Int32).toInt by decide) (show (0 : Int32).toInt ≤ (8 : Int) by decide)) (fun x12 _ q => ?_)
    obtain ⟨h7, h8⟩ := q
    have q9 : (a1_' + (1 : Int32)).toInt = a1_'.toInt + (1 : Int) := add_ti rfl rfl (by omega) (by omega)
    exact ⟨_, rfl, ⟨h7, h8, (show (0 : Int) ≤ (a1_' + (1 : Int32)).toInt by omega), (show (a1_' + (1 : Int32)).toInt ≤ (8 : Int) by omega)⟩, show (8 - (a1_' + (1 : Int32)).toInt).toNat < (8 - a1_'.toInt).toNat by omega⟩
theorem sf_Top_errand (v1 : Int32) (v2 : Int32) (M : Mem) (hJ : J M) : ∃ r : Int32 × Mem, f_Top_errand v1 v2 M = some r ∧ (J r.2 ∧ Gc 0 M r.2 ∧ r.1.toInt ≤ (999999 : Int)) := by
  unfold f_Top_errand
  refine bind_i (sf_Ground_holds (0 : Int32) v1 M hJ) (fun x1 _ q => ?_)
  obtain ⟨h1, h2, h3, h4⟩ := q
  clear h3
  refine if_i (fun c => ?_) (fun c => ?_)
  · have c5 := c
    have d6 : x1.toInt = (0 : Int) := eqi.mp c5
    exact ⟨((-1 : Int32), M), rfl, hJ, Gc_r, (show (-1 : Int32).toInt ≤ (999999 : Int) by decide)⟩
  · have c7 := c
    have d8 : ¬ x1.toInt = (0 : Int) := neqi.mp c7
    refine bind_i (sf_Ground_holds (1 : Int32) v2 M hJ) (fun x2 _ q => ?_)
    obtain ⟨h9, h10, h11, h12⟩ := q
    clear h11
    refine if_i (fun c => ?_) (fun c => ?_)
    · have c13 := c
      have d14 : x2.toInt = (0 : Int) := eqi.mp c13
      exact ⟨((-1 : Int32), M), rfl, hJ, Gc_r, (show (-1 : Int32).toInt ≤ (999999 : Int) by decide)⟩
    · have c15 := c
      have d16 : ¬ x2.toInt = (0 : Int) := neqi.mp c15
      refine bind_i (sf_Nets_measure 32 (0 : Int32) v1 155 M kd_32 (⟨by decide, by decide⟩) (⟨show (0 : Int) ≤ v1.toInt by omega, show v1.toInt ≤ (35 : Int) by omega⟩) FA_155 hJ) (fun x3 _ q => ?_)
      obtain ⟨h17, h18⟩ := q
      have hG19 : Gc 0 M x3 := Gc_t Gc_r h18
      refine bind_i (sf_Nets_measure 32 (1 : Int32) v2 156 x3 kd_32 (⟨by decide, by decide⟩) (⟨show (0 : Int) ≤ v2.toInt by omega, show v2.toInt ≤ (35 : Int) by omega⟩) FA_156 h17) (fun x4 _ q => ?_)
      obtain ⟨h20, h21⟩ := q
      have hG22 : Gc 0 M x4 := Gc_t hG19 h21
      refine bind_i (sl_Top_errand_65  (1000000 : Int32) (0 : Int32) x4 M h20 hG22 (show (0 : Int) ≤ (0 : Int32).toInt by decide) (show (0 : Int32).toInt ≤ (8 : Int) by decide)) (fun x14 _ q => ?_)
      obtain ⟨h23, h24⟩ := q
      refine if_i (fun c => ?_) (fun c => ?_)
      · have c25 := c
        have d26 : x14.1.toInt < (1000000 : Int) := lti.mp c25
        exact ⟨(x14.1, x14.2), rfl, h23, h24, (show x14.1.toInt ≤ (999999 : Int) by omega)⟩
      · have c27 := c
        have d28 : (1000000 : Int) ≤ x14.1.toInt := nlti.mp c27
        exact ⟨((-2 : Int32), x14.2), rfl, h23, h24, (show (-2 : Int32).toInt ≤ (999999 : Int) by decide)⟩
theorem sf_Top_areManAndWoman (v1 : Int32) (v2 : Int32) (M : Mem) (hJ : J M) : ∃ r : Int32, f_Top_areManAndWoman v1 v2 M = some r ∧ ((0 : Int) ≤ r.toInt ∧ r.toInt ≤ (1 : Int) ∧ (¬ r.toInt = 0 → (0 : Int) ≤ v1.toInt ∧ v1.toInt ≤ (7 : Int)) ∧ (¬ r.toInt = 0 → (0 : Int) ≤ v2.toInt ∧ v2.toInt ≤ (7 : Int))) := by
  unfold f_Top_areManAndWoman
  refine bind_i (sf_Crowd_has v1 M hJ) (fun x1 _ q => ?_)
  obtain ⟨h1, h2, h3⟩ := q
  refine if_i (fun c => ?_) (fun c => ?_)
  · have c4 := c
    have d5 : x1.toInt = (0 : Int) := eqi.mp c4
    exact ⟨(0 : Int32), rfl, (show (0 : Int) ≤ (0 : Int32).toInt by decide), (show (0 : Int32).toInt ≤ (1 : Int) by decide), (fun hh => by have hh : ¬ (0 : Int32).toInt = 0 := hh; have zz : (0 : Int32).toInt = 0 := rfl; omega), (fun hh => by have hh : ¬ (0 : Int32).toInt = 0 := hh; have zz : (0 : Int32).toInt = 0 := rfl; omega)⟩
  · have c6 := c
    have d7 : ¬ x1.toInt = (0 : Int) := neqi.mp c6
    refine bind_i (sf_Crowd_has v2 M hJ) (fun x2 _ q => ?_)
    obtain ⟨h8, h9, h10⟩ := q
    refine if_i (fun c => ?_) (fun c => ?_)
    · have c11 := c
      have d12 : x2.toInt = (0 : Int) := eqi.mp c11
      exact ⟨(0 : Int32), rfl, (show (0 : Int) ≤ (0 : Int32).toInt by decide), (show (0 : Int32).toInt ≤ (1 : Int) by decide), (fun hh => by have hh : ¬ (0 : Int32).toInt = 0 := hh; have zz : (0 : Int32).toInt = 0 := rfl; omega), (fun hh => by have hh : ¬ (0 : Int32).toInt = 0 := hh; have zz : (0 : Int32).toInt = 0 := rfl; omega)⟩
    · have c13 := c
      have d14 : ¬ x2.toInt = (0 : Int) := neqi.mp c13
      refine bind_i (sf_Crowd_woman v1 M hJ) (fun x3 _ q => ?_)
      obtain ⟨h15, h16⟩ := q
      refine if_i (fun c => ?_) (fun c => ?_)
      · have c17 := c
        have d18 : x3.toInt = (0 : Int) := eqi.mp c17
        refine bind_i (sf_Crowd_woman v2 M hJ) (fun x4 _ q => ?_)
        obtain ⟨h19, h20⟩ := q
        refine if_i (fun c => ?_) (fun c => ?_)
        · have c21 := c
          have d22 : x4.toInt = (0 : Int) := eqi.mp c21
          exact ⟨(0 : Int32), rfl, (show (0 : Int) ≤ (0 : Int32).toInt by decide), (show (0 : Int32).toInt ≤ (1 : Int) by decide), (fun hh => by have hh : ¬ (0 : Int32).toInt = 0 := hh; have zz : (0 : Int32).toInt = 0 := rfl; omega), (fun hh => by have hh : ¬ (0 : Int32).toInt = 0 := hh; have zz : (0 : Int32).toInt = 0 := rfl; omega)⟩
        · have c23 := c
          have d24 : ¬ x4.toInt = (0 : Int) := neqi.mp c23
          exact ⟨(1 : Int32), rfl, (show (0 : Int) ≤ (1 : Int32).toInt by decide), (show (1 : Int32).toInt ≤ (1 : Int) by decide), (fun hh => by have hh : ¬ (1 : Int32).toInt = 0 := hh; have zz : (1 : Int32).toInt = 1 := rfl; omega), (fun hh => by have hh : ¬ (1 : Int32).toInt = 0 := hh; have zz : (1 : Int32).toInt = 1 := rfl; omega)⟩
      · have c25 := c
        have d26 : ¬ x3.toInt = (0 : Int) := neqi.mp c25
        exact ⟨(0 : Int32), rfl, (show (0 : Int) ≤ (0 : Int32).toInt by decide), (show (0 : Int32).toInt ≤ (1 : Int) by decide), (fun hh => by have hh : ¬ (0 : Int32).toInt = 0 := hh; have zz : (0 : Int32).toInt = 0 := rfl; omega), (fun hh => by have hh : ¬ (0 : Int32).toInt = 0 := hh; have zz : (0 : Int32).toInt = 0 := rfl; omega)⟩
