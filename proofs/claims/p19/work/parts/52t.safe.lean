/-! safety of the class, 20 -/
theorem sf_Top_part (v1 : Int32) (v2 : Int32) (M : Mem) (hJ : J M) : ∃ r : Int32 × Mem, f_Top_part v1 v2 M = some r ∧ (J r.2 ∧ Gc 0 M r.2 ∧ (-2 : Int) ≤ r.1.toInt ∧ r.1.toInt ≤ (3 : Int)) := by
  unfold f_Top_part
  refine bind_i (sf_Top_areManAndWoman v1 v2 M hJ) (fun x1 _ q => ?_)
  obtain ⟨h1, h2, h3, h4⟩ := q
  refine if_i (fun c => ?_) (fun c => ?_)
  · have c5 := c
    have d6 : x1.toInt = (0 : Int) := eqi.mp c5
    exact ⟨((-1 : Int32), M), rfl, hJ, Gc_r, (show (-2 : Int) ≤ (-1 : Int32).toInt by decide), (show (-1 : Int32).toInt ≤ (3 : Int) by decide)⟩
  · have c7 := c
    have d8 : ¬ x1.toInt = (0 : Int) := neqi.mp c7
    refine bind_i (sf_Nets_stairs 32 M kd_32 hJ) (fun x2 _ q => ?_)
    refine inb_i (by omega) (by omega) ?_
    refine inb_i (by omega) (by omega) ?_
    refine bind_i (sf_Top_canTryst v1 v2 ((x2 &&& (((1 : Int64) <<< ((M.1 12 v1.toNatClampNeg).toInt64 &&& 63)) ^^^ (-1 : Int64))) &&& (((1 : Int64) <<< ((M.1 12 v2.toNatClampNeg).toInt64 &&& 63)) ^^^ (-1 : Int64))) M (⟨show (0 : Int) ≤ v1.toInt by omega, show v1.toInt ≤ (7 : Int) by omega⟩) (⟨show (0 : Int) ≤ v2.toInt by omega, show v2.toInt ≤ (7 : Int) by omega⟩) hJ) (fun x3 _ q => ?_)
    obtain ⟨h9, h10⟩ := q
    refine if_i (fun c => ?_) (fun c => ?_)
    · have c11 := c
      have d12 : x3.toInt = (0 : Int) := eqi.mp c11
      refine bind_i (sl_Top_part_67 v1 v2 ((x2 &&& (((1 : Int64) <<< ((M.1 12 v1.toNatClampNeg).toInt64 &&& 63)) ^^^ (-1 : Int64))) &&& (((1 : Int64) <<< ((M.1 12 v2.toNatClampNeg).toInt64 &&& 63)) ^^^ (-1 : Int64))) M (0 : Int32) (⟨show (0 : Int) ≤ v1.toInt by omega, show v1.toInt ≤ (7 : Int) by omega⟩) (⟨show (0 : Int) ≤ v2.toInt by omega, show v2.toInt ≤ (7 : Int) by omega⟩) hJ (show (0 : Int) ≤ (0 : Int32).toInt by decide) (show (0 : Int32).toInt ≤ (4 : Int) by decide)) (fun x13 _ q => ?_)
      rcases x13 with y | y
      · have q9 : True := q
        dsimp only [Sum.elim_inl, Sum.elim_inr]
        exact ⟨((-2 : Int32), M), rfl, hJ, Gc_r, (show (-2 : Int) ≤ (-2 : Int32).toInt by decide), (show (-2 : Int32).toInt ≤ (3 : Int) by decide)⟩
      · have q9 : (0 : Int) ≤ y.1.toInt ∧ y.1.toInt ≤ (3 : Int) := q
        dsimp only [Sum.elim_inl, Sum.elim_inr]
        obtain ⟨h16, h17⟩ := q9
        refine bind_i (sf_Top_emptyRow M hJ) (fun x10 _ q => ?_)
        obtain ⟨h18, h19⟩ := q
        have hG20 : Gc 0 M x10 := Gc_t Gc_r h19
        refine bind_i (sl_Top_part_99 y.1 y.2 (0 : Int32) x10 M (⟨show (0 : Int) ≤ y.1.toInt by omega, show y.1.toInt ≤ (3 : Int) by omega⟩) h18 hG20 (show (0 : Int) ≤ (0 : Int32).toInt by decide) (show (0 : Int32).toInt ≤ (36 : Int) by decide)) (fun x14 _ q => ?_)
        obtain ⟨h21, h22⟩ := q
        exact ⟨(y.1, x14), rfl, h21, h22, (show (-2 : Int) ≤ y.1.toInt by omega), (show y.1.toInt ≤ (3 : Int) by omega)⟩
    · have c23 := c
      have d24 : ¬ x3.toInt = (0 : Int) := neqi.mp c23
      exact ⟨((-2 : Int32), M), rfl, hJ, Gc_r, (show (-2 : Int) ≤ (-2 : Int32).toInt by decide), (show (-2 : Int32).toInt ≤ (3 : Int) by decide)⟩
theorem sf_Top_planks (v1 : Int32) (v2 : Int32) (M : Mem) (hJ : J M) : ∃ r : Int32 × Mem, f_Top_planks v1 v2 M = some r ∧ (J r.2 ∧ Gc 0 M r.2) := by
  unfold f_Top_planks
  refine bind_i (sf_Ground_holds (1 : Int32) v1 M hJ) (fun x1 _ q => ?_)
  obtain ⟨h1, h2, h3, h4⟩ := q
  clear h3
  refine if_i (fun c => ?_) (fun c => ?_)
  · have c5 := c
    have d6 : x1.toInt = (0 : Int) := eqi.mp c5
    exact ⟨((-1 : Int32), M), rfl, hJ, Gc_r⟩
  · have c7 := c
    have d8 : ¬ x1.toInt = (0 : Int) := neqi.mp c7
    refine bind_i (sf_Ground_holds (1 : Int32) v2 M hJ) (fun x2 _ q => ?_)
    obtain ⟨h9, h10, h11, h12⟩ := q
    clear h11
    refine if_i (fun c => ?_) (fun c => ?_)
    · have c13 := c
      have d14 : x2.toInt = (0 : Int) := eqi.mp c13
      exact ⟨((-1 : Int32), M), rfl, hJ, Gc_r⟩
    · have c15 := c
      have d16 : ¬ x2.toInt = (0 : Int) := neqi.mp c15
      refine bind_i (sf_Ways_bridged 32 v1 v2 M kd_32 (⟨show (0 : Int) ≤ v1.toInt by omega, show v1.toInt ≤ (35 : Int) by omega⟩) (⟨show (0 : Int) ≤ v2.toInt by omega, show v2.toInt ≤ (35 : Int) by omega⟩) hJ) (fun x3 _ q => ?_)
      obtain ⟨h17, h18⟩ := q
      have hG19 : Gc 0 M x3.2 := Gc_t Gc_r h18
      refine if_i (fun c => ?_) (fun c => ?_)
      · have c20 := c
        have d21 : x3.1.toInt < (1000000 : Int) := lti.mp c20
        refine bind_i (sf_Top_emptyRow x3.2 h17) (fun x4 _ q => ?_)
        obtain ⟨h22, h23⟩ := q
        have hG24 : Gc 0 M x4 := Gc_t hG19 h23
        refine bind_i (sf_Top_note (x3.1 - ((x3.1 / (100 : Int32)) * (100 : Int32))) x4 h22) (fun x5 _ q => ?_)
        obtain ⟨h25, h26⟩ := q
        have hG27 : Gc 0 M x5 := Gc_t hG24 h26
        exact ⟨((x3.1 / (100 : Int32)), x5), rfl, h25, hG27⟩
      · have c28 := c
        have d29 : (1000000 : Int) ≤ x3.1.toInt := nlti.mp c28
        exact ⟨((-2 : Int32), x3.2), rfl, h17, hG19⟩
theorem sf_Top_fire (v1 : Int32) (M : Mem) (hJ : J M) : ∃ r : Int32 × Mem, f_Top_fire v1 M = some r ∧ (J r.2 ∧ Gc 0 M r.2) := by
  unfold f_Top_fire
  refine if_i (fun c => ?_) (fun c => ?_)
  · have c1 := c
    have d2 : v1.toInt = (-1 : Int) := eqi.mp c1
    unfold j_Top_fire_19
    refine mem_i (fun M1 e4 => ?_)
    have hJ5 : J M1 := by rw [e4]; exact Jw_any ok_0 hJ 16 v1
    have hG6 : Gc 0 M M1 := Gc_i Gc_r e4 (by decide)
    have f7 : (M1.1 0 16).toInt = v1.toInt := by rw [e4, si_eq]
    clear e4
    exact ⟨((M.1 0 16), M1), rfl, hJ5, hG6⟩
  · have c8 := c
    have d9 : ¬ v1.toInt = (-1 : Int) := neqi.mp c8
    refine bind_i (sf_Ground_has v1 M hJ) (fun x2 _ q => ?_)
    obtain ⟨h10, h11, h12⟩ := q
    refine if_i (fun c => ?_) (fun c => ?_)
    · have c13 := c
      have d14 : x2.toInt = (0 : Int) := eqi.mp c13
      exact ⟨((-2 : Int32), M), rfl, hJ, Gc_r⟩
    · have c15 := c
      have d16 : ¬ x2.toInt = (0 : Int) := neqi.mp c15
      unfold j_Top_fire_19
      refine mem_i (fun M1 e18 => ?_)
      have hJ19 : J M1 := by rw [e18]; exact Jw_any ok_0 hJ 16 v1
      have hG20 : Gc 0 M M1 := Gc_i Gc_r e18 (by decide)
      have f21 : (M1.1 0 16).toInt = v1.toInt := by rw [e18, si_eq]
      clear e18
      exact ⟨((M.1 0 16), M1), rfl, hJ19, hG20⟩
theorem sl_Top_stepsToFire_38 (M : Mem) (a0_ : Int32) (a1_ : Int32) (hJ_M : J M) (i0_ : a0_.toInt ≤ (1000000 : Int)) (i1_ : (0 : Int) ≤ a1_.toInt) (i2_ : a1_.toInt ≤ (4 : Int)) : ∃ x, iter (lb_Top_stepsToFire_38 M) FU (a0_, a1_) = some x ∧ (fun r : Int32 => r.toInt ≤ (1000000 : Int)) x := by
  refine iter_r (fun s : Int32 × Int32 => s.1.toInt ≤ (1000000 : Int) ∧ (0 : Int) ≤ s.2.toInt ∧ s.2.toInt ≤ (4 : Int)) (fun s : Int32 × Int32 => (4 - s.2.toInt).toNat) (fun r : Int32 => r.toInt ≤ (1000000 : Int)) ?_ FU (a0_, a1_) ⟨i0_, i1_, i2_⟩ (by show (4 - a1_.toInt).toNat < FU; rw [FU_v]; omega)
  clear i2_ i1_ i0_
  rintro ⟨a0_', a1_'⟩ ⟨i0_, i1_, i2_⟩
  dsimp only at i0_ i1_ i2_
  unfold lb_Top_stepsToFire_38
  dsimp only
  refine if_i (fun c => ?_) (fun c => ?_)
  · have c1 := c
    have d2 : (4 : Int) ≤ a1_'.toInt := lei.mp c1
    exact ⟨_, rfl, (show a0_'.toInt ≤ (1000000 : Int) by omega)⟩
  · have c3 := c
    have d4 : a1_'.toInt < (4 : Int) := nlei.mp c3
    refine bind_i (sf_Ground_beside (M.1 0 16) a1_' M hJ_M) (fun x2 _ q => ?_)
    obtain ⟨h5, h6, h7⟩ := q
    refine if_i (fun c => ?_) (fun c => ?_)
    · have c8 := c
      have d9 : x2.toInt = (-1 : Int) := eqi.mp c8
      have q10 : (a1_' + (1 : Int32)).toInt = a1_'.toInt + (1 : Int) := add_ti rfl rfl (by omega) (by omega)
      exact ⟨_, rfl, ⟨(show a0_'.toInt ≤ (1000000 : Int) by omega), (show (0 : Int) ≤ (a1_' + (1 : Int32)).toInt by omega), (show (a1_' + (1 : Int32)).toInt ≤ (4 : Int) by omega)⟩, show (4 - (a1_' + (1 : Int32)).toInt).toNat < (4 - a1_'.toInt).toNat by omega⟩
    · have c11 := c
      have d12 : ¬ x2.toInt = (-1 : Int) := neqi.mp c11
      refine inb_i (by omega) (by omega) ?_
      have q13 : (if (M.1 155 x2.toNatClampNeg) < a0_' then (M.1 155 x2.toNatClampNeg) else a0_').toInt ≤ (1000000 : Int) := by
        by_cases cc : (M.1 155 x2.toNatClampNeg) < a0_'
        · rw [if_pos cc]
          have d14 : (M.1 155 x2.toNatClampNeg).toInt < a0_'.toInt := lti.mp cc
          omega
        · rw [if_neg cc]
          have d15 : a0_'.toInt ≤ (M.1 155 x2.toNatClampNeg).toInt := nlti.mp cc
          omega
      have q16 : (a1_' + (1 : Int32)).toInt = a1_'.toInt + (1 : Int) := add_ti rfl rfl (by omega) (by omega)
      exact ⟨_, rfl, ⟨(show (if (M.1 155 x2.toNatClampNeg) < a0_' then (M.1 155 x2.toNatClampNeg) else a0_').toInt ≤ (1000000 : Int) by omega), (show (0 : Int) ≤ (a1_' + (1 : Int32)).toInt by omega), (show (a1_' + (1 : Int32)).toInt ≤ (4 : Int) by omega)⟩, show (4 - (a1_' + (1 : Int32)).toInt).toNat < (4 - a1_'.toInt).toNat by omega⟩
theorem sf_Top_stepsToFire (v1 : Int32) (M : Mem) (hp_v1 : (0 : Int) ≤ v1.toInt ∧ v1.toInt ≤ (7 : Int)) (hJ : J M) : ∃ r : Int32 × Mem, f_Top_stepsToFire v1 M = some r ∧ (J r.2 ∧ Gc 0 M r.2 ∧ r.1.toInt ≤ (1000000 : Int)) := by
  unfold f_Top_stepsToFire
  refine inb_i (by omega) (by omega) ?_
  refine inb_i (by omega) (by omega) ?_
  have r1 := Jr_13 hJ v1.toNatClampNeg
  have r2 := Jr_12 hJ v1.toNatClampNeg
  refine bind_i (sf_Nets_measure 32 (M.1 13 v1.toNatClampNeg) (M.1 12 v1.toNatClampNeg) 155 M kd_32 (⟨show (0 : Int) ≤ (M.1 13 v1.toNatClampNeg).toInt by omega, show (M.1 13 v1.toNatClampNeg).toInt ≤ (1 : Int) by omega⟩) (⟨show (0 : Int) ≤ (M.1 12 v1.toNatClampNeg).toInt by omega, show (M.1 12 v1.toNatClampNeg).toInt ≤ (35 : Int) by omega⟩) FA_155 hJ) (fun x1 _ q => ?_)
  obtain ⟨h3, h4⟩ := q
  have hG5 : Gc 0 M x1 := Gc_t Gc_r h4
  refine bind_i (sl_Top_stepsToFire_38 x1 (1000000 : Int32) (0 : Int32) h3 (show (1000000 : Int32).toInt ≤ (1000000 : Int) by decide) (show (0 : Int) ≤ (0 : Int32).toInt by decide) (show (0 : Int32).toInt ≤ (4 : Int) by decide)) (fun x5 _ q => ?_)
  have h6 := q
  exact ⟨(x5, x1), rfl, h3, hG5, (show x5.toInt ≤ (1000000 : Int) by omega)⟩
theorem sl_Top_fights_27 (v1 : Int32) (a0_ : Int32) (a1_ : Int32) (N_ : Mem) (B_ : Mem) (hp_v1 : (0 : Int) ≤ v1.toInt ∧ v1.toInt ≤ (60 : Int)) (hN : J N_) (hG : Gc 0 B_ N_) (i2_ : (0 : Int) ≤ a1_.toInt) (i3_ : a1_.toInt ≤ (8 : Int)) : ∃ x, iter (lb_Top_fights_27 v1) FU (a0_, a1_, N_) = some x ∧ (fun r : Int32 × Mem => J r.2 ∧ Gc 0 B_ r.2) x := by
  refine iter_r (fun s : Int32 × Int32 × Mem => J s.2.2 ∧ Gc 0 B_ s.2.2 ∧ (0 : Int) ≤ s.2.1.toInt ∧ s.2.1.toInt ≤ (8 : Int)) (fun s : Int32 × Int32 × Mem => (8 - s.2.1.toInt).toNat) (fun r : Int32 × Mem => J r.2 ∧ Gc 0 B_ r.2) ?_ FU (a0_, a1_, N_) ⟨hN, hG, i2_, i3_⟩ (by show (8 - a1_.toInt).toNat < FU; rw [FU_v]; omega)
  clear i3_ i2_ hG hN
  rintro ⟨a0_', a1_', N_'⟩ ⟨hN, hG, i2_, i3_⟩
  dsimp only at hN hG i2_ i3_
  unfold lb_Top_fights_27
  dsimp only
  refine if_i (fun c => ?_) (fun c => ?_)
  · have c1 := c
    have r2 := Jr_6_4 hN
    have d3 : (N_'.1 6 4).toInt ≤ a1_'.toInt := lei.mp c1
    exact ⟨_, rfl, hN, hG⟩
  · have c4 := c
    have r5 := Jr_6_4 hN
    have d6 : a1_'.toInt < (N_'.1 6 4).toInt := nlei.mp c4
    refine bind_i (sf_Top_stepsToFire a1_' N_' (⟨show (0 : Int) ≤ a1_'.toInt by omega, show a1_'.toInt ≤ (7 : Int) by omega⟩) hN) (fun x1 _ q => ?_)
    obtain ⟨h7, h8, h9⟩ := q
    have hG10 : Gc 0 B_ x1.2 := Gc_t hG h8
    refine if_i (fun c => ?_) (fun c => ?_)
    · have c11 := c
      have d12 : v1.toInt < x1.1.toInt := lti.mp c11
      have q13 : (a1_' + (1 : Int32)).toInt = a1_'.toInt + (1 : Int) := add_ti rfl rfl (by omega) (by omega)
      exact ⟨_, rfl, ⟨h7, hG10, (show (0 : Int) ≤ (a1_' + (1 : Int32)).toInt by omega), (show (a1_' + (1 : Int32)).toInt ≤ (8 : Int) by omega)⟩, show (8 - (a1_' + (1 : Int32)).toInt).toNat < (8 - a1_'.toInt).toNat by omega⟩
    · have c14 := c
      have d15 : x1.1.toInt ≤ v1.toInt := nlti.mp c14
      have q16 : (a1_' + (1 : Int32)).toInt = a1_'.toInt + (1 : Int) := add_ti rfl rfl (by omega) (by omega)
      exact ⟨_, rfl, ⟨h7, hG10, (show (0 : Int) ≤ (a1_' + (1 : Int32)).toInt by omega), (show (a1_' + (1 : Int32)).toInt ≤ (8 : Int) by omega)⟩, show (8 - (a1_' + (1 : Int32)).toInt).toNat < (8 - a1_'.toInt).toNat by omega⟩
theorem sf_Top_fights (v1 : Int32) (M : Mem) (hJ : J M) : ∃ r : Int32 × Mem, f_Top_fights v1 M = some r ∧ (J r.2 ∧ Gc 0 M r.2) := by
  unfold f_Top_fights
  refine if_i (fun c => ?_) (fun c => ?_)
  · have c1 := c
    have d2 : v1.toInt < (0 : Int) := lti.mp c1
    exact ⟨((-1 : Int32), M), rfl, hJ, Gc_r⟩
  · have c3 := c
    have d4 : (0 : Int) ≤ v1.toInt := nlti.mp c3
    refine if_i (fun c => ?_) (fun c => ?_)
    · have c5 := c
      have d6 : v1.toInt ≤ (60 : Int) := lei.mp c5
      refine if_i (fun c => ?_) (fun c => ?_)
      · have c7 := c
        have d8 : (M.1 0 16).toInt = (-1 : Int) := eqi.mp c7
        exact ⟨((-2 : Int32), M), rfl, hJ, Gc_r⟩
      · have c9 := c
        have d10 : ¬ (M.1 0 16).toInt = (-1 : Int) := neqi.mp c9
        refine bind_i (sl_Top_fights_27 v1 (0 : Int32) (0 : Int32) M M (⟨show (0 : Int) ≤ v1.toInt by omega, show v1.toInt ≤ (60 : Int) by omega⟩) hJ Gc_r (show (0 : Int) ≤ (0 : Int32).toInt by decide) (show (0 : Int32).toInt ≤ (8 : Int) by decide)) (fun x4 _ q => ?_)
        obtain ⟨h11, h12⟩ := q
        refine bind_i (sf_JInteger_bitCount (x4.1 &&& (x4.2.1 6 5))) (fun x5 _ q => ?_)
        obtain ⟨h13, h14⟩ := q
        refine bind_i (sf_Top_emptyRow x4.2 h11) (fun x6 _ q => ?_)
        obtain ⟨h15, h16⟩ := q
        have hG17 : Gc 0 M x6 := Gc_t h12 h16
        refine bind_i (sf_JInteger_bitCount x4.1) (fun x7 _ q => ?_)
        obtain ⟨h18, h19⟩ := q
        refine bind_i (sf_Top_note (x7 - x5) x6 h15) (fun x8 _ q => ?_)
        obtain ⟨h20, h21⟩ := q
        have hG22 : Gc 0 M x8 := Gc_t hG17 h21
        refine bind_i (sf_Top_note x5 x8 h20) (fun x9 _ q => ?_)
        obtain ⟨h23, h24⟩ := q
        have hG25 : Gc 0 M x9 := Gc_t hG22 h24
        exact ⟨(x4.1, x9), rfl, h23, hG25⟩
    · have c26 := c
      have d27 : (60 : Int) < v1.toInt := nlei.mp c26
      exact ⟨((-1 : Int32), M), rfl, hJ, Gc_r⟩
theorem sl_Top_soonestAtFire_9 (v1 : Int32) (a0_ : Int32) (a1_ : Int32) (a2_ : Int32) (N_ : Mem) (B_ : Mem) (hN : J N_) (hG : Gc 0 B_ N_) (i2_ : (-1 : Int) ≤ a0_.toInt) (i3_ : a0_.toInt ≤ (7 : Int)) (i4_ : a1_.toInt ≤ (1000000 : Int)) (i5_ : (0 : Int) ≤ a2_.toInt) (i6_ : a2_.toInt ≤ (8 : Int)) : ∃ x, iter (lb_Top_soonestAtFire_9 v1) FU (a0_, a1_, a2_, N_) = some x ∧ (fun r : Int32 × Mem => J r.2 ∧ Gc 0 B_ r.2 ∧ (-1 : Int) ≤ r.1.toInt ∧ r.1.toInt ≤ (7 : Int)) x := by
  refine iter_r (fun s : Int32 × Int32 × Int32 × Mem => J s.2.2.2 ∧ Gc 0 B_ s.2.2.2 ∧ (-1 : Int) ≤ s.1.toInt ∧ s.1.toInt ≤ (7 : Int) ∧ s.2.1.toInt ≤ (1000000 : Int) ∧ (0 : Int) ≤ s.2.2.1.toInt ∧ s.2.2.1.toInt ≤ (8 : Int)) (fun s : Int32 × Int32 × Int32 × Mem => (8 - s.2.2.1.toInt).toNat) (fun r : Int32 × Mem => J r.2 ∧ Gc 0 B_ r.2 ∧ (-1 : Int) ≤ r.1.toInt ∧ r.1.toInt ≤ (7 : Int)) ?_ FU (a0_, a1_, a2_, N_) ⟨hN, hG, i2_, i3_, i4_, i5_, i6_⟩ (by show (8 - a2_.toInt).toNat < FU; rw [FU_v]; omega)
  clear i6_ i5_ i4_ i3_ i2_ hG hN
  rintro ⟨a0_', a1_', a2_', N_'⟩ ⟨hN, hG, i2_, i3_, i4_, i5_, i6_⟩
  dsimp only at hN hG i2_ i3_ i4_ i5_ i6_
  unfold lb_Top_soonestAtFire_9
  dsimp only
  refine if_i (fun c => ?_) (fun c => ?_)
  · have c1 := c
    have r2 := Jr_6_4 hN
    have d3 : (N_'.1 6 4).toInt ≤ a2_'.toInt := lei.mp c1
    exact ⟨_, rfl, hN, hG, (show (-1 : Int) ≤ a0_'.toInt by omega), (show a0_'.toInt ≤ (7 : Int) by omega)⟩
  · have c4 := c
    have r5 := Jr_6_4 hN
    have d6 : a2_'.toInt < (N_'.1 6 4).toInt := nlei.mp c4
    refine bind_i (sf_Crowd_woman a2_' N_' hN) (fun x1 _ q => ?_)
    obtain ⟨h7, h8⟩ := q
    refine if_i (fun c => ?_) (fun c => ?_)
    · have c9 := c
      have d10 : x1.toInt = v1.toInt := eqi.mp c9
      refine bind_i (sf_Top_stepsToFire a2_' N_' (⟨show (0 : Int) ≤ a2_'.toInt by omega, show a2_'.toInt ≤ (7 : Int) by omega⟩) hN) (fun x2 _ q => ?_)
      obtain ⟨h11, h12, h13⟩ := q
      have hG14 : Gc 0 B_ x2.2 := Gc_t hG h12
      refine if_i (fun c => ?_) (fun c => ?_)
      · have c15 := c
        have d16 : a1_'.toInt ≤ x2.1.toInt := lei.mp c15
        have q17 : (a2_' + (1 : Int32)).toInt = a2_'.toInt + (1 : Int) := add_ti rfl rfl (by omega) (by omega)
        exact ⟨_, rfl, ⟨h11, hG14, (show (-1 : Int) ≤ a0_'.toInt by omega), (show a0_'.toInt ≤ (7 : Int) by omega), (show a1_'.toInt ≤ (1000000 : Int) by omega), (show (0 : Int) ≤ (a2_' + (1 : Int32)).toInt by omega), (show (a2_' + (1 : Int32)).toInt ≤ (8 : Int) by omega)⟩, show (8 - (a2_' + (1 : Int32)).toInt).toNat < (8 - a2_'.toInt).toNat by omega⟩
      · have c18 := c
        have d19 : x2.1.toInt < a1_'.toInt := nlei.mp c18
        refine bind_i (sf_Top_stepsToFire a2_' x2.2 (⟨show (0 : Int) ≤ a2_'.toInt by omega, show a2_'.toInt ≤ (7 : Int) by omega⟩) h11) (fun x3 _ q => ?_)
        obtain ⟨h20, h21, h22⟩ := q
        have hG23 : Gc 0 B_ x3.2 := Gc_t hG14 h21
        have q24 : (a2_' + (1 : Int32)).toInt = a2_'.toInt + (1 : Int) := add_ti rfl rfl (by omega) (by omega)
        exact ⟨_, rfl, ⟨h20, hG23, (show (-1 : Int) ≤ a2_'.toInt by omega), (show a2_'.toInt ≤ (7 : Int) by omega), (show x3.1.toInt ≤ (1000000 : Int) by omega), (show (0 : Int) ≤ (a2_' + (1 : Int32)).toInt by omega), (show (a2_' + (1 : Int32)).toInt ≤ (8 : Int) by omega)⟩, show (8 - (a2_' + (1 : Int32)).toInt).toNat < (8 - a2_'.toInt).toNat by omega⟩
    · have c25 := c
      have d26 : ¬ x1.toInt = v1.toInt := neqi.mp c25
      have q27 : (a2_' + (1 : Int32)).toInt = a2_'.toInt + (1 : Int) := add_ti rfl rfl (by omega) (by omega)
      exact ⟨_, rfl, ⟨hN, hG, (show (-1 : Int) ≤ a0_'.toInt by omega), (show a0_'.toInt ≤ (7 : Int) by omega), (show a1_'.toInt ≤ (1000000 : Int) by omega), (show (0 : Int) ≤ (a2_' + (1 : Int32)).toInt by omega), (show (a2_' + (1 : Int32)).toInt ≤ (8 : Int) by omega)⟩, show (8 - (a2_' + (1 : Int32)).toInt).toNat < (8 - a2_'.toInt).toNat by omega⟩
theorem sf_Top_soonestAtFire (v1 : Int32) (M : Mem) (hJ : J M) : ∃ r : Int32 × Mem, f_Top_soonestAtFire v1 M = some r ∧ (J r.2 ∧ Gc 0 M r.2 ∧ (-1 : Int) ≤ r.1.toInt ∧ r.1.toInt ≤ (7 : Int)) := by
  unfold f_Top_soonestAtFire
  refine bind_i (sl_Top_soonestAtFire_9 v1 (-1 : Int32) (1000000 : Int32) (0 : Int32) M M hJ Gc_r (show (-1 : Int) ≤ (-1 : Int32).toInt by decide) (show (-1 : Int32).toInt ≤ (7 : Int) by decide) (show (1000000 : Int32).toInt ≤ (1000000 : Int) by decide) (show (0 : Int) ≤ (0 : Int32).toInt by decide) (show (0 : Int32).toInt ≤ (8 : Int) by decide)) (fun x7 _ q => ?_)
  obtain ⟨h1, h2, h3, h4⟩ := q
  exact ⟨(x7.1, x7.2), rfl, h1, h2, (show (-1 : Int) ≤ x7.1.toInt by omega), (show x7.1.toInt ≤ (7 : Int) by omega)⟩
theorem sf_Top_saved (M : Mem) (hJ : J M) : ∃ r : Int32 × Mem, f_Top_saved M = some r ∧ (J r.2 ∧ Gc 0 M r.2 ∧ r.1.toInt ≤ (1000000 : Int)) := by
  unfold f_Top_saved
  refine if_i (fun c => ?_) (fun c => ?_)
  · have c1 := c
    have d2 : (M.1 0 16).toInt = (-1 : Int) := eqi.mp c1
    exact ⟨((-2 : Int32), M), rfl, hJ, Gc_r, (show (-2 : Int32).toInt ≤ (1000000 : Int) by decide)⟩
  · have c3 := c
    have d4 : ¬ (M.1 0 16).toInt = (-1 : Int) := neqi.mp c3
    refine bind_i (sf_Top_soonestAtFire (0 : Int32) M hJ) (fun x1 _ q => ?_)
    obtain ⟨h5, h6, h7, h8⟩ := q
    have hG9 : Gc 0 M x1.2 := Gc_t Gc_r h6
    refine bind_i (sf_Top_soonestAtFire (1 : Int32) x1.2 h5) (fun x2 _ q => ?_)
    obtain ⟨h10, h11, h12, h13⟩ := q
    have hG14 : Gc 0 M x2.2 := Gc_t hG9 h11
    refine if_i (fun c => ?_) (fun c => ?_)
    · have c15 := c
      have d16 : x1.1.toInt = (-1 : Int) := eqi.mp c15
      exact ⟨((-2 : Int32), x2.2), rfl, h10, hG14, (show (-2 : Int32).toInt ≤ (1000000 : Int) by decide)⟩
    · have c17 := c
      have d18 : ¬ x1.1.toInt = (-1 : Int) := neqi.mp c17
      refine if_i (fun c => ?_) (fun c => ?_)
      · have c19 := c
        have d20 : x2.1.toInt = (-1 : Int) := eqi.mp c19
        exact ⟨((-2 : Int32), x2.2), rfl, h10, hG14, (show (-2 : Int32).toInt ≤ (1000000 : Int) by decide)⟩
      · have c21 := c
        have d22 : ¬ x2.1.toInt = (-1 : Int) := neqi.mp c21
        refine bind_i (sf_Top_emptyRow x2.2 h10) (fun x3 _ q => ?_)
        obtain ⟨h23, h24⟩ := q
        have hG25 : Gc 0 M x3 := Gc_t hG14 h24
        refine bind_i (sf_Top_note x1.1 x3 h23) (fun x4 _ q => ?_)
        obtain ⟨h26, h27⟩ := q
        have hG28 : Gc 0 M x4 := Gc_t hG25 h27
        refine bind_i (sf_Top_note x2.1 x4 h26) (fun x5 _ q => ?_)
        obtain ⟨h29, h30⟩ := q
        have hG31 : Gc 0 M x5 := Gc_t hG28 h30
        refine bind_i (sf_Top_stepsToFire x1.1 x5 (⟨show (0 : Int) ≤ x1.1.toInt by omega, show x1.1.toInt ≤ (7 : Int) by omega⟩) h29) (fun x6 _ q => ?_)
        obtain ⟨h32, h33, h34⟩ := q
        have hG35 : Gc 0 M x6.2 := Gc_t hG31 h33
        refine bind_i (sf_Top_stepsToFire x2.1 x6.2 (⟨show (0 : Int) ≤ x2.1.toInt by omega, show x2.1.toInt ≤ (7 : Int) by omega⟩) h32) (fun x7 _ q => ?_)
        obtain ⟨h36, h37, h38⟩ := q
        have hG39 : Gc 0 M x7.2 := Gc_t hG35 h37
        have q40 : (if x6.1 < x7.1 then x7.1 else x6.1).toInt ≤ (1000000 : Int) := by
          by_cases cc : x6.1 < x7.1
          · rw [if_pos cc]
            have d41 : x6.1.toInt < x7.1.toInt := lti.mp cc
            omega
          · rw [if_neg cc]
            have d42 : x7.1.toInt ≤ x6.1.toInt := nlti.mp cc
            omega
        exact ⟨((if x6.1 < x7.1 then x7.1 else x6.1), x7.2), rfl, h36, hG39, (show (if x6.1 < x7.1 then x7.1 else x6.1).toInt ≤ (1000000 : Int) by omega)⟩
theorem sl_Top_wardrobe_71 (v4 : Int32) (a0_ : Int32) (a1_ : Int32) (N_ : Mem) (B_ : Mem) (hp_v4 : v4.toInt ≤ (999999 : Int)) (hN : J N_) (hG : Gc 0 B_ N_) (i2_ : (-1 : Int) ≤ a0_.toInt) (i3_ : a0_.toInt ≤ (179 : Int)) (i4_ : (0 : Int) ≤ a1_.toInt) (i5_ : a1_.toInt ≤ (10 : Int)) : ∃ x, iter (lb_Top_wardrobe_71 v4) FU (a0_, a1_, N_) = some x ∧ (fun r : Mem => J r ∧ Gc 0 B_ r) x := by
  refine iter_r (fun s : Int32 × Int32 × Mem => J s.2.2 ∧ Gc 0 B_ s.2.2 ∧ (-1 : Int) ≤ s.1.toInt ∧ s.1.toInt ≤ (179 : Int) ∧ (0 : Int) ≤ s.2.1.toInt ∧ s.2.1.toInt ≤ (10 : Int)) (fun s : Int32 × Int32 × Mem => (10 - s.2.1.toInt).toNat) (fun r : Mem => J r ∧ Gc 0 B_ r) ?_ FU (a0_, a1_, N_) ⟨hN, hG, i2_, i3_, i4_, i5_⟩ (by show (10 - a1_.toInt).toNat < FU; rw [FU_v]; omega)
  clear i5_ i4_ i3_ i2_ hG hN
  rintro ⟨a0_', a1_', N_'⟩ ⟨hN, hG, i2_, i3_, i4_, i5_⟩
  dsimp only at hN hG i2_ i3_ i4_ i5_
  unfold lb_Top_wardrobe_71
  dsimp only
  refine if_i (fun c => ?_) (fun c => ?_)
  · have c1 := c
    have d2 : v4.toInt ≤ a1_'.toInt := lei.mp c1
    exact ⟨_, rfl, hN, hG⟩
  · have c3 := c
    have d4 : a1_'.toInt < v4.toInt := nlei.mp c3
    refine if_i (fun c => ?_) (fun c => ?_)
    · have c5 := c
      have d6 : (10 : Int) ≤ a1_'.toInt := lei.mp c5
      exact ⟨_, rfl, hN, hG⟩
    · have c7 := c
      have d8 : a1_'.toInt < (10 : Int) := nlei.mp c7
      refine if_i (fun c => ?_) (fun c => ?_)
      · have c9 := c
        have d10 : a0_'.toInt = (-1 : Int) := eqi.mp c9
        exact ⟨_, rfl, hN, hG⟩
      · have c11 := c
        have d12 : ¬ a0_'.toInt = (-1 : Int) := neqi.mp c11
        refine bind_i (sf_Ways_pairNearer a0_' N_' (⟨show (0 : Int) ≤ a0_'.toInt by omega, show a0_'.toInt ≤ (179 : Int) by omega⟩) hN) (fun x5 _ q => ?_)
        obtain ⟨h13, h14⟩ := q
        refine bind_i (sf_Top_note (((x5 / (5 : Int32)) * (10 : Int32)) + (x5 - ((x5 / (5 : Int32)) * (5 : Int32)))) N_' hN) (fun x6 _ q => ?_)
        obtain ⟨h15, h16⟩ := q
        have hG17 : Gc 0 B_ x6 := Gc_t hG h16
        refine bind_i (sf_Ways_pairAfter a0_' x5 x6 (⟨show (0 : Int) ≤ a0_'.toInt by omega, show a0_'.toInt ≤ (179 : Int) by omega⟩) (⟨show (-1 : Int) ≤ x5.toInt by omega, show x5.toInt ≤ (24 : Int) by omega⟩) h15) (fun x7 _ q => ?_)
        obtain ⟨h18, h19⟩ := q
        have q20 : (a1_' + (1 : Int32)).toInt = a1_'.toInt + (1 : Int) := add_ti rfl rfl (by omega) (by omega)
        exact ⟨_, rfl, ⟨h15, hG17, (show (-1 : Int) ≤ x7.toInt by omega), (show x7.toInt ≤ (179 : Int) by omega), (show (0 : Int) ≤ (a1_' + (1 : Int32)).toInt by omega), (show (a1_' + (1 : Int32)).toInt ≤ (10 : Int) by omega)⟩, show (10 - (a1_' + (1 : Int32)).toInt).toNat < (10 - a1_'.toInt).toNat by omega⟩
theorem sf_Top_wardrobe (v1 : Int32) (v2 : Int32) (M : Mem) (hJ : J M) : ∃ r : Int32 × Mem, f_Top_wardrobe v1 v2 M = some r ∧ (J r.2 ∧ Gc 0 M r.2 ∧ r.1.toInt ≤ (999999 : Int)) := by
  unfold f_Top_wardrobe
  refine bind_i (sf_Ground_isStair v1 M hJ) (fun x1 _ q => ?_)
  obtain ⟨h1, h2, h3⟩ := q
  refine if_i (fun c => ?_) (fun c => ?_)
  · have c4 := c
    have d5 : x1.toInt = (0 : Int) := eqi.mp c4
    exact ⟨((-1 : Int32), M), rfl, hJ, Gc_r, (show (-1 : Int32).toInt ≤ (999999 : Int) by decide)⟩
  · have c6 := c
    have d7 : ¬ x1.toInt = (0 : Int) := neqi.mp c6
    refine bind_i (sf_Ground_isStair v2 M hJ) (fun x2 _ q => ?_)
    obtain ⟨h8, h9, h10⟩ := q
    refine if_i (fun c => ?_) (fun c => ?_)
    · have c11 := c
      have d12 : x2.toInt = (0 : Int) := eqi.mp c11
      exact ⟨((-1 : Int32), M), rfl, hJ, Gc_r, (show (-1 : Int32).toInt ≤ (999999 : Int) by decide)⟩
    · have c13 := c
      have d14 : ¬ x2.toInt = (0 : Int) := neqi.mp c13
      refine bind_i (sf_Ways_measurePairs v2 M (⟨show (0 : Int) ≤ v2.toInt by omega, show v2.toInt ≤ (35 : Int) by omega⟩) hJ) (fun x3 _ q => ?_)
      obtain ⟨h15, h16⟩ := q
      have hG17 : Gc 0 M x3 := Gc_t Gc_r h16
      have q18 : (v1 * (5 : Int32)).toInt = v1.toInt * (5 : Int) := mul_ti rfl rfl (by omega) (by omega)
      have q19 : ((v1 * (5 : Int32)) + (4 : Int32)).toInt = (v1 * (5 : Int32)).toInt + (4 : Int) := add_ti rfl rfl (by omega) (by omega)
      refine inb_i (by omega) (by omega) ?_
      refine if_i (fun c => ?_) (fun c => ?_)
      · have c20 := c
        have d21 : (x3.1 159 ((v1 * (5 : Int32)) + (4 : Int32)).toNatClampNeg).toInt < (1000000 : Int) := lti.mp c20
        refine bind_i (sf_Top_emptyRow x3 h15) (fun x4 _ q => ?_)
        obtain ⟨h22, h23⟩ := q
        have hG24 : Gc 0 M x4 := Gc_t hG17 h23
        refine bind_i (sl_Top_wardrobe_71 (x3.1 159 ((v1 * (5 : Int32)) + (4 : Int32)).toNatClampNeg) ((v1 * (5 : Int32)) + (4 : Int32)) (0 : Int32) x4 M (show (x3.1 159 ((v1 * (5 : Int32)) + (4 : Int32)).toNatClampNeg).toInt ≤ (999999 : Int) by omega) h22 hG24 (show (-1 : Int) ≤ ((v1 * (5 : Int32)) + (4 : Int32)).toInt by omega) (show ((v1 * (5 : Int32)) + (4 : Int32)).toInt ≤ (179 : Int) by omega) (show (0 : Int) ≤ (0 : Int32).toInt by decide) (show (0 : Int32).toInt ≤ (10 : Int) by decide)) (fun x11 _ q => ?_)
        obtain ⟨h25, h26⟩ := q
        exact ⟨((x3.1 159 ((v1 * (5 : Int32)) + (4 : Int32)).toNatClampNeg), x11), rfl, h25, h26, (show (x3.1 159 ((v1 * (5 : Int32)) + (4 : Int32)).toNatClampNeg).toInt ≤ (999999 : Int) by omega)⟩
      · have c27 := c
        have d28 : (1000000 : Int) ≤ (x3.1 159 ((v1 * (5 : Int32)) + (4 : Int32)).toNatClampNeg).toInt := nlti.mp c27
        exact ⟨((-2 : Int32), x3), rfl, h15, hG17, (show (-2 : Int32).toInt ≤ (999999 : Int) by decide)⟩
theorem sf_Top_hunt (M : Mem) (hJ : J M) : ∃ r : Mem, f_Top_hunt M = some r ∧ (J r ∧ Gc 0 M r) := by
  unfold f_Top_hunt
  refine bind_i (sf_Clock_pass 25 32 M kd_25 kd_32 hJ) (fun x1 _ q => ?_)
  obtain ⟨h1, h2⟩ := q
  have hG3 : Gc 0 M x1 := Gc_t Gc_r h2
  refine bind_i (sf_Thief_stir 32 x1 kd_32 h1) (fun x2 _ q => ?_)
  obtain ⟨h4, h5⟩ := q
  have hG6 : Gc 0 M x2 := Gc_t hG3 h5
  refine bind_i (sf_Scene_occupied 25 (0 : Int32) (x2.1 6 4) x2 kd_25 h4) (fun x3 _ q => ?_)
  refine bind_i (sf_Scene_occupied 25 (1 : Int32) (x2.1 6 4) x2 kd_25 h4) (fun x4 _ q => ?_)
  refine bind_i (sf_Thief_record (0 : Int32) x3 x4 x2 h4) (fun x5 _ q => ?_)
  obtain ⟨h7, h8⟩ := q
  have hG9 : Gc 0 M x5 := Gc_t hG6 h8
  refine bind_i (sf_Thief_strike (0 : Int32) x5 h7) (fun x6 _ q => ?_)
  obtain ⟨h10, h11⟩ := q
  have hG12 : Gc 0 M x6 := Gc_t hG9 h11
  exact ⟨x6, rfl, h10, hG12⟩
