/-! safety of the class, 19 -/
theorem sl_Top_soonestStair_69 (v1 : Nat) (M : Mem) (a0_ : Int32) (a1_ : Int32) (a2_ : Int32) (hk_v1 : kd v1 = 10 + 6) (hJ_M : J M) (i0_ : (-1 : Int) ≤ a0_.toInt) (i1_ : a0_.toInt ≤ (35 : Int)) (i2_ : (0 : Int) ≤ a2_.toInt) (i3_ : a2_.toInt ≤ (36 : Int)) : ∃ x, iter (lb_Top_soonestStair_69 v1 M) FU (a0_, a1_, a2_) = some x ∧ (fun r : Int32 => (-1 : Int) ≤ r.toInt ∧ r.toInt ≤ (35 : Int)) x := by
  refine iter_r (fun s : Int32 × Int32 × Int32 => (-1 : Int) ≤ s.1.toInt ∧ s.1.toInt ≤ (35 : Int) ∧ (0 : Int) ≤ s.2.2.toInt ∧ s.2.2.toInt ≤ (36 : Int)) (fun s : Int32 × Int32 × Int32 => (36 - s.2.2.toInt).toNat) (fun r : Int32 => (-1 : Int) ≤ r.toInt ∧ r.toInt ≤ (35 : Int)) ?_ FU (a0_, a1_, a2_) ⟨i0_, i1_, i2_, i3_⟩ (by show (36 - a2_.toInt).toNat < FU; rw [FU_v]; omega)
  clear i3_ i2_ i1_ i0_
  rintro ⟨a0_', a1_', a2_'⟩ ⟨i0_, i1_, i2_, i3_⟩
  dsimp only at i0_ i1_ i2_ i3_
  unfold lb_Top_soonestStair_69
  dsimp only
  refine if_i (fun c => ?_) (fun c => ?_)
  · have c1 := c
    have d2 : (36 : Int) ≤ a2_'.toInt := lei.mp c1
    exact ⟨_, rfl, (show (-1 : Int) ≤ a0_'.toInt by omega), (show a0_'.toInt ≤ (35 : Int) by omega)⟩
  · have c3 := c
    have d4 : a2_'.toInt < (36 : Int) := nlei.mp c3
    refine bind_i (sf_Nets_stairs v1 M hk_v1 hJ_M) (fun x3 _ q => ?_)
    refine if_i (fun c => ?_) (fun c => ?_)
    · have c5 := c
      have d6 : (lg_cmp ((x3 >>> (a2_'.toInt64 &&& 63)) &&& (1 : Int64)) (0 : Int64)).toInt = (0 : Int) := eqi.mp c5
      have q7 : (a2_' + (1 : Int32)).toInt = a2_'.toInt + (1 : Int) := add_ti rfl rfl (by omega) (by omega)
      exact ⟨_, rfl, ⟨(show (-1 : Int) ≤ a0_'.toInt by omega), (show a0_'.toInt ≤ (35 : Int) by omega), (show (0 : Int) ≤ (a2_' + (1 : Int32)).toInt by omega), (show (a2_' + (1 : Int32)).toInt ≤ (36 : Int) by omega)⟩, show (36 - (a2_' + (1 : Int32)).toInt).toNat < (36 - a2_'.toInt).toNat by omega⟩
    · have c8 := c
      have d9 : ¬ (lg_cmp ((x3 >>> (a2_'.toInt64 &&& 63)) &&& (1 : Int64)) (0 : Int64)).toInt = (0 : Int) := neqi.mp c8
      refine bind_i (sf_Ways_later a2_' M (⟨show (0 : Int) ≤ a2_'.toInt by omega, show a2_'.toInt ≤ (35 : Int) by omega⟩) hJ_M) (fun x4 _ q => ?_)
      refine if_i (fun c => ?_) (fun c => ?_)
      · have c10 := c
        have d11 : a1_'.toInt ≤ x4.toInt := lei.mp c10
        have q12 : (a2_' + (1 : Int32)).toInt = a2_'.toInt + (1 : Int) := add_ti rfl rfl (by omega) (by omega)
        exact ⟨_, rfl, ⟨(show (-1 : Int) ≤ a0_'.toInt by omega), (show a0_'.toInt ≤ (35 : Int) by omega), (show (0 : Int) ≤ (a2_' + (1 : Int32)).toInt by omega), (show (a2_' + (1 : Int32)).toInt ≤ (36 : Int) by omega)⟩, show (36 - (a2_' + (1 : Int32)).toInt).toNat < (36 - a2_'.toInt).toNat by omega⟩
      · have c13 := c
        have d14 : x4.toInt < a1_'.toInt := nlei.mp c13
        refine bind_i (sf_Ways_later a2_' M (⟨show (0 : Int) ≤ a2_'.toInt by omega, show a2_'.toInt ≤ (35 : Int) by omega⟩) hJ_M) (fun x5 _ q => ?_)
        have q15 : (a2_' + (1 : Int32)).toInt = a2_'.toInt + (1 : Int) := add_ti rfl rfl (by omega) (by omega)
        exact ⟨_, rfl, ⟨(show (-1 : Int) ≤ a2_'.toInt by omega), (show a2_'.toInt ≤ (35 : Int) by omega), (show (0 : Int) ≤ (a2_' + (1 : Int32)).toInt by omega), (show (a2_' + (1 : Int32)).toInt ≤ (36 : Int) by omega)⟩, show (36 - (a2_' + (1 : Int32)).toInt).toNat < (36 - a2_'.toInt).toNat by omega⟩
theorem sf_Top_soonestStair (v1 : Nat) (v2 : Int32) (v3 : Int32) (M : Mem) (hk_v1 : kd v1 = 10 + 6) (hp_v2 : (0 : Int) ≤ v2.toInt ∧ v2.toInt ≤ (7 : Int)) (hp_v3 : (0 : Int) ≤ v3.toInt ∧ v3.toInt ≤ (7 : Int)) (hJ : J M) : ∃ r : Int32 × Mem, f_Top_soonestStair v1 v2 v3 M = some r ∧ (J r.2 ∧ Gc 0 M r.2 ∧ (-1 : Int) ≤ r.1.toInt ∧ r.1.toInt ≤ (35 : Int)) := by
  unfold f_Top_soonestStair
  refine c_i hk_v1 ?_
  refine inb_i (by omega) (by omega) ?_
  refine inb_i (by omega) (by omega) ?_
  have r1 := Jr_13 hJ v2.toNatClampNeg
  have r2 := Jr_12 hJ v2.toNatClampNeg
  refine bind_i (sf_Nets_measure v1 (M.1 13 v2.toNatClampNeg) (M.1 12 v2.toNatClampNeg) 155 M hk_v1 (⟨show (0 : Int) ≤ (M.1 13 v2.toNatClampNeg).toInt by omega, show (M.1 13 v2.toNatClampNeg).toInt ≤ (1 : Int) by omega⟩) (⟨show (0 : Int) ≤ (M.1 12 v2.toNatClampNeg).toInt by omega, show (M.1 12 v2.toNatClampNeg).toInt ≤ (35 : Int) by omega⟩) FA_155 hJ) (fun x1 _ q => ?_)
  obtain ⟨h3, h4⟩ := q
  have hG5 : Gc 0 M x1 := Gc_t Gc_r h4
  refine inb_i (by omega) (by omega) ?_
  refine inb_i (by omega) (by omega) ?_
  have r6 := Jr_13 h3 v3.toNatClampNeg
  have r7 := Jr_12 h3 v3.toNatClampNeg
  refine bind_i (sf_Nets_measure v1 (x1.1 13 v3.toNatClampNeg) (x1.1 12 v3.toNatClampNeg) 156 x1 hk_v1 (⟨show (0 : Int) ≤ (x1.1 13 v3.toNatClampNeg).toInt by omega, show (x1.1 13 v3.toNatClampNeg).toInt ≤ (1 : Int) by omega⟩) (⟨show (0 : Int) ≤ (x1.1 12 v3.toNatClampNeg).toInt by omega, show (x1.1 12 v3.toNatClampNeg).toInt ≤ (35 : Int) by omega⟩) FA_156 h3) (fun x2 _ q => ?_)
  obtain ⟨h8, h9⟩ := q
  have hG10 : Gc 0 M x2 := Gc_t hG5 h9
  refine bind_i (sl_Top_soonestStair_69 v1 x2 (-1 : Int32) (1000000 : Int32) (0 : Int32) hk_v1 h8 (show (-1 : Int) ≤ (-1 : Int32).toInt by decide) (show (-1 : Int32).toInt ≤ (35 : Int) by decide) (show (0 : Int) ≤ (0 : Int32).toInt by decide) (show (0 : Int32).toInt ≤ (36 : Int) by decide)) (fun x9 _ q => ?_)
  obtain ⟨h11, h12⟩ := q
  exact ⟨(x9, x2), rfl, h8, hG10, (show (-1 : Int) ≤ x9.toInt by omega), (show x9.toInt ≤ (35 : Int) by omega)⟩
theorem sf_Top_tryst (v1 : Int32) (v2 : Int32) (M : Mem) (hJ : J M) : ∃ r : Int32 × Mem, f_Top_tryst v1 v2 M = some r ∧ (J r.2 ∧ Gc 0 M r.2 ∧ (-2 : Int) ≤ r.1.toInt ∧ r.1.toInt ≤ (35 : Int)) := by
  unfold f_Top_tryst
  refine bind_i (sf_Top_areManAndWoman v1 v2 M hJ) (fun x1 _ q => ?_)
  obtain ⟨h1, h2, h3, h4⟩ := q
  refine if_i (fun c => ?_) (fun c => ?_)
  · have c5 := c
    have d6 : x1.toInt = (0 : Int) := eqi.mp c5
    exact ⟨((-1 : Int32), M), rfl, hJ, Gc_r, (show (-2 : Int) ≤ (-1 : Int32).toInt by decide), (show (-1 : Int32).toInt ≤ (35 : Int) by decide)⟩
  · have c7 := c
    have d8 : ¬ x1.toInt = (0 : Int) := neqi.mp c7
    refine bind_i (sf_Top_soonestStair 32 v1 v2 M kd_32 (⟨show (0 : Int) ≤ v1.toInt by omega, show v1.toInt ≤ (7 : Int) by omega⟩) (⟨show (0 : Int) ≤ v2.toInt by omega, show v2.toInt ≤ (7 : Int) by omega⟩) hJ) (fun x2 _ q => ?_)
    obtain ⟨h9, h10, h11, h12⟩ := q
    have hG13 : Gc 0 M x2.2 := Gc_t Gc_r h10
    refine if_i (fun c => ?_) (fun c => ?_)
    · have c14 := c
      have d15 : x2.1.toInt = (-1 : Int) := eqi.mp c14
      exact ⟨((-2 : Int32), x2.2), rfl, h9, hG13, (show (-2 : Int) ≤ (-2 : Int32).toInt by decide), (show (-2 : Int32).toInt ≤ (35 : Int) by decide)⟩
    · have c16 := c
      have d17 : ¬ x2.1.toInt = (-1 : Int) := neqi.mp c16
      refine bind_i (sf_Top_emptyRow x2.2 h9) (fun x3 _ q => ?_)
      obtain ⟨h18, h19⟩ := q
      have hG20 : Gc 0 M x3 := Gc_t hG13 h19
      refine bind_i (sf_Ways_later x2.1 x3 (⟨show (0 : Int) ≤ x2.1.toInt by omega, show x2.1.toInt ≤ (35 : Int) by omega⟩) h18) (fun x4 _ q => ?_)
      refine bind_i (sf_Top_note x4 x3 h18) (fun x5 _ q => ?_)
      obtain ⟨h21, h22⟩ := q
      have hG23 : Gc 0 M x5 := Gc_t hG20 h22
      exact ⟨(x2.1, x5), rfl, h21, hG23, (show (-2 : Int) ≤ x2.1.toInt by omega), (show x2.1.toInt ≤ (35 : Int) by omega)⟩
theorem sf_Top_canOpen (v1 : Int32) (M : Mem) (hp_v1 : (0 : Int) ≤ v1.toInt ∧ v1.toInt ≤ (35 : Int)) (hJ : J M) : ∃ r : Int32, f_Top_canOpen v1 M = some r ∧ ((0 : Int) ≤ r.toInt ∧ r.toInt ≤ (1 : Int)) := by
  unfold f_Top_canOpen
  refine inb_i (by omega) (by omega) ?_
  refine if_i (fun c => ?_) (fun c => ?_)
  · have c1 := c
    have d2 : (M.1 4 v1.toNatClampNeg).toInt = (0 : Int) := eqi.mp c1
    exact ⟨(0 : Int32), rfl, (show (0 : Int) ≤ (0 : Int32).toInt by decide), (show (0 : Int32).toInt ≤ (1 : Int) by decide)⟩
  · have c3 := c
    have d4 : ¬ (M.1 4 v1.toNatClampNeg).toInt = (0 : Int) := neqi.mp c3
    refine if_i (fun c => ?_) (fun c => ?_)
    · have c5 := c
      have d6 : (M.1 4 v1.toNatClampNeg).toInt = (3 : Int) := eqi.mp c5
      exact ⟨(0 : Int32), rfl, (show (0 : Int) ≤ (0 : Int32).toInt by decide), (show (0 : Int32).toInt ≤ (1 : Int) by decide)⟩
    · have c7 := c
      have d8 : ¬ (M.1 4 v1.toNatClampNeg).toInt = (3 : Int) := neqi.mp c7
      refine bind_i (sf_Scene_isUnderPlank 11 v1 M kd_11 hJ) (fun x1 _ q => ?_)
      obtain ⟨h9, h10⟩ := q
      refine if_i (fun c => ?_) (fun c => ?_)
      · have c11 := c
        have d12 : x1.toInt = (0 : Int) := eqi.mp c11
        exact ⟨(1 : Int32), rfl, (show (0 : Int) ≤ (1 : Int32).toInt by decide), (show (1 : Int32).toInt ≤ (1 : Int) by decide)⟩
      · have c13 := c
        have d14 : ¬ x1.toInt = (0 : Int) := neqi.mp c13
        exact ⟨(0 : Int32), rfl, (show (0 : Int) ≤ (0 : Int32).toInt by decide), (show (0 : Int32).toInt ≤ (1 : Int) by decide)⟩
theorem sf_Top_trystWith (v1 : Int32) (v2 : Int32) (v3 : Int32) (M : Mem) (hp_v2 : (0 : Int) ≤ v2.toInt ∧ v2.toInt ≤ (7 : Int)) (hp_v3 : (0 : Int) ≤ v3.toInt ∧ v3.toInt ≤ (7 : Int)) (hJ : J M) : ∃ r : Int32 × Mem, f_Top_trystWith v1 v2 v3 M = some r ∧ (J r.2 ∧ Gc 0 M r.2) := by
  unfold f_Top_trystWith
  refine bind_i (sf_Nets_lay 36 11 v1 M kd_36 kd_11 hJ) (fun x1 _ q => ?_)
  obtain ⟨h1, h2⟩ := q
  have hG3 : Gc 0 M x1 := Gc_t Gc_r h2
  refine bind_i (sf_Top_soonestStair 36 v2 v3 x1 kd_36 (⟨show (0 : Int) ≤ v2.toInt by omega, show v2.toInt ≤ (7 : Int) by omega⟩) (⟨show (0 : Int) ≤ v3.toInt by omega, show v3.toInt ≤ (7 : Int) by omega⟩) h1) (fun x2 _ q => ?_)
  obtain ⟨h4, h5, h6, h7⟩ := q
  have hG8 : Gc 0 M x2.2 := Gc_t hG3 h5
  refine if_i (fun c => ?_) (fun c => ?_)
  · have c9 := c
    have d10 : x2.1.toInt = (-1 : Int) := eqi.mp c9
    exact ⟨((1000000 : Int32), x2.2), rfl, h4, hG8⟩
  · have c11 := c
    have d12 : ¬ x2.1.toInt = (-1 : Int) := neqi.mp c11
    refine bind_i (sf_Ways_later x2.1 x2.2 (⟨show (0 : Int) ≤ x2.1.toInt by omega, show x2.1.toInt ≤ (35 : Int) by omega⟩) h4) (fun x3 _ q => ?_)
    exact ⟨(x3, x2.2), rfl, h4, hG8⟩
theorem sl_Top_open_21 (v1 : Int32) (v2 : Int32) (a0_ : Int32) (a1_ : Int32) (a2_ : Int32) (N_ : Mem) (B_ : Mem) (hp_v1 : (0 : Int) ≤ v1.toInt ∧ v1.toInt ≤ (7 : Int)) (hp_v2 : (0 : Int) ≤ v2.toInt ∧ v2.toInt ≤ (7 : Int)) (hN : J N_) (hG : Gc 0 B_ N_) (i2_ : (-1 : Int) ≤ a0_.toInt) (i3_ : a0_.toInt ≤ (35 : Int)) (i4_ : a1_.toInt ≤ (1000000 : Int)) (i5_ : (0 : Int) ≤ a2_.toInt) (i6_ : a2_.toInt ≤ (36 : Int)) : ∃ x, iter (lb_Top_open_21 v1 v2) FU (a0_, a1_, a2_, N_) = some x ∧ (fun r : Int32 × Int32 × Mem => J r.2.2 ∧ Gc 0 B_ r.2.2 ∧ (-1 : Int) ≤ r.1.toInt ∧ r.1.toInt ≤ (35 : Int) ∧ r.2.1.toInt ≤ (1000000 : Int)) x := by
  refine iter_r (fun s : Int32 × Int32 × Int32 × Mem => J s.2.2.2 ∧ Gc 0 B_ s.2.2.2 ∧ (-1 : Int) ≤ s.1.toInt ∧ s.1.toInt ≤ (35 : Int) ∧ s.2.1.toInt ≤ (1000000 : Int) ∧ (0 : Int) ≤ s.2.2.1.toInt ∧ s.2.2.1.toInt ≤ (36 : Int)) (fun s : Int32 × Int32 × Int32 × Mem => (36 - s.2.2.1.toInt).toNat) (fun r : Int32 × Int32 × Mem => J r.2.2 ∧ Gc 0 B_ r.2.2 ∧ (-1 : Int) ≤ r.1.toInt ∧ r.1.toInt ≤ (35 : Int) ∧ r.2.1.toInt ≤ (1000000 : Int)) ?_ FU (a0_, a1_, a2_, N_) ⟨hN, hG, i2_, i3_, i4_, i5_, i6_⟩ (by show (36 - a2_.toInt).toNat < FU; rw [FU_v]; omega)
  clear i6_ i5_ i4_ i3_ i2_ hG hN
  rintro ⟨a0_', a1_', a2_', N_'⟩ ⟨hN, hG, i2_, i3_, i4_, i5_, i6_⟩
  dsimp only at hN hG i2_ i3_ i4_ i5_ i6_
  unfold lb_Top_open_21
  dsimp only
  refine if_i (fun c => ?_) (fun c => ?_)
  · have c1 := c
    have r2 := Jr_3_3 hN
    have d3 : (N_'.1 3 3).toInt ≤ a2_'.toInt := lei.mp c1
    exact ⟨_, rfl, hN, hG, (show (-1 : Int) ≤ a0_'.toInt by omega), (show a0_'.toInt ≤ (35 : Int) by omega), (show a1_'.toInt ≤ (1000000 : Int) by omega)⟩
  · have c4 := c
    have r5 := Jr_3_3 hN
    have d6 : a2_'.toInt < (N_'.1 3 3).toInt := nlei.mp c4
    refine bind_i (sf_Top_canOpen a2_' N_' (⟨show (0 : Int) ≤ a2_'.toInt by omega, show a2_'.toInt ≤ (35 : Int) by omega⟩) hN) (fun x2 _ q => ?_)
    obtain ⟨h7, h8⟩ := q
    refine if_i (fun c => ?_) (fun c => ?_)
    · have c9 := c
      have d10 : x2.toInt = (0 : Int) := eqi.mp c9
      unfold j_Top_open_56_21
      refine if_i (fun c => ?_) (fun c => ?_)
      · have c11 := c
        have d12 : a1_'.toInt ≤ (1000000 : Int) := lei.mp c11
        have q13 : (a2_' + (1 : Int32)).toInt = a2_'.toInt + (1 : Int) := add_ti rfl rfl (by omega) (by omega)
        exact ⟨_, rfl, ⟨hN, hG, (show (-1 : Int) ≤ a0_'.toInt by omega), (show a0_'.toInt ≤ (35 : Int) by omega), (show a1_'.toInt ≤ (1000000 : Int) by omega), (show (0 : Int) ≤ (a2_' + (1 : Int32)).toInt by omega), (show (a2_' + (1 : Int32)).toInt ≤ (36 : Int) by omega)⟩, show (36 - (a2_' + (1 : Int32)).toInt).toNat < (36 - a2_'.toInt).toNat by omega⟩
      · have c14 := c
        have d15 : (1000000 : Int) < a1_'.toInt := nlei.mp c14
        exfalso; omega
    · have c16 := c
      have d17 : ¬ x2.toInt = (0 : Int) := neqi.mp c16
      refine bind_i (sf_Top_trystWith a2_' v1 v2 N_' (⟨show (0 : Int) ≤ v1.toInt by omega, show v1.toInt ≤ (7 : Int) by omega⟩) (⟨show (0 : Int) ≤ v2.toInt by omega, show v2.toInt ≤ (7 : Int) by omega⟩) hN) (fun x4 _ q => ?_)
      obtain ⟨h18, h19⟩ := q
      have hG20 : Gc 0 B_ x4.2 := Gc_t hG h19
      unfold j_Top_open_56_21
      refine if_i (fun c => ?_) (fun c => ?_)
      · have c21 := c
        have d22 : a1_'.toInt ≤ x4.1.toInt := lei.mp c21
        have q23 : (a2_' + (1 : Int32)).toInt = a2_'.toInt + (1 : Int) := add_ti rfl rfl (by omega) (by omega)
        exact ⟨_, rfl, ⟨h18, hG20, (show (-1 : Int) ≤ a0_'.toInt by omega), (show a0_'.toInt ≤ (35 : Int) by omega), (show a1_'.toInt ≤ (1000000 : Int) by omega), (show (0 : Int) ≤ (a2_' + (1 : Int32)).toInt by omega), (show (a2_' + (1 : Int32)).toInt ≤ (36 : Int) by omega)⟩, show (36 - (a2_' + (1 : Int32)).toInt).toNat < (36 - a2_'.toInt).toNat by omega⟩
      · have c24 := c
        have d25 : x4.1.toInt < a1_'.toInt := nlei.mp c24
        have q26 : (a2_' + (1 : Int32)).toInt = a2_'.toInt + (1 : Int) := add_ti rfl rfl (by omega) (by omega)
        exact ⟨_, rfl, ⟨h18, hG20, (show (-1 : Int) ≤ a2_'.toInt by omega), (show a2_'.toInt ≤ (35 : Int) by omega), (show x4.1.toInt ≤ (1000000 : Int) by omega), (show (0 : Int) ≤ (a2_' + (1 : Int32)).toInt by omega), (show (a2_' + (1 : Int32)).toInt ≤ (36 : Int) by omega)⟩, show (36 - (a2_' + (1 : Int32)).toInt).toNat < (36 - a2_'.toInt).toNat by omega⟩
theorem sf_Top_open (v1 : Int32) (v2 : Int32) (M : Mem) (hJ : J M) : ∃ r : Int32 × Mem, f_Top_open v1 v2 M = some r ∧ (J r.2 ∧ Gc 0 M r.2 ∧ (-2 : Int) ≤ r.1.toInt ∧ r.1.toInt ≤ (35 : Int)) := by
  unfold f_Top_open
  refine bind_i (sf_Top_areManAndWoman v1 v2 M hJ) (fun x1 _ q => ?_)
  obtain ⟨h1, h2, h3, h4⟩ := q
  refine if_i (fun c => ?_) (fun c => ?_)
  · have c5 := c
    have d6 : x1.toInt = (0 : Int) := eqi.mp c5
    exact ⟨((-1 : Int32), M), rfl, hJ, Gc_r, (show (-2 : Int) ≤ (-1 : Int32).toInt by decide), (show (-1 : Int32).toInt ≤ (35 : Int) by decide)⟩
  · have c7 := c
    have d8 : ¬ x1.toInt = (0 : Int) := neqi.mp c7
    refine bind_i (sl_Top_open_21 v1 v2 (-1 : Int32) (1000000 : Int32) (0 : Int32) M M (⟨show (0 : Int) ≤ v1.toInt by omega, show v1.toInt ≤ (7 : Int) by omega⟩) (⟨show (0 : Int) ≤ v2.toInt by omega, show v2.toInt ≤ (7 : Int) by omega⟩) hJ Gc_r (show (-1 : Int) ≤ (-1 : Int32).toInt by decide) (show (-1 : Int32).toInt ≤ (35 : Int) by decide) (show (1000000 : Int32).toInt ≤ (1000000 : Int) by decide) (show (0 : Int) ≤ (0 : Int32).toInt by decide) (show (0 : Int32).toInt ≤ (36 : Int) by decide)) (fun x7 _ q => ?_)
    obtain ⟨h9, h10, h11, h12, h13⟩ := q
    refine if_i (fun c => ?_) (fun c => ?_)
    · have c14 := c
      have d15 : x7.1.toInt = (-1 : Int) := eqi.mp c14
      exact ⟨((-2 : Int32), x7.2.2), rfl, h9, h10, (show (-2 : Int) ≤ (-2 : Int32).toInt by decide), (show (-2 : Int32).toInt ≤ (35 : Int) by decide)⟩
    · have c16 := c
      have d17 : ¬ x7.1.toInt = (-1 : Int) := neqi.mp c16
      refine bind_i (sf_Top_emptyRow x7.2.2 h9) (fun x8 _ q => ?_)
      obtain ⟨h18, h19⟩ := q
      have hG20 : Gc 0 M x8 := Gc_t h10 h19
      refine bind_i (sf_Top_note x7.2.1 x8 h18) (fun x9 _ q => ?_)
      obtain ⟨h21, h22⟩ := q
      have hG23 : Gc 0 M x9 := Gc_t hG20 h22
      exact ⟨(x7.1, x9), rfl, h21, hG23, (show (-2 : Int) ≤ x7.1.toInt by omega), (show x7.1.toInt ≤ (35 : Int) by omega)⟩
theorem sf_Top_roaming (v1 : Int32) (v2 : Int64) (M : Mem) (hp_v1 : (0 : Int) ≤ v1.toInt ∧ v1.toInt ≤ (7 : Int)) (hJ : J M) : ∃ r : Int64, f_Top_roaming v1 v2 M = some r ∧ (True) := by
  unfold f_Top_roaming
  refine inb_i (by omega) (by omega) ?_
  refine inb_i (by omega) (by omega) ?_
  refine if_i (fun c => ?_) (fun c => ?_)
  · have c1 := c
    have r2 := Jr_13 hJ v1.toNatClampNeg
    have d3 : (M.1 13 v1.toNatClampNeg).toInt = (0 : Int) := eqi.mp c1
    unfold j_Top_roaming_36
    refine bind_i (sf_Nets_flood 32 (M.1 13 v1.toNatClampNeg) (M.1 12 v1.toNatClampNeg) v2 M kd_32 (⟨show (0 : Int) ≤ (M.1 13 v1.toNatClampNeg).toInt by omega, show (M.1 13 v1.toNatClampNeg).toInt ≤ (1 : Int) by omega⟩) hJ) (fun x1 _ q => ?_)
    exact ⟨x1, rfl, trivial⟩
  · have c4 := c
    have r5 := Jr_13 hJ v1.toNatClampNeg
    have d6 : ¬ (M.1 13 v1.toNatClampNeg).toInt = (0 : Int) := neqi.mp c4
    unfold j_Top_roaming_36
    refine bind_i (sf_Nets_flood 32 (M.1 13 v1.toNatClampNeg) (M.1 12 v1.toNatClampNeg) (0 : Int64) M kd_32 (⟨show (0 : Int) ≤ (M.1 13 v1.toNatClampNeg).toInt by omega, show (M.1 13 v1.toNatClampNeg).toInt ≤ (1 : Int) by omega⟩) hJ) (fun x1 _ q => ?_)
    exact ⟨x1, rfl, trivial⟩
theorem sf_Top_canTryst (v1 : Int32) (v2 : Int32) (v3 : Int64) (M : Mem) (hp_v1 : (0 : Int) ≤ v1.toInt ∧ v1.toInt ≤ (7 : Int)) (hp_v2 : (0 : Int) ≤ v2.toInt ∧ v2.toInt ≤ (7 : Int)) (hJ : J M) : ∃ r : Int32, f_Top_canTryst v1 v2 v3 M = some r ∧ ((0 : Int) ≤ r.toInt ∧ r.toInt ≤ (1 : Int)) := by
  unfold f_Top_canTryst
  refine bind_i (sf_Top_roaming v1 v3 M (⟨show (0 : Int) ≤ v1.toInt by omega, show v1.toInt ≤ (7 : Int) by omega⟩) hJ) (fun x1 _ q => ?_)
  refine bind_i (sf_Top_roaming v2 v3 M (⟨show (0 : Int) ≤ v2.toInt by omega, show v2.toInt ≤ (7 : Int) by omega⟩) hJ) (fun x2 _ q => ?_)
  refine bind_i (sf_Nets_stairs 32 M kd_32 hJ) (fun x3 _ q => ?_)
  refine if_i (fun c => ?_) (fun c => ?_)
  · have c1 := c
    have d2 : (lg_cmp (((x1 &&& x2) &&& x3) &&& (v3 ^^^ (-1 : Int64))) (0 : Int64)).toInt = (0 : Int) := eqi.mp c1
    exact ⟨(0 : Int32), rfl, (show (0 : Int) ≤ (0 : Int32).toInt by decide), (show (0 : Int32).toInt ≤ (1 : Int) by decide)⟩
  · have c3 := c
    have d4 : ¬ (lg_cmp (((x1 &&& x2) &&& x3) &&& (v3 ^^^ (-1 : Int64))) (0 : Int64)).toInt = (0 : Int) := neqi.mp c3
    exact ⟨(1 : Int32), rfl, (show (0 : Int) ≤ (1 : Int32).toInt by decide), (show (1 : Int32).toInt ≤ (1 : Int) by decide)⟩
theorem sf_pby : ∀ (n : Nat) (a0 a1 : Int32) (a2 : Int64) (a3 : Int32) (a4 : Int64) (M : Mem), J M → (0 ≤ a0.toInt ∧ a0.toInt ≤ 7) → (0 ≤ a1.toInt ∧ a1.toInt ≤ 7) → 0 ≤ a3.toInt → a3.toInt < n → ∃ r, fr_pby n a0 a1 a2 a3 a4 M = some r ∧ True := by
  intro n
  induction n with
  | zero => intro a0 a1 a2 a3 a4 M _ _ _ h1 h2; omega
  | succ n ih =>
    intro a0 a1 a2 a3 a4 M hJ h0 h1 h3 h4
    show ∃ r, fb_Top_partedBy (fr_pby n) a0 a1 a2 a3 a4 M = some r ∧ True
    unfold fb_Top_partedBy
    refine if_i (fun c => ?_) (fun c => ?_)
    · have d : (0 : Int) < a3.toInt := lti.mp c
      have hz := Jr_3_3 hJ
      have es : (a3 - (1 : Int32)).toInt = a3.toInt - 1 := sub_ti rfl rfl (by have := i32hi a3; omega) (by have := i32hi a3; omega)
      refine bind_i (Q := fun _ => True) (iter_r (fun s : Int32 => 0 ≤ s.toInt ∧ s.toInt ≤ 36) (fun s => (36 - s.toInt).toNat) (fun _ => True) ?_ FU (0 : Int32) ⟨by decide, by decide⟩ (by decide)) (fun x _ _ => ?_)
      · rintro s ⟨q1, q2⟩
        have nx : (36 : Int) ≥ (M.1 3 3).toInt := hz.2
        unfold lb_Top_partedBy_28
        refine if_i (fun c => ⟨_, rfl, trivial⟩) (fun c => ?_)
        have d2 := nlei.mp c
        have ev : (s + (1 : Int32)).toInt = s.toInt + 1 := add_ti rfl rfl (by omega) (by omega)
        have nxt : ∀ r : Int32 ⊕ (Unit ⊕ Int64), r = .inl (s + (1 : Int32)) → LPq (fun s : Int32 => 0 ≤ s.toInt ∧ s.toInt ≤ 36) (fun s => (36 - s.toInt).toNat) (fun _ => True) ((36 - s.toInt).toNat) r := fun r e => by
          rw [e]
          exact ⟨⟨show (0 : Int) ≤ (s + (1 : Int32)).toInt by omega, show (s + (1 : Int32)).toInt ≤ 36 by omega⟩, show (36 - (s + (1 : Int32)).toInt).toNat < (36 - s.toInt).toNat by omega⟩
        have body : ∀ w0 : Int32, ∃ r, j_Top_partedBy_55_28 (fr_pby n) a0 a1 a2 a3 a4 s w0 M = some r ∧ LPq (fun s : Int32 => 0 ≤ s.toInt ∧ s.toInt ≤ 36) (fun s => (36 - s.toInt).toNat) (fun _ => True) ((36 - s.toInt).toNat) r := by
          intro w0
          unfold j_Top_partedBy_55_28
          refine if_i (fun c => ⟨_, rfl, nxt _ rfl⟩) (fun c => ?_)
          refine if_i (fun c => ⟨_, rfl, nxt _ rfl⟩) (fun c => ?_)
          refine bind_i (ih a0 a1 a2 (a3 - (1 : Int32)) _ M hJ h0 h1 (by omega) (by omega)) (fun x1 _ _ => ?_)
          exact if_i (fun c => ⟨_, rfl, nxt _ rfl⟩) (fun c => ⟨_, rfl, trivial⟩)
        exact if_i (fun c => body 1) (fun c => body 0)
      · rcases x with y | y
        · exact ⟨_, rfl, trivial⟩
        · exact ⟨_, rfl, trivial⟩
    · refine bind_i (sf_Top_canTryst a0 a1 a4 M h0 h1 hJ) (fun x _ _ => ?_)
      exact if_i (fun c => ⟨_, rfl, trivial⟩) (fun c => ⟨_, rfl, trivial⟩)
theorem sf_Top_partedBy (a0 : Int32) (a1 : Int32) (a2 : Int64) (a3 : Int32) (a4 : Int64) (M : Mem) (hp_a0 : (0 : Int) ≤ a0.toInt ∧ a0.toInt ≤ (7 : Int)) (hp_a1 : (0 : Int) ≤ a1.toInt ∧ a1.toInt ≤ (7 : Int)) (hp_a3 : (0 : Int) ≤ a3.toInt ∧ a3.toInt ≤ (3 : Int)) (hJ : J M) : ∃ r, f_Top_partedBy a0 a1 a2 a3 a4 M = some r ∧ (True) := sf_pby 8 a0 a1 a2 a3 a4 M hJ hp_a0 hp_a1 hp_a3.1 (by omega)
theorem sl_Top_part_67 (v1 : Int32) (v2 : Int32) (v3 : Int64) (M : Mem) (a0_ : Int32) (hp_v1 : (0 : Int) ≤ v1.toInt ∧ v1.toInt ≤ (7 : Int)) (hp_v2 : (0 : Int) ≤ v2.toInt ∧ v2.toInt ≤ (7 : Int)) (hJ_M : J M) (i0_ : (0 : Int) ≤ a0_.toInt) (i1_ : a0_.toInt ≤ (4 : Int)) : ∃ x, iter (lb_Top_part_67 v1 v2 v3 M) FU a0_ = some x ∧ (SQ (fun r : Unit => True) (fun r : Int32 × Int64 => (0 : Int) ≤ r.1.toInt ∧ r.1.toInt ≤ (3 : Int))) x := by
  refine iter_r (fun s : Int32 => (0 : Int) ≤ s.toInt ∧ s.toInt ≤ (4 : Int)) (fun s : Int32 => (4 - s.toInt).toNat) (SQ (fun r : Unit => True) (fun r : Int32 × Int64 => (0 : Int) ≤ r.1.toInt ∧ r.1.toInt ≤ (3 : Int))) ?_ FU a0_ ⟨i0_, i1_⟩ (by show (4 - a0_.toInt).toNat < FU; rw [FU_v]; omega)
  clear i1_ i0_
  rintro a0_' ⟨i0_, i1_⟩
  unfold lb_Top_part_67
  refine if_i (fun c => ?_) (fun c => ?_)
  · have c1 := c
    have d2 : (3 : Int) < a0_'.toInt := lti.mp c1
    exact ⟨_, rfl, trivial⟩
  · have c3 := c
    have d4 : a0_'.toInt ≤ (3 : Int) := nlti.mp c3
    refine bind_i (sf_Top_partedBy v1 v2 v3 a0_' (0 : Int64) M (⟨show (0 : Int) ≤ v1.toInt by omega, show v1.toInt ≤ (7 : Int) by omega⟩) (⟨show (0 : Int) ≤ v2.toInt by omega, show v2.toInt ≤ (7 : Int) by omega⟩) (⟨show (0 : Int) ≤ a0_'.toInt by omega, show a0_'.toInt ≤ (3 : Int) by omega⟩) hJ_M) (fun x4 _ q => ?_)
    refine if_i (fun c => ?_) (fun c => ?_)
    · have c5 := c
      have d6 : (lg_cmp x4 (0 : Int64)).toInt < (0 : Int) := lti.mp c5
      have q7 : (a0_' + (1 : Int32)).toInt = a0_'.toInt + (1 : Int) := add_ti rfl rfl (by omega) (by omega)
      exact ⟨_, rfl, ⟨(show (0 : Int) ≤ (a0_' + (1 : Int32)).toInt by omega), (show (a0_' + (1 : Int32)).toInt ≤ (4 : Int) by omega)⟩, show (4 - (a0_' + (1 : Int32)).toInt).toNat < (4 - a0_'.toInt).toNat by omega⟩
    · have c8 := c
      have d9 : (0 : Int) ≤ (lg_cmp x4 (0 : Int64)).toInt := nlti.mp c8
      exact ⟨_, rfl, (show (0 : Int) ≤ a0_'.toInt by omega), (show a0_'.toInt ≤ (3 : Int) by omega)⟩
theorem sl_Top_part_99 (v5 : Int32) (v6 : Int64) (a0_ : Int32) (N_ : Mem) (B_ : Mem) (hp_v5 : (0 : Int) ≤ v5.toInt ∧ v5.toInt ≤ (3 : Int)) (hN : J N_) (hG : Gc 0 B_ N_) (i2_ : (0 : Int) ≤ a0_.toInt) (i3_ : a0_.toInt ≤ (36 : Int)) : ∃ x, iter (lb_Top_part_99 v5 v6) FU (a0_, N_) = some x ∧ (fun r : Mem => J r ∧ Gc 0 B_ r) x := by
  refine iter_r (fun s : Int32 × Mem => J s.2 ∧ Gc 0 B_ s.2 ∧ (0 : Int) ≤ s.1.toInt ∧ s.1.toInt ≤ (36 : Int)) (fun s : Int32 × Mem => (36 - s.1.toInt).toNat) (fun r : Mem => J r ∧ Gc 0 B_ r) ?_ FU (a0_, N_) ⟨hN, hG, i2_, i3_⟩ (by show (36 - a0_.toInt).toNat < FU; rw [FU_v]; omega)
  clear i3_ i2_ hG hN
  rintro ⟨a0_', N_'⟩ ⟨hN, hG, i2_, i3_⟩
  dsimp only at hN hG i2_ i3_
  unfold lb_Top_part_99
  dsimp only
  refine if_i (fun c => ?_) (fun c => ?_)
  · have c1 := c
    have d2 : (36 : Int) ≤ a0_'.toInt := lei.mp c1
    exact ⟨_, rfl, hN, hG⟩
  · have c3 := c
    have d4 : a0_'.toInt < (36 : Int) := nlei.mp c3
    refine if_i (fun c => ?_) (fun c => ?_)
    · have c5 := c
      have d6 : (lg_cmp ((v6 >>> (a0_'.toInt64 &&& 63)) &&& (1 : Int64)) (0 : Int64)).toInt = (0 : Int) := eqi.mp c5
      have q7 : (a0_' + (1 : Int32)).toInt = a0_'.toInt + (1 : Int) := add_ti rfl rfl (by omega) (by omega)
      exact ⟨_, rfl, ⟨hN, hG, (show (0 : Int) ≤ (a0_' + (1 : Int32)).toInt by omega), (show (a0_' + (1 : Int32)).toInt ≤ (36 : Int) by omega)⟩, show (36 - (a0_' + (1 : Int32)).toInt).toNat < (36 - a0_'.toInt).toNat by omega⟩
    · have c8 := c
      have d9 : ¬ (lg_cmp ((v6 >>> (a0_'.toInt64 &&& 63)) &&& (1 : Int64)) (0 : Int64)).toInt = (0 : Int) := neqi.mp c8
      refine bind_i (sf_Top_note a0_' N_' hN) (fun x11 _ q => ?_)
      obtain ⟨h10, h11⟩ := q
      have hG12 : Gc 0 B_ x11 := Gc_t hG h11
      have q13 : (a0_' + (1 : Int32)).toInt = a0_'.toInt + (1 : Int) := add_ti rfl rfl (by omega) (by omega)
      exact ⟨_, rfl, ⟨h10, hG12, (show (0 : Int) ≤ (a0_' + (1 : Int32)).toInt by omega), (show (a0_' + (1 : Int32)).toInt ≤ (36 : Int) by omega)⟩, show (36 - (a0_' + (1 : Int32)).toInt).toNat < (36 - a0_'.toInt).toNat by omega⟩
