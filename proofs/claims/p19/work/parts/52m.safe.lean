/-! safety of the class, 13 -/
theorem sf_Ways_pairAfter (v2 : Int32) (v3 : Int32) (M : Mem) (hp_v2 : (0 : Int) ≤ v2.toInt ∧ v2.toInt ≤ (179 : Int)) (hp_v3 : (-1 : Int) ≤ v3.toInt ∧ v3.toInt ≤ (24 : Int)) (hJ : J M) : ∃ r : Int32, f_Ways_pairAfter v2 v3 M = some r ∧ ((-1 : Int) ≤ r.toInt ∧ r.toInt ≤ (179 : Int)) := by
  unfold f_Ways_pairAfter
  refine bind_i (sf_Ways_toSide (v2 / (5 : Int32)) (v2 - ((v2 / (5 : Int32)) * (5 : Int32))) M hJ) (fun x1 _ q => ?_)
  refine bind_i (sf_Ways_toSide (v2 / (5 : Int32)) (v3 / (5 : Int32)) M hJ) (fun x2 _ q => ?_)
  refine bind_i (sf_Ways_toSide x1 (v3 - ((v3 / (5 : Int32)) * (5 : Int32))) M hJ) (fun x3 _ q => ?_)
  refine bind_i (sf_Ground_holds (0 : Int32) x2 M hJ) (fun x4 _ q => ?_)
  obtain ⟨h1, h2, h3, h4⟩ := q
  clear h3
  refine if_i (fun c => ?_) (fun c => ?_)
  · have c5 := c
    have d6 : x4.toInt = (0 : Int) := eqi.mp c5
    exact ⟨(-1 : Int32), rfl, (show (-1 : Int) ≤ (-1 : Int32).toInt by decide), (show (-1 : Int32).toInt ≤ (179 : Int) by decide)⟩
  · have c7 := c
    have d8 : ¬ x4.toInt = (0 : Int) := neqi.mp c7
    refine bind_i (sf_Ground_holds (1 : Int32) x3 M hJ) (fun x5 _ q => ?_)
    obtain ⟨h9, h10, h11, h12⟩ := q
    clear h11
    refine if_i (fun c => ?_) (fun c => ?_)
    · have c13 := c
      have d14 : x5.toInt = (0 : Int) := eqi.mp c13
      exact ⟨(-1 : Int32), rfl, (show (-1 : Int) ≤ (-1 : Int32).toInt by decide), (show (-1 : Int32).toInt ≤ (179 : Int) by decide)⟩
    · have c15 := c
      have d16 : ¬ x5.toInt = (0 : Int) := neqi.mp c15
      refine bind_i (sl_Ways_pairAfter_63 x2 x3 M (0 : Int32) (⟨show (0 : Int) ≤ x2.toInt by omega, show x2.toInt ≤ (35 : Int) by omega⟩) (⟨show (0 : Int) ≤ x3.toInt by omega, show x3.toInt ≤ (35 : Int) by omega⟩) hJ (show (0 : Int) ≤ (0 : Int32).toInt by decide) (show (0 : Int32).toInt ≤ (5 : Int) by decide)) (fun x17 _ q => ?_)
      rcases x17 with y | y
      · have q9 : True := q
        dsimp only [Sum.elim_inl, Sum.elim_inr]
        exact ⟨(-1 : Int32), rfl, (show (-1 : Int) ≤ (-1 : Int32).toInt by decide), (show (-1 : Int32).toInt ≤ (179 : Int) by decide)⟩
      · have q9 : (0 : Int) ≤ y.toInt ∧ y.toInt ≤ (4 : Int) := q
        dsimp only [Sum.elim_inl, Sum.elim_inr]
        obtain ⟨h20, h21⟩ := q9
        have q22 : (x2 * (5 : Int32)).toInt = x2.toInt * (5 : Int) := mul_ti rfl rfl (by omega) (by omega)
        have q23 : ((x2 * (5 : Int32)) + y).toInt = (x2 * (5 : Int32)).toInt + y.toInt := add_ti rfl rfl (by omega) (by omega)
        exact ⟨((x2 * (5 : Int32)) + y), rfl, (show (-1 : Int) ≤ ((x2 * (5 : Int32)) + y).toInt by omega), (show ((x2 * (5 : Int32)) + y).toInt ≤ (179 : Int) by omega)⟩
theorem sl_Ways_measurePairs_2 (v2 : Int32) (a0_ : Int32) (N_ : Mem) (B_ : Mem) (hp_v2 : (0 : Int) ≤ v2.toInt ∧ v2.toInt ≤ (35 : Int)) (hN : J N_) (hG : Gc 0 B_ N_) (i2_ : (0 : Int) ≤ a0_.toInt) (i3_ : a0_.toInt ≤ (180 : Int)) : ∃ x, iter (lb_Ways_measurePairs_2 v2) FU (a0_, N_) = some x ∧ (fun r : Mem => J r ∧ Gc 0 B_ r) x := by
  refine iter_r (fun s : Int32 × Mem => J s.2 ∧ Gc 0 B_ s.2 ∧ (0 : Int) ≤ s.1.toInt ∧ s.1.toInt ≤ (180 : Int)) (fun s : Int32 × Mem => (180 - s.1.toInt).toNat) (fun r : Mem => J r ∧ Gc 0 B_ r) ?_ FU (a0_, N_) ⟨hN, hG, i2_, i3_⟩ (by show (180 - a0_.toInt).toNat < FU; rw [FU_v]; omega)
  clear i3_ i2_ hG hN
  rintro ⟨a0_', N_'⟩ ⟨hN, hG, i2_, i3_⟩
  dsimp only at hN hG i2_ i3_
  unfold lb_Ways_measurePairs_2
  dsimp only
  refine if_i (fun c => ?_) (fun c => ?_)
  · have c1 := c
    have d2 : (180 : Int) ≤ a0_'.toInt := lei.mp c1
    exact ⟨_, rfl, hN, hG⟩
  · have c3 := c
    have d4 : a0_'.toInt < (180 : Int) := nlei.mp c3
    refine inb_i (by omega) (by omega) ?_
    refine mem_i (fun M1 e6 => ?_)
    have hJ7 : J M1 := by rw [e6]; exact Jw_any ok_159 hN a0_'.toNatClampNeg (1000000 : Int32)
    have hG8 : Gc 0 B_ M1 := Gc_i hG e6 (by decide)
    clear e6
    have q9 : (a0_' + (1 : Int32)).toInt = a0_'.toInt + (1 : Int) := add_ti rfl rfl (by omega) (by omega)
    exact ⟨_, rfl, ⟨hJ7, hG8, (show (0 : Int) ≤ (a0_' + (1 : Int32)).toInt by omega), (show (a0_' + (1 : Int32)).toInt ≤ (180 : Int) by omega)⟩, show (180 - (a0_' + (1 : Int32)).toInt).toNat < (180 - a0_'.toInt).toNat by omega⟩
theorem sl_Ways_measurePairs_68 (v4 : Int32) (a0_ : Int32) (a1_ : Int32) (N_ : Mem) (B_ : Mem) (hp_v4 : (0 : Int) ≤ v4.toInt ∧ v4.toInt ≤ (179 : Int)) (hN : J N_) (hG : Gc 0 B_ N_) (i2_ : (1 : Int) ≤ a0_.toInt) (i3_ : a0_.toInt ≤ (180 : Int)) (i4_ : (0 : Int) ≤ a1_.toInt) (i5_ : a1_.toInt ≤ (25 : Int)) : ∃ x, iter (lb_Ways_measurePairs_68 v4) FU (a0_, a1_, N_) = some x ∧ (fun r : Int32 × Mem => J r.2 ∧ Gc 0 B_ r.2 ∧ (1 : Int) ≤ r.1.toInt ∧ r.1.toInt ≤ (180 : Int)) x := by
  refine iter_r (fun s : Int32 × Int32 × Mem => J s.2.2 ∧ Gc 0 B_ s.2.2 ∧ (1 : Int) ≤ s.1.toInt ∧ s.1.toInt ≤ (180 : Int) ∧ (0 : Int) ≤ s.2.1.toInt ∧ s.2.1.toInt ≤ (25 : Int)) (fun s : Int32 × Int32 × Mem => (25 - s.2.1.toInt).toNat) (fun r : Int32 × Mem => J r.2 ∧ Gc 0 B_ r.2 ∧ (1 : Int) ≤ r.1.toInt ∧ r.1.toInt ≤ (180 : Int)) ?_ FU (a0_, a1_, N_) ⟨hN, hG, i2_, i3_, i4_, i5_⟩ (by show (25 - a1_.toInt).toNat < FU; rw [FU_v]; omega)
  clear i5_ i4_ i3_ i2_ hG hN
  rintro ⟨a0_', a1_', N_'⟩ ⟨hN, hG, i2_, i3_, i4_, i5_⟩
  dsimp only at hN hG i2_ i3_ i4_ i5_
  unfold lb_Ways_measurePairs_68
  dsimp only
  refine if_i (fun c => ?_) (fun c => ?_)
  · have c1 := c
    have d2 : (25 : Int) ≤ a1_'.toInt := lei.mp c1
    exact ⟨_, rfl, hN, hG, (show (1 : Int) ≤ a0_'.toInt by omega), (show a0_'.toInt ≤ (180 : Int) by omega)⟩
  · have c3 := c
    have d4 : a1_'.toInt < (25 : Int) := nlei.mp c3
    refine inb_i (by omega) (by omega) ?_
    have r5 := Jr_160 hN v4.toNatClampNeg
    refine bind_i (sf_Ways_pairAfter (N_'.1 160 v4.toNatClampNeg) a1_' N_' (⟨show (0 : Int) ≤ (N_'.1 160 v4.toNatClampNeg).toInt by omega, show (N_'.1 160 v4.toNatClampNeg).toInt ≤ (179 : Int) by omega⟩) (⟨show (-1 : Int) ≤ a1_'.toInt by omega, show a1_'.toInt ≤ (24 : Int) by omega⟩) hN) (fun x6 _ q => ?_)
    obtain ⟨h6, h7⟩ := q
    refine if_i (fun c => ?_) (fun c => ?_)
    · have c8 := c
      have d9 : x6.toInt = (-1 : Int) := eqi.mp c8
      have q10 : (a1_' + (1 : Int32)).toInt = a1_'.toInt + (1 : Int) := add_ti rfl rfl (by omega) (by omega)
      exact ⟨_, rfl, ⟨hN, hG, (show (1 : Int) ≤ a0_'.toInt by omega), (show a0_'.toInt ≤ (180 : Int) by omega), (show (0 : Int) ≤ (a1_' + (1 : Int32)).toInt by omega), (show (a1_' + (1 : Int32)).toInt ≤ (25 : Int) by omega)⟩, show (25 - (a1_' + (1 : Int32)).toInt).toNat < (25 - a1_'.toInt).toNat by omega⟩
    · have c11 := c
      have d12 : ¬ x6.toInt = (-1 : Int) := neqi.mp c11
      refine inb_i (by omega) (by omega) ?_
      refine if_i (fun c => ?_) (fun c => ?_)
      · have c13 := c
        have d14 : (N_'.1 159 x6.toNatClampNeg).toInt < (1000000 : Int) := lti.mp c13
        have q15 : (a1_' + (1 : Int32)).toInt = a1_'.toInt + (1 : Int) := add_ti rfl rfl (by omega) (by omega)
        exact ⟨_, rfl, ⟨hN, hG, (show (1 : Int) ≤ a0_'.toInt by omega), (show a0_'.toInt ≤ (180 : Int) by omega), (show (0 : Int) ≤ (a1_' + (1 : Int32)).toInt by omega), (show (a1_' + (1 : Int32)).toInt ≤ (25 : Int) by omega)⟩, show (25 - (a1_' + (1 : Int32)).toInt).toNat < (25 - a1_'.toInt).toNat by omega⟩
      · have c16 := c
        have d17 : (1000000 : Int) ≤ (N_'.1 159 x6.toNatClampNeg).toInt := nlti.mp c16
        refine if_i (fun c => ?_) (fun c => ?_)
        · have c18 := c
          have d19 : (180 : Int) ≤ a0_'.toInt := lei.mp c18
          have q20 : (a1_' + (1 : Int32)).toInt = a1_'.toInt + (1 : Int) := add_ti rfl rfl (by omega) (by omega)
          exact ⟨_, rfl, ⟨hN, hG, (show (1 : Int) ≤ a0_'.toInt by omega), (show a0_'.toInt ≤ (180 : Int) by omega), (show (0 : Int) ≤ (a1_' + (1 : Int32)).toInt by omega), (show (a1_' + (1 : Int32)).toInt ≤ (25 : Int) by omega)⟩, show (25 - (a1_' + (1 : Int32)).toInt).toNat < (25 - a1_'.toInt).toNat by omega⟩
        · have c21 := c
          have d22 : a0_'.toInt < (180 : Int) := nlei.mp c21
          refine inb_i (by omega) (by omega) ?_
          refine inb_i (by omega) (by omega) ?_
          refine inb_i (by omega) (by omega) ?_
          refine mem_i (fun M7 e24 => ?_)
          have hJ25 : J M7 := by rw [e24]; exact Jw_any ok_159 hN x6.toNatClampNeg ((N_'.1 159 (N_'.1 160 v4.toNatClampNeg).toNatClampNeg) + (1 : Int32))
          have hG26 : Gc 0 B_ M7 := Gc_i hG e24 (by decide)
          have f27 : (M7.1 160 v4.toNatClampNeg).toInt = (N_'.1 160 v4.toNatClampNeg).toInt := by rw [e24]; rw [si_ne (by exact fun e => absurd e.1 (by decide))]
          clear e24
          refine inb_i (by omega) (by omega) ?_
          refine mem_i (fun M8 e29 => ?_)
          have hJ30 : J M8 := by rw [e29]; exact Jw_160 hJ25 a0_'.toNatClampNeg x6 (show (0 : Int) ≤ x6.toInt by omega) (show x6.toInt ≤ (179 : Int) by omega)
          have hG31 : Gc 0 B_ M8 := Gc_i hG26 e29 (by decide)
          clear e29
          have q32 : (a0_' + (1 : Int32)).toInt = a0_'.toInt + (1 : Int) := add_ti rfl rfl (by omega) (by omega)
          have q33 : (a1_' + (1 : Int32)).toInt = a1_'.toInt + (1 : Int) := add_ti rfl rfl (by omega) (by omega)
          exact ⟨_, rfl, ⟨hJ30, hG31, (show (1 : Int) ≤ (a0_' + (1 : Int32)).toInt by omega), (show (a0_' + (1 : Int32)).toInt ≤ (180 : Int) by omega), (show (0 : Int) ≤ (a1_' + (1 : Int32)).toInt by omega), (show (a1_' + (1 : Int32)).toInt ≤ (25 : Int) by omega)⟩, show (25 - (a1_' + (1 : Int32)).toInt).toNat < (25 - a1_'.toInt).toNat by omega⟩
theorem sl_Ways_measurePairs_51  (a0_ : Int32) (a1_ : Int32) (N_ : Mem) (B_ : Mem) (hN : J N_) (hG : Gc 0 B_ N_) (i2_ : (1 : Int) ≤ a0_.toInt) (i3_ : a0_.toInt ≤ (180 : Int)) (i4_ : (0 : Int) ≤ a1_.toInt) (i5_ : a1_.toInt ≤ (180 : Int)) : ∃ x, iter (lb_Ways_measurePairs_51) FU (a0_, a1_, N_) = some x ∧ (fun r : Mem => J r ∧ Gc 0 B_ r) x := by
  refine iter_r (fun s : Int32 × Int32 × Mem => J s.2.2 ∧ Gc 0 B_ s.2.2 ∧ (1 : Int) ≤ s.1.toInt ∧ s.1.toInt ≤ (180 : Int) ∧ (0 : Int) ≤ s.2.1.toInt ∧ s.2.1.toInt ≤ (180 : Int)) (fun s : Int32 × Int32 × Mem => (180 - s.2.1.toInt).toNat) (fun r : Mem => J r ∧ Gc 0 B_ r) ?_ FU (a0_, a1_, N_) ⟨hN, hG, i2_, i3_, i4_, i5_⟩ (by show (180 - a1_.toInt).toNat < FU; rw [FU_v]; omega)
  clear i5_ i4_ i3_ i2_ hG hN
  rintro ⟨a0_', a1_', N_'⟩ ⟨hN, hG, i2_, i3_, i4_, i5_⟩
  dsimp only at hN hG i2_ i3_ i4_ i5_
  unfold lb_Ways_measurePairs_51
  dsimp only
  refine if_i (fun c => ?_) (fun c => ?_)
  · have c1 := c
    have d2 : a0_'.toInt ≤ a1_'.toInt := lei.mp c1
    exact ⟨_, rfl, hN, hG⟩
  · have c3 := c
    have d4 : a1_'.toInt < a0_'.toInt := nlei.mp c3
    refine if_i (fun c => ?_) (fun c => ?_)
    · have c5 := c
      have d6 : (180 : Int) ≤ a1_'.toInt := lei.mp c5
      exfalso; omega
    · have c7 := c
      have d8 : a1_'.toInt < (180 : Int) := nlei.mp c7
      refine bind_i (sl_Ways_measurePairs_68 a1_' a0_' (0 : Int32) N_' B_ (⟨show (0 : Int) ≤ a1_'.toInt by omega, show a1_'.toInt ≤ (179 : Int) by omega⟩) hN hG (show (1 : Int) ≤ a0_'.toInt by omega) (show a0_'.toInt ≤ (180 : Int) by omega) (show (0 : Int) ≤ (0 : Int32).toInt by decide) (show (0 : Int32).toInt ≤ (25 : Int) by decide)) (fun x13 _ q => ?_)
      obtain ⟨h9, h10, h11, h12⟩ := q
      have q13 : (a1_' + (1 : Int32)).toInt = a1_'.toInt + (1 : Int) := add_ti rfl rfl (by omega) (by omega)
      exact ⟨_, rfl, ⟨h9, h10, (show (1 : Int) ≤ x13.1.toInt by omega), (show x13.1.toInt ≤ (180 : Int) by omega), (show (0 : Int) ≤ (a1_' + (1 : Int32)).toInt by omega), (show (a1_' + (1 : Int32)).toInt ≤ (180 : Int) by omega)⟩, show (180 - (a1_' + (1 : Int32)).toInt).toNat < (180 - a1_'.toInt).toNat by omega⟩
theorem sf_Ways_measurePairs (v2 : Int32) (M : Mem) (hp_v2 : (0 : Int) ≤ v2.toInt ∧ v2.toInt ≤ (35 : Int)) (hJ : J M) : ∃ r : Mem, f_Ways_measurePairs v2 M = some r ∧ (J r ∧ Gc 0 M r) := by
  unfold f_Ways_measurePairs
  refine bind_i (sl_Ways_measurePairs_2 v2 (0 : Int32) M M (⟨show (0 : Int) ≤ v2.toInt by omega, show v2.toInt ≤ (35 : Int) by omega⟩) hJ Gc_r (show (0 : Int) ≤ (0 : Int32).toInt by decide) (show (0 : Int32).toInt ≤ (180 : Int) by decide)) (fun x3 _ q => ?_)
  obtain ⟨h1, h2⟩ := q
  have q4 : (v2 * (5 : Int32)).toInt = v2.toInt * (5 : Int) := mul_ti rfl rfl (by omega) (by omega)
  have q5 : ((v2 * (5 : Int32)) + (4 : Int32)).toInt = (v2 * (5 : Int32)).toInt + (4 : Int) := add_ti rfl rfl (by omega) (by omega)
  refine mem_i (fun M4 e6 => ?_)
  have hJ7 : J M4 := by rw [e6]; exact Jw_160 h1 (0 : Int32).toNatClampNeg ((v2 * (5 : Int32)) + (4 : Int32)) (show (0 : Int) ≤ ((v2 * (5 : Int32)) + (4 : Int32)).toInt by omega) (show ((v2 * (5 : Int32)) + (4 : Int32)).toInt ≤ (179 : Int) by omega)
  have hG8 : Gc 0 M M4 := Gc_i h2 e6 (by decide)
  clear e6
  have r9 := Jr_160 hJ7 (0 : Int32).toNatClampNeg
  refine inb_i (by omega) (by omega) ?_
  refine mem_i (fun M5 e11 => ?_)
  have hJ12 : J M5 := by rw [e11]; exact Jw_any ok_159 hJ7 (M4.1 160 (0 : Int32).toNatClampNeg).toNatClampNeg (0 : Int32)
  have hG13 : Gc 0 M M5 := Gc_i hG8 e11 (by decide)
  have f14 : (M5.1 160 (0 : Int32).toNatClampNeg).toInt = (M4.1 160 (0 : Int32).toNatClampNeg).toInt := by rw [e11]; rw [si_ne (by exact fun e => absurd e.1 (by decide))]
  clear e11
  refine bind_i (sl_Ways_measurePairs_51  (1 : Int32) (0 : Int32) M5 M hJ12 hG13 (show (1 : Int) ≤ (1 : Int32).toInt by decide) (show (1 : Int32).toInt ≤ (180 : Int) by decide) (show (0 : Int) ≤ (0 : Int32).toInt by decide) (show (0 : Int32).toInt ≤ (180 : Int) by decide)) (fun x16 _ q => ?_)
  obtain ⟨h15, h16⟩ := q
  exact ⟨x16, rfl, h15, h16⟩
theorem sl_Ways_pairNearer_2 (v2 : Int32) (M : Mem) (a0_ : Int32) (hp_v2 : (0 : Int) ≤ v2.toInt ∧ v2.toInt ≤ (179 : Int)) (hJ_M : J M) (i0_ : (0 : Int) ≤ a0_.toInt) (i1_ : a0_.toInt ≤ (25 : Int)) : ∃ x, iter (lb_Ways_pairNearer_2 v2 M) FU a0_ = some x ∧ (SQ (fun r : Unit => True) (fun r : Int32 => (0 : Int) ≤ r.toInt ∧ r.toInt ≤ (24 : Int))) x := by
  refine iter_r (fun s : Int32 => (0 : Int) ≤ s.toInt ∧ s.toInt ≤ (25 : Int)) (fun s : Int32 => (25 - s.toInt).toNat) (SQ (fun r : Unit => True) (fun r : Int32 => (0 : Int) ≤ r.toInt ∧ r.toInt ≤ (24 : Int))) ?_ FU a0_ ⟨i0_, i1_⟩ (by show (25 - a0_.toInt).toNat < FU; rw [FU_v]; omega)
  clear i1_ i0_
  rintro a0_' ⟨i0_, i1_⟩
  unfold lb_Ways_pairNearer_2
  refine if_i (fun c => ?_) (fun c => ?_)
  · have c1 := c
    have d2 : (25 : Int) ≤ a0_'.toInt := lei.mp c1
    exact ⟨_, rfl, trivial⟩
  · have c3 := c
    have d4 : a0_'.toInt < (25 : Int) := nlei.mp c3
    refine bind_i (sf_Ways_pairAfter v2 a0_' M (⟨show (0 : Int) ≤ v2.toInt by omega, show v2.toInt ≤ (179 : Int) by omega⟩) (⟨show (-1 : Int) ≤ a0_'.toInt by omega, show a0_'.toInt ≤ (24 : Int) by omega⟩) hJ_M) (fun x1 _ q => ?_)
    obtain ⟨h5, h6⟩ := q
    refine if_i (fun c => ?_) (fun c => ?_)
    · have c7 := c
      have d8 : x1.toInt = (-1 : Int) := eqi.mp c7
      have q9 : (a0_' + (1 : Int32)).toInt = a0_'.toInt + (1 : Int) := add_ti rfl rfl (by omega) (by omega)
      exact ⟨_, rfl, ⟨(show (0 : Int) ≤ (a0_' + (1 : Int32)).toInt by omega), (show (a0_' + (1 : Int32)).toInt ≤ (25 : Int) by omega)⟩, show (25 - (a0_' + (1 : Int32)).toInt).toNat < (25 - a0_'.toInt).toNat by omega⟩
    · have c10 := c
      have d11 : ¬ x1.toInt = (-1 : Int) := neqi.mp c10
      refine inb_i (by omega) (by omega) ?_
      refine inb_i (by omega) (by omega) ?_
      refine if_i (fun c => ?_) (fun c => ?_)
      · have c12 := c
        have d13 : (M.1 159 v2.toNatClampNeg).toInt ≤ (M.1 159 x1.toNatClampNeg).toInt := lei.mp c12
        have q14 : (a0_' + (1 : Int32)).toInt = a0_'.toInt + (1 : Int) := add_ti rfl rfl (by omega) (by omega)
        exact ⟨_, rfl, ⟨(show (0 : Int) ≤ (a0_' + (1 : Int32)).toInt by omega), (show (a0_' + (1 : Int32)).toInt ≤ (25 : Int) by omega)⟩, show (25 - (a0_' + (1 : Int32)).toInt).toNat < (25 - a0_'.toInt).toNat by omega⟩
      · have c15 := c
        have d16 : (M.1 159 x1.toNatClampNeg).toInt < (M.1 159 v2.toNatClampNeg).toInt := nlei.mp c15
        exact ⟨_, rfl, (show (0 : Int) ≤ a0_'.toInt by omega), (show a0_'.toInt ≤ (24 : Int) by omega)⟩
theorem sf_Ways_pairNearer (v2 : Int32) (M : Mem) (hp_v2 : (0 : Int) ≤ v2.toInt ∧ v2.toInt ≤ (179 : Int)) (hJ : J M) : ∃ r : Int32, f_Ways_pairNearer v2 M = some r ∧ ((-1 : Int) ≤ r.toInt ∧ r.toInt ≤ (24 : Int)) := by
  unfold f_Ways_pairNearer
  refine bind_i (sl_Ways_pairNearer_2 v2 M (0 : Int32) (⟨show (0 : Int) ≤ v2.toInt by omega, show v2.toInt ≤ (179 : Int) by omega⟩) hJ (show (0 : Int) ≤ (0 : Int32).toInt by decide) (show (0 : Int32).toInt ≤ (25 : Int) by decide)) (fun x1 _ q => ?_)
  rcases x1 with y | y
  · have q9 : True := q
    dsimp only [Sum.elim_inl, Sum.elim_inr]
    exact ⟨(-1 : Int32), rfl, (show (-1 : Int) ≤ (-1 : Int32).toInt by decide), (show (-1 : Int32).toInt ≤ (24 : Int) by decide)⟩
  · have q9 : (0 : Int) ≤ y.toInt ∧ y.toInt ≤ (24 : Int) := q
    dsimp only [Sum.elim_inl, Sum.elim_inr]
    obtain ⟨h4, h5⟩ := q9
    exact ⟨y, rfl, (show (-1 : Int) ≤ y.toInt by omega), (show y.toInt ≤ (24 : Int) by omega)⟩
theorem sf_Thief_start (v1 : Int32) (v2 : Int32) (M : Mem) (hJ : J M) : ∃ r : Mem, f_Thief_start v1 v2 M = some r ∧ (J r ∧ Gc 0 M r) := by
  unfold f_Thief_start
  refine if_i (fun c => ?_) (fun c => ?_)
  · have c1 := c
    have d2 : v1.toInt = (0 : Int) := eqi.mp c1
    unfold j_Thief_start_12
    refine mem_i (fun M1 e4 => ?_)
    have hJ5 : J M1 := by rw [e4]; exact Jl hJ
    have hG6 : Gc 0 M M1 := Gc_l Gc_r e4
    clear e4
    refine if_i (fun c => ?_) (fun c => ?_)
    · have c7 := c
      have d8 : v1.toInt = (1 : Int) := eqi.mp c7
      exfalso; omega
    · have c9 := c
      have d10 : ¬ v1.toInt = (1 : Int) := neqi.mp c9
      refine mem_i (fun M2 e12 => ?_)
      have hJ13 : J M2 := by rw [e12]; exact Jl hJ5
      have hG14 : Gc 0 M M2 := Gc_l hG6 e12
      clear e12
      exact ⟨M2, rfl, hJ13, hG14⟩
  · have c15 := c
    have d16 : ¬ v1.toInt = (0 : Int) := neqi.mp c15
    unfold j_Thief_start_12
    refine mem_i (fun M1 e18 => ?_)
    have hJ19 : J M1 := by rw [e18]; exact Jl hJ
    have hG20 : Gc 0 M M1 := Gc_l Gc_r e18
    clear e18
    refine if_i (fun c => ?_) (fun c => ?_)
    · have c21 := c
      have d22 : v1.toInt = (1 : Int) := eqi.mp c21
      refine mem_i (fun M3 e24 => ?_)
      have hJ25 : J M3 := by rw [e24]; exact Jl hJ19
      have hG26 : Gc 0 M M3 := Gc_l hG20 e24
      clear e24
      exact ⟨M3, rfl, hJ25, hG26⟩
    · have c27 := c
      have d28 : ¬ v1.toInt = (1 : Int) := neqi.mp c27
      refine mem_i (fun M2 e30 => ?_)
      have hJ31 : J M2 := by rw [e30]; exact Jl hJ19
      have hG32 : Gc 0 M M2 := Gc_l hG20 e30
      clear e30
      exact ⟨M2, rfl, hJ31, hG32⟩
theorem sf_Thief_stir (v1 : Nat) (M : Mem) (hk_v1 : kd v1 = 10 + 6) (hJ : J M) : ∃ r : Mem, f_Thief_stir v1 M = some r ∧ (J r ∧ Gc 0 M r) := by
  unfold f_Thief_stir
  refine c_i hk_v1 ?_
  refine bind_i (sf_Nets_around v1 (0 : Int32) (M.2.1 151 2) M hk_v1 (⟨by decide, by decide⟩) hJ) (fun x1 _ q => ?_)
  refine bind_i (sf_Nets_stairs v1 M hk_v1 hJ) (fun x2 _ q => ?_)
  refine bind_i (sf_Nets_around v1 (1 : Int32) (M.2.1 151 3) M hk_v1 (⟨by decide, by decide⟩) hJ) (fun x3 _ q => ?_)
  refine bind_i (sf_Nets_stairs v1 M hk_v1 hJ) (fun x4 _ q => ?_)
  refine mem_i (fun M5 e2 => ?_)
  have hJ3 : J M5 := by rw [e2]; exact Jl hJ
  have hG4 : Gc 0 M M5 := Gc_l Gc_r e2
  clear e2
  refine mem_i (fun M6 e6 => ?_)
  have hJ7 : J M6 := by rw [e6]; exact Jl hJ3
  have hG8 : Gc 0 M M6 := Gc_l hG4 e6
  clear e6
  exact ⟨M6, rfl, hJ7, hG8⟩
theorem sf_Thief_record (v1 : Int32) (v2 : Int64) (v4 : Int64) (M : Mem) (hJ : J M) : ∃ r : Mem, f_Thief_record v1 v2 v4 M = some r ∧ (J r ∧ Gc 0 M r) := by
  unfold f_Thief_record
  refine if_i (fun c => ?_) (fun c => ?_)
  · have c1 := c
    have d2 : v1.toInt < (0 : Int) := lti.mp c1
    exact ⟨M, rfl, hJ, Gc_r⟩
  · have c3 := c
    have d4 : (0 : Int) ≤ v1.toInt := nlti.mp c3
    refine if_i (fun c => ?_) (fun c => ?_)
    · have c5 := c
      have d6 : (30 : Int) ≤ v1.toInt := lei.mp c5
      exact ⟨M, rfl, hJ, Gc_r⟩
    · have c7 := c
      have d8 : v1.toInt < (30 : Int) := nlei.mp c7
      refine inb_i (by omega) (by omega) ?_
      refine mem_i (fun M1 e10 => ?_)
      have hJ11 : J M1 := by rw [e10]; exact Jl hJ
      have hG12 : Gc 0 M M1 := Gc_l Gc_r e10
      clear e10
      refine inb_i (by omega) (by omega) ?_
      refine mem_i (fun M2 e14 => ?_)
      have hJ15 : J M2 := by rw [e14]; exact Jl hJ11
      have hG16 : Gc 0 M M2 := Gc_l hG12 e14
      clear e14
      exact ⟨M2, rfl, hJ15, hG16⟩
theorem sf_Thief_strike (v1 : Int32) (M : Mem) (hJ : J M) : ∃ r : Mem, f_Thief_strike v1 M = some r ∧ (J r ∧ Gc 0 M r) := by
  unfold f_Thief_strike
  refine if_i (fun c => ?_) (fun c => ?_)
  · have c1 := c
    have d2 : v1.toInt < (0 : Int) := lti.mp c1
    exact ⟨M, rfl, hJ, Gc_r⟩
  · have c3 := c
    have d4 : (0 : Int) ≤ v1.toInt := nlti.mp c3
    refine if_i (fun c => ?_) (fun c => ?_)
    · have c5 := c
      have d6 : (30 : Int) ≤ v1.toInt := lei.mp c5
      exact ⟨M, rfl, hJ, Gc_r⟩
    · have c7 := c
      have d8 : v1.toInt < (30 : Int) := nlei.mp c7
      refine inb_i (by omega) (by omega) ?_
      refine mem_i (fun M1 e10 => ?_)
      have hJ11 : J M1 := by rw [e10]; exact Jl hJ
      have hG12 : Gc 0 M M1 := Gc_l Gc_r e10
      clear e10
      refine inb_i (by omega) (by omega) ?_
      refine mem_i (fun M2 e14 => ?_)
      have hJ15 : J M2 := by rw [e14]; exact Jl hJ11
      have hG16 : Gc 0 M M2 := Gc_l hG12 e14
      clear e14
      exact ⟨M2, rfl, hJ15, hG16⟩
theorem sf_Thief_gone (M : Mem) (hJ : J M) : ∃ r : Int32, f_Thief_gone M = some r ∧ ((0 : Int) ≤ r.toInt ∧ r.toInt ≤ (1 : Int)) := by
  unfold f_Thief_gone
  refine if_i (fun c => ?_) (fun c => ?_)
  · have c1 := c
    have d2 : (lg_cmp ((M.2.1 151 2) ||| (M.2.1 151 3)) (0 : Int64)).toInt = (0 : Int) := eqi.mp c1
    exact ⟨(1 : Int32), rfl, (show (0 : Int) ≤ (1 : Int32).toInt by decide), (show (1 : Int32).toInt ≤ (1 : Int) by decide)⟩
  · have c3 := c
    have d4 : ¬ (lg_cmp ((M.2.1 151 2) ||| (M.2.1 151 3)) (0 : Int64)).toInt = (0 : Int) := neqi.mp c3
    exact ⟨(0 : Int32), rfl, (show (0 : Int) ≤ (0 : Int32).toInt by decide), (show (0 : Int32).toInt ≤ (1 : Int) by decide)⟩
theorem sl_Thief_roam_2 (v1 : Nat) (a0_ : Int32) (N_ : Mem) (B_ : Mem) (hk_v1 : kd v1 = 10 + 6) (hN : J N_) (hG : Gc 0 B_ N_) (i2_ : (0 : Int) ≤ a0_.toInt) (i3_ : a0_.toInt ≤ (72 : Int)) : ∃ x, iter (lb_Thief_roam_2 v1) FU (a0_, N_) = some x ∧ (SQ (fun r : Mem => J r ∧ Gc 0 B_ r) (fun r : Mem => J r ∧ Gc 0 B_ r)) x := by
  refine iter_r (fun s : Int32 × Mem => J s.2 ∧ Gc 0 B_ s.2 ∧ (0 : Int) ≤ s.1.toInt ∧ s.1.toInt ≤ (72 : Int)) (fun s : Int32 × Mem => (72 - s.1.toInt).toNat) (SQ (fun r : Mem => J r ∧ Gc 0 B_ r) (fun r : Mem => J r ∧ Gc 0 B_ r)) ?_ FU (a0_, N_) ⟨hN, hG, i2_, i3_⟩ (by show (72 - a0_.toInt).toNat < FU; rw [FU_v]; omega)
  clear i3_ i2_ hG hN
  rintro ⟨a0_', N_'⟩ ⟨hN, hG, i2_, i3_⟩
  dsimp only at hN hG i2_ i3_
  unfold lb_Thief_roam_2
  dsimp only
  refine if_i (fun c => ?_) (fun c => ?_)
  · have c1 := c
    have d2 : (72 : Int) ≤ a0_'.toInt := lei.mp c1
    exact ⟨_, rfl, hN, hG⟩
  · have c3 := c
    have d4 : a0_'.toInt < (72 : Int) := nlei.mp c3
    refine bind_i (sf_Thief_stir v1 N_' hk_v1 hN) (fun x1 _ q => ?_)
    obtain ⟨h5, h6⟩ := q
    have hG7 : Gc 0 B_ x1 := Gc_t hG h6
    refine mem_i (fun M2 e9 => ?_)
    have hJ10 : J M2 := by rw [e9]; exact Jl h5
    have hG11 : Gc 0 B_ M2 := Gc_l hG7 e9
    clear e9
    refine mem_i (fun M3 e13 => ?_)
    have hJ14 : J M3 := by rw [e13]; exact Jl hJ10
    have hG15 : Gc 0 B_ M3 := Gc_l hG11 e13
    clear e13
    refine if_i (fun c => ?_) (fun c => ?_)
    · have c16 := c
      have d17 : (lg_cmp (M3.2.1 151 2) (N_'.2.1 151 2)).toInt = (0 : Int) := eqi.mp c16
      refine if_i (fun c => ?_) (fun c => ?_)
      · have c18 := c
        have d19 : (lg_cmp (M3.2.1 151 3) (N_'.2.1 151 3)).toInt = (0 : Int) := eqi.mp c18
        exact ⟨_, rfl, hJ14, hG15⟩
      · have c20 := c
        have d21 : ¬ (lg_cmp (M3.2.1 151 3) (N_'.2.1 151 3)).toInt = (0 : Int) := neqi.mp c20
        have q22 : (a0_' + (1 : Int32)).toInt = a0_'.toInt + (1 : Int) := add_ti rfl rfl (by omega) (by omega)
        exact ⟨_, rfl, ⟨hJ14, hG15, (show (0 : Int) ≤ (a0_' + (1 : Int32)).toInt by omega), (show (a0_' + (1 : Int32)).toInt ≤ (72 : Int) by omega)⟩, show (72 - (a0_' + (1 : Int32)).toInt).toNat < (72 - a0_'.toInt).toNat by omega⟩
    · have c23 := c
      have d24 : ¬ (lg_cmp (M3.2.1 151 2) (N_'.2.1 151 2)).toInt = (0 : Int) := neqi.mp c23
      have q25 : (a0_' + (1 : Int32)).toInt = a0_'.toInt + (1 : Int) := add_ti rfl rfl (by omega) (by omega)
      exact ⟨_, rfl, ⟨hJ14, hG15, (show (0 : Int) ≤ (a0_' + (1 : Int32)).toInt by omega), (show (a0_' + (1 : Int32)).toInt ≤ (72 : Int) by omega)⟩, show (72 - (a0_' + (1 : Int32)).toInt).toNat < (72 - a0_'.toInt).toNat by omega⟩
theorem sf_Thief_roam (v1 : Nat) (M : Mem) (hk_v1 : kd v1 = 10 + 6) (hJ : J M) : ∃ r : Mem, f_Thief_roam v1 M = some r ∧ (J r ∧ Gc 0 M r) := by
  unfold f_Thief_roam
  refine c_i hk_v1 ?_
  refine bind_i (sl_Thief_roam_2 v1 (0 : Int32) M M hk_v1 hJ Gc_r (show (0 : Int) ≤ (0 : Int32).toInt by decide) (show (0 : Int32).toInt ≤ (72 : Int) by decide)) (fun x1 _ q => ?_)
  rcases x1 with y | y
  · have q9 : J y ∧ Gc 0 M y := q
    dsimp only [Sum.elim_inl, Sum.elim_inr]
    obtain ⟨h3, h4⟩ := q9
    exact ⟨y, rfl, h3, h4⟩
  · have q9 : J y ∧ Gc 0 M y := q
    dsimp only [Sum.elim_inl, Sum.elim_inr]
    obtain ⟨h6, h7⟩ := q9
    exact ⟨y, rfl, h6, h7⟩
theorem sf_Thief_isIn (v1 : Int32) (v2 : Int32) (M : Mem) (hJ : J M) : ∃ r : Int32, f_Thief_isIn v1 v2 M = some r ∧ ((0 : Int) ≤ r.toInt ∧ r.toInt ≤ (1 : Int)) := by
  unfold f_Thief_isIn
  refine if_i (fun c => ?_) (fun c => ?_)
  · have c1 := c
    have d2 : v1.toInt = (1 : Int) := eqi.mp c1
    unfold j_Thief_isIn_16
    refine if_i (fun c => ?_) (fun c => ?_)
    · have c3 := c
      have d4 : (lg_cmp (((M.2.1 151 3) >>> (v2.toInt64 &&& 63)) &&& (1 : Int64)) (0 : Int64)).toInt = (0 : Int) := eqi.mp c3
      exact ⟨(0 : Int32), rfl, (show (0 : Int) ≤ (0 : Int32).toInt by decide), (show (0 : Int32).toInt ≤ (1 : Int) by decide)⟩
    · have c5 := c
      have d6 : ¬ (lg_cmp (((M.2.1 151 3) >>> (v2.toInt64 &&& 63)) &&& (1 : Int64)) (0 : Int64)).toInt = (0 : Int) := neqi.mp c5
      exact ⟨(1 : Int32), rfl, (show (0 : Int) ≤ (1 : Int32).toInt by decide), (show (1 : Int32).toInt ≤ (1 : Int) by decide)⟩
  · have c7 := c
    have d8 : ¬ v1.toInt = (1 : Int) := neqi.mp c7
    unfold j_Thief_isIn_16
    refine if_i (fun c => ?_) (fun c => ?_)
    · have c9 := c
      have d10 : (lg_cmp (((M.2.1 151 2) >>> (v2.toInt64 &&& 63)) &&& (1 : Int64)) (0 : Int64)).toInt = (0 : Int) := eqi.mp c9
      exact ⟨(0 : Int32), rfl, (show (0 : Int) ≤ (0 : Int32).toInt by decide), (show (0 : Int32).toInt ≤ (1 : Int) by decide)⟩
    · have c11 := c
      have d12 : ¬ (lg_cmp (((M.2.1 151 2) >>> (v2.toInt64 &&& 63)) &&& (1 : Int64)) (0 : Int64)).toInt = (0 : Int) := neqi.mp c11
      exact ⟨(1 : Int32), rfl, (show (0 : Int) ≤ (1 : Int32).toInt by decide), (show (1 : Int32).toInt ≤ (1 : Int) by decide)⟩
theorem sf_Top_sign (v1 : Int32) (M : Mem) (hJ : J M) : ∃ r : Int32 × Mem, f_Top_sign v1 M = some r ∧ (J r.2 ∧ Gc 1 M r.2 ∧ (-1 : Int) ≤ r.1.toInt ∧ r.1.toInt ≤ (80 : Int)) := by
  unfold f_Top_sign
  refine bind_i (sf_Signs_add v1 M hJ) (fun x1 _ q => ?_)
  obtain ⟨h1, h2, h3, h4⟩ := q
  have hG5 : Gc 1 M x1.2 := Gc_t Gc_r h2
  refine if_i (fun c => ?_) (fun c => ?_)
  · have c6 := c
    have d7 : x1.1.toInt = (0 : Int) := eqi.mp c6
    exact ⟨((-1 : Int32), x1.2), rfl, h1, hG5, (show (-1 : Int) ≤ (-1 : Int32).toInt by decide), (show (-1 : Int32).toInt ≤ (80 : Int) by decide)⟩
  · have c8 := c
    have d9 : ¬ x1.1.toInt = (0 : Int) := neqi.mp c8
    have r10 := Jr_1_1 h1
    exact ⟨((x1.2.1 1 1), x1.2), rfl, h1, hG5, (show (-1 : Int) ≤ (x1.2.1 1 1).toInt by omega), (show (x1.2.1 1 1).toInt ≤ (80 : Int) by omega)⟩
