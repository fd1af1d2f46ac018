/-! safety of the class, 12 -/
theorem sl_Ways_bridged_29 (v2 : Nat) (v4 : Int32) (v6 : Int32) (a0_ : Int32) (a1_ : Int32) (N_ : Mem) (hk_v2 : kd v2 = 10 + 6) (hp_v4 : (0 : Int) ≤ v4.toInt ∧ v4.toInt ≤ (35 : Int)) (hp_v6 : (0 : Int) ≤ v6.toInt ∧ v6.toInt ≤ (35 : Int)) (hN : J N_) (i1_ : (0 : Int) ≤ a0_.toInt) (i2_ : a0_.toInt ≤ (1 : Int)) (i3_ : (0 : Int) ≤ a1_.toInt) (i4_ : a1_.toInt ≤ (36 : Int)) : ∃ x, iter (lb_Ways_bridged_29 v2 v4 v6) FU (a0_, a1_, N_) = some x ∧ (fun r : Int32 × Mem => J r.2 ∧ (0 : Int) ≤ r.1.toInt ∧ r.1.toInt ≤ (1 : Int)) x := by
  refine iter_r (fun s : Int32 × Int32 × Mem => J s.2.2 ∧ (0 : Int) ≤ s.1.toInt ∧ s.1.toInt ≤ (1 : Int) ∧ (0 : Int) ≤ s.2.1.toInt ∧ s.2.1.toInt ≤ (36 : Int)) (fun s : Int32 × Int32 × Mem => (36 - s.2.1.toInt).toNat) (fun r : Int32 × Mem => J r.2 ∧ (0 : Int) ≤ r.1.toInt ∧ r.1.toInt ≤ (1 : Int)) ?_ FU (a0_, a1_, N_) ⟨hN, i1_, i2_, i3_, i4_⟩ (by show (36 - a1_.toInt).toNat < FU; rw [FU_v]; omega)
  clear i4_ i3_ i2_ i1_ hN
  rintro ⟨a0_', a1_', N_'⟩ ⟨hN, i1_, i2_, i3_, i4_⟩
  dsimp only at hN i1_ i2_ i3_ i4_
  unfold lb_Ways_bridged_29
  dsimp only
  refine if_i (fun c => ?_) (fun c => ?_)
  · have c1 := c
    have d2 : (36 : Int) ≤ a1_'.toInt := lei.mp c1
    exact ⟨_, rfl, hN, (show (0 : Int) ≤ a0_'.toInt by omega), (show a0_'.toInt ≤ (1 : Int) by omega)⟩
  · have c3 := c
    have d4 : a1_'.toInt < (36 : Int) := nlei.mp c3
    refine inb_i (by omega) (by omega) ?_
    refine if_i (fun c => ?_) (fun c => ?_)
    · have c5 := c
      have d6 : (1000000 : Int) ≤ (N_'.1 158 a1_'.toNatClampNeg).toInt := lei.mp c5
      have q7 : (0 : Int32).toInt = 0 := rfl
      have q8 := or01 (a := a0_') (b := (0 : Int32)) (by omega) (by omega) (by omega) (by omega)
      have q9 : (a1_' + (1 : Int32)).toInt = a1_'.toInt + (1 : Int) := add_ti rfl rfl (by omega) (by omega)
      exact ⟨_, rfl, ⟨hN, (show (0 : Int) ≤ (a0_' ||| (0 : Int32)).toInt by omega), (show (a0_' ||| (0 : Int32)).toInt ≤ (1 : Int) by omega), (show (0 : Int) ≤ (a1_' + (1 : Int32)).toInt by omega), (show (a1_' + (1 : Int32)).toInt ≤ (36 : Int) by omega)⟩, show (36 - (a1_' + (1 : Int32)).toInt).toNat < (36 - a1_'.toInt).toNat by omega⟩
    · have c10 := c
      have d11 : (N_'.1 158 a1_'.toNatClampNeg).toInt < (1000000 : Int) := nlei.mp c10
      refine bind_i (sf_Ways_cross v2 a1_' N_' hk_v2 (⟨show (0 : Int) ≤ a1_'.toInt by omega, show a1_'.toInt ≤ (35 : Int) by omega⟩) hN) (fun x2 _ q => ?_)
      obtain ⟨h12, h13, h14⟩ := q
      refine if_i (fun c => ?_) (fun c => ?_)
      · have c15 := c
        have d16 : x2.1.toInt = (0 : Int) := eqi.mp c15
        have q17 : (0 : Int32).toInt = 0 := rfl
        have q18 := or01 (a := a0_') (b := (0 : Int32)) (by omega) (by omega) (by omega) (by omega)
        have q19 : (a1_' + (1 : Int32)).toInt = a1_'.toInt + (1 : Int) := add_ti rfl rfl (by omega) (by omega)
        exact ⟨_, rfl, ⟨h12, (show (0 : Int) ≤ (a0_' ||| (0 : Int32)).toInt by omega), (show (a0_' ||| (0 : Int32)).toInt ≤ (1 : Int) by omega), (show (0 : Int) ≤ (a1_' + (1 : Int32)).toInt by omega), (show (a1_' + (1 : Int32)).toInt ≤ (36 : Int) by omega)⟩, show (36 - (a1_' + (1 : Int32)).toInt).toNat < (36 - a1_'.toInt).toNat by omega⟩
      · have c20 := c
        have d21 : ¬ x2.1.toInt = (0 : Int) := neqi.mp c20
        have q22 : (1 : Int32).toInt = 1 := rfl
        have q23 := or01 (a := a0_') (b := (1 : Int32)) (by omega) (by omega) (by omega) (by omega)
        have q24 : (a1_' + (1 : Int32)).toInt = a1_'.toInt + (1 : Int) := add_ti rfl rfl (by omega) (by omega)
        exact ⟨_, rfl, ⟨h12, (show (0 : Int) ≤ (a0_' ||| (1 : Int32)).toInt by omega), (show (a0_' ||| (1 : Int32)).toInt ≤ (1 : Int) by omega), (show (0 : Int) ≤ (a1_' + (1 : Int32)).toInt by omega), (show (a1_' + (1 : Int32)).toInt ≤ (36 : Int) by omega)⟩, show (36 - (a1_' + (1 : Int32)).toInt).toNat < (36 - a1_'.toInt).toNat by omega⟩
theorem sl_Ways_bridged_11 (v2 : Nat) (v4 : Int32) (a0_ : Int32) (a1_ : Int32) (N_ : Mem) (hk_v2 : kd v2 = 10 + 6) (hp_v4 : (0 : Int) ≤ v4.toInt ∧ v4.toInt ≤ (35 : Int)) (hN : J N_) (i1_ : (0 : Int) ≤ a0_.toInt) (i2_ : a0_.toInt ≤ (1 : Int)) (i3_ : (0 : Int) ≤ a1_.toInt) (i4_ : a1_.toInt ≤ (36 : Int)) : ∃ x, iter (lb_Ways_bridged_11 v2 v4) FU (a0_, a1_, N_) = some x ∧ (fun r : Mem => J r) x := by
  refine iter_r (fun s : Int32 × Int32 × Mem => J s.2.2 ∧ (0 : Int) ≤ s.1.toInt ∧ s.1.toInt ≤ (1 : Int) ∧ (0 : Int) ≤ s.2.1.toInt ∧ s.2.1.toInt ≤ (36 : Int)) (fun s : Int32 × Int32 × Mem => (36 - s.2.1.toInt).toNat) (fun r : Mem => J r) ?_ FU (a0_, a1_, N_) ⟨hN, i1_, i2_, i3_, i4_⟩ (by show (36 - a1_.toInt).toNat < FU; rw [FU_v]; omega)
  clear i4_ i3_ i2_ i1_ hN
  rintro ⟨a0_', a1_', N_'⟩ ⟨hN, i1_, i2_, i3_, i4_⟩
  dsimp only at hN i1_ i2_ i3_ i4_
  unfold lb_Ways_bridged_11
  dsimp only
  refine if_i (fun c => ?_) (fun c => ?_)
  · have c1 := c
    have d2 : (36 : Int) ≤ a1_'.toInt := lei.mp c1
    exact ⟨_, rfl, hN⟩
  · have c3 := c
    have d4 : a1_'.toInt < (36 : Int) := nlei.mp c3
    refine if_i (fun c => ?_) (fun c => ?_)
    · have c5 := c
      have d6 : a0_'.toInt = (0 : Int) := eqi.mp c5
      exact ⟨_, rfl, hN⟩
    · have c7 := c
      have d8 : ¬ a0_'.toInt = (0 : Int) := neqi.mp c7
      refine bind_i (sl_Ways_bridged_29 v2 v4 a1_' (0 : Int32) (0 : Int32) N_' hk_v2 (⟨show (0 : Int) ≤ v4.toInt by omega, show v4.toInt ≤ (35 : Int) by omega⟩) (⟨show (0 : Int) ≤ a1_'.toInt by omega, show a1_'.toInt ≤ (35 : Int) by omega⟩) hN (show (0 : Int) ≤ (0 : Int32).toInt by decide) (show (0 : Int32).toInt ≤ (1 : Int) by decide) (show (0 : Int) ≤ (0 : Int32).toInt by decide) (show (0 : Int32).toInt ≤ (36 : Int) by decide)) (fun x6 _ q => ?_)
      obtain ⟨h9, h10, h11⟩ := q
      have q12 : (a1_' + (1 : Int32)).toInt = a1_'.toInt + (1 : Int) := add_ti rfl rfl (by omega) (by omega)
      exact ⟨_, rfl, ⟨h9, (show (0 : Int) ≤ x6.1.toInt by omega), (show x6.1.toInt ≤ (1 : Int) by omega), (show (0 : Int) ≤ (a1_' + (1 : Int32)).toInt by omega), (show (a1_' + (1 : Int32)).toInt ≤ (36 : Int) by omega)⟩, show (36 - (a1_' + (1 : Int32)).toInt).toNat < (36 - a1_'.toInt).toNat by omega⟩
theorem sf_Ways_bridged (v2 : Nat) (v3 : Int32) (v4 : Int32) (M : Mem) (hk_v2 : kd v2 = 10 + 6) (hp_v3 : (0 : Int) ≤ v3.toInt ∧ v3.toInt ≤ (35 : Int)) (hp_v4 : (0 : Int) ≤ v4.toInt ∧ v4.toInt ≤ (35 : Int)) (hJ : J M) : ∃ r : Int32 × Mem, f_Ways_bridged v2 v3 v4 M = some r ∧ (J r.2) := by
  unfold f_Ways_bridged
  refine c_i hk_v2 ?_
  refine bind_i (sf_Ways_begin v3 M (⟨show (0 : Int) ≤ v3.toInt by omega, show v3.toInt ≤ (71 : Int) by omega⟩) hJ) (fun x1 _ q => ?_)
  have h1 := q
  refine bind_i (sl_Ways_bridged_11 v2 v4 (1 : Int32) (0 : Int32) x1 hk_v2 (⟨show (0 : Int) ≤ v4.toInt by omega, show v4.toInt ≤ (35 : Int) by omega⟩) h1 (show (0 : Int) ≤ (1 : Int32).toInt by decide) (show (1 : Int32).toInt ≤ (1 : Int) by decide) (show (0 : Int) ≤ (0 : Int32).toInt by decide) (show (0 : Int32).toInt ≤ (36 : Int) by decide)) (fun x9 _ q => ?_)
  have h2 := q
  refine inb_i (by omega) (by omega) ?_
  exact ⟨((x9.1 158 v4.toNatClampNeg), x9), rfl, h2⟩
theorem sf_Ways_toSide (v1 : Int32) (v2 : Int32) (M : Mem) (hJ : J M) : ∃ r : Int32, f_Ways_toSide v1 v2 M = some r ∧ (True) := by
  unfold f_Ways_toSide
  refine if_i (fun c => ?_) (fun c => ?_)
  · have c1 := c
    have d2 : v2.toInt = (4 : Int) := eqi.mp c1
    exact ⟨v1, rfl, trivial⟩
  · have c3 := c
    have d4 : ¬ v2.toInt = (4 : Int) := neqi.mp c3
    refine bind_i (sf_Ground_beside v1 v2 M hJ) (fun x1 _ q => ?_)
    obtain ⟨h5, h6, h7⟩ := q
    exact ⟨x1, rfl, trivial⟩
theorem sl_Ways_pairAfter_63 (v6 : Int32) (v7 : Int32) (M : Mem) (a0_ : Int32) (hp_v6 : (0 : Int) ≤ v6.toInt ∧ v6.toInt ≤ (35 : Int)) (hp_v7 : (0 : Int) ≤ v7.toInt ∧ v7.toInt ≤ (35 : Int)) (hJ_M : J M) (i0_ : (0 : Int) ≤ a0_.toInt) (i1_ : a0_.toInt ≤ (5 : Int)) : ∃ x, iter (lb_Ways_pairAfter_63 v6 v7 M) FU a0_ = some x ∧ (SQ (fun r : Unit => True) (fun r : Int32 => (0 : Int) ≤ r.toInt ∧ r.toInt ≤ (4 : Int))) x := by
  refine iter_r (fun s : Int32 => (0 : Int) ≤ s.toInt ∧ s.toInt ≤ (5 : Int)) (fun s : Int32 => (5 - s.toInt).toNat) (SQ (fun r : Unit => True) (fun r : Int32 => (0 : Int) ≤ r.toInt ∧ r.toInt ≤ (4 : Int))) ?_ FU a0_ ⟨i0_, i1_⟩ (by show (5 - a0_.toInt).toNat < FU; rw [FU_v]; omega)
  clear i1_ i0_
  rintro a0_' ⟨i0_, i1_⟩
  unfold lb_Ways_pairAfter_63
  refine if_i (fun c => ?_) (fun c => ?_)
  · have c1 := c
    have d2 : (5 : Int) ≤ a0_'.toInt := lei.mp c1
    exact ⟨_, rfl, trivial⟩
  · have c3 := c
    have d4 : a0_'.toInt < (5 : Int) := nlei.mp c3
    refine bind_i (sf_Ways_toSide v6 a0_' M hJ_M) (fun x6 _ q => ?_)
    refine if_i (fun c => ?_) (fun c => ?_)
    · have c5 := c
      have d6 : x6.toInt = v7.toInt := eqi.mp c5
      exact ⟨_, rfl, (show (0 : Int) ≤ a0_'.toInt by omega), (show a0_'.toInt ≤ (4 : Int) by omega)⟩
    · have c7 := c
      have d8 : ¬ x6.toInt = v7.toInt := neqi.mp c7
      have q9 : (a0_' + (1 : Int32)).toInt = a0_'.toInt + (1 : Int) := add_ti rfl rfl (by omega) (by omega)
      exact ⟨_, rfl, ⟨(show (0 : Int) ≤ (a0_' + (1 : Int32)).toInt by omega), (show (a0_' + (1 : Int32)).toInt ≤ (5 : Int) by omega)⟩, show (5 - (a0_' + (1 : Int32)).toInt).toNat < (5 - a0_'.toInt).toNat by omega⟩
theorem sf_Ways_pairAfter (v2 : Int32) (v3 : Int32) (M : Mem) (hp_v2 : (0 : Int) ≤ v2.toInt ∧ v2.toInt ≤ (179 : Int)) (hp_v3 : (-1 : Int) ≤ v3.toInt ∧ v3.toInt ≤ (24 : Int)) (hJ : J M) : ∃ r : Int32, f_Ways_pairAfter v2 v3 M = some r ∧ ((-1 : Int) ≤ r.toInt ∧ r.toInt ≤ (179 : Int)) := by
  unfold f_Ways_pairAfter
  refine bind_i (sf_Ways_toSide (v2 / (5 : Int32)) (v2 - ((v2 / (5 : Int32)) * (5 : Int32))) M hJ) (fun x1 _ q => ?_)
  refine bind_i (sf_Ways_toSide (v2 / (5 : Int32)) (v3 / (5 : Int32)) M hJ) (fun x2 _ q => ?_)
  refine bind_i (sf_Ways_toSide x1 (v3 - ((v3 / (5 : Int32)) * (5 : Int32))) M hJ) (fun x3 _ q => ?_)
  refine bind_i (sf_Ground_holds (0 : Int32) x2 M hJ) (fun x4 _ q => ?_)
  obtain ⟨h1, h2, h3, h4⟩ := q
  clear h3
  refine if_i (fun c => ?_) (fun c => ?_)
  · have c5 := c
    have d6 : x4.toInt = (0 : Int) := eqi.mp c5
    exact ⟨(-1 : Int32), rfl, (show (-1 : Int) ≤ (-1 : Int32).toInt by decide), (show (-1 : Int32).toInt ≤ (179 : Int) by decide)⟩
  · have c7 := c
    have d8 : ¬ x4.toInt = (0 : Int) := neqi.mp c7
    refine bind_i (sf_Ground_holds (1 : Int32) x3 M hJ) (fun x5 _ q => ?_)
    obtain ⟨h9, h10, h11, h12⟩ := q
    clear h11
    refine if_i (fun c => ?_) (fun c => ?_)
    · have c13 := c
      have d14 : x5.toInt = (0 : Int) := eqi.mp c13
      exact ⟨(-1 : Int32), rfl, (show (-1 : Int) ≤ (-1 : Int32).toInt by decide), (show (-1 : Int32).toInt ≤ (179 : Int) by decide)⟩
    · have c15 := c
      have d16 : ¬ x5.toInt = (0 : Int) := neqi.mp c15
      refine bind_i (sl_Ways_pairAfter_63 x2 x3 M (0 : Int32) (⟨show (0 : Int) ≤ x2.toInt by omega, show x2.toInt ≤ (35 : Int) by omega⟩) (⟨show (0 : Int) ≤ x3.toInt by omega, show x3.toInt ≤ (35 : Int) by omega⟩) hJ (show (0 : Int) ≤ (0 : Int32).toInt by decide) (show (0 : Int32).toInt ≤ (5 : Int) by decide)) (fun x17 _ q => ?_)
      rcases x17 with y | y
      · have q9 : True := q
        dsimp only [Sum.elim_inl, Sum.elim_inr]
        exact ⟨(-1 : Int32), rfl, (show (-1 : Int) ≤ (-1 : Int32).toInt by decide), (show (-1 : Int32).toInt ≤ (179 : Int) by decide)⟩
      · have q9 : (0 : Int) ≤ y.toInt ∧ y.toInt ≤ (4 : Int) := q
        dsimp only [Sum.elim_inl, Sum.elim_inr]
        obtain ⟨h20, h21⟩ := q9
        have q22 : (x2 * (5 : Int32)).toInt = x2.toInt * (5 : Int) := mul_ti rfl rfl (by omega) (by omega)
        have q23 : ((x2 * (5 : Int32)) + y).toInt = (x2 * (5 : Int32)).toInt + y.toInt := add_ti rfl rfl (by omega) (by omega)
        exact ⟨((x2 * (5 : Int32)) + y), rfl, (show (-1 : Int) ≤ ((x2 * (5 : Int32)) + y).toInt by omega), (show ((x2 * (5 : Int32)) + y).toInt ≤ (179 : Int) by omega)⟩
theorem sl_Ways_measurePairs_2 (v2 : Int32) (a0_ : Int32) (N_ : Mem) (hp_v2 : (0 : Int) ≤ v2.toInt ∧ v2.toInt ≤ (35 : Int)) (hN : J N_) (i1_ : (0 : Int) ≤ a0_.toInt) (i2_ : a0_.toInt ≤ (180 : Int)) : ∃ x, iter (lb_Ways_measurePairs_2 v2) FU (a0_, N_) = some x ∧ (fun r : Mem => J r) x := by
  refine iter_r (fun s : Int32 × Mem => J s.2 ∧ (0 : Int) ≤ s.1.toInt ∧ s.1.toInt ≤ (180 : Int)) (fun s : Int32 × Mem => (180 - s.1.toInt).toNat) (fun r : Mem => J r) ?_ FU (a0_, N_) ⟨hN, i1_, i2_⟩ (by show (180 - a0_.toInt).toNat < FU; rw [FU_v]; omega)
  clear i2_ i1_ hN
  rintro ⟨a0_', N_'⟩ ⟨hN, i1_, i2_⟩
  dsimp only at hN i1_ i2_
  unfold lb_Ways_measurePairs_2
  dsimp only
  refine if_i (fun c => ?_) (fun c => ?_)
  · have c1 := c
    have d2 : (180 : Int) ≤ a0_'.toInt := lei.mp c1
    exact ⟨_, rfl, hN⟩
  · have c3 := c
    have d4 : a0_'.toInt < (180 : Int) := nlei.mp c3
    refine inb_i (by omega) (by omega) ?_
    refine mem_i (fun M1 e6 => ?_)
    have hJ7 : J M1 := by rw [e6]; exact Jw_any ok_159 hN a0_'.toNatClampNeg (1000000 : Int32)
    clear e6
    have q8 : (a0_' + (1 : Int32)).toInt = a0_'.toInt + (1 : Int) := add_ti rfl rfl (by omega) (by omega)
    exact ⟨_, rfl, ⟨hJ7, (show (0 : Int) ≤ (a0_' + (1 : Int32)).toInt by omega), (show (a0_' + (1 : Int32)).toInt ≤ (180 : Int) by omega)⟩, show (180 - (a0_' + (1 : Int32)).toInt).toNat < (180 - a0_'.toInt).toNat by omega⟩
theorem sl_Ways_measurePairs_68 (v4 : Int32) (a0_ : Int32) (a1_ : Int32) (N_ : Mem) (hp_v4 : (0 : Int) ≤ v4.toInt ∧ v4.toInt ≤ (179 : Int)) (hN : J N_) (i1_ : (1 : Int) ≤ a0_.toInt) (i2_ : a0_.toInt ≤ (180 : Int)) (i3_ : (0 : Int) ≤ a1_.toInt) (i4_ : a1_.toInt ≤ (25 : Int)) : ∃ x, iter (lb_Ways_measurePairs_68 v4) FU (a0_, a1_, N_) = some x ∧ (fun r : Int32 × Mem => J r.2 ∧ (1 : Int) ≤ r.1.toInt ∧ r.1.toInt ≤ (180 : Int)) x := by
  refine iter_r (fun s : Int32 × Int32 × Mem => J s.2.2 ∧ (1 : Int) ≤ s.1.toInt ∧ s.1.toInt ≤ (180 : Int) ∧ (0 : Int) ≤ s.2.1.toInt ∧ s.2.1.toInt ≤ (25 : Int)) (fun s : Int32 × Int32 × Mem => (25 - s.2.1.toInt).toNat) (fun r : Int32 × Mem => J r.2 ∧ (1 : Int) ≤ r.1.toInt ∧ r.1.toInt ≤ (180 : Int)) ?_ FU (a0_, a1_, N_) ⟨hN, i1_, i2_, i3_, i4_⟩ (by show (25 - a1_.toInt).toNat < FU; rw [FU_v]; omega)
  clear i4_ i3_ i2_ i1_ hN
  rintro ⟨a0_', a1_', N_'⟩ ⟨hN, i1_, i2_, i3_, i4_⟩
  dsimp only at hN i1_ i2_ i3_ i4_
  unfold lb_Ways_measurePairs_68
  dsimp only
  refine if_i (fun c => ?_) (fun c => ?_)
  · have c1 := c
    have d2 : (25 : Int) ≤ a1_'.toInt := lei.mp c1
    exact ⟨_, rfl, hN, (show (1 : Int) ≤ a0_'.toInt by omega), (show a0_'.toInt ≤ (180 : Int) by omega)⟩
  · have c3 := c
    have d4 : a1_'.toInt < (25 : Int) := nlei.mp c3
    refine inb_i (by omega) (by omega) ?_
    have r5 := Jr_160 hN v4.toNatClampNeg
    refine bind_i (sf_Ways_pairAfter (N_'.1 160 v4.toNatClampNeg) a1_' N_' (⟨show (0 : Int) ≤ (N_'.1 160 v4.toNatClampNeg).toInt by omega, show (N_'.1 160 v4.toNatClampNeg).toInt ≤ (179 : Int) by omega⟩) (⟨show (-1 : Int) ≤ a1_'.toInt by omega, show a1_'.toInt ≤ (24 : Int) by omega⟩) hN) (fun x6 _ q => ?_)
    obtain ⟨h6, h7⟩ := q
    refine if_i (fun c => ?_) (fun c => ?_)
    · have c8 := c
      have d9 : x6.toInt = (-1 : Int) := eqi.mp c8
      have q10 : (a1_' + (1 : Int32)).toInt = a1_'.toInt + (1 : Int) := add_ti rfl rfl (by omega) (by omega)
      exact ⟨_, rfl, ⟨hN, (show (1 : Int) ≤ a0_'.toInt by omega), (show a0_'.toInt ≤ (180 : Int) by omega), (show (0 : Int) ≤ (a1_' + (1 : Int32)).toInt by omega), (show (a1_' + (1 : Int32)).toInt ≤ (25 : Int) by omega)⟩, show (25 - (a1_' + (1 : Int32)).toInt).toNat < (25 - a1_'.toInt).toNat by omega⟩
    · have c11 := c
      have d12 : ¬ x6.toInt = (-1 : Int) := neqi.mp c11
      refine inb_i (by omega) (by omega) ?_
      refine if_i (fun c => ?_) (fun c => ?_)
      · have c13 := c
        have d14 : (N_'.1 159 x6.toNatClampNeg).toInt < (1000000 : Int) := lti.mp c13
        have q15 : (a1_' + (1 : Int32)).toInt = a1_'.toInt + (1 : Int) := add_ti rfl rfl (by omega) (by omega)
        exact ⟨_, rfl, ⟨hN, (show (1 : Int) ≤ a0_'.toInt by omega), (show a0_'.toInt ≤ (180 : Int) by omega), (show (0 : Int) ≤ (a1_' + (1 : Int32)).toInt by omega), (show (a1_' + (1 : Int32)).toInt ≤ (25 : Int) by omega)⟩, show (25 - (a1_' + (1 : Int32)).toInt).toNat < (25 - a1_'.toInt).toNat by omega⟩
      · have c16 := c
        have d17 : (1000000 : Int) ≤ (N_'.1 159 x6.toNatClampNeg).toInt := nlti.mp c16
        refine if_i (fun c => ?_) (fun c => ?_)
        · have c18 := c
          have d19 : (180 : Int) ≤ a0_'.toInt := lei.mp c18
          have q20 : (a1_' + (1 : Int32)).toInt = a1_'.toInt + (1 : Int) := add_ti rfl rfl (by omega) (by omega)
          exact ⟨_, rfl, ⟨hN, (show (1 : Int) ≤ a0_'.toInt by omega), (show a0_'.toInt ≤ (180 : Int) by omega), (show (0 : Int) ≤ (a1_' + (1 : Int32)).toInt by omega), (show (a1_' + (1 : Int32)).toInt ≤ (25 : Int) by omega)⟩, show (25 - (a1_' + (1 : Int32)).toInt).toNat < (25 - a1_'.toInt).toNat by omega⟩
        · have c21 := c
          have d22 : a0_'.toInt < (180 : Int) := nlei.mp c21
          refine inb_i (by omega) (by omega) ?_
          refine inb_i (by omega) (by omega) ?_
          refine inb_i (by omega) (by omega) ?_
          refine mem_i (fun M7 e24 => ?_)
          have hJ25 : J M7 := by rw [e24]; exact Jw_any ok_159 hN x6.toNatClampNeg ((N_'.1 159 (N_'.1 160 v4.toNatClampNeg).toNatClampNeg) + (1 : Int32))
          have f26 : (M7.1 160 v4.toNatClampNeg).toInt = (N_'.1 160 v4.toNatClampNeg).toInt := by rw [e24]; rw [si_ne (by exact fun e => absurd e.1 (by decide))]
          clear e24
          refine inb_i (by omega) (by omega) ?_
          refine mem_i (fun M8 e28 => ?_)
          have hJ29 : J M8 := by rw [e28]; exact Jw_160 hJ25 a0_'.toNatClampNeg x6 (show (0 : Int) ≤ x6.toInt by omega) (show x6.toInt ≤ (179 : Int) by omega)
          clear e28
          have q30 : (a0_' + (1 : Int32)).toInt = a0_'.toInt + (1 : Int) := add_ti rfl rfl (by omega) (by omega)
          have q31 : (a1_' + (1 : Int32)).toInt = a1_'.toInt + (1 : Int) := add_ti rfl rfl (by omega) (by omega)
          exact ⟨_, rfl, ⟨hJ29, (show (1 : Int) ≤ (a0_' + (1 : Int32)).toInt by omega), (show (a0_' + (1 : Int32)).toInt ≤ (180 : Int) by omega), (show (0 : Int) ≤ (a1_' + (1 : Int32)).toInt by omega), (show (a1_' + (1 : Int32)).toInt ≤ (25 : Int) by omega)⟩, show (25 - (a1_' + (1 : Int32)).toInt).toNat < (25 - a1_'.toInt).toNat by omega⟩
theorem sl_Ways_measurePairs_51  (a0_ : Int32) (a1_ : Int32) (N_ : Mem) (hN : J N_) (i1_ : (1 : Int) ≤ a0_.toInt) (i2_ : a0_.toInt ≤ (180 : Int)) (i3_ : (0 : Int) ≤ a1_.toInt) (i4_ : a1_.toInt ≤ (180 : Int)) : ∃ x, iter (lb_Ways_measurePairs_51) FU (a0_, a1_, N_) = some x ∧ (fun r : Mem => J r) x := by
  refine iter_r (fun s : Int32 × Int32 × Mem => J s.2.2 ∧ (1 : Int) ≤ s.1.toInt ∧ s.1.toInt ≤ (180 : Int) ∧ (0 : Int) ≤ s.2.1.toInt ∧ s.2.1.toInt ≤ (180 : Int)) (fun s : Int32 × Int32 × Mem => (180 - s.2.1.toInt).toNat) (fun r : Mem => J r) ?_ FU (a0_, a1_, N_) ⟨hN, i1_, i2_, i3_, i4_⟩ (by show (180 - a1_.toInt).toNat < FU; rw [FU_v]; omega)
  clear i4_ i3_ i2_ i1_ hN
  rintro ⟨a0_', a1_', N_'⟩ ⟨hN, i1_, i2_, i3_, i4_⟩
  dsimp only at hN i1_ i2_ i3_ i4_
  unfold lb_Ways_measurePairs_51
  dsimp only
  refine if_i (fun c => ?_) (fun c => ?_)
  · have c1 := c
    have d2 : a0_'.toInt ≤ a1_'.toInt := lei.mp c1
    exact ⟨_, rfl, hN⟩
  · have c3 := c
    have d4 : a1_'.toInt < a0_'.toInt := nlei.mp c3
    refine if_i (fun c => ?_) (fun c => ?_)
    · have c5 := c
      have d6 : (180 : Int) ≤ a1_'.toInt := lei.mp c5
      exfalso; omega
    · have c7 := c
      have d8 : a1_'.toInt < (180 : Int) := nlei.mp c7
      refine bind_i (sl_Ways_measurePairs_68 a1_' a0_' (0 : Int32) N_' (⟨show (0 : Int) ≤ a1_'.toInt by omega, show a1_'.toInt ≤ (179 : Int) by omega⟩) hN (show (1 : Int) ≤ a0_'.toInt by omega) (show a0_'.toInt ≤ (180 : Int) by omega) (show (0 : Int) ≤ (0 : Int32).toInt by decide) (show (0 : Int32).toInt ≤ (25 : Int) by decide)) (fun x13 _ q => ?_)
      obtain ⟨h9, h10, h11⟩ := q
      have q12 : (a1_' + (1 : Int32)).toInt = a1_'.toInt + (1 : Int) := add_ti rfl rfl (by omega) (by omega)
      exact ⟨_, rfl, ⟨h9, (show (1 : Int) ≤ x13.1.toInt by omega), (show x13.1.toInt ≤ (180 : Int) by omega), (show (0 : Int) ≤ (a1_' + (1 : Int32)).toInt by omega), (show (a1_' + (1 : Int32)).toInt ≤ (180 : Int) by omega)⟩, show (180 - (a1_' + (1 : Int32)).toInt).toNat < (180 - a1_'.toInt).toNat by omega⟩
theorem sf_Ways_measurePairs (v2 : Int32) (M : Mem) (hp_v2 : (0 : Int) ≤ v2.toInt ∧ v2.toInt ≤ (35 : Int)) (hJ : J M) : ∃ r : Mem, f_Ways_measurePairs v2 M = some r ∧ (J r) := by
  unfold f_Ways_measurePairs
  refine bind_i (sl_Ways_measurePairs_2 v2 (0 : Int32) M (⟨show (0 : Int) ≤ v2.toInt by omega, show v2.toInt ≤ (35 : Int) by omega⟩) hJ (show (0 : Int) ≤ (0 : Int32).toInt by decide) (show (0 : Int32).toInt ≤ (180 : Int) by decide)) (fun x3 _ q => ?_)
  have h1 := q
  have q3 : (v2 * (5 : Int32)).toInt = v2.toInt * (5 : Int) := mul_ti rfl rfl (by omega) (by omega)
  have q4 : ((v2 * (5 : Int32)) + (4 : Int32)).toInt = (v2 * (5 : Int32)).toInt + (4 : Int) := add_ti rfl rfl (by omega) (by omega)
  refine mem_i (fun M4 e5 => ?_)
  have hJ6 : J M4 := by rw [e5]; exact Jw_160 h1 (0 : Int32).toNatClampNeg ((v2 * (5 : Int32)) + (4 : Int32)) (show (0 : Int) ≤ ((v2 * (5 : Int32)) + (4 : Int32)).toInt by omega) (show ((v2 * (5 : Int32)) + (4 : Int32)).toInt ≤ (179 : Int) by omega)
  clear e5
  have r7 := Jr_160 hJ6 (0 : Int32).toNatClampNeg
  refine inb_i (by omega) (by omega) ?_
  refine mem_i (fun M5 e9 => ?_)
  have hJ10 : J M5 := by rw [e9]; exact Jw_any ok_159 hJ6 (M4.1 160 (0 : Int32).toNatClampNeg).toNatClampNeg (0 : Int32)
  have f11 : (M5.1 160 (0 : Int32).toNatClampNeg).toInt = (M4.1 160 (0 : Int32).toNatClampNeg).toInt := by rw [e9]; rw [si_ne (by exact fun e => absurd e.1 (by decide))]
  clear e9
  refine bind_i (sl_Ways_measurePairs_51  (1 : Int32) (0 : Int32) M5 hJ10 (show (1 : Int) ≤ (1 : Int32).toInt by decide) (show (1 : Int32).toInt ≤ (180 : Int) by decide) (show (0 : Int) ≤ (0 : Int32).toInt by decide) (show (0 : Int32).toInt ≤ (180 : Int) by decide)) (fun x16 _ q => ?_)
  have h12 := q
  exact ⟨x16, rfl, h12⟩
theorem sl_Ways_pairNearer_2 (v2 : Int32) (M : Mem) (a0_ : Int32) (hp_v2 : (0 : Int) ≤ v2.toInt ∧ v2.toInt ≤ (179 : Int)) (hJ_M : J M) (i0_ : (0 : Int) ≤ a0_.toInt) (i1_ : a0_.toInt ≤ (25 : Int)) : ∃ x, iter (lb_Ways_pairNearer_2 v2 M) FU a0_ = some x ∧ (SQ (fun r : Unit => True) (fun r : Int32 => (0 : Int) ≤ r.toInt ∧ r.toInt ≤ (24 : Int))) x := by
  refine iter_r (fun s : Int32 => (0 : Int) ≤ s.toInt ∧ s.toInt ≤ (25 : Int)) (fun s : Int32 => (25 - s.toInt).toNat) (SQ (fun r : Unit => True) (fun r : Int32 => (0 : Int) ≤ r.toInt ∧ r.toInt ≤ (24 : Int))) ?_ FU a0_ ⟨i0_, i1_⟩ (by show (25 - a0_.toInt).toNat < FU; rw [FU_v]; omega)
  clear i1_ i0_
  rintro a0_' ⟨i0_, i1_⟩
  unfold lb_Ways_pairNearer_2
  refine if_i (fun c => ?_) (fun c => ?_)
  · have c1 := c
    have d2 : (25 : Int) ≤ a0_'.toInt := lei.mp c1
    exact ⟨_, rfl, trivial⟩
  · have c3 := c
    have d4 : a0_'.toInt < (25 : Int) := nlei.mp c3
    refine bind_i (sf_Ways_pairAfter v2 a0_' M (⟨show (0 : Int) ≤ v2.toInt by omega, show v2.toInt ≤ (179 : Int) by omega⟩) (⟨show (-1 : Int) ≤ a0_'.toInt by omega, show a0_'.toInt ≤ (24 : Int) by omega⟩) hJ_M) (fun x1 _ q => ?_)
    obtain ⟨h5, h6⟩ := q
    refine if_i (fun c => ?_) (fun c => ?_)
    · have c7 := c
      have d8 : x1.toInt = (-1 : Int) := eqi.mp c7
      have q9 : (a0_' + (1 : Int32)).toInt = a0_'.toInt + (1 : Int) := add_ti rfl rfl (by omega) (by omega)
      exact ⟨_, rfl, ⟨(show (0 : Int) ≤ (a0_' + (1 : Int32)).toInt by omega), (show (a0_' + (1 : Int32)).toInt ≤ (25 : Int) by omega)⟩, show (25 - (a0_' + (1 : Int32)).toInt).toNat < (25 - a0_'.toInt).toNat by omega⟩
    · have c10 := c
      have d11 : ¬ x1.toInt = (-1 : Int) := neqi.mp c10
      refine inb_i (by omega) (by omega) ?_
      refine inb_i (by omega) (by omega) ?_
      refine if_i (fun c => ?_) (fun c => ?_)
      · have c12 := c
        have d13 : (M.1 159 v2.toNatClampNeg).toInt ≤ (M.1 159 x1.toNatClampNeg).toInt := lei.mp c12
        have q14 : (a0_' + (1 : Int32)).toInt = a0_'.toInt + (1 : Int) := add_ti rfl rfl (by omega) (by omega)
        exact ⟨_, rfl, ⟨(show (0 : Int) ≤ (a0_' + (1 : Int32)).toInt by omega), (show (a0_' + (1 : Int32)).toInt ≤ (25 : Int) by omega)⟩, show (25 - (a0_' + (1 : Int32)).toInt).toNat < (25 - a0_'.toInt).toNat by omega⟩
      · have c15 := c
        have d16 : (M.1 159 x1.toNatClampNeg).toInt < (M.1 159 v2.toNatClampNeg).toInt := nlei.mp c15
        exact ⟨_, rfl, (show (0 : Int) ≤ a0_'.toInt by omega), (show a0_'.toInt ≤ (24 : Int) by omega)⟩
theorem sf_Ways_pairNearer (v2 : Int32) (M : Mem) (hp_v2 : (0 : Int) ≤ v2.toInt ∧ v2.toInt ≤ (179 : Int)) (hJ : J M) : ∃ r : Int32, f_Ways_pairNearer v2 M = some r ∧ ((-1 : Int) ≤ r.toInt ∧ r.toInt ≤ (24 : Int)) := by
  unfold f_Ways_pairNearer
  refine bind_i (sl_Ways_pairNearer_2 v2 M (0 : Int32) (⟨show (0 : Int) ≤ v2.toInt by omega, show v2.toInt ≤ (179 : Int) by omega⟩) hJ (show (0 : Int) ≤ (0 : Int32).toInt by decide) (show (0 : Int32).toInt ≤ (25 : Int) by decide)) (fun x1 _ q => ?_)
  rcases x1 with y | y
  · have q9 : True := q
    dsimp only [Sum.elim_inl, Sum.elim_inr]
    exact ⟨(-1 : Int32), rfl, (show (-1 : Int) ≤ (-1 : Int32).toInt by decide), (show (-1 : Int32).toInt ≤ (24 : Int) by decide)⟩
  · have q9 : (0 : Int) ≤ y.toInt ∧ y.toInt ≤ (24 : Int) := q
    dsimp only [Sum.elim_inl, Sum.elim_inr]
    obtain ⟨h4, h5⟩ := q9
    exact ⟨y, rfl, (show (-1 : Int) ≤ y.toInt by omega), (show y.toInt ≤ (24 : Int) by omega)⟩
theorem sf_Thief_start (v1 : Int32) (v2 : Int32) (M : Mem) (hJ : J M) : ∃ r : Mem, f_Thief_start v1 v2 M = some r ∧ (J r) := by
  unfold f_Thief_start
  refine if_i (fun c => ?_) (fun c => ?_)
  · have c1 := c
    have d2 : v1.toInt = (0 : Int) := eqi.mp c1
    unfold j_Thief_start_12
    refine mem_i (fun M1 e4 => ?_)
    have hJ5 : J M1 := by rw [e4]; exact Jl hJ
    clear e4
    refine if_i (fun c => ?_) (fun c => ?_)
    · have c6 := c
      have d7 : v1.toInt = (1 : Int) := eqi.mp c6
      exfalso; omega
    · have c8 := c
      have d9 : ¬ v1.toInt = (1 : Int) := neqi.mp c8
      refine mem_i (fun M2 e11 => ?_)
      have hJ12 : J M2 := by rw [e11]; exact Jl hJ5
      clear e11
      exact ⟨M2, rfl, hJ12⟩
  · have c13 := c
    have d14 : ¬ v1.toInt = (0 : Int) := neqi.mp c13
    unfold j_Thief_start_12
    refine mem_i (fun M1 e16 => ?_)
    have hJ17 : J M1 := by rw [e16]; exact Jl hJ
    clear e16
    refine if_i (fun c => ?_) (fun c => ?_)
    · have c18 := c
      have d19 : v1.toInt = (1 : Int) := eqi.mp c18
      refine mem_i (fun M3 e21 => ?_)
      have hJ22 : J M3 := by rw [e21]; exact Jl hJ17
      clear e21
      exact ⟨M3, rfl, hJ22⟩
    · have c23 := c
      have d24 : ¬ v1.toInt = (1 : Int) := neqi.mp c23
      refine mem_i (fun M2 e26 => ?_)
      have hJ27 : J M2 := by rw [e26]; exact Jl hJ17
      clear e26
      exact ⟨M2, rfl, hJ27⟩
theorem sf_Thief_stir (v1 : Nat) (M : Mem) (hk_v1 : kd v1 = 10 + 6) (hJ : J M) : ∃ r : Mem, f_Thief_stir v1 M = some r ∧ (J r) := by
  unfold f_Thief_stir
  refine c_i hk_v1 ?_
  refine bind_i (sf_Nets_around v1 (0 : Int32) (M.2.1 151 2) M hk_v1 (⟨by decide, by decide⟩) hJ) (fun x1 _ q => ?_)
  refine bind_i (sf_Nets_stairs v1 M hk_v1 hJ) (fun x2 _ q => ?_)
  refine bind_i (sf_Nets_around v1 (1 : Int32) (M.2.1 151 3) M hk_v1 (⟨by decide, by decide⟩) hJ) (fun x3 _ q => ?_)
  refine bind_i (sf_Nets_stairs v1 M hk_v1 hJ) (fun x4 _ q => ?_)
  refine mem_i (fun M5 e2 => ?_)
  have hJ3 : J M5 := by rw [e2]; exact Jl hJ
  clear e2
  refine mem_i (fun M6 e5 => ?_)
  have hJ6 : J M6 := by rw [e5]; exact Jl hJ3
  clear e5
  exact ⟨M6, rfl, hJ6⟩
