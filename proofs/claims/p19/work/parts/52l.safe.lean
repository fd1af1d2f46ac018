/-! safety of the class, 12 -/
theorem sl_Ways_leave_28 (v1 : Nat) (v2 : Int32) (v3 : Int32) (v4 : Int32) (a0_ : Int32) (a1_ : Int32) (N_ : Mem) (B_ : Mem) (hk_v1 : kd v1 = 10 + 6) (hp_v2 : (0 : Int) ≤ v2.toInt ∧ v2.toInt ≤ (1 : Int)) (hp_v3 : (0 : Int) ≤ v3.toInt ∧ v3.toInt ≤ (35 : Int)) (hp_v4 : v4.toInt ≤ (999999 : Int)) (hN : J N_) (hG : Gc 0 B_ N_) (i2_ : (0 : Int) ≤ a0_.toInt) (i3_ : a0_.toInt ≤ (1 : Int)) (i4_ : (0 : Int) ≤ a1_.toInt) (i5_ : a1_.toInt ≤ (4 : Int)) : ∃ x, iter (lb_Ways_leave_28 v1 v2 v3 v4) FU (a0_, a1_, N_) = some x ∧ (fun r : Int32 × Mem => J r.2 ∧ Gc 0 B_ r.2 ∧ (0 : Int) ≤ r.1.toInt ∧ r.1.toInt ≤ (1 : Int)) x := by
  refine iter_r (fun s : Int32 × Int32 × Mem => J s.2.2 ∧ Gc 0 B_ s.2.2 ∧ (0 : Int) ≤ s.1.toInt ∧ s.1.toInt ≤ (1 : Int) ∧ (0 : Int) ≤ s.2.1.toInt ∧ s.2.1.toInt ≤ (4 : Int)) (fun s : Int32 × Int32 × Mem => (4 - s.2.1.toInt).toNat) (fun r : Int32 × Mem => J r.2 ∧ Gc 0 B_ r.2 ∧ (0 : Int) ≤ r.1.toInt ∧ r.1.toInt ≤ (1 : Int)) ?_ FU (a0_, a1_, N_) ⟨hN, hG, i2_, i3_, i4_, i5_⟩ (by show (4 - a1_.toInt).toNat < FU; rw [FU_v]; omega)
  clear i5_ i4_ i3_ i2_ hG hN
  rintro ⟨a0_', a1_', N_'⟩ ⟨hN, hG, i2_, i3_, i4_, i5_⟩
  dsimp only at hN hG i2_ i3_ i4_ i5_
  unfold lb_Ways_leave_28
  dsimp only
  refine if_i (fun c => ?_) (fun c => ?_)
  · have c1 := c
    have d2 : (4 : Int) ≤ a1_'.toInt := lei.mp c1
    exact ⟨_, rfl, hN, hG, (show (0 : Int) ≤ a0_'.toInt by omega), (show a0_'.toInt ≤ (1 : Int) by omega)⟩
  · have c3 := c
    have d4 : a1_'.toInt < (4 : Int) := nlei.mp c3
    refine bind_i (sf_Nets_toward v1 v2 v3 a1_' N_' hk_v1 (⟨show (0 : Int) ≤ v3.toInt by omega, show v3.toInt ≤ (35 : Int) by omega⟩) hN) (fun x1 _ q => ?_)
    obtain ⟨h5, h6⟩ := q
    refine if_i (fun c => ?_) (fun c => ?_)
    · have c7 := c
      have d8 : x1.toInt = (-1 : Int) := eqi.mp c7
      have q9 : (a1_' + (1 : Int32)).toInt = a1_'.toInt + (1 : Int) := add_ti rfl rfl (by omega) (by omega)
      exact ⟨_, rfl, ⟨hN, hG, (show (0 : Int) ≤ a0_'.toInt by omega), (show a0_'.toInt ≤ (1 : Int) by omega), (show (0 : Int) ≤ (a1_' + (1 : Int32)).toInt by omega), (show (a1_' + (1 : Int32)).toInt ≤ (4 : Int) by omega)⟩, show (4 - (a1_' + (1 : Int32)).toInt).toNat < (4 - a1_'.toInt).toNat by omega⟩
    · have c10 := c
      have d11 : ¬ x1.toInt = (-1 : Int) := neqi.mp c10
      have q12 : (v2 * (36 : Int32)).toInt = v2.toInt * (36 : Int) := mul_ti rfl rfl (by omega) (by omega)
      have q13 : ((v2 * (36 : Int32)) + x1).toInt = (v2 * (36 : Int32)).toInt + x1.toInt := add_ti rfl rfl (by omega) (by omega)
      refine bind_i (sf_Ways_lower ((v2 * (36 : Int32)) + x1) ((v4 + (100 : Int32)) + v2) N_' (⟨show (0 : Int) ≤ ((v2 * (36 : Int32)) + x1).toInt by omega, show ((v2 * (36 : Int32)) + x1).toInt ≤ (71 : Int) by omega⟩) hN) (fun x2 _ q => ?_)
      obtain ⟨h14, h15, h16, h17⟩ := q
      have hG18 : Gc 0 B_ x2.2 := Gc_t hG h15
      have q19 := or01 (a := a0_') (b := x2.1) (by omega) (by omega) (by omega) (by omega)
      have q20 : (a1_' + (1 : Int32)).toInt = a1_'.toInt + (1 : Int) := add_ti rfl rfl (by omega) (by omega)
      exact ⟨_, rfl, ⟨h14, hG18, (show (0 : Int) ≤ (a0_' ||| x2.1).toInt by omega), (show (a0_' ||| x2.1).toInt ≤ (1 : Int) by omega), (show (0 : Int) ≤ (a1_' + (1 : Int32)).toInt by omega), (show (a1_' + (1 : Int32)).toInt ≤ (4 : Int) by omega)⟩, show (4 - (a1_' + (1 : Int32)).toInt).toNat < (4 - a1_'.toInt).toNat by omega⟩
theorem sf_Ways_leave (v1 : Nat) (v2 : Int32) (v3 : Int32) (M : Mem) (hk_v1 : kd v1 = 10 + 6) (hp_v2 : (0 : Int) ≤ v2.toInt ∧ v2.toInt ≤ (1 : Int)) (hp_v3 : (0 : Int) ≤ v3.toInt ∧ v3.toInt ≤ (35 : Int)) (hJ : J M) : ∃ r : Int32 × Mem, f_Ways_leave v1 v2 v3 M = some r ∧ (J r.2 ∧ Gc 0 M r.2 ∧ (0 : Int) ≤ r.1.toInt ∧ r.1.toInt ≤ (1 : Int)) := by
  unfold f_Ways_leave
  refine c_i hk_v1 ?_
  have q1 : (v2 * (36 : Int32)).toInt = v2.toInt * (36 : Int) := mul_ti rfl rfl (by omega) (by omega)
  have q2 : ((v2 * (36 : Int32)) + v3).toInt = (v2 * (36 : Int32)).toInt + v3.toInt := add_ti rfl rfl (by omega) (by omega)
  refine inb_i (by omega) (by omega) ?_
  refine if_i (fun c => ?_) (fun c => ?_)
  · have c3 := c
    have d4 : (M.1 158 ((v2 * (36 : Int32)) + v3).toNatClampNeg).toInt < (1000000 : Int) := lti.mp c3
    refine bind_i (sl_Ways_leave_28 v1 v2 v3 (M.1 158 ((v2 * (36 : Int32)) + v3).toNatClampNeg) (0 : Int32) (0 : Int32) M M hk_v1 (⟨show (0 : Int) ≤ v2.toInt by omega, show v2.toInt ≤ (1 : Int) by omega⟩) (⟨show (0 : Int) ≤ v3.toInt by omega, show v3.toInt ≤ (35 : Int) by omega⟩) (show (M.1 158 ((v2 * (36 : Int32)) + v3).toNatClampNeg).toInt ≤ (999999 : Int) by omega) hJ Gc_r (show (0 : Int) ≤ (0 : Int32).toInt by decide) (show (0 : Int32).toInt ≤ (1 : Int) by decide) (show (0 : Int) ≤ (0 : Int32).toInt by decide) (show (0 : Int32).toInt ≤ (4 : Int) by decide)) (fun x5 _ q => ?_)
    obtain ⟨h5, h6, h7, h8⟩ := q
    refine bind_i (sf_Nets_stairs v1 x5.2 hk_v1 h5) (fun x6 _ q => ?_)
    refine if_i (fun c => ?_) (fun c => ?_)
    · have c9 := c
      have d10 : (lg_cmp ((x6 >>> (v3.toInt64 &&& 63)) &&& (1 : Int64)) (0 : Int64)).toInt = (0 : Int) := eqi.mp c9
      refine c_i (bool_of (by omega) (by omega)) ?_
      exact ⟨(x5.1, x5.2), rfl, h5, h6, (show (0 : Int) ≤ x5.1.toInt by omega), (show x5.1.toInt ≤ (1 : Int) by omega)⟩
    · have c11 := c
      have d12 : ¬ (lg_cmp ((x6 >>> (v3.toInt64 &&& 63)) &&& (1 : Int64)) (0 : Int64)).toInt = (0 : Int) := neqi.mp c11
      have q13 : ((1 : Int32) - v2).toInt = (1 : Int) - v2.toInt := sub_ti rfl rfl (by omega) (by omega)
      have q14 : (((1 : Int32) - v2) * (36 : Int32)).toInt = ((1 : Int32) - v2).toInt * (36 : Int) := mul_ti rfl rfl (by omega) (by omega)
      have q15 : ((((1 : Int32) - v2) * (36 : Int32)) + v3).toInt = (((1 : Int32) - v2) * (36 : Int32)).toInt + v3.toInt := add_ti rfl rfl (by omega) (by omega)
      refine bind_i (sf_Ways_lower ((((1 : Int32) - v2) * (36 : Int32)) + v3) (M.1 158 ((v2 * (36 : Int32)) + v3).toNatClampNeg) x5.2 (⟨show (0 : Int) ≤ ((((1 : Int32) - v2) * (36 : Int32)) + v3).toInt by omega, show ((((1 : Int32) - v2) * (36 : Int32)) + v3).toInt ≤ (71 : Int) by omega⟩) h5) (fun x7 _ q => ?_)
      obtain ⟨h16, h17, h18, h19⟩ := q
      have hG20 : Gc 0 M x7.2 := Gc_t h6 h17
      have q21 := or01 (a := x5.1) (b := x7.1) (by omega) (by omega) (by omega) (by omega)
      refine c_i (bool_of (by omega) (by omega)) ?_
      exact ⟨((x5.1 ||| x7.1), x7.2), rfl, h16, hG20, (show (0 : Int) ≤ (x5.1 ||| x7.1).toInt by omega), (show (x5.1 ||| x7.1).toInt ≤ (1 : Int) by omega)⟩
  · have c22 := c
    have d23 : (1000000 : Int) ≤ (M.1 158 ((v2 * (36 : Int32)) + v3).toNatClampNeg).toInt := nlti.mp c22
    exact ⟨((0 : Int32), M), rfl, hJ, Gc_r, (show (0 : Int) ≤ (0 : Int32).toInt by decide), (show (0 : Int32).toInt ≤ (1 : Int) by decide)⟩
theorem sl_Ways_acrossLevels_29 (v1 : Nat) (v3 : Int32) (v5 : Int32) (a0_ : Int32) (a1_ : Int32) (N_ : Mem) (B_ : Mem) (hk_v1 : kd v1 = 10 + 6) (hp_v3 : (0 : Int) ≤ v3.toInt ∧ v3.toInt ≤ (71 : Int)) (hp_v5 : (0 : Int) ≤ v5.toInt ∧ v5.toInt ≤ (71 : Int)) (hN : J N_) (hG : Gc 0 B_ N_) (i2_ : (0 : Int) ≤ a0_.toInt) (i3_ : a0_.toInt ≤ (1 : Int)) (i4_ : (0 : Int) ≤ a1_.toInt) (i5_ : a1_.toInt ≤ (36 : Int)) : ∃ x, iter (lb_Ways_acrossLevels_29 v1 v3 v5) FU (a0_, a1_, N_) = some x ∧ (fun r : Int32 × Mem => J r.2 ∧ Gc 0 B_ r.2 ∧ (0 : Int) ≤ r.1.toInt ∧ r.1.toInt ≤ (1 : Int)) x := by
  refine iter_r (fun s : Int32 × Int32 × Mem => J s.2.2 ∧ Gc 0 B_ s.2.2 ∧ (0 : Int) ≤ s.1.toInt ∧ s.1.toInt ≤ (1 : Int) ∧ (0 : Int) ≤ s.2.1.toInt ∧ s.2.1.toInt ≤ (36 : Int)) (fun s : Int32 × Int32 × Mem => (36 - s.2.1.toInt).toNat) (fun r : Int32 × Mem => J r.2 ∧ Gc 0 B_ r.2 ∧ (0 : Int) ≤ r.1.toInt ∧ r.1.toInt ≤ (1 : Int)) ?_ FU (a0_, a1_, N_) ⟨hN, hG, i2_, i3_, i4_, i5_⟩ (by show (36 - a1_.toInt).toNat < FU; rw [FU_v]; omega)
  clear i5_ i4_ i3_ i2_ hG hN
  rintro ⟨a0_', a1_', N_'⟩ ⟨hN, hG, i2_, i3_, i4_, i5_⟩
  dsimp only at hN hG i2_ i3_ i4_ i5_
  unfold lb_Ways_acrossLevels_29
  dsimp only
  refine if_i (fun c => ?_) (fun c => ?_)
  · have c1 := c
    have d2 : (36 : Int) ≤ a1_'.toInt := lei.mp c1
    exact ⟨_, rfl, hN, hG, (show (0 : Int) ≤ a0_'.toInt by omega), (show a0_'.toInt ≤ (1 : Int) by omega)⟩
  · have c3 := c
    have d4 : a1_'.toInt < (36 : Int) := nlei.mp c3
    refine bind_i (sf_Ways_leave v1 (0 : Int32) a1_' N_' hk_v1 (⟨by decide, by decide⟩) (⟨show (0 : Int) ≤ a1_'.toInt by omega, show a1_'.toInt ≤ (35 : Int) by omega⟩) hN) (fun x2 _ q => ?_)
    obtain ⟨h5, h6, h7, h8⟩ := q
    have hG9 : Gc 0 B_ x2.2 := Gc_t hG h6
    refine bind_i (sf_Ways_leave v1 (1 : Int32) a1_' x2.2 hk_v1 (⟨by decide, by decide⟩) (⟨show (0 : Int) ≤ a1_'.toInt by omega, show a1_'.toInt ≤ (35 : Int) by omega⟩) h5) (fun x3 _ q => ?_)
    obtain ⟨h10, h11, h12, h13⟩ := q
    have hG14 : Gc 0 B_ x3.2 := Gc_t hG9 h11
    have q15 := or01 (a := a0_') (b := x2.1) (by omega) (by omega) (by omega) (by omega)
    have q16 := or01 (a := (a0_' ||| x2.1)) (b := x3.1) (by omega) (by omega) (by omega) (by omega)
    have q17 : (a1_' + (1 : Int32)).toInt = a1_'.toInt + (1 : Int) := add_ti rfl rfl (by omega) (by omega)
    exact ⟨_, rfl, ⟨h10, hG14, (show (0 : Int) ≤ ((a0_' ||| x2.1) ||| x3.1).toInt by omega), (show ((a0_' ||| x2.1) ||| x3.1).toInt ≤ (1 : Int) by omega), (show (0 : Int) ≤ (a1_' + (1 : Int32)).toInt by omega), (show (a1_' + (1 : Int32)).toInt ≤ (36 : Int) by omega)⟩, show (36 - (a1_' + (1 : Int32)).toInt).toNat < (36 - a1_'.toInt).toNat by omega⟩
theorem sl_Ways_acrossLevels_11 (v1 : Nat) (v3 : Int32) (a0_ : Int32) (a1_ : Int32) (N_ : Mem) (B_ : Mem) (hk_v1 : kd v1 = 10 + 6) (hp_v3 : (0 : Int) ≤ v3.toInt ∧ v3.toInt ≤ (71 : Int)) (hN : J N_) (hG : Gc 0 B_ N_) (i2_ : (0 : Int) ≤ a0_.toInt) (i3_ : a0_.toInt ≤ (1 : Int)) (i4_ : (0 : Int) ≤ a1_.toInt) (i5_ : a1_.toInt ≤ (72 : Int)) : ∃ x, iter (lb_Ways_acrossLevels_11 v1 v3) FU (a0_, a1_, N_) = some x ∧ (fun r : Mem => J r ∧ Gc 0 B_ r) x := by
  refine iter_r (fun s : Int32 × Int32 × Mem => J s.2.2 ∧ Gc 0 B_ s.2.2 ∧ (0 : Int) ≤ s.1.toInt ∧ s.1.toInt ≤ (1 : Int) ∧ (0 : Int) ≤ s.2.1.toInt ∧ s.2.1.toInt ≤ (72 : Int)) (fun s : Int32 × Int32 × Mem => (72 - s.2.1.toInt).toNat) (fun r : Mem => J r ∧ Gc 0 B_ r) ?_ FU (a0_, a1_, N_) ⟨hN, hG, i2_, i3_, i4_, i5_⟩ (by show (72 - a1_.toInt).toNat < FU; rw [FU_v]; omega)
  clear i5_ i4_ i3_ i2_ hG hN
  rintro ⟨a0_', a1_', N_'⟩ ⟨hN, hG, i2_, i3_, i4_, i5_⟩
  dsimp only at hN hG i2_ i3_ i4_ i5_
  unfold lb_Ways_acrossLevels_11
  dsimp only
  refine if_i (fun c => ?_) (fun c => ?_)
  · have c1 := c
    have d2 : (72 : Int) ≤ a1_'.toInt := lei.mp c1
    exact ⟨_, rfl, hN, hG⟩
  · have c3 := c
    have d4 : a1_'.toInt < (72 : Int) := nlei.mp c3
    refine if_i (fun c => ?_) (fun c => ?_)
    · have c5 := c
      have d6 : a0_'.toInt = (0 : Int) := eqi.mp c5
      exact ⟨_, rfl, hN, hG⟩
    · have c7 := c
      have d8 : ¬ a0_'.toInt = (0 : Int) := neqi.mp c7
      refine bind_i (sl_Ways_acrossLevels_29 v1 v3 a1_' (0 : Int32) (0 : Int32) N_' B_ hk_v1 (⟨show (0 : Int) ≤ v3.toInt by omega, show v3.toInt ≤ (71 : Int) by omega⟩) (⟨show (0 : Int) ≤ a1_'.toInt by omega, show a1_'.toInt ≤ (71 : Int) by omega⟩) hN hG (show (0 : Int) ≤ (0 : Int32).toInt by decide) (show (0 : Int32).toInt ≤ (1 : Int) by decide) (show (0 : Int) ≤ (0 : Int32).toInt by decide) (show (0 : Int32).toInt ≤ (36 : Int) by decide)) (fun x5 _ q => ?_)
      obtain ⟨h9, h10, h11, h12⟩ := q
      have q13 : (a1_' + (1 : Int32)).toInt = a1_'.toInt + (1 : Int) := add_ti rfl rfl (by omega) (by omega)
      exact ⟨_, rfl, ⟨h9, h10, (show (0 : Int) ≤ x5.1.toInt by omega), (show x5.1.toInt ≤ (1 : Int) by omega), (show (0 : Int) ≤ (a1_' + (1 : Int32)).toInt by omega), (show (a1_' + (1 : Int32)).toInt ≤ (72 : Int) by omega)⟩, show (72 - (a1_' + (1 : Int32)).toInt).toNat < (72 - a1_'.toInt).toNat by omega⟩
theorem sf_Ways_acrossLevels (v1 : Nat) (v2 : Int32) (v3 : Int32) (M : Mem) (hk_v1 : kd v1 = 10 + 6) (hp_v2 : (0 : Int) ≤ v2.toInt ∧ v2.toInt ≤ (71 : Int)) (hp_v3 : (0 : Int) ≤ v3.toInt ∧ v3.toInt ≤ (71 : Int)) (hJ : J M) : ∃ r : Int32 × Mem, f_Ways_acrossLevels v1 v2 v3 M = some r ∧ (J r.2 ∧ Gc 0 M r.2) := by
  unfold f_Ways_acrossLevels
  refine c_i hk_v1 ?_
  refine bind_i (sf_Ways_begin v2 M (⟨show (0 : Int) ≤ v2.toInt by omega, show v2.toInt ≤ (71 : Int) by omega⟩) hJ) (fun x1 _ q => ?_)
  obtain ⟨h1, h2⟩ := q
  have hG3 : Gc 0 M x1 := Gc_t Gc_r h2
  refine bind_i (sl_Ways_acrossLevels_11 v1 v3 (1 : Int32) (0 : Int32) x1 M hk_v1 (⟨show (0 : Int) ≤ v3.toInt by omega, show v3.toInt ≤ (71 : Int) by omega⟩) h1 hG3 (show (0 : Int) ≤ (1 : Int32).toInt by decide) (show (1 : Int32).toInt ≤ (1 : Int) by decide) (show (0 : Int) ≤ (0 : Int32).toInt by decide) (show (0 : Int32).toInt ≤ (72 : Int) by decide)) (fun x8 _ q => ?_)
  obtain ⟨h4, h5⟩ := q
  refine inb_i (by omega) (by omega) ?_
  exact ⟨((x8.1 158 v3.toNatClampNeg), x8), rfl, h4, h5⟩
theorem sf_Ways_later (v1 : Int32) (M : Mem) (hp_v1 : (0 : Int) ≤ v1.toInt ∧ v1.toInt ≤ (35 : Int)) (hJ : J M) : ∃ r : Int32, f_Ways_later v1 M = some r ∧ (True) := by
  unfold f_Ways_later
  refine inb_i (by omega) (by omega) ?_
  refine inb_i (by omega) (by omega) ?_
  exact ⟨(if (M.1 155 v1.toNatClampNeg) < (M.1 156 v1.toNatClampNeg) then (M.1 156 v1.toNatClampNeg) else (M.1 155 v1.toNatClampNeg)), rfl, trivial⟩
theorem sl_Ways_cross_6 (v2 : Nat) (v3 : Int32) (a0_ : Int32) (a1_ : Int32) (N_ : Mem) (B_ : Mem) (hk_v2 : kd v2 = 10 + 6) (hp_v3 : (0 : Int) ≤ v3.toInt ∧ v3.toInt ≤ (35 : Int)) (hN : J N_) (hG : Gc 0 B_ N_) (i2_ : (0 : Int) ≤ a0_.toInt) (i3_ : a0_.toInt ≤ (1 : Int)) (i4_ : (0 : Int) ≤ a1_.toInt) (i5_ : a1_.toInt ≤ (4 : Int)) : ∃ x, iter (lb_Ways_cross_6 v2 v3) FU (a0_, a1_, N_) = some x ∧ (fun r : Int32 × Mem => J r.2 ∧ Gc 0 B_ r.2 ∧ (0 : Int) ≤ r.1.toInt ∧ r.1.toInt ≤ (1 : Int)) x := by
  refine iter_r (fun s : Int32 × Int32 × Mem => J s.2.2 ∧ Gc 0 B_ s.2.2 ∧ (0 : Int) ≤ s.1.toInt ∧ s.1.toInt ≤ (1 : Int) ∧ (0 : Int) ≤ s.2.1.toInt ∧ s.2.1.toInt ≤ (4 : Int)) (fun s : Int32 × Int32 × Mem => (4 - s.2.1.toInt).toNat) (fun r : Int32 × Mem => J r.2 ∧ Gc 0 B_ r.2 ∧ (0 : Int) ≤ r.1.toInt ∧ r.1.toInt ≤ (1 : Int)) ?_ FU (a0_, a1_, N_) ⟨hN, hG, i2_, i3_, i4_, i5_⟩ (by show (4 - a1_.toInt).toNat < FU; rw [FU_v]; omega)
  clear i5_ i4_ i3_ i2_ hG hN
  rintro ⟨a0_', a1_', N_'⟩ ⟨hN, hG, i2_, i3_, i4_, i5_⟩
  dsimp only at hN hG i2_ i3_ i4_ i5_
  unfold lb_Ways_cross_6
  dsimp only
  refine if_i (fun c => ?_) (fun c => ?_)
  · have c1 := c
    have d2 : (4 : Int) ≤ a1_'.toInt := lei.mp c1
    exact ⟨_, rfl, hN, hG, (show (0 : Int) ≤ a0_'.toInt by omega), (show a0_'.toInt ≤ (1 : Int) by omega)⟩
  · have c3 := c
    have d4 : a1_'.toInt < (4 : Int) := nlei.mp c3
    refine bind_i (sf_Nets_toward v2 (1 : Int32) v3 a1_' N_' hk_v2 (⟨show (0 : Int) ≤ v3.toInt by omega, show v3.toInt ≤ (35 : Int) by omega⟩) hN) (fun x1 _ q => ?_)
    obtain ⟨h5, h6⟩ := q
    refine bind_i (sf_Ground_beside v3 a1_' N_' hN) (fun x2 _ q => ?_)
    obtain ⟨h7, h8, h9⟩ := q
    refine bind_i (sf_Ground_beside x2 a1_' N_' hN) (fun x3 _ q => ?_)
    obtain ⟨h10, h11, h12⟩ := q
    refine if_i (fun c => ?_) (fun c => ?_)
    · have c13 := c
      have d14 : x1.toInt = (-1 : Int) := eqi.mp c13
      refine bind_i (sf_Ground_holds (1 : Int32) x3 N_' hN) (fun x4 _ q => ?_)
      obtain ⟨h15, h16, h17, h18⟩ := q
      clear h17
      refine if_i (fun c => ?_) (fun c => ?_)
      · have c19 := c
        have d20 : x4.toInt = (0 : Int) := eqi.mp c19
        have q21 : (a1_' + (1 : Int32)).toInt = a1_'.toInt + (1 : Int) := add_ti rfl rfl (by omega) (by omega)
        exact ⟨_, rfl, ⟨hN, hG, (show (0 : Int) ≤ a0_'.toInt by omega), (show a0_'.toInt ≤ (1 : Int) by omega), (show (0 : Int) ≤ (a1_' + (1 : Int32)).toInt by omega), (show (a1_' + (1 : Int32)).toInt ≤ (4 : Int) by omega)⟩, show (4 - (a1_' + (1 : Int32)).toInt).toNat < (4 - a1_'.toInt).toNat by omega⟩
      · have c22 := c
        have d23 : ¬ x4.toInt = (0 : Int) := neqi.mp c22
        refine inb_i (by omega) (by omega) ?_
        refine bind_i (sf_Ways_lower x3 (((N_'.1 158 v3.toNatClampNeg) + (100 : Int32)) + (1 : Int32)) N_' (⟨show (0 : Int) ≤ x3.toInt by omega, show x3.toInt ≤ (71 : Int) by omega⟩) hN) (fun x5 _ q => ?_)
        obtain ⟨h24, h25, h26, h27⟩ := q
        have hG28 : Gc 0 B_ x5.2 := Gc_t hG h25
        have q29 := or01 (a := a0_') (b := x5.1) (by omega) (by omega) (by omega) (by omega)
        have q30 : (a1_' + (1 : Int32)).toInt = a1_'.toInt + (1 : Int) := add_ti rfl rfl (by omega) (by omega)
        exact ⟨_, rfl, ⟨h24, hG28, (show (0 : Int) ≤ (a0_' ||| x5.1).toInt by omega), (show (a0_' ||| x5.1).toInt ≤ (1 : Int) by omega), (show (0 : Int) ≤ (a1_' + (1 : Int32)).toInt by omega), (show (a1_' + (1 : Int32)).toInt ≤ (4 : Int) by omega)⟩, show (4 - (a1_' + (1 : Int32)).toInt).toNat < (4 - a1_'.toInt).toNat by omega⟩
    · have c31 := c
      have d32 : ¬ x1.toInt = (-1 : Int) := neqi.mp c31
      refine inb_i (by omega) (by omega) ?_
      refine bind_i (sf_Ways_lower x1 ((N_'.1 158 v3.toNatClampNeg) + (1 : Int32)) N_' (⟨show (0 : Int) ≤ x1.toInt by omega, show x1.toInt ≤ (71 : Int) by omega⟩) hN) (fun x7 _ q => ?_)
      obtain ⟨h33, h34, h35, h36⟩ := q
      have hG37 : Gc 0 B_ x7.2 := Gc_t hG h34
      have q38 := or01 (a := a0_') (b := x7.1) (by omega) (by omega) (by omega) (by omega)
      have q39 : (a1_' + (1 : Int32)).toInt = a1_'.toInt + (1 : Int) := add_ti rfl rfl (by omega) (by omega)
      exact ⟨_, rfl, ⟨h33, hG37, (show (0 : Int) ≤ (a0_' ||| x7.1).toInt by omega), (show (a0_' ||| x7.1).toInt ≤ (1 : Int) by omega), (show (0 : Int) ≤ (a1_' + (1 : Int32)).toInt by omega), (show (a1_' + (1 : Int32)).toInt ≤ (4 : Int) by omega)⟩, show (4 - (a1_' + (1 : Int32)).toInt).toNat < (4 - a1_'.toInt).toNat by omega⟩
theorem sf_Ways_cross (v2 : Nat) (v3 : Int32) (M : Mem) (hk_v2 : kd v2 = 10 + 6) (hp_v3 : (0 : Int) ≤ v3.toInt ∧ v3.toInt ≤ (35 : Int)) (hJ : J M) : ∃ r : Int32 × Mem, f_Ways_cross v2 v3 M = some r ∧ (J r.2 ∧ Gc 0 M r.2 ∧ (0 : Int) ≤ r.1.toInt ∧ r.1.toInt ≤ (1 : Int)) := by
  unfold f_Ways_cross
  refine c_i hk_v2 ?_
  refine bind_i (sl_Ways_cross_6 v2 v3 (0 : Int32) (0 : Int32) M M hk_v2 (⟨show (0 : Int) ≤ v3.toInt by omega, show v3.toInt ≤ (35 : Int) by omega⟩) hJ Gc_r (show (0 : Int) ≤ (0 : Int32).toInt by decide) (show (0 : Int32).toInt ≤ (1 : Int) by decide) (show (0 : Int) ≤ (0 : Int32).toInt by decide) (show (0 : Int32).toInt ≤ (4 : Int) by decide)) (fun x10 _ q => ?_)
  obtain ⟨h1, h2, h3, h4⟩ := q
  refine c_i (bool_of (by omega) (by omega)) ?_
  exact ⟨(x10.1, x10.2), rfl, h1, h2, (show (0 : Int) ≤ x10.1.toInt by omega), (show x10.1.toInt ≤ (1 : Int) by omega)⟩
theorem sl_Ways_bridged_29 (v2 : Nat) (v4 : Int32) (v6 : Int32) (a0_ : Int32) (a1_ : Int32) (N_ : Mem) (B_ : Mem) (hk_v2 : kd v2 = 10 + 6) (hp_v4 : (0 : Int) ≤ v4.toInt ∧ v4.toInt ≤ (35 : Int)) (hp_v6 : (0 : Int) ≤ v6.toInt ∧ v6.toInt ≤ (35 : Int)) (hN : J N_) (hG : Gc 0 B_ N_) (i2_ : (0 : Int) ≤ a0_.toInt) (i3_ : a0_.toInt ≤ (1 : Int)) (i4_ : (0 : Int) ≤ a1_.toInt) (i5_ : a1_.toInt ≤ (36 : Int)) : ∃ x, iter (lb_Ways_bridged_29 v2 v4 v6) FU (a0_, a1_, N_) = some x ∧ (fun r : Int32 × Mem => J r.2 ∧ Gc 0 B_ r.2 ∧ (0 : Int) ≤ r.1.toInt ∧ r.1.toInt ≤ (1 : Int)) x := by
  refine iter_r (fun s : Int32 × Int32 × Mem => J s.2.2 ∧ Gc 0 B_ s.2.2 ∧ (0 : Int) ≤ s.1.toInt ∧ s.1.toInt ≤ (1 : Int) ∧ (0 : Int) ≤ s.2.1.toInt ∧ s.2.1.toInt ≤ (36 : Int)) (fun s : Int32 × Int32 × Mem => (36 - s.2.1.toInt).toNat) (fun r : Int32 × Mem => J r.2 ∧ Gc 0 B_ r.2 ∧ (0 : Int) ≤ r.1.toInt ∧ r.1.toInt ≤ (1 : Int)) ?_ FU (a0_, a1_, N_) ⟨hN, hG, i2_, i3_, i4_, i5_⟩ (by show (36 - a1_.toInt).toNat < FU; rw [FU_v]; omega)
  clear i5_ i4_ i3_ i2_ hG hN
  rintro ⟨a0_', a1_', N_'⟩ ⟨hN, hG, i2_, i3_, i4_, i5_⟩
  dsimp only at hN hG i2_ i3_ i4_ i5_
  unfold lb_Ways_bridged_29
  dsimp only
  refine if_i (fun c => ?_) (fun c => ?_)
  · have c1 := c
    have d2 : (36 : Int) ≤ a1_'.toInt := lei.mp c1
    exact ⟨_, rfl, hN, hG, (show (0 : Int) ≤ a0_'.toInt by omega), (show a0_'.toInt ≤ (1 : Int) by omega)⟩
  · have c3 := c
    have d4 : a1_'.toInt < (36 : Int) := nlei.mp c3
    refine inb_i (by omega) (by omega) ?_
    refine if_i (fun c => ?_) (fun c => ?_)
    · have c5 := c
      have d6 : (1000000 : Int) ≤ (N_'.1 158 a1_'.toNatClampNeg).toInt := lei.mp c5
      have q7 : (0 : Int32).toInt = 0 := rfl
      have q8 := or01 (a := a0_') (b := (0 : Int32)) (by omega) (by omega) (by omega) (by omega)
      have q9 : (a1_' + (1 : Int32)).toInt = a1_'.toInt + (1 : Int) := add_ti rfl rfl (by omega) (by omega)
      exact ⟨_, rfl, ⟨hN, hG, (show (0 : Int) ≤ (a0_' ||| (0 : Int32)).toInt by omega), (show (a0_' ||| (0 : Int32)).toInt ≤ (1 : Int) by omega), (show (0 : Int) ≤ (a1_' + (1 : Int32)).toInt by omega), (show (a1_' + (1 : Int32)).toInt ≤ (36 : Int) by omega)⟩, show (36 - (a1_' + (1 : Int32)).toInt).toNat < (36 - a1_'.toInt).toNat by omega⟩
    · have c10 := c
      have d11 : (N_'.1 158 a1_'.toNatClampNeg).toInt < (1000000 : Int) := nlei.mp c10
      refine bind_i (sf_Ways_cross v2 a1_' N_' hk_v2 (⟨show (0 : Int) ≤ a1_'.toInt by omega, show a1_'.toInt ≤ (35 : Int) by omega⟩) hN) (fun x2 _ q => ?_)
      obtain ⟨h12, h13, h14, h15⟩ := q
      have hG16 : Gc 0 B_ x2.2 := Gc_t hG h13
      refine if_i (fun c => ?_) (fun c => ?_)
      · have c17 := c
        have d18 : x2.1.toInt = (0 : Int) := eqi.mp c17
        have q19 : (0 : Int32).toInt = 0 := rfl
        have q20 := or01 (a := a0_') (b := (0 : Int32)) (by omega) (by omega) (by omega) (by omega)
        have q21 : (a1_' + (1 : Int32)).toInt = a1_'.toInt + (1 : Int) := add_ti rfl rfl (by omega) (by omega)
        exact ⟨_, rfl, ⟨h12, hG16, (show (0 : Int) ≤ (a0_' ||| (0 : Int32)).toInt by omega), (show (a0_' ||| (0 : Int32)).toInt ≤ (1 : Int) by omega), (show (0 : Int) ≤ (a1_' + (1 : Int32)).toInt by omega), (show (a1_' + (1 : Int32)).toInt ≤ (36 : Int) by omega)⟩, show (36 - (a1_' + (1 : Int32)).toInt).toNat < (36 - a1_'.toInt).toNat by omega⟩
      · have c22 := c
        have d23 : ¬ x2.1.toInt = (0 : Int) := neqi.mp c22
        have q24 : (1 : Int32).toInt = 1 := rfl
        have q25 := or01 (a := a0_') (b := (1 : Int32)) (by omega) (by omega) (by omega) (by omega)
        have q26 : (a1_' + (1 : Int32)).toInt = a1_'.toInt + (1 : Int) := add_ti rfl rfl (by omega) (by omega)
        exact ⟨_, rfl, ⟨h12, hG16, (show (0 : Int) ≤ (a0_' ||| (1 : Int32)).toInt by omega), (show (a0_' ||| (1 : Int32)).toInt ≤ (1 : Int) by omega), (show (0 : Int) ≤ (a1_' + (1 : Int32)).toInt by omega), (show (a1_' + (1 : Int32)).toInt ≤ (36 : Int) by omega)⟩, show (36 - (a1_' + (1 : Int32)).toInt).toNat < (36 - a1_'.toInt).toNat by omega⟩
theorem sl_Ways_bridged_11 (v2 : Nat) (v4 : Int32) (a0_ : Int32) (a1_ : Int32) (N_ : Mem) (B_ : Mem) (hk_v2 : kd v2 = 10 + 6) (hp_v4 : (0 : Int) ≤ v4.toInt ∧ v4.toInt ≤ (35 : Int)) (hN : J N_) (hG : Gc 0 B_ N_) (i2_ : (0 : Int) ≤ a0_.toInt) (i3_ : a0_.toInt ≤ (1 : Int)) (i4_ : (0 : Int) ≤ a1_.toInt) (i5_ : a1_.toInt ≤ (36 : Int)) : ∃ x, iter (lb_Ways_bridged_11 v2 v4) FU (a0_, a1_, N_) = some x ∧ (fun r : Mem => J r ∧ Gc 0 B_ r) x := by
  refine iter_r (fun s : Int32 × Int32 × Mem => J s.2.2 ∧ Gc 0 B_ s.2.2 ∧ (0 : Int) ≤ s.1.toInt ∧ s.1.toInt ≤ (1 : Int) ∧ (0 : Int) ≤ s.2.1.toInt ∧ s.2.1.toInt ≤ (36 : Int)) (fun s : Int32 × Int32 × Mem => (36 - s.2.1.toInt).toNat) (fun r : Mem => J r ∧ Gc 0 B_ r) ?_ FU (a0_, a1_, N_) ⟨hN, hG, i2_, i3_, i4_, i5_⟩ (by show (36 - a1_.toInt).toNat < FU; rw [FU_v]; omega)
  clear i5_ i4_ i3_ i2_ hG hN
  rintro ⟨a0_', a1_', N_'⟩ ⟨hN, hG, i2_, i3_, i4_, i5_⟩
  dsimp only at hN hG i2_ i3_ i4_ i5_
  unfold lb_Ways_bridged_11
  dsimp only
  refine if_i (fun c => ?_) (fun c => ?_)
  · have c1 := c
    have d2 : (36 : Int) ≤ a1_'.toInt := lei.mp c1
    exact ⟨_, rfl, hN, hG⟩
  · have c3 := c
    have d4 : a1_'.toInt < (36 : Int) := nlei.mp c3
    refine if_i (fun c => ?_) (fun c => ?_)
    · have c5 := c
      have d6 : a0_'.toInt = (0 : Int) := eqi.mp c5
      exact ⟨_, rfl, hN, hG⟩
    · have c7 := c
      have d8 : ¬ a0_'.toInt = (0 : Int) := neqi.mp c7
      refine bind_i (sl_Ways_bridged_29 v2 v4 a1_' (0 : Int32) (0 : Int32) N_' B_ hk_v2 (⟨show (0 : Int) ≤ v4.toInt by omega, show v4.toInt ≤ (35 : Int) by omega⟩) (⟨show (0 : Int) ≤ a1_'.toInt by omega, show a1_'.toInt ≤ (35 : Int) by omega⟩) hN hG (show (0 : Int) ≤ (0 : Int32).toInt by decide) (show (0 : Int32).toInt ≤ (1 : Int) by decide) (show (0 : Int) ≤ (0 : Int32).toInt by decide) (show (0 : Int32).toInt ≤ (36 : Int) by decide)) (fun x6 _ q => ?_)
      obtain ⟨h9, h10, h11, h12⟩ := q
      have q13 : (a1_' + (1 : Int32)).toInt = a1_'.toInt + (1 : Int) := add_ti rfl rfl (by omega) (by omega)
      exact ⟨_, rfl, ⟨h9, h10, (show (0 : Int) ≤ x6.1.toInt by omega), (show x6.1.toInt ≤ (1 : Int) by omega), (show (0 : Int) ≤ (a1_' + (1 : Int32)).toInt by omega), (show (a1_' + (1 : Int32)).toInt ≤ (36 : Int) by omega)⟩, show (36 - (a1_' + (1 : Int32)).toInt).toNat < (36 - a1_'.toInt).toNat by omega⟩
theorem sf_Ways_bridged (v2 : Nat) (v3 : Int32) (v4 : Int32) (M : Mem) (hk_v2 : kd v2 = 10 + 6) (hp_v3 : (0 : Int) ≤ v3.toInt ∧ v3.toInt ≤ (35 : Int)) (hp_v4 : (0 : Int) ≤ v4.toInt ∧ v4.toInt ≤ (35 : Int)) (hJ : J M) : ∃ r : Int32 × Mem, f_Ways_bridged v2 v3 v4 M = some r ∧ (J r.2 ∧ Gc 0 M r.2) := by
  unfold f_Ways_bridged
  refine c_i hk_v2 ?_
  refine bind_i (sf_Ways_begin v3 M (⟨show (0 : Int) ≤ v3.toInt by omega, show v3.toInt ≤ (71 : Int) by omega⟩) hJ) (fun x1 _ q => ?_)
  obtain ⟨h1, h2⟩ := q
  have hG3 : Gc 0 M x1 := Gc_t Gc_r h2
  refine bind_i (sl_Ways_bridged_11 v2 v4 (1 : Int32) (0 : Int32) x1 M hk_v2 (⟨show (0 : Int) ≤ v4.toInt by omega, show v4.toInt ≤ (35 : Int) by omega⟩) h1 hG3 (show (0 : Int) ≤ (1 : Int32).toInt by decide) (show (1 : Int32).toInt ≤ (1 : Int) by decide) (show (0 : Int) ≤ (0 : Int32).toInt by decide) (show (0 : Int32).toInt ≤ (36 : Int) by decide)) (fun x9 _ q => ?_)
  obtain ⟨h4, h5⟩ := q
  refine inb_i (by omega) (by omega) ?_
  exact ⟨((x9.1 158 v4.toNatClampNeg), x9), rfl, h4, h5⟩
theorem sf_Ways_toSide (v1 : Int32) (v2 : Int32) (M : Mem) (hJ : J M) : ∃ r : Int32, f_Ways_toSide v1 v2 M = some r ∧ (True) := by
  unfold f_Ways_toSide
  refine if_i (fun c => ?_) (fun c => ?_)
  · have c1 := c
    have d2 : v2.toInt = (4 : Int) := eqi.mp c1
    exact ⟨v1, rfl, trivial⟩
  · have c3 := c
    have d4 : ¬ v2.toInt = (4 : Int) := neqi.mp c3
    refine bind_i (sf_Ground_beside v1 v2 M hJ) (fun x1 _ q => ?_)
    obtain ⟨h5, h6, h7⟩ := q
    exact ⟨x1, rfl, trivial⟩
theorem sl_Ways_pairAfter_63 (v6 : Int32) (v7 : Int32) (M : Mem) (a0_ : Int32) (hp_v6 : (0 : Int) ≤ v6.toInt ∧ v6.toInt ≤ (35 : Int)) (hp_v7 : (0 : Int) ≤ v7.toInt ∧ v7.toInt ≤ (35 : Int)) (hJ_M : J M) (i0_ : (0 : Int) ≤ a0_.toInt) (i1_ : a0_.toInt ≤ (5 : Int)) : ∃ x, iter (lb_Ways_pairAfter_63 v6 v7 M) FU a0_ = some x ∧ (SQ (fun r : Unit => True) (fun r : Int32 => (0 : Int) ≤ r.toInt ∧ r.toInt ≤ (4 : Int))) x := by
  refine iter_r (fun s : Int32 => (0 : Int) ≤ s.toInt ∧ s.toInt ≤ (5 : Int)) (fun s : Int32 => (5 - s.toInt).toNat) (SQ (fun r : Unit => True) (fun r : Int32 => (0 : Int) ≤ r.toInt ∧ r.toInt ≤ (4 : Int))) ?_ FU a0_ ⟨i0_, i1_⟩ (by show (5 - a0_.toInt).toNat < FU; rw [FU_v]; omega)
  clear i1_ i0_
  rintro a0_' ⟨i0_, i1_⟩
  unfold lb_Ways_pairAfter_63
  refine if_i (fun c => ?_) (fun c => ?_)
  · have c1 := c
    have d2 : (5 : Int) ≤ a0_'.toInt := lei.mp c1
    exact ⟨_, rfl, trivial⟩
  · have c3 := c
    have d4 : a0_'.toInt < (5 : Int) := nlei.mp c3
    refine bind_i (sf_Ways_toSide v6 a0_' M hJ_M) (fun x6 _ q => ?_)
    refine if_i (fun c => ?_) (fun c => ?_)
    · have c5 := c
      have d6 : x6.toInt = v7.toInt := eqi.mp c5
      exact ⟨_, rfl, (show (0 : Int) ≤ a0_'.toInt by omega), (show a0_'.toInt ≤ (4 : Int) by omega)⟩
    · have c7 := c
      have d8 : ¬ x6.toInt = v7.toInt := neqi.mp c7
      have q9 : (a0_' + (1 : Int32)).toInt = a0_'.toInt + (1 : Int) := add_ti rfl rfl (by omega) (by omega)
      exact ⟨_, rfl, ⟨(show (0 : Int) ≤ (a0_' + (1 : Int32)).toInt by omega), (show (a0_' + (1 : Int32)).toInt ≤ (5 : Int) by omega)⟩, show (5 - (a0_' + (1 : Int32)).toInt).toNat < (5 - a0_'.toInt).toNat by omega⟩
