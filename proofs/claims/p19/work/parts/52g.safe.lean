/-! safety of the class, 7 -/
theorem sl_Nets_lay_27 (v0 : Nat) (v2 : Nat) (v3 : Int32) (v4 : Int32) (a0_ : Int32) (N_ : Mem) (B_ : Mem) (hk_v0 : kd v0 = 10 + 6) (hk_v2 : kd v2 = 10 + 7) (hp_v4 : (0 : Int) ≤ v4.toInt ∧ v4.toInt ≤ (35 : Int)) (hN : J N_) (hG : Gc 0 B_ N_) (i2_ : (0 : Int) ≤ a0_.toInt) (i3_ : a0_.toInt ≤ (2 : Int)) : ∃ x, iter (lb_Nets_lay_27 v0 v2 v3 v4) FU (a0_, N_) = some x ∧ (fun r : Mem => J r ∧ Gc 0 B_ r) x := by
  refine iter_r (fun s : Int32 × Mem => J s.2 ∧ Gc 0 B_ s.2 ∧ (0 : Int) ≤ s.1.toInt ∧ s.1.toInt ≤ (2 : Int)) (fun s : Int32 × Mem => (2 - s.1.toInt).toNat) (fun r : Mem => J r ∧ Gc 0 B_ r) ?_ FU (a0_, N_) ⟨hN, hG, i2_, i3_⟩ (by show (2 - a0_.toInt).toNat < FU; rw [FU_v]; omega)
  clear i3_ i2_ hG hN
  rintro ⟨a0_', N_'⟩ ⟨hN, hG, i2_, i3_⟩
  dsimp only at hN hG i2_ i3_
  unfold lb_Nets_lay_27
  dsimp only
  refine if_i (fun c => ?_) (fun c => ?_)
  · have c1 := c
    have d2 : (1 : Int) < a0_'.toInt := lti.mp c1
    exact ⟨_, rfl, hN, hG⟩
  · have c3 := c
    have d4 : a0_'.toInt ≤ (1 : Int) := nlti.mp c3
    refine if_i (fun c => ?_) (fun c => ?_)
    · have c5 := c
      have d6 : v4.toInt = v3.toInt := eqi.mp c5
      unfold j_Nets_lay_50_27
      refine inb_i (by omega) (by omega) ?_
      refine inb_i (by omega) (by omega) ?_
      refine mem_i (fun M3 e8 => ?_)
      have hJ9 : J M3 := by rw [e8]; exact Jl hN
      have hG10 : Gc 0 B_ M3 := Gc_l hG e8
      clear e8
      have q11 : (a0_' + (1 : Int32)).toInt = a0_'.toInt + (1 : Int) := add_ti rfl rfl (by omega) (by omega)
      exact ⟨_, rfl, ⟨hJ9, hG10, (show (0 : Int) ≤ (a0_' + (1 : Int32)).toInt by omega), (show (a0_' + (1 : Int32)).toInt ≤ (2 : Int) by omega)⟩, show (2 - (a0_' + (1 : Int32)).toInt).toNat < (2 - a0_'.toInt).toNat by omega⟩
    · have c12 := c
      have d13 : ¬ v4.toInt = v3.toInt := neqi.mp c12
      refine bind_i (sf_Ground_holds a0_' v4 N_' hN) (fun x4 _ q => ?_)
      obtain ⟨h14, h15, h16, h17⟩ := q
      refine if_i (fun c => ?_) (fun c => ?_)
      · have c18 := c
        have d19 : x4.toInt = (0 : Int) := eqi.mp c18
        have q20 : (a0_' + (1 : Int32)).toInt = a0_'.toInt + (1 : Int) := add_ti rfl rfl (by omega) (by omega)
        exact ⟨_, rfl, ⟨hN, hG, (show (0 : Int) ≤ (a0_' + (1 : Int32)).toInt by omega), (show (a0_' + (1 : Int32)).toInt ≤ (2 : Int) by omega)⟩, show (2 - (a0_' + (1 : Int32)).toInt).toNat < (2 - a0_'.toInt).toNat by omega⟩
      · have c21 := c
        have d22 : ¬ x4.toInt = (0 : Int) := neqi.mp c21
        unfold j_Nets_lay_50_27
        refine inb_i (by omega) (by omega) ?_
        refine inb_i (by omega) (by omega) ?_
        refine mem_i (fun M3 e24 => ?_)
        have hJ25 : J M3 := by rw [e24]; exact Jl hN
        have hG26 : Gc 0 B_ M3 := Gc_l hG e24
        clear e24
        have q27 : (a0_' + (1 : Int32)).toInt = a0_'.toInt + (1 : Int) := add_ti rfl rfl (by omega) (by omega)
        exact ⟨_, rfl, ⟨hJ25, hG26, (show (0 : Int) ≤ (a0_' + (1 : Int32)).toInt by omega), (show (a0_' + (1 : Int32)).toInt ≤ (2 : Int) by omega)⟩, show (2 - (a0_' + (1 : Int32)).toInt).toNat < (2 - a0_'.toInt).toNat by omega⟩
theorem sl_Nets_lay_17 (v0 : Nat) (v2 : Nat) (v3 : Int32) (a0_ : Int32) (N_ : Mem) (B_ : Mem) (hk_v0 : kd v0 = 10 + 6) (hk_v2 : kd v2 = 10 + 7) (hN : J N_) (hG : Gc 0 B_ N_) (i2_ : (0 : Int) ≤ a0_.toInt) (i3_ : a0_.toInt ≤ (36 : Int)) : ∃ x, iter (lb_Nets_lay_17 v0 v2 v3) FU (a0_, N_) = some x ∧ (fun r : Mem => J r ∧ Gc 0 B_ r) x := by
  refine iter_r (fun s : Int32 × Mem => J s.2 ∧ Gc 0 B_ s.2 ∧ (0 : Int) ≤ s.1.toInt ∧ s.1.toInt ≤ (36 : Int)) (fun s : Int32 × Mem => (36 - s.1.toInt).toNat) (fun r : Mem => J r ∧ Gc 0 B_ r) ?_ FU (a0_, N_) ⟨hN, hG, i2_, i3_⟩ (by show (36 - a0_.toInt).toNat < FU; rw [FU_v]; omega)
  clear i3_ i2_ hG hN
  rintro ⟨a0_', N_'⟩ ⟨hN, hG, i2_, i3_⟩
  dsimp only at hN hG i2_ i3_
  unfold lb_Nets_lay_17
  dsimp only
  refine if_i (fun c => ?_) (fun c => ?_)
  · have c1 := c
    have d2 : (36 : Int) ≤ a0_'.toInt := lei.mp c1
    exact ⟨_, rfl, hN, hG⟩
  · have c3 := c
    have d4 : a0_'.toInt < (36 : Int) := nlei.mp c3
    refine bind_i (sl_Nets_lay_27 v0 v2 v3 a0_' (0 : Int32) N_' B_ hk_v0 hk_v2 (⟨show (0 : Int) ≤ a0_'.toInt by omega, show a0_'.toInt ≤ (35 : Int) by omega⟩) hN hG (show (0 : Int) ≤ (0 : Int32).toInt by decide) (show (0 : Int32).toInt ≤ (2 : Int) by decide)) (fun x8 _ q => ?_)
    obtain ⟨h5, h6⟩ := q
    have q7 : (a0_' + (1 : Int32)).toInt = a0_'.toInt + (1 : Int) := add_ti rfl rfl (by omega) (by omega)
    exact ⟨_, rfl, ⟨h5, h6, (show (0 : Int) ≤ (a0_' + (1 : Int32)).toInt by omega), (show (a0_' + (1 : Int32)).toInt ≤ (36 : Int) by omega)⟩, show (36 - (a0_' + (1 : Int32)).toInt).toNat < (36 - a0_'.toInt).toNat by omega⟩
theorem sl_Nets_lay_79 (v0 : Nat) (v2 : Nat) (a0_ : Int32) (N_ : Mem) (B_ : Mem) (hk_v0 : kd v0 = 10 + 6) (hk_v2 : kd v2 = 10 + 7) (hN : J N_) (hG : Gc 0 B_ N_) (i2_ : (0 : Int) ≤ a0_.toInt) (i3_ : a0_.toInt ≤ (36 : Int)) : ∃ x, iter (lb_Nets_lay_79 v0 v2) FU (a0_, N_) = some x ∧ (fun r : Mem => J r ∧ Gc 0 B_ r) x := by
  refine iter_r (fun s : Int32 × Mem => J s.2 ∧ Gc 0 B_ s.2 ∧ (0 : Int) ≤ s.1.toInt ∧ s.1.toInt ≤ (36 : Int)) (fun s : Int32 × Mem => (36 - s.1.toInt).toNat) (fun r : Mem => J r ∧ Gc 0 B_ r) ?_ FU (a0_, N_) ⟨hN, hG, i2_, i3_⟩ (by show (36 - a0_.toInt).toNat < FU; rw [FU_v]; omega)
  clear i3_ i2_ hG hN
  rintro ⟨a0_', N_'⟩ ⟨hN, hG, i2_, i3_⟩
  dsimp only at hN hG i2_ i3_
  unfold lb_Nets_lay_79
  dsimp only
  refine if_i (fun c => ?_) (fun c => ?_)
  · have c1 := c
    have d2 : (36 : Int) ≤ a0_'.toInt := lei.mp c1
    exact ⟨_, rfl, hN, hG⟩
  · have c3 := c
    have d4 : a0_'.toInt < (36 : Int) := nlei.mp c3
    refine bind_i (sf_Nets_link v0 (0 : Int32) a0_' N_' hk_v0 (⟨by decide, by decide⟩) (⟨show (0 : Int) ≤ a0_'.toInt by omega, show a0_'.toInt ≤ (35 : Int) by omega⟩) hN) (fun x11 _ q => ?_)
    obtain ⟨h5, h6⟩ := q
    have hG7 : Gc 0 B_ x11 := Gc_t hG h6
    refine bind_i (sf_Nets_link v0 (1 : Int32) a0_' x11 hk_v0 (⟨by decide, by decide⟩) (⟨show (0 : Int) ≤ a0_'.toInt by omega, show a0_'.toInt ≤ (35 : Int) by omega⟩) h5) (fun x12 _ q => ?_)
    obtain ⟨h8, h9⟩ := q
    have hG10 : Gc 0 B_ x12 := Gc_t hG7 h9
    have q11 : (a0_' + (1 : Int32)).toInt = a0_'.toInt + (1 : Int) := add_ti rfl rfl (by omega) (by omega)
    exact ⟨_, rfl, ⟨h8, hG10, (show (0 : Int) ≤ (a0_' + (1 : Int32)).toInt by omega), (show (a0_' + (1 : Int32)).toInt ≤ (36 : Int) by omega)⟩, show (36 - (a0_' + (1 : Int32)).toInt).toNat < (36 - a0_'.toInt).toNat by omega⟩
theorem sl_Nets_lay_111 (v0 : Nat) (v2 : Nat) (a0_ : Int32) (N_ : Mem) (B_ : Mem) (hk_v0 : kd v0 = 10 + 6) (hk_v2 : kd v2 = 10 + 7) (hN : J N_) (hG : Gc 0 B_ N_) (i2_ : (0 : Int) ≤ a0_.toInt) (i3_ : a0_.toInt ≤ (6 : Int)) : ∃ x, iter (lb_Nets_lay_111 v0 v2) FU (a0_, N_) = some x ∧ (fun r : Mem => J r ∧ Gc 0 B_ r) x := by
  refine iter_r (fun s : Int32 × Mem => J s.2 ∧ Gc 0 B_ s.2 ∧ (0 : Int) ≤ s.1.toInt ∧ s.1.toInt ≤ (6 : Int)) (fun s : Int32 × Mem => (6 - s.1.toInt).toNat) (fun r : Mem => J r ∧ Gc 0 B_ r) ?_ FU (a0_, N_) ⟨hN, hG, i2_, i3_⟩ (by show (6 - a0_.toInt).toNat < FU; rw [FU_v]; omega)
  clear i3_ i2_ hG hN
  rintro ⟨a0_', N_'⟩ ⟨hN, hG, i2_, i3_⟩
  dsimp only at hN hG i2_ i3_
  unfold lb_Nets_lay_111
  dsimp only
  refine if_i (fun c => ?_) (fun c => ?_)
  · have c1 := c
    have d2 : (N_'.1 v2 6).toInt ≤ a0_'.toInt := lei.mp c1
    exact ⟨_, rfl, hN, hG⟩
  · have c3 := c
    have d4 : a0_'.toInt < (N_'.1 v2 6).toInt := nlei.mp c3
    refine if_i (fun c => ?_) (fun c => ?_)
    · have c5 := c
      have d6 : (6 : Int) ≤ a0_'.toInt := lei.mp c5
      exact ⟨_, rfl, hN, hG⟩
    · have c7 := c
      have d8 : a0_'.toInt < (6 : Int) := nlei.mp c7
      refine inb_i (by omega) (by omega) ?_
      refine inb_i (by omega) (by omega) ?_
      have r9 := Jr_scene4 hN hk_v2 a0_'.toNatClampNeg
      have r10 := Jr_scene5 hN hk_v2 a0_'.toNatClampNeg
      refine bind_i (sf_Nets_bridge v0 (N_'.1 (rf v2 4) a0_'.toNatClampNeg) (N_'.1 (rf v2 5) a0_'.toNatClampNeg) N_' hk_v0 (⟨show (0 : Int) ≤ (N_'.1 (rf v2 4) a0_'.toNatClampNeg).toInt by omega, show (N_'.1 (rf v2 4) a0_'.toNatClampNeg).toInt ≤ (35 : Int) by omega⟩) (⟨show (0 : Int) ≤ (N_'.1 (rf v2 5) a0_'.toNatClampNeg).toInt by omega, show (N_'.1 (rf v2 5) a0_'.toNatClampNeg).toInt ≤ (35 : Int) by omega⟩) hN) (fun x15 _ q => ?_)
      obtain ⟨h11, h12⟩ := q
      have hG13 : Gc 0 B_ x15 := Gc_t hG h12
      refine inb_i (by omega) (by omega) ?_
      refine inb_i (by omega) (by omega) ?_
      have r14 := Jr_scene5 h11 hk_v2 a0_'.toNatClampNeg
      have r15 := Jr_scene4 h11 hk_v2 a0_'.toNatClampNeg
      refine bind_i (sf_Nets_bridge v0 (x15.1 (rf v2 5) a0_'.toNatClampNeg) (x15.1 (rf v2 4) a0_'.toNatClampNeg) x15 hk_v0 (⟨show (0 : Int) ≤ (x15.1 (rf v2 5) a0_'.toNatClampNeg).toInt by omega, show (x15.1 (rf v2 5) a0_'.toNatClampNeg).toInt ≤ (35 : Int) by omega⟩) (⟨show (0 : Int) ≤ (x15.1 (rf v2 4) a0_'.toNatClampNeg).toInt by omega, show (x15.1 (rf v2 4) a0_'.toNatClampNeg).toInt ≤ (35 : Int) by omega⟩) h11) (fun x16 _ q => ?_)
      obtain ⟨h16, h17⟩ := q
      have hG18 : Gc 0 B_ x16 := Gc_t hG13 h17
      have q19 : (a0_' + (1 : Int32)).toInt = a0_'.toInt + (1 : Int) := add_ti rfl rfl (by omega) (by omega)
      exact ⟨_, rfl, ⟨h16, hG18, (show (0 : Int) ≤ (a0_' + (1 : Int32)).toInt by omega), (show (a0_' + (1 : Int32)).toInt ≤ (6 : Int) by omega)⟩, show (6 - (a0_' + (1 : Int32)).toInt).toNat < (6 - a0_'.toInt).toNat by omega⟩
theorem sf_Nets_lay (v0 : Nat) (v2 : Nat) (v3 : Int32) (M : Mem) (hk_v0 : kd v0 = 10 + 6) (hk_v2 : kd v2 = 10 + 7) (hJ : J M) : ∃ r : Mem, f_Nets_lay v0 v2 v3 M = some r ∧ (J r ∧ Gc 0 M r) := by
  unfold f_Nets_lay
  refine c_i hk_v0 ?_
  refine c_i hk_v2 ?_
  refine mem_i (fun M1 e2 => ?_)
  have hJ3 : J M1 := by rw [e2]; exact Jl hJ
  have hG4 : Gc 0 M M1 := Gc_l Gc_r e2
  clear e2
  refine mem_i (fun M2 e6 => ?_)
  have hJ7 : J M2 := by rw [e6]; exact Jl hJ3
  have hG8 : Gc 0 M M2 := Gc_l hG4 e6
  clear e6
  refine bind_i (sl_Nets_lay_17 v0 v2 v3 (0 : Int32) M2 M hk_v0 hk_v2 hJ7 hG8 (show (0 : Int) ≤ (0 : Int32).toInt by decide) (show (0 : Int32).toInt ≤ (36 : Int) by decide)) (fun x10 _ q => ?_)
  obtain ⟨h9, h10⟩ := q
  refine bind_i (sl_Nets_lay_79 v0 v2 (0 : Int32) x10 M hk_v0 hk_v2 h9 h10 (show (0 : Int) ≤ (0 : Int32).toInt by decide) (show (0 : Int32).toInt ≤ (36 : Int) by decide)) (fun x14 _ q => ?_)
  obtain ⟨h11, h12⟩ := q
  refine bind_i (sl_Nets_lay_111 v0 v2 (0 : Int32) x14 M hk_v0 hk_v2 h11 h12 (show (0 : Int) ≤ (0 : Int32).toInt by decide) (show (0 : Int32).toInt ≤ (6 : Int) by decide)) (fun x19 _ q => ?_)
  obtain ⟨h13, h14⟩ := q
  exact ⟨x19, rfl, h13, h14⟩
theorem sf_Nets_toward (v0 : Nat) (v1 : Int32) (v2 : Int32) (v3 : Int32) (M : Mem) (hk_v0 : kd v0 = 10 + 6) (hp_v2 : (0 : Int) ≤ v2.toInt ∧ v2.toInt ≤ (35 : Int)) (hJ : J M) : ∃ r : Int32, f_Nets_toward v0 v1 v2 v3 M = some r ∧ ((-1 : Int) ≤ r.toInt ∧ r.toInt ≤ (35 : Int)) := by
  unfold f_Nets_toward
  refine c_i hk_v0 ?_
  refine if_i (fun c => ?_) (fun c => ?_)
  · have c1 := c
    have d2 : v3.toInt = (4 : Int) := eqi.mp c1
    exact ⟨v2, rfl, (show (-1 : Int) ≤ v2.toInt by omega), (show v2.toInt ≤ (35 : Int) by omega)⟩
  · have c3 := c
    have d4 : ¬ v3.toInt = (4 : Int) := neqi.mp c3
    refine if_i (fun c => ?_) (fun c => ?_)
    · have c5 := c
      have d6 : v3.toInt < (0 : Int) := lti.mp c5
      exact ⟨(-1 : Int32), rfl, (show (-1 : Int) ≤ (-1 : Int32).toInt by decide), (show (-1 : Int32).toInt ≤ (35 : Int) by decide)⟩
    · have c7 := c
      have d8 : (0 : Int) ≤ v3.toInt := nlti.mp c7
      refine if_i (fun c => ?_) (fun c => ?_)
      · have c9 := c
        have d10 : (4 : Int) < v3.toInt := lti.mp c9
        exact ⟨(-1 : Int32), rfl, (show (-1 : Int) ≤ (-1 : Int32).toInt by decide), (show (-1 : Int32).toInt ≤ (35 : Int) by decide)⟩
      · have c11 := c
        have d12 : v3.toInt ≤ (4 : Int) := nlti.mp c11
        refine if_i (fun c => ?_) (fun c => ?_)
        · have c13 := c
          have d14 : ((((v1 * (36 : Int32)) + v2) * (4 : Int32)) + v3).toInt < (0 : Int) := lti.mp c13
          exact ⟨(-1 : Int32), rfl, (show (-1 : Int) ≤ (-1 : Int32).toInt by decide), (show (-1 : Int32).toInt ≤ (35 : Int) by decide)⟩
        · have c15 := c
          have d16 : (0 : Int) ≤ ((((v1 * (36 : Int32)) + v2) * (4 : Int32)) + v3).toInt := nlti.mp c15
          refine if_i (fun c => ?_) (fun c => ?_)
          · have c17 := c
            have d18 : ((((v1 * (36 : Int32)) + v2) * (4 : Int32)) + v3).toInt < (288 : Int) := lti.mp c17
            refine inb_i (by omega) (by omega) ?_
            have r19 := Jr_nets2 hJ hk_v0 ((((v1 * (36 : Int32)) + v2) * (4 : Int32)) + v3).toNatClampNeg
            exact ⟨(M.1 (rf v0 2) ((((v1 * (36 : Int32)) + v2) * (4 : Int32)) + v3).toNatClampNeg), rfl, (show (-1 : Int) ≤ (M.1 (rf v0 2) ((((v1 * (36 : Int32)) + v2) * (4 : Int32)) + v3).toNatClampNeg).toInt by omega), (show (M.1 (rf v0 2) ((((v1 * (36 : Int32)) + v2) * (4 : Int32)) + v3).toNatClampNeg).toInt ≤ (35 : Int) by omega)⟩
          · have c20 := c
            have d21 : (288 : Int) ≤ ((((v1 * (36 : Int32)) + v2) * (4 : Int32)) + v3).toInt := nlti.mp c20
            exact ⟨(-1 : Int32), rfl, (show (-1 : Int) ≤ (-1 : Int32).toInt by decide), (show (-1 : Int32).toInt ≤ (35 : Int) by decide)⟩
theorem sl_Nets_flood_12 (v0 : Nat) (v1 : Int32) (v3 : Int64) (M : Mem) (a0_ : Int64) (a1_ : Int64) (a2_ : Int32) (hk_v0 : kd v0 = 10 + 6) (hp_v1 : (0 : Int) ≤ v1.toInt ∧ v1.toInt ≤ (1 : Int)) (hJ_M : J M) (i0_ : (0 : Int) ≤ a2_.toInt) (i1_ : a2_.toInt ≤ (36 : Int)) : ∃ x, iter (lb_Nets_flood_12 v0 v1 v3 M) FU (a0_, a1_, a2_) = some x ∧ (fun r : Int64 => True) x := by
  refine iter_r (fun s : Int64 × Int64 × Int32 => (0 : Int) ≤ s.2.2.toInt ∧ s.2.2.toInt ≤ (36 : Int)) (fun s : Int64 × Int64 × Int32 => (36 - s.2.2.toInt).toNat) (fun r : Int64 => True) ?_ FU (a0_, a1_, a2_) ⟨i0_, i1_⟩ (by show (36 - a2_.toInt).toNat < FU; rw [FU_v]; omega)
  clear i1_ i0_
  rintro ⟨a0_', a1_', a2_'⟩ ⟨i0_, i1_⟩
  dsimp only at i0_ i1_
  unfold lb_Nets_flood_12
  dsimp only
  refine if_i (fun c => ?_) (fun c => ?_)
  · have c1 := c
    have d2 : (36 : Int) ≤ a2_'.toInt := lei.mp c1
    exact ⟨_, rfl, trivial⟩
  · have c3 := c
    have d4 : a2_'.toInt < (36 : Int) := nlei.mp c3
    refine if_i (fun c => ?_) (fun c => ?_)
    · have c5 := c
      have d6 : (lg_cmp a1_' (0 : Int64)).toInt = (0 : Int) := eqi.mp c5
      exact ⟨_, rfl, trivial⟩
    · have c7 := c
      have d8 : ¬ (lg_cmp a1_' (0 : Int64)).toInt = (0 : Int) := neqi.mp c7
      refine bind_i (sf_JLong_numberOfTrailingZeros a1_') (fun x1 _ q => ?_)
      obtain ⟨h9, h10⟩ := q
      refine if_i (fun c => ?_) (fun c => ?_)
      · have c11 := c
        have d12 : (36 : Int) ≤ x1.toInt := lei.mp c11
        unfold j_Nets_flood_78_12
        have q13 : (a2_' + (1 : Int32)).toInt = a2_'.toInt + (1 : Int) := add_ti rfl rfl (by omega) (by omega)
        exact ⟨_, rfl, ⟨(show (0 : Int) ≤ (a2_' + (1 : Int32)).toInt by omega), (show (a2_' + (1 : Int32)).toInt ≤ (36 : Int) by omega)⟩, show (36 - (a2_' + (1 : Int32)).toInt).toNat < (36 - a2_'.toInt).toNat by omega⟩
      · have c14 := c
        have d15 : x1.toInt < (36 : Int) := nlei.mp c14
        have q16 : (v1 * (36 : Int32)).toInt = v1.toInt * (36 : Int) := mul_ti rfl rfl (by omega) (by omega)
        have q17 : ((v1 * (36 : Int32)) + x1).toInt = (v1 * (36 : Int32)).toInt + x1.toInt := add_ti rfl rfl (by omega) (by omega)
        refine inb_i (by omega) (by omega) ?_
        unfold j_Nets_flood_78_12
        have q18 : (a2_' + (1 : Int32)).toInt = a2_'.toInt + (1 : Int) := add_ti rfl rfl (by omega) (by omega)
        exact ⟨_, rfl, ⟨(show (0 : Int) ≤ (a2_' + (1 : Int32)).toInt by omega), (show (a2_' + (1 : Int32)).toInt ≤ (36 : Int) by omega)⟩, show (36 - (a2_' + (1 : Int32)).toInt).toNat < (36 - a2_'.toInt).toNat by omega⟩
theorem sf_Nets_flood (v0 : Nat) (v1 : Int32) (v2 : Int32) (v3 : Int64) (M : Mem) (hk_v0 : kd v0 = 10 + 6) (hp_v1 : (0 : Int) ≤ v1.toInt ∧ v1.toInt ≤ (1 : Int)) (hJ : J M) : ∃ r : Int64, f_Nets_flood v0 v1 v2 v3 M = some r ∧ (True) := by
  unfold f_Nets_flood
  refine c_i hk_v0 ?_
  refine bind_i (sl_Nets_flood_12 v0 v1 v3 M ((1 : Int64) <<< (v2.toInt64 &&& 63)) ((1 : Int64) <<< (v2.toInt64 &&& 63)) (0 : Int32) hk_v0 (⟨show (0 : Int) ≤ v1.toInt by omega, show v1.toInt ≤ (1 : Int) by omega⟩) hJ (show (0 : Int) ≤ (0 : Int32).toInt by decide) (show (0 : Int32).toInt ≤ (36 : Int) by decide)) (fun x5 _ q => ?_)
  exact ⟨x5, rfl, trivial⟩
theorem sl_Nets_around_6 (v0 : Nat) (v1 : Int32) (v2 : Int64) (M : Mem) (a0_ : Int64) (a1_ : Int32) (hk_v0 : kd v0 = 10 + 6) (hp_v1 : (0 : Int) ≤ v1.toInt ∧ v1.toInt ≤ (1 : Int)) (hJ_M : J M) (i0_ : (0 : Int) ≤ a1_.toInt) (i1_ : a1_.toInt ≤ (36 : Int)) : ∃ x, iter (lb_Nets_around_6 v0 v1 v2 M) FU (a0_, a1_) = some x ∧ (fun r : Int64 => True) x := by
  refine iter_r (fun s : Int64 × Int32 => (0 : Int) ≤ s.2.toInt ∧ s.2.toInt ≤ (36 : Int)) (fun s : Int64 × Int32 => (36 - s.2.toInt).toNat) (fun r : Int64 => True) ?_ FU (a0_, a1_) ⟨i0_, i1_⟩ (by show (36 - a1_.toInt).toNat < FU; rw [FU_v]; omega)
  clear i1_ i0_
  rintro ⟨a0_', a1_'⟩ ⟨i0_, i1_⟩
  dsimp only at i0_ i1_
  unfold lb_Nets_around_6
  dsimp only
  refine if_i (fun c => ?_) (fun c => ?_)
  · have c1 := c
    have d2 : (36 : Int) ≤ a1_'.toInt := lei.mp c1
    exact ⟨_, rfl, trivial⟩
  · have c3 := c
    have d4 : a1_'.toInt < (36 : Int) := nlei.mp c3
    refine if_i (fun c => ?_) (fun c => ?_)
    · have c5 := c
      have d6 : (lg_cmp ((v2 >>> (a1_'.toInt64 &&& 63)) &&& (1 : Int64)) (0 : Int64)).toInt = (0 : Int) := eqi.mp c5
      have q7 : (a1_' + (1 : Int32)).toInt = a1_'.toInt + (1 : Int) := add_ti rfl rfl (by omega) (by omega)
      exact ⟨_, rfl, ⟨(show (0 : Int) ≤ (a1_' + (1 : Int32)).toInt by omega), (show (a1_' + (1 : Int32)).toInt ≤ (36 : Int) by omega)⟩, show (36 - (a1_' + (1 : Int32)).toInt).toNat < (36 - a1_'.toInt).toNat by omega⟩
    · have c8 := c
      have d9 : ¬ (lg_cmp ((v2 >>> (a1_'.toInt64 &&& 63)) &&& (1 : Int64)) (0 : Int64)).toInt = (0 : Int) := neqi.mp c8
      have q10 : (v1 * (36 : Int32)).toInt = v1.toInt * (36 : Int) := mul_ti rfl rfl (by omega) (by omega)
      have q11 : ((v1 * (36 : Int32)) + a1_').toInt = (v1 * (36 : Int32)).toInt + a1_'.toInt := add_ti rfl rfl (by omega) (by omega)
      refine inb_i (by omega) (by omega) ?_
      have q12 : (a1_' + (1 : Int32)).toInt = a1_'.toInt + (1 : Int) := add_ti rfl rfl (by omega) (by omega)
      exact ⟨_, rfl, ⟨(show (0 : Int) ≤ (a1_' + (1 : Int32)).toInt by omega), (show (a1_' + (1 : Int32)).toInt ≤ (36 : Int) by omega)⟩, show (36 - (a1_' + (1 : Int32)).toInt).toNat < (36 - a1_'.toInt).toNat by omega⟩
theorem sf_Nets_around (v0 : Nat) (v1 : Int32) (v2 : Int64) (M : Mem) (hk_v0 : kd v0 = 10 + 6) (hp_v1 : (0 : Int) ≤ v1.toInt ∧ v1.toInt ≤ (1 : Int)) (hJ : J M) : ∃ r : Int64, f_Nets_around v0 v1 v2 M = some r ∧ (True) := by
  unfold f_Nets_around
  refine c_i hk_v0 ?_
  refine bind_i (sl_Nets_around_6 v0 v1 v2 M (0 : Int64) (0 : Int32) hk_v0 (⟨show (0 : Int) ≤ v1.toInt by omega, show v1.toInt ≤ (1 : Int) by omega⟩) hJ (show (0 : Int) ≤ (0 : Int32).toInt by decide) (show (0 : Int32).toInt ≤ (36 : Int) by decide)) (fun x3 _ q => ?_)
  exact ⟨x3, rfl, trivial⟩
theorem sl_Nets_measure_3 (v0 : Nat) (v1 : Int32) (v2 : Int32) (v3 : Nat) (a0_ : Int32) (N_ : Mem) (B_ : Mem) (hk_v0 : kd v0 = 10 + 6) (hp_v1 : (0 : Int) ≤ v1.toInt ∧ v1.toInt ≤ (1 : Int)) (hp_v2 : (0 : Int) ≤ v2.toInt ∧ v2.toInt ≤ (35 : Int)) (hk_v3 : FA v3) (hN : J N_) (hG : Gc 0 B_ N_) (i2_ : (0 : Int) ≤ a0_.toInt) (i3_ : a0_.toInt ≤ (36 : Int)) : ∃ x, iter (lb_Nets_measure_3 v0 v1 v2 v3) FU (a0_, N_) = some x ∧ (fun r : Mem => J r ∧ Gc 0 B_ r) x := by
  refine iter_r (fun s : Int32 × Mem => J s.2 ∧ Gc 0 B_ s.2 ∧ (0 : Int) ≤ s.1.toInt ∧ s.1.toInt ≤ (36 : Int)) (fun s : Int32 × Mem => (36 - s.1.toInt).toNat) (fun r : Mem => J r ∧ Gc 0 B_ r) ?_ FU (a0_, N_) ⟨hN, hG, i2_, i3_⟩ (by show (36 - a0_.toInt).toNat < FU; rw [FU_v]; omega)
  clear i3_ i2_ hG hN
  rintro ⟨a0_', N_'⟩ ⟨hN, hG, i2_, i3_⟩
  dsimp only at hN hG i2_ i3_
  unfold lb_Nets_measure_3
  dsimp only
  refine if_i (fun c => ?_) (fun c => ?_)
  · have c1 := c
    have d2 : (36 : Int) ≤ a0_'.toInt := lei.mp c1
    exact ⟨_, rfl, hN, hG⟩
  · have c3 := c
    have d4 : a0_'.toInt < (36 : Int) := nlei.mp c3
    have l5 := FA_ln hk_v3
    refine inb_i (by omega) (by omega) ?_
    refine mem_i (fun M1 e7 => ?_)
    have hJ8 : J M1 := by rw [e7]; exact Jw_far hN hk_v3 a0_'.toNatClampNeg (1000000 : Int32)
    have hG9 : Gc 0 B_ M1 := Gc_i hG e7 (cl_far hk_v3)
    have f10 : (M1.1 v3 a0_'.toNatClampNeg).toInt = (1000000 : Int) := by rw [e7, si_eq]; rfl
    clear e7
    have q11 : (a0_' + (1 : Int32)).toInt = a0_'.toInt + (1 : Int) := add_ti rfl rfl (by omega) (by omega)
    exact ⟨_, rfl, ⟨hJ8, hG9, (show (0 : Int) ≤ (a0_' + (1 : Int32)).toInt by omega), (show (a0_' + (1 : Int32)).toInt ≤ (36 : Int) by omega)⟩, show (36 - (a0_' + (1 : Int32)).toInt).toNat < (36 - a0_'.toInt).toNat by omega⟩
theorem sl_Nets_measure_51 (v0 : Nat) (v1 : Int32) (v3 : Nat) (v4 : Int64) (v6 : Int64) (v8 : Int32) (a0_ : Int32) (N_ : Mem) (B_ : Mem) (hk_v0 : kd v0 = 10 + 6) (hp_v1 : (0 : Int) ≤ v1.toInt ∧ v1.toInt ≤ (1 : Int)) (hk_v3 : FA v3) (hp_v8 : (0 : Int) ≤ v8.toInt ∧ v8.toInt ≤ (35 : Int)) (hN : J N_) (hG : Gc 0 B_ N_) (i2_ : (0 : Int) ≤ a0_.toInt) (i3_ : a0_.toInt ≤ (36 : Int)) : ∃ x, iter (lb_Nets_measure_51 v0 v1 v3 v4 v6 v8) FU (a0_, N_) = some x ∧ (fun r : Mem => J r ∧ Gc 0 B_ r) x := by
  refine iter_r (fun s : Int32 × Mem => J s.2 ∧ Gc 0 B_ s.2 ∧ (0 : Int) ≤ s.1.toInt ∧ s.1.toInt ≤ (36 : Int)) (fun s : Int32 × Mem => (36 - s.1.toInt).toNat) (fun r : Mem => J r ∧ Gc 0 B_ r) ?_ FU (a0_, N_) ⟨hN, hG, i2_, i3_⟩ (by show (36 - a0_.toInt).toNat < FU; rw [FU_v]; omega)
  clear i3_ i2_ hG hN
  rintro ⟨a0_', N_'⟩ ⟨hN, hG, i2_, i3_⟩
  dsimp only at hN hG i2_ i3_
  unfold lb_Nets_measure_51
  dsimp only
  refine if_i (fun c => ?_) (fun c => ?_)
  · have c1 := c
    have d2 : (36 : Int) ≤ a0_'.toInt := lei.mp c1
    exact ⟨_, rfl, hN, hG⟩
  · have c3 := c
    have d4 : a0_'.toInt < (36 : Int) := nlei.mp c3
    refine if_i (fun c => ?_) (fun c => ?_)
    · have c5 := c
      have d6 : (lg_cmp ((v6 >>> (a0_'.toInt64 &&& 63)) &&& (1 : Int64)) (0 : Int64)).toInt = (0 : Int) := eqi.mp c5
      have q7 : (a0_' + (1 : Int32)).toInt = a0_'.toInt + (1 : Int) := add_ti rfl rfl (by omega) (by omega)
      exact ⟨_, rfl, ⟨hN, hG, (show (0 : Int) ≤ (a0_' + (1 : Int32)).toInt by omega), (show (a0_' + (1 : Int32)).toInt ≤ (36 : Int) by omega)⟩, show (36 - (a0_' + (1 : Int32)).toInt).toNat < (36 - a0_'.toInt).toNat by omega⟩
    · have c8 := c
      have d9 : ¬ (lg_cmp ((v6 >>> (a0_'.toInt64 &&& 63)) &&& (1 : Int64)) (0 : Int64)).toInt = (0 : Int) := neqi.mp c8
      have l10 := FA_ln hk_v3
      refine inb_i (by omega) (by omega) ?_
      refine mem_i (fun M4 e12 => ?_)
      have hJ13 : J M4 := by rw [e12]; exact Jw_far hN hk_v3 a0_'.toNatClampNeg v8
      have hG14 : Gc 0 B_ M4 := Gc_i hG e12 (cl_far hk_v3)
      have f15 : (M4.1 v3 a0_'.toNatClampNeg).toInt = v8.toInt := by rw [e12, si_eq]
      clear e12
      have q16 : (a0_' + (1 : Int32)).toInt = a0_'.toInt + (1 : Int) := add_ti rfl rfl (by omega) (by omega)
      exact ⟨_, rfl, ⟨hJ13, hG14, (show (0 : Int) ≤ (a0_' + (1 : Int32)).toInt by omega), (show (a0_' + (1 : Int32)).toInt ≤ (36 : Int) by omega)⟩, show (36 - (a0_' + (1 : Int32)).toInt).toNat < (36 - a0_'.toInt).toNat by omega⟩
theorem sl_Nets_measure_34 (v0 : Nat) (v1 : Int32) (v3 : Nat) (a0_ : Int64) (a1_ : Int64) (a2_ : Int32) (N_ : Mem) (B_ : Mem) (hk_v0 : kd v0 = 10 + 6) (hp_v1 : (0 : Int) ≤ v1.toInt ∧ v1.toInt ≤ (1 : Int)) (hk_v3 : FA v3) (hN : J N_) (hG : Gc 0 B_ N_) (i2_ : (0 : Int) ≤ a2_.toInt) (i3_ : a2_.toInt ≤ (36 : Int)) : ∃ x, iter (lb_Nets_measure_34 v0 v1 v3) FU (a0_, a1_, a2_, N_) = some x ∧ (fun r : Mem => J r ∧ Gc 0 B_ r) x := by
  refine iter_r (fun s : Int64 × Int64 × Int32 × Mem => J s.2.2.2 ∧ Gc 0 B_ s.2.2.2 ∧ (0 : Int) ≤ s.2.2.1.toInt ∧ s.2.2.1.toInt ≤ (36 : Int)) (fun s : Int64 × Int64 × Int32 × Mem => (36 - s.2.2.1.toInt).toNat) (fun r : Mem => J r ∧ Gc 0 B_ r) ?_ FU (a0_, a1_, a2_, N_) ⟨hN, hG, i2_, i3_⟩ (by show (36 - a2_.toInt).toNat < FU; rw [FU_v]; omega)
  clear i3_ i2_ hG hN
  rintro ⟨a0_', a1_', a2_', N_'⟩ ⟨hN, hG, i2_, i3_⟩
  dsimp only at hN hG i2_ i3_
  unfold lb_Nets_measure_34
  dsimp only
  refine if_i (fun c => ?_) (fun c => ?_)
  · have c1 := c
    have d2 : (36 : Int) ≤ a2_'.toInt := lei.mp c1
    exact ⟨_, rfl, hN, hG⟩
  · have c3 := c
    have d4 : a2_'.toInt < (36 : Int) := nlei.mp c3
    refine if_i (fun c => ?_) (fun c => ?_)
    · have c5 := c
      have d6 : (lg_cmp a1_' (0 : Int64)).toInt = (0 : Int) := eqi.mp c5
      exact ⟨_, rfl, hN, hG⟩
    · have c7 := c
      have d8 : ¬ (lg_cmp a1_' (0 : Int64)).toInt = (0 : Int) := neqi.mp c7
      refine bind_i (sl_Nets_measure_51 v0 v1 v3 a0_' a1_' a2_' (0 : Int32) N_' B_ hk_v0 (⟨show (0 : Int) ≤ v1.toInt by omega, show v1.toInt ≤ (1 : Int) by omega⟩) hk_v3 (⟨show (0 : Int) ≤ a2_'.toInt by omega, show a2_'.toInt ≤ (35 : Int) by omega⟩) hN hG (show (0 : Int) ≤ (0 : Int32).toInt by decide) (show (0 : Int32).toInt ≤ (36 : Int) by decide)) (fun x7 _ q => ?_)
      obtain ⟨h9, h10⟩ := q
      refine bind_i (sf_Nets_around v0 v1 a1_' x7 hk_v0 (⟨show (0 : Int) ≤ v1.toInt by omega, show v1.toInt ≤ (1 : Int) by omega⟩) h9) (fun x8 _ q => ?_)
      have q11 : (a2_' + (1 : Int32)).toInt = a2_'.toInt + (1 : Int) := add_ti rfl rfl (by omega) (by omega)
      exact ⟨_, rfl, ⟨h9, h10, (show (0 : Int) ≤ (a2_' + (1 : Int32)).toInt by omega), (show (a2_' + (1 : Int32)).toInt ≤ (36 : Int) by omega)⟩, show (36 - (a2_' + (1 : Int32)).toInt).toNat < (36 - a2_'.toInt).toNat by omega⟩
theorem sf_Nets_measure (v0 : Nat) (v1 : Int32) (v2 : Int32) (v3 : Nat) (M : Mem) (hk_v0 : kd v0 = 10 + 6) (hp_v1 : (0 : Int) ≤ v1.toInt ∧ v1.toInt ≤ (1 : Int)) (hp_v2 : (0 : Int) ≤ v2.toInt ∧ v2.toInt ≤ (35 : Int)) (hk_v3 : FA v3) (hJ : J M) : ∃ r : Mem, f_Nets_measure v0 v1 v2 v3 M = some r ∧ (J r ∧ Gc 0 M r) := by
  unfold f_Nets_measure
  refine c_i hk_v0 ?_
  refine c_i (FA_kd hk_v3) ?_
  refine bind_i (sl_Nets_measure_3 v0 v1 v2 v3 (0 : Int32) M M hk_v0 (⟨show (0 : Int) ≤ v1.toInt by omega, show v1.toInt ≤ (1 : Int) by omega⟩) (⟨show (0 : Int) ≤ v2.toInt by omega, show v2.toInt ≤ (35 : Int) by omega⟩) hk_v3 hJ Gc_r (show (0 : Int) ≤ (0 : Int32).toInt by decide) (show (0 : Int32).toInt ≤ (36 : Int) by decide)) (fun x3 _ q => ?_)
  obtain ⟨h1, h2⟩ := q
  refine bind_i (sl_Nets_measure_34 v0 v1 v3 ((1 : Int64) <<< (v2.toInt64 &&& 63)) ((1 : Int64) <<< (v2.toInt64 &&& 63)) (0 : Int32) x3 M hk_v0 (⟨show (0 : Int) ≤ v1.toInt by omega, show v1.toInt ≤ (1 : Int) by omega⟩) hk_v3 h1 h2 (show (0 : Int) ≤ (0 : Int32).toInt by decide) (show (0 : Int32).toInt ≤ (36 : Int) by decide)) (fun x11 _ q => ?_)
  obtain ⟨h3, h4⟩ := q
  exact ⟨x11, rfl, h3, h4⟩
