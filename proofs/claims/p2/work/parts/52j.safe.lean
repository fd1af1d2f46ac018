/-! safety of the class, 10 -/
theorem sf_Clock_move (v1 : Int32) (v2 : Nat) (v4 : Nat) (M : Mem) (hp_v1 : (0 : Int) ≤ v1.toInt ∧ v1.toInt ≤ (7 : Int)) (hk_v2 : kd v2 = 10 + 7) (hk_v4 : kd v4 = 10 + 6) (hJ : J M) : ∃ r : Mem, f_Clock_move v1 v2 v4 M = some r ∧ (J r) := by
  unfold f_Clock_move
  refine c_i hk_v2 ?_
  refine c_i hk_v4 ?_
  refine inb_i (by omega) (by omega) ?_
  refine bind_i (sf_Crowd_stepAt v1 (M.1 (rf v2 2) v1.toNatClampNeg) M hJ) (fun x1 _ q => ?_)
  refine inb_i (by omega) (by omega) ?_
  refine inb_i (by omega) (by omega) ?_
  have r1 := Jr_scene0 hJ hk_v2 v1.toNatClampNeg
  refine bind_i (sf_Nets_toward v4 (M.1 (rf v2 1) v1.toNatClampNeg) (M.1 (rf v2 0) v1.toNatClampNeg) x1 M hk_v4 (⟨show (0 : Int) ≤ (M.1 (rf v2 0) v1.toNatClampNeg).toInt by omega, show (M.1 (rf v2 0) v1.toNatClampNeg).toInt ≤ (35 : Int) by omega⟩) hJ) (fun x2 _ q => ?_)
  obtain ⟨h2, h3⟩ := q
  refine if_i (fun c => ?_) (fun c => ?_)
  · have c4 := c
    have d5 : x2.toInt = (-1 : Int) := eqi.mp c4
    unfold j_Clock_move_71
    refine inb_i (by omega) (by omega) ?_
    refine bind_i (sf_Crowd_placeBehind v1 (M.1 (rf v2 2) v1.toNatClampNeg) M hJ) (fun x3 _ q => ?_)
    refine inb_i (by omega) (by omega) ?_
    refine mem_i (fun M4 e7 => ?_)
    have hJ8 : J M4 := by rw [e7]; exact Jw_scene2 hJ hk_v2 v1.toNatClampNeg x3
    clear e7
    exact ⟨M4, rfl, hJ8⟩
  · have c9 := c
    have d10 : ¬ x2.toInt = (-1 : Int) := neqi.mp c9
    refine inb_i (by omega) (by omega) ?_
    refine if_i (fun c => ?_) (fun c => ?_)
    · have c11 := c
      have d12 : x2.toInt = (M.1 (rf v2 0) v1.toNatClampNeg).toInt := eqi.mp c11
      unfold j_Clock_move_71
      refine inb_i (by omega) (by omega) ?_
      refine bind_i (sf_Crowd_placeBehind v1 (M.1 (rf v2 2) v1.toNatClampNeg) M hJ) (fun x3 _ q => ?_)
      refine inb_i (by omega) (by omega) ?_
      refine mem_i (fun M4 e14 => ?_)
      have hJ15 : J M4 := by rw [e14]; exact Jw_scene2 hJ hk_v2 v1.toNatClampNeg x3
      clear e14
      exact ⟨M4, rfl, hJ15⟩
    · have c16 := c
      have d17 : ¬ x2.toInt = (M.1 (rf v2 0) v1.toNatClampNeg).toInt := neqi.mp c16
      refine inb_i (by omega) (by omega) ?_
      refine mem_i (fun M5 e19 => ?_)
      have hJ20 : J M5 := by rw [e19]; exact Jw_scene0 hJ hk_v2 v1.toNatClampNeg x2 (show (0 : Int) ≤ x2.toInt by omega) (show x2.toInt ≤ (35 : Int) by omega)
      have f21 : (M5.1 (rf v2 0) v1.toNatClampNeg).toInt = x2.toInt := by rw [e19, si_eq]
      clear e19
      refine mem_i (fun M6 e23 => ?_)
      have hJ24 : J M6 := by rw [e23]; exact Jw_any ok_45 hJ20 0 ((M5.1 45 0) ||| ((1 : Int32) <<< (v1 &&& 31)))
      clear e23
      unfold j_Clock_move_71
      refine inb_i (by omega) (by omega) ?_
      refine bind_i (sf_Crowd_placeBehind v1 (M6.1 (rf v2 2) v1.toNatClampNeg) M6 hJ24) (fun x3 _ q => ?_)
      refine inb_i (by omega) (by omega) ?_
      refine mem_i (fun M4 e26 => ?_)
      have hJ27 : J M4 := by rw [e26]; exact Jw_scene2 hJ24 hk_v2 v1.toNatClampNeg x3
      clear e26
      exact ⟨M4, rfl, hJ27⟩
theorem sl_Clock_greet_26 (v1 : Int32) (v2 : Nat) (a0_ : Int32) (N_ : Mem) (hp_v1 : (0 : Int) ≤ v1.toInt ∧ v1.toInt ≤ (7 : Int)) (hk_v2 : kd v2 = 10 + 7) (hN : J N_) (i1_ : (0 : Int) ≤ a0_.toInt) (i2_ : a0_.toInt ≤ (8 : Int)) : ∃ x, iter (lb_Clock_greet_26 v1 v2) FU (a0_, N_) = some x ∧ (fun r : Mem => J r) x := by
  refine iter_r (fun s : Int32 × Mem => J s.2 ∧ (0 : Int) ≤ s.1.toInt ∧ s.1.toInt ≤ (8 : Int)) (fun s : Int32 × Mem => (8 - s.1.toInt).toNat) (fun r : Mem => J r) ?_ FU (a0_, N_) ⟨hN, i1_, i2_⟩ (by show (8 - a0_.toInt).toNat < FU; rw [FU_v]; omega)
  clear i2_ i1_ hN
  rintro ⟨a0_', N_'⟩ ⟨hN, i1_, i2_⟩
  dsimp only at hN i1_ i2_
  unfold lb_Clock_greet_26
  dsimp only
  refine if_i (fun c => ?_) (fun c => ?_)
  · have c1 := c
    have r2 := Jr_6_4 hN
    have d3 : (N_'.1 6 4).toInt ≤ a0_'.toInt := lei.mp c1
    exact ⟨_, rfl, hN⟩
  · have c4 := c
    have r5 := Jr_6_4 hN
    have d6 : a0_'.toInt < (N_'.1 6 4).toInt := nlei.mp c4
    refine bind_i (sf_Crowd_woman a0_' N_' hN) (fun x3 _ q => ?_)
    obtain ⟨h7, h8⟩ := q
    refine if_i (fun c => ?_) (fun c => ?_)
    · have c9 := c
      have d10 : x3.toInt = (0 : Int) := eqi.mp c9
      have q11 : (a0_' + (1 : Int32)).toInt = a0_'.toInt + (1 : Int) := add_ti rfl rfl (by omega) (by omega)
      exact ⟨_, rfl, ⟨hN, (show (0 : Int) ≤ (a0_' + (1 : Int32)).toInt by omega), (show (a0_' + (1 : Int32)).toInt ≤ (8 : Int) by omega)⟩, show (8 - (a0_' + (1 : Int32)).toInt).toNat < (8 - a0_'.toInt).toNat by omega⟩
    · have c12 := c
      have d13 : ¬ x3.toInt = (0 : Int) := neqi.mp c12
      refine inb_i (by omega) (by omega) ?_
      refine inb_i (by omega) (by omega) ?_
      refine if_i (fun c => ?_) (fun c => ?_)
      · have c14 := c
        have r15 := Jr_scene0 hN hk_v2 a0_'.toNatClampNeg
        have r16 := Jr_scene0 hN hk_v2 v1.toNatClampNeg
        have d17 : (N_'.1 (rf v2 0) a0_'.toNatClampNeg).toInt = (N_'.1 (rf v2 0) v1.toNatClampNeg).toInt := eqi.mp c14
        refine bind_i (sf_Scene_addMeeting v2 v1 a0_' N_' hk_v2 (⟨show (0 : Int) ≤ v1.toInt by omega, show v1.toInt ≤ (7 : Int) by omega⟩) (⟨show (0 : Int) ≤ a0_'.toInt by omega, show a0_'.toInt ≤ (7 : Int) by omega⟩) hN) (fun x4 _ q => ?_)
        have h18 := q
        refine mem_i (fun M5 e20 => ?_)
        have hJ21 : J M5 := by rw [e20]; exact Jw_any ok_45 h18 2 ((x4.1 45 2) + (1 : Int32))
        clear e20
        have q22 : (a0_' + (1 : Int32)).toInt = a0_'.toInt + (1 : Int) := add_ti rfl rfl (by omega) (by omega)
        exact ⟨_, rfl, ⟨hJ21, (show (0 : Int) ≤ (a0_' + (1 : Int32)).toInt by omega), (show (a0_' + (1 : Int32)).toInt ≤ (8 : Int) by omega)⟩, show (8 - (a0_' + (1 : Int32)).toInt).toNat < (8 - a0_'.toInt).toNat by omega⟩
      · have c23 := c
        have r24 := Jr_scene0 hN hk_v2 a0_'.toNatClampNeg
        have r25 := Jr_scene0 hN hk_v2 v1.toNatClampNeg
        have d26 : ¬ (N_'.1 (rf v2 0) a0_'.toNatClampNeg).toInt = (N_'.1 (rf v2 0) v1.toNatClampNeg).toInt := neqi.mp c23
        have q27 : (a0_' + (1 : Int32)).toInt = a0_'.toInt + (1 : Int) := add_ti rfl rfl (by omega) (by omega)
        exact ⟨_, rfl, ⟨hN, (show (0 : Int) ≤ (a0_' + (1 : Int32)).toInt by omega), (show (a0_' + (1 : Int32)).toInt ≤ (8 : Int) by omega)⟩, show (8 - (a0_' + (1 : Int32)).toInt).toNat < (8 - a0_'.toInt).toNat by omega⟩
theorem sf_Clock_greet (v1 : Int32) (v2 : Nat) (M : Mem) (hp_v1 : (0 : Int) ≤ v1.toInt ∧ v1.toInt ≤ (7 : Int)) (hk_v2 : kd v2 = 10 + 7) (hJ : J M) : ∃ r : Mem, f_Clock_greet v1 v2 M = some r ∧ (J r) := by
  unfold f_Clock_greet
  refine c_i hk_v2 ?_
  refine bind_i (sf_Crowd_woman v1 M hJ) (fun x1 _ q => ?_)
  obtain ⟨h1, h2⟩ := q
  refine if_i (fun c => ?_) (fun c => ?_)
  · have c3 := c
    have d4 : x1.toInt = (0 : Int) := eqi.mp c3
    refine inb_i (by omega) (by omega) ?_
    have r5 := Jr_scene0 hJ hk_v2 v1.toNatClampNeg
    refine bind_i (sf_Ground_isStair (M.1 (rf v2 0) v1.toNatClampNeg) M hJ) (fun x2 _ q => ?_)
    obtain ⟨h6, h7, h8⟩ := q
    refine if_i (fun c => ?_) (fun c => ?_)
    · have c9 := c
      have d10 : x2.toInt = (0 : Int) := eqi.mp c9
      exact ⟨M, rfl, hJ⟩
    · have c11 := c
      have d12 : ¬ x2.toInt = (0 : Int) := neqi.mp c11
      refine bind_i (sl_Clock_greet_26 v1 v2 (0 : Int32) M (⟨show (0 : Int) ≤ v1.toInt by omega, show v1.toInt ≤ (7 : Int) by omega⟩) hk_v2 hJ (show (0 : Int) ≤ (0 : Int32).toInt by decide) (show (0 : Int32).toInt ≤ (8 : Int) by decide)) (fun x9 _ q => ?_)
      have h13 := q
      exact ⟨x9, rfl, h13⟩
  · have c14 := c
    have d15 : ¬ x1.toInt = (0 : Int) := neqi.mp c14
    exact ⟨M, rfl, hJ⟩
theorem sl_Clock_hearers_68 (v2 : Nat) (v5 : Int32) (M : Mem) (a0_ : Int32) (a1_ : Int32) (hk_v2 : kd v2 = 10 + 7) (hp_v5 : (0 : Int) ≤ v5.toInt ∧ v5.toInt ≤ (35 : Int)) (hJ_M : J M) (i0_ : (0 : Int) ≤ a1_.toInt) (i1_ : a1_.toInt ≤ (4 : Int)) : ∃ x, iter (lb_Clock_hearers_68 v2 v5 M) FU (a0_, a1_) = some x ∧ (fun r : Int32 => True) x := by
  refine iter_r (fun s : Int32 × Int32 => (0 : Int) ≤ s.2.toInt ∧ s.2.toInt ≤ (4 : Int)) (fun s : Int32 × Int32 => (4 - s.2.toInt).toNat) (fun r : Int32 => True) ?_ FU (a0_, a1_) ⟨i0_, i1_⟩ (by show (4 - a1_.toInt).toNat < FU; rw [FU_v]; omega)
  clear i1_ i0_
  rintro ⟨a0_', a1_'⟩ ⟨i0_, i1_⟩
  dsimp only at i0_ i1_
  unfold lb_Clock_hearers_68
  dsimp only
  refine if_i (fun c => ?_) (fun c => ?_)
  · have c1 := c
    have d2 : (4 : Int) ≤ a1_'.toInt := lei.mp c1
    exact ⟨_, rfl, trivial⟩
  · have c3 := c
    have d4 : a1_'.toInt < (4 : Int) := nlei.mp c3
    refine bind_i (sf_Ground_beside v5 a1_' M hJ_M) (fun x3 _ q => ?_)
    obtain ⟨h5, h6, h7⟩ := q
    have r8 := Jr_6_4 hJ_M
    refine bind_i (sf_Scene_standing v2 (0 : Int32) x3 (M.1 6 4) M hk_v2 (⟨show (0 : Int) ≤ (M.1 6 4).toInt by omega, show (M.1 6 4).toInt ≤ (8 : Int) by omega⟩) hJ_M) (fun x4 _ q => ?_)
    have q9 : (a1_' + (1 : Int32)).toInt = a1_'.toInt + (1 : Int) := add_ti rfl rfl (by omega) (by omega)
    exact ⟨_, rfl, ⟨(show (0 : Int) ≤ (a1_' + (1 : Int32)).toInt by omega), (show (a1_' + (1 : Int32)).toInt ≤ (4 : Int) by omega)⟩, show (4 - (a1_' + (1 : Int32)).toInt).toNat < (4 - a1_'.toInt).toNat by omega⟩
theorem sf_Clock_hearers (v1 : Int32) (v2 : Nat) (M : Mem) (hp_v1 : (0 : Int) ≤ v1.toInt ∧ v1.toInt ≤ (7 : Int)) (hk_v2 : kd v2 = 10 + 7) (hJ : J M) : ∃ r : Int32, f_Clock_hearers v1 v2 M = some r ∧ (True) := by
  unfold f_Clock_hearers
  refine c_i hk_v2 ?_
  refine inb_i (by omega) (by omega) ?_
  refine inb_i (by omega) (by omega) ?_
  have r1 := Jr_6_4 hJ
  refine bind_i (sf_Scene_standing v2 (M.1 (rf v2 1) v1.toNatClampNeg) (M.1 (rf v2 0) v1.toNatClampNeg) (M.1 6 4) M hk_v2 (⟨show (0 : Int) ≤ (M.1 6 4).toInt by omega, show (M.1 6 4).toInt ≤ (8 : Int) by omega⟩) hJ) (fun x1 _ q => ?_)
  have r2 := Jr_scene0 hJ hk_v2 v1.toNatClampNeg
  refine bind_i (sf_Ground_isStair (M.1 (rf v2 0) v1.toNatClampNeg) M hJ) (fun x2 _ q => ?_)
  obtain ⟨h3, h4, h5⟩ := q
  refine if_i (fun c => ?_) (fun c => ?_)
  · have c6 := c
    have d7 : x2.toInt = (0 : Int) := eqi.mp c6
    unfold j_Clock_hearers_59
    refine if_i (fun c => ?_) (fun c => ?_)
    · have c8 := c
      have r9 := Jr_scene1 hJ hk_v2 v1.toNatClampNeg
      have d10 : (M.1 (rf v2 1) v1.toNatClampNeg).toInt = (1 : Int) := eqi.mp c8
      refine bind_i (sl_Clock_hearers_68 v2 (M.1 (rf v2 0) v1.toNatClampNeg) M x1 (0 : Int32) hk_v2 (⟨show (0 : Int) ≤ (M.1 (rf v2 0) v1.toNatClampNeg).toInt by omega, show (M.1 (rf v2 0) v1.toNatClampNeg).toInt ≤ (35 : Int) by omega⟩) hJ (show (0 : Int) ≤ (0 : Int32).toInt by decide) (show (0 : Int32).toInt ≤ (4 : Int) by decide)) (fun x6 _ q => ?_)
      exact ⟨x6, rfl, trivial⟩
    · have c11 := c
      have r12 := Jr_scene1 hJ hk_v2 v1.toNatClampNeg
      have d13 : ¬ (M.1 (rf v2 1) v1.toNatClampNeg).toInt = (1 : Int) := neqi.mp c11
      exact ⟨x1, rfl, trivial⟩
  · have c14 := c
    have d15 : ¬ x2.toInt = (0 : Int) := neqi.mp c14
    refine bind_i (sf_Scene_standing v2 ((1 : Int32) - (M.1 (rf v2 1) v1.toNatClampNeg)) (M.1 (rf v2 0) v1.toNatClampNeg) (M.1 6 4) M hk_v2 (⟨show (0 : Int) ≤ (M.1 6 4).toInt by omega, show (M.1 6 4).toInt ≤ (8 : Int) by omega⟩) hJ) (fun x8 _ q => ?_)
    unfold j_Clock_hearers_59
    refine if_i (fun c => ?_) (fun c => ?_)
    · have c16 := c
      have r17 := Jr_scene1 hJ hk_v2 v1.toNatClampNeg
      have d18 : (M.1 (rf v2 1) v1.toNatClampNeg).toInt = (1 : Int) := eqi.mp c16
      refine bind_i (sl_Clock_hearers_68 v2 (M.1 (rf v2 0) v1.toNatClampNeg) M (x1 ||| x8) (0 : Int32) hk_v2 (⟨show (0 : Int) ≤ (M.1 (rf v2 0) v1.toNatClampNeg).toInt by omega, show (M.1 (rf v2 0) v1.toNatClampNeg).toInt ≤ (35 : Int) by omega⟩) hJ (show (0 : Int) ≤ (0 : Int32).toInt by decide) (show (0 : Int32).toInt ≤ (4 : Int) by decide)) (fun x6 _ q => ?_)
      exact ⟨x6, rfl, trivial⟩
    · have c19 := c
      have r20 := Jr_scene1 hJ hk_v2 v1.toNatClampNeg
      have d21 : ¬ (M.1 (rf v2 1) v1.toNatClampNeg).toInt = (1 : Int) := neqi.mp c19
      exact ⟨(x1 ||| x8), rfl, trivial⟩
theorem sl_Clock_pass_8 (v1 : Nat) (v5 : Nat) (a0_ : Int32) (N_ : Mem) (hk_v1 : kd v1 = 10 + 7) (hk_v5 : kd v5 = 10 + 6) (hN : J N_) (i1_ : (0 : Int) ≤ a0_.toInt) (i2_ : a0_.toInt ≤ (8 : Int)) : ∃ x, iter (lb_Clock_pass_8 v1 v5) FU (a0_, N_) = some x ∧ (fun r : Mem => J r) x := by
  refine iter_r (fun s : Int32 × Mem => J s.2 ∧ (0 : Int) ≤ s.1.toInt ∧ s.1.toInt ≤ (8 : Int)) (fun s : Int32 × Mem => (8 - s.1.toInt).toNat) (fun r : Mem => J r) ?_ FU (a0_, N_) ⟨hN, i1_, i2_⟩ (by show (8 - a0_.toInt).toNat < FU; rw [FU_v]; omega)
  clear i2_ i1_ hN
  rintro ⟨a0_', N_'⟩ ⟨hN, i1_, i2_⟩
  dsimp only at hN i1_ i2_
  unfold lb_Clock_pass_8
  dsimp only
  refine if_i (fun c => ?_) (fun c => ?_)
  · have c1 := c
    have r2 := Jr_6_4 hN
    have d3 : (N_'.1 6 4).toInt ≤ a0_'.toInt := lei.mp c1
    exact ⟨_, rfl, hN⟩
  · have c4 := c
    have r5 := Jr_6_4 hN
    have d6 : a0_'.toInt < (N_'.1 6 4).toInt := nlei.mp c4
    refine bind_i (sf_Law_goes a0_' v1 N_' (⟨show (0 : Int) ≤ a0_'.toInt by omega, show a0_'.toInt ≤ (7 : Int) by omega⟩) hk_v1 hN) (fun x2 _ q => ?_)
    obtain ⟨h7, h8, h9⟩ := q
    refine if_i (fun c => ?_) (fun c => ?_)
    · have c10 := c
      have d11 : x2.1.toInt = (0 : Int) := eqi.mp c10
      have q12 : (a0_' + (1 : Int32)).toInt = a0_'.toInt + (1 : Int) := add_ti rfl rfl (by omega) (by omega)
      exact ⟨_, rfl, ⟨h7, (show (0 : Int) ≤ (a0_' + (1 : Int32)).toInt by omega), (show (a0_' + (1 : Int32)).toInt ≤ (8 : Int) by omega)⟩, show (8 - (a0_' + (1 : Int32)).toInt).toNat < (8 - a0_'.toInt).toNat by omega⟩
    · have c13 := c
      have d14 : ¬ x2.1.toInt = (0 : Int) := neqi.mp c13
      refine bind_i (sf_Clock_move a0_' v1 v5 x2.2 (⟨show (0 : Int) ≤ a0_'.toInt by omega, show a0_'.toInt ≤ (7 : Int) by omega⟩) hk_v1 hk_v5 h7) (fun x3 _ q => ?_)
      have h15 := q
      have q16 : (a0_' + (1 : Int32)).toInt = a0_'.toInt + (1 : Int) := add_ti rfl rfl (by omega) (by omega)
      exact ⟨_, rfl, ⟨h15, (show (0 : Int) ≤ (a0_' + (1 : Int32)).toInt by omega), (show (a0_' + (1 : Int32)).toInt ≤ (8 : Int) by omega)⟩, show (8 - (a0_' + (1 : Int32)).toInt).toNat < (8 - a0_'.toInt).toNat by omega⟩
theorem sl_Clock_pass_54 (v1 : Nat) (a0_ : Int32) (N_ : Mem) (hk_v1 : kd v1 = 10 + 7) (hN : J N_) (i1_ : (0 : Int) ≤ a0_.toInt) (i2_ : a0_.toInt ≤ (8 : Int)) : ∃ x, iter (lb_Clock_pass_54 v1) FU (a0_, N_) = some x ∧ (fun r : Mem => J r) x := by
  refine iter_r (fun s : Int32 × Mem => J s.2 ∧ (0 : Int) ≤ s.1.toInt ∧ s.1.toInt ≤ (8 : Int)) (fun s : Int32 × Mem => (8 - s.1.toInt).toNat) (fun r : Mem => J r) ?_ FU (a0_, N_) ⟨hN, i1_, i2_⟩ (by show (8 - a0_.toInt).toNat < FU; rw [FU_v]; omega)
  clear i2_ i1_ hN
  rintro ⟨a0_', N_'⟩ ⟨hN, i1_, i2_⟩
  dsimp only at hN i1_ i2_
  unfold lb_Clock_pass_54
  dsimp only
  refine if_i (fun c => ?_) (fun c => ?_)
  · have c1 := c
    have r2 := Jr_6_4 hN
    have d3 : (N_'.1 6 4).toInt ≤ a0_'.toInt := lei.mp c1
    exact ⟨_, rfl, hN⟩
  · have c4 := c
    have r5 := Jr_6_4 hN
    have d6 : a0_'.toInt < (N_'.1 6 4).toInt := nlei.mp c4
    refine bind_i (sf_Clock_greet a0_' v1 N_' (⟨show (0 : Int) ≤ a0_'.toInt by omega, show a0_'.toInt ≤ (7 : Int) by omega⟩) hk_v1 hN) (fun x8 _ q => ?_)
    have h7 := q
    have q8 : (a0_' + (1 : Int32)).toInt = a0_'.toInt + (1 : Int) := add_ti rfl rfl (by omega) (by omega)
    exact ⟨_, rfl, ⟨h7, (show (0 : Int) ≤ (a0_' + (1 : Int32)).toInt by omega), (show (a0_' + (1 : Int32)).toInt ≤ (8 : Int) by omega)⟩, show (8 - (a0_' + (1 : Int32)).toInt).toNat < (8 - a0_'.toInt).toNat by omega⟩
theorem sl_Clock_pass_87 (v1 : Nat) (v6 : Int32) (a0_ : Int32) (N_ : Mem) (hk_v1 : kd v1 = 10 + 7) (hN : J N_) (i1_ : (0 : Int) ≤ a0_.toInt) (i2_ : a0_.toInt ≤ (8 : Int)) : ∃ x, iter (lb_Clock_pass_87 v1 v6) FU (a0_, N_) = some x ∧ (fun r : Mem => J r) x := by
  refine iter_r (fun s : Int32 × Mem => J s.2 ∧ (0 : Int) ≤ s.1.toInt ∧ s.1.toInt ≤ (8 : Int)) (fun s : Int32 × Mem => (8 - s.1.toInt).toNat) (fun r : Mem => J r) ?_ FU (a0_, N_) ⟨hN, i1_, i2_⟩ (by show (8 - a0_.toInt).toNat < FU; rw [FU_v]; omega)
  clear i2_ i1_ hN
  rintro ⟨a0_', N_'⟩ ⟨hN, i1_, i2_⟩
  dsimp only at hN i1_ i2_
  unfold lb_Clock_pass_87
  dsimp only
  refine if_i (fun c => ?_) (fun c => ?_)
  · have c1 := c
    have r2 := Jr_6_4 hN
    have d3 : (N_'.1 6 4).toInt ≤ a0_'.toInt := lei.mp c1
    exact ⟨_, rfl, hN⟩
  · have c4 := c
    have r5 := Jr_6_4 hN
    have d6 : a0_'.toInt < (N_'.1 6 4).toInt := nlei.mp c4
    refine if_i (fun c => ?_) (fun c => ?_)
    · have c7 := c
      have q8 : (0 : Int) ≤ ((v6 >>> (a0_' &&& 31)) &&& (1 : Int32)).toInt ∧ ((v6 >>> (a0_' &&& 31)) &&& (1 : Int32)).toInt ≤ 1 := and_rng (by decide)
      have d9 : ((v6 >>> (a0_' &&& 31)) &&& (1 : Int32)).toInt = (0 : Int) := eqi.mp c7
      have q10 : (a0_' + (1 : Int32)).toInt = a0_'.toInt + (1 : Int) := add_ti rfl rfl (by omega) (by omega)
      exact ⟨_, rfl, ⟨hN, (show (0 : Int) ≤ (a0_' + (1 : Int32)).toInt by omega), (show (a0_' + (1 : Int32)).toInt ≤ (8 : Int) by omega)⟩, show (8 - (a0_' + (1 : Int32)).toInt).toNat < (8 - a0_'.toInt).toNat by omega⟩
    · have c11 := c
      have q12 : (0 : Int) ≤ ((v6 >>> (a0_' &&& 31)) &&& (1 : Int32)).toInt ∧ ((v6 >>> (a0_' &&& 31)) &&& (1 : Int32)).toInt ≤ 1 := and_rng (by decide)
      have d13 : ¬ ((v6 >>> (a0_' &&& 31)) &&& (1 : Int32)).toInt = (0 : Int) := neqi.mp c11
      refine bind_i (sf_Clock_hearers a0_' v1 N_' (⟨show (0 : Int) ≤ a0_'.toInt by omega, show a0_'.toInt ≤ (7 : Int) by omega⟩) hk_v1 hN) (fun x11 _ q => ?_)
      refine mem_i (fun M12 e15 => ?_)
      have hJ16 : J M12 := by rw [e15]; exact Jw_scene hN hk_v1 8 ((N_'.1 v1 8) ||| x11)
      clear e15
      have q17 : (a0_' + (1 : Int32)).toInt = a0_'.toInt + (1 : Int) := add_ti rfl rfl (by omega) (by omega)
      exact ⟨_, rfl, ⟨hJ16, (show (0 : Int) ≤ (a0_' + (1 : Int32)).toInt by omega), (show (a0_' + (1 : Int32)).toInt ≤ (8 : Int) by omega)⟩, show (8 - (a0_' + (1 : Int32)).toInt).toNat < (8 - a0_'.toInt).toNat by omega⟩
theorem sf_Clock_pass (v1 : Nat) (v5 : Nat) (M : Mem) (hk_v1 : kd v1 = 10 + 7) (hk_v5 : kd v5 = 10 + 6) (hJ : J M) : ∃ r : Mem, f_Clock_pass v1 v5 M = some r ∧ (J r) := by
  unfold f_Clock_pass
  refine c_i hk_v1 ?_
  refine c_i hk_v5 ?_
  refine mem_i (fun M1 e2 => ?_)
  have hJ3 : J M1 := by rw [e2]; exact Jw_any ok_45 hJ 0 (0 : Int32)
  have f4 : (M1.1 45 0).toInt = (0 : Int) := by rw [e2, si_eq]; rfl
  clear e2
  refine bind_i (sl_Clock_pass_8 v1 v5 (0 : Int32) M1 hk_v1 hk_v5 hJ3 (show (0 : Int) ≤ (0 : Int32).toInt by decide) (show (0 : Int32).toInt ≤ (8 : Int) by decide)) (fun x6 _ q => ?_)
  have h5 := q
  refine mem_i (fun M7 e7 => ?_)
  have hJ8 : J M7 := by rw [e7]; exact Jw_any ok_45 h5 2 (0 : Int32)
  have f9 : (M7.1 45 2).toInt = (0 : Int) := by rw [e7, si_eq]; rfl
  clear e7
  refine bind_i (sl_Clock_pass_54 v1 (0 : Int32) M7 hk_v1 hJ8 (show (0 : Int) ≤ (0 : Int32).toInt by decide) (show (0 : Int32).toInt ≤ (8 : Int) by decide)) (fun x10 _ q => ?_)
  have h10 := q
  refine bind_i (sl_Clock_pass_87 v1 (x10.1 v1 8) (0 : Int32) x10 hk_v1 h10 (show (0 : Int) ≤ (0 : Int32).toInt by decide) (show (0 : Int32).toInt ≤ (8 : Int) by decide)) (fun x15 _ q => ?_)
  have h11 := q
  refine mem_i (fun M16 e13 => ?_)
  have hJ14 : J M16 := by rw [e13]; exact Jw_any ok_45 h11 1 ((x15.1 v1 8) &&& ((x10.1 v1 8) ^^^ (-1 : Int32)))
  clear e13
  refine mem_i (fun M17 e16 => ?_)
  have hJ17 : J M17 := by rw [e16]; exact Jw_scene hJ14 hk_v1 7 ((M16.1 v1 7) + (1 : Int32))
  clear e16
  refine bind_i (sf_JInteger_bitCount (M17.1 45 0)) (fun x18 _ q => ?_)
  obtain ⟨h18, h19⟩ := q
  refine mem_i (fun M19 e21 => ?_)
  have hJ22 : J M19 := by rw [e21]; exact Jw_any ok_45 hJ17 3 ((M17.1 45 3) + x18)
  clear e21
  refine mem_i (fun M20 e24 => ?_)
  have hJ25 : J M20 := by rw [e24]; exact Jw_any ok_45 hJ22 4 ((M19.1 45 4) + (M19.1 45 2))
  clear e24
  exact ⟨M20, rfl, hJ25⟩
theorem sf_Clock_reset (M : Mem) (hJ : J M) : ∃ r : Mem, f_Clock_reset M = some r ∧ (J r) := by
  unfold f_Clock_reset
  refine mem_i (fun M1 e2 => ?_)
  have hJ3 : J M1 := by rw [e2]; exact Jw_any ok_45 hJ 3 (0 : Int32)
  have f4 : (M1.1 45 3).toInt = (0 : Int) := by rw [e2, si_eq]; rfl
  clear e2
  refine mem_i (fun M2 e6 => ?_)
  have hJ7 : J M2 := by rw [e6]; exact Jw_any ok_45 hJ3 4 (0 : Int32)
  have f8 : (M2.1 45 3).toInt = (M1.1 45 3).toInt := by rw [e6]; rw [si_ne (by exact fun e => absurd e.2 (by decide))]
  have f9 : (M2.1 45 4).toInt = (0 : Int) := by rw [e6, si_eq]; rfl
  clear e6
  exact ⟨M2, rfl, hJ7⟩
theorem sf_Acts_add (v1 : Int32) (v2 : Int32) (v3 : Int32) (M : Mem) (hJ : J M) : ∃ r : Mem, f_Acts_add v1 v2 v3 M = some r ∧ (J r) := by
  unfold f_Acts_add
  refine if_i (fun c => ?_) (fun c => ?_)
  · have c1 := c
    have r2 := Jr_147_3 hJ
    have d3 : (M.1 147 3).toInt < (0 : Int) := lti.mp c1
    exfalso; omega
  · have c4 := c
    have r5 := Jr_147_3 hJ
    have d6 : (0 : Int) ≤ (M.1 147 3).toInt := nlti.mp c4
    refine if_i (fun c => ?_) (fun c => ?_)
    · have c7 := c
      have d8 : (32 : Int) ≤ (M.1 147 3).toInt := lei.mp c7
      exact ⟨M, rfl, hJ⟩
    · have c9 := c
      have d10 : (M.1 147 3).toInt < (32 : Int) := nlei.mp c9
      refine inb_i (by omega) (by omega) ?_
      refine mem_i (fun M1 e12 => ?_)
      have hJ13 : J M1 := by rw [e12]; exact Jw_any ok_148 hJ (M.1 147 3).toNatClampNeg v1
      have f14 : (M1.1 147 3).toInt = (M.1 147 3).toInt := by rw [e12]; rw [si_ne (by exact fun e => absurd e.1 (by decide))]
      clear e12
      refine inb_i (by omega) (by omega) ?_
      refine mem_i (fun M2 e16 => ?_)
      have hJ17 : J M2 := by rw [e16]; exact Jw_any ok_149 hJ13 (M1.1 147 3).toNatClampNeg v2
      have f18 : (M2.1 147 3).toInt = (M1.1 147 3).toInt := by rw [e16]; rw [si_ne (by exact fun e => absurd e.1 (by decide))]
      clear e16
      refine inb_i (by omega) (by omega) ?_
      refine mem_i (fun M3 e20 => ?_)
      have hJ21 : J M3 := by rw [e20]; exact Jw_any ok_150 hJ17 (M2.1 147 3).toNatClampNeg v3
      have f22 : (M3.1 147 3).toInt = (M2.1 147 3).toInt := by rw [e20]; rw [si_ne (by exact fun e => absurd e.1 (by decide))]
      clear e20
      have q24 : ((M3.1 147 3) + (1 : Int32)).toInt = (M3.1 147 3).toInt + (1 : Int) := add_ti rfl rfl (by omega) (by omega)
      refine mem_i (fun M4 e25 => ?_)
      have hJ26 : J M4 := by rw [e25]; exact Jw_147_3 hJ21 ((M3.1 147 3) + (1 : Int32)) (show (0 : Int) ≤ ((M3.1 147 3) + (1 : Int32)).toInt by omega) (show ((M3.1 147 3) + (1 : Int32)).toInt ≤ (32 : Int) by omega)
      have f27 : (M4.1 147 3).toInt = ((M3.1 147 3) + (1 : Int32)).toInt := by rw [e25, si_eq]
      clear e25
      exact ⟨M4, rfl, hJ26⟩
theorem sf_Acts_readLetter (v2 : Int32) (M : Mem) (hJ : J M) : ∃ r : Int32 × Mem, f_Acts_readLetter v2 M = some r ∧ (J r.2) := by
  unfold f_Acts_readLetter
  refine bind_i (sf_Signs_at v2 (60 : Int32) M hJ) (fun x1 _ q => ?_)
  obtain ⟨h1, h2, h3⟩ := q
  refine if_i (fun c => ?_) (fun c => ?_)
  · have c4 := c
    have d5 : x1.toInt < (97 : Int) := lti.mp c4
    exact ⟨(((-1 : Int32) - v2), M), rfl, hJ⟩
  · have c6 := c
    have d7 : (97 : Int) ≤ x1.toInt := nlti.mp c6
    refine if_i (fun c => ?_) (fun c => ?_)
    · have c8 := c
      have d9 : x1.toInt ≤ (104 : Int) := lei.mp c8
      refine bind_i (sf_Acts_add (110 : Int32) (x1 - (97 : Int32)) (0 : Int32) M hJ) (fun x2 _ q => ?_)
      have h10 := q
      exact ⟨((v2 + (1 : Int32)), x2), rfl, h10⟩
    · have c11 := c
      have d12 : (104 : Int) < x1.toInt := nlei.mp c11
      exact ⟨(((-1 : Int32) - v2), M), rfl, hJ⟩
theorem sf_Acts_readNumber (v2 : Int32) (M : Mem) (hJ : J M) : ∃ r : Int32 × Mem, f_Acts_readNumber v2 M = some r ∧ (J r.2) := by
  unfold f_Acts_readNumber
  refine bind_i (sf_Signs_digits v2 (60 : Int32) (2 : Int32) M (⟨by decide, by decide⟩) hJ) (fun x1 _ q => ?_)
  obtain ⟨h1, h2, h3, h4⟩ := q
  refine if_i (fun c => ?_) (fun c => ?_)
  · have c5 := c
    have d6 : x1.1.toInt = (0 : Int) := eqi.mp c5
    exact ⟨(((-1 : Int32) - v2), x1.2), rfl, h1⟩
  · have c7 := c
    have d8 : ¬ x1.1.toInt = (0 : Int) := neqi.mp c7
    refine bind_i (sf_Acts_add (109 : Int32) (x1.2.1 1 2) (0 : Int32) x1.2 h1) (fun x2 _ q => ?_)
    have h9 := q
    exact ⟨((v2 + x1.1), x2), rfl, h9⟩
theorem sf_Acts_readPlank (v2 : Int32) (M : Mem) (hJ : J M) : ∃ r : Int32 × Mem, f_Acts_readPlank v2 M = some r ∧ (J r.2) := by
  unfold f_Acts_readPlank
  refine bind_i (sf_Signs_digits v2 (60 : Int32) (2 : Int32) M (⟨by decide, by decide⟩) hJ) (fun x1 _ q => ?_)
  obtain ⟨h1, h2, h3, h4⟩ := q
  refine if_i (fun c => ?_) (fun c => ?_)
  · have c5 := c
    have d6 : x1.1.toInt = (0 : Int) := eqi.mp c5
    exact ⟨(((-1 : Int32) - (v2 + x1.1)), x1.2), rfl, h1⟩
  · have c7 := c
    have d8 : ¬ x1.1.toInt = (0 : Int) := neqi.mp c7
    refine bind_i (sf_Signs_at (v2 + x1.1) (60 : Int32) x1.2 h1) (fun x2 _ q => ?_)
    obtain ⟨h9, h10, h11⟩ := q
    refine if_i (fun c => ?_) (fun c => ?_)
    · have c12 := c
      have d13 : x2.toInt = (45 : Int) := eqi.mp c12
      refine bind_i (sf_Signs_digits ((v2 + x1.1) + (1 : Int32)) (60 : Int32) (2 : Int32) x1.2 (⟨by decide, by decide⟩) h1) (fun x3 _ q => ?_)
      obtain ⟨h14, h15, h16, h17⟩ := q
      refine if_i (fun c => ?_) (fun c => ?_)
      · have c18 := c
        have d19 : x3.1.toInt = (0 : Int) := eqi.mp c18
        exact ⟨(((-2 : Int32) - (v2 + x1.1)), x3.2), rfl, h14⟩
      · have c20 := c
        have d21 : ¬ x3.1.toInt = (0 : Int) := neqi.mp c20
        refine bind_i (sf_Acts_add (112 : Int32) (x1.2.1 1 2) (x3.2.1 1 2) x3.2 h14) (fun x4 _ q => ?_)
        have h22 := q
        exact ⟨((((v2 + x1.1) + (1 : Int32)) + x3.1), x4), rfl, h22⟩
    · have c23 := c
      have d24 : ¬ x2.toInt = (45 : Int) := neqi.mp c23
      exact ⟨(((-1 : Int32) - (v2 + x1.1)), x1.2), rfl, h1⟩
theorem sf_Acts_readAct (v2 : Int32) (M : Mem) (hJ : J M) : ∃ r : Int32 × Mem, f_Acts_readAct v2 M = some r ∧ (J r.2) := by
  unfold f_Acts_readAct
  refine bind_i (sf_Signs_at v2 (60 : Int32) M hJ) (fun x1 _ q => ?_)
  obtain ⟨h1, h2, h3⟩ := q
  refine if_i (fun c => ?_) (fun c => ?_)
  · have c4 := c
    have d5 : x1.toInt = (102 : Int) := eqi.mp c4
    refine bind_i (sf_Acts_add x1 (0 : Int32) (0 : Int32) M hJ) (fun x2 _ q => ?_)
    have h6 := q
    exact ⟨((v2 + (1 : Int32)), x2), rfl, h6⟩
  · have c7 := c
    have d8 : ¬ x1.toInt = (102 : Int) := neqi.mp c7
    refine if_i (fun c => ?_) (fun c => ?_)
    · have c9 := c
      have d10 : x1.toInt = (120 : Int) := eqi.mp c9
      refine bind_i (sf_Acts_add x1 (0 : Int32) (0 : Int32) M hJ) (fun x2 _ q => ?_)
      have h11 := q
      exact ⟨((v2 + (1 : Int32)), x2), rfl, h11⟩
    · have c12 := c
      have d13 : ¬ x1.toInt = (120 : Int) := neqi.mp c12
      refine if_i (fun c => ?_) (fun c => ?_)
      · have c14 := c
        have d15 : x1.toInt = (109 : Int) := eqi.mp c14
        refine bind_i (sf_Acts_readNumber (v2 + (1 : Int32)) M hJ) (fun x5 _ q => ?_)
        have h16 := q
        exact ⟨(x5.1, x5.2), rfl, h16⟩
      · have c17 := c
        have d18 : ¬ x1.toInt = (109 : Int) := neqi.mp c17
        refine if_i (fun c => ?_) (fun c => ?_)
        · have c19 := c
          have d20 : x1.toInt = (110 : Int) := eqi.mp c19
          refine bind_i (sf_Acts_readLetter (v2 + (1 : Int32)) M hJ) (fun x7 _ q => ?_)
          have h21 := q
          exact ⟨(x7.1, x7.2), rfl, h21⟩
        · have c22 := c
          have d23 : ¬ x1.toInt = (110 : Int) := neqi.mp c22
          refine if_i (fun c => ?_) (fun c => ?_)
          · have c24 := c
            have d25 : x1.toInt = (112 : Int) := eqi.mp c24
            refine bind_i (sf_Acts_readPlank (v2 + (1 : Int32)) M hJ) (fun x9 _ q => ?_)
            have h26 := q
            exact ⟨(x9.1, x9.2), rfl, h26⟩
          · have c27 := c
            have d28 : ¬ x1.toInt = (112 : Int) := neqi.mp c27
            exact ⟨(((-1 : Int32) - v2), M), rfl, hJ⟩
