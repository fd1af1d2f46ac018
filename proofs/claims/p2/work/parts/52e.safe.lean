/-! safety of the class, 5 -/
theorem sl_Scene_standing_6 (v0 : Nat) (v1 : Int32) (v2 : Int32) (v3 : Int32) (M : Mem) (a0_ : Int32) (a1_ : Int32) (hk_v0 : kd v0 = 10 + 7) (hp_v3 : (0 : Int) ≤ v3.toInt ∧ v3.toInt ≤ (8 : Int)) (hJ_M : J M) (i0_ : (0 : Int) ≤ a1_.toInt) (i1_ : a1_.toInt ≤ (8 : Int)) : ∃ x, iter (lb_Scene_standing_6 v0 v1 v2 v3 M) FU (a0_, a1_) = some x ∧ (fun r : Int32 => True) x := by
  refine iter_r (fun s : Int32 × Int32 => (0 : Int) ≤ s.2.toInt ∧ s.2.toInt ≤ (8 : Int)) (fun s : Int32 × Int32 => (8 - s.2.toInt).toNat) (fun r : Int32 => True) ?_ FU (a0_, a1_) ⟨i0_, i1_⟩ (by show (8 - a1_.toInt).toNat < FU; rw [FU_v]; omega)
  clear i1_ i0_
  rintro ⟨a0_', a1_'⟩ ⟨i0_, i1_⟩
  dsimp only at i0_ i1_
  unfold lb_Scene_standing_6
  dsimp only
  refine if_i (fun c => ?_) (fun c => ?_)
  · have c1 := c
    have d2 : v3.toInt ≤ a1_'.toInt := lei.mp c1
    exact ⟨_, rfl, trivial⟩
  · have c3 := c
    have d4 : a1_'.toInt < v3.toInt := nlei.mp c3
    refine inb_i (by omega) (by omega) ?_
    refine if_i (fun c => ?_) (fun c => ?_)
    · have c5 := c
      have r6 := Jr_scene0 hJ_M hk_v0 a1_'.toNatClampNeg
      have d7 : (M.1 (rf v0 0) a1_'.toNatClampNeg).toInt = v2.toInt := eqi.mp c5
      refine inb_i (by omega) (by omega) ?_
      refine if_i (fun c => ?_) (fun c => ?_)
      · have c8 := c
        have r9 := Jr_scene1 hJ_M hk_v0 a1_'.toNatClampNeg
        have d10 : (M.1 (rf v0 1) a1_'.toNatClampNeg).toInt = v1.toInt := eqi.mp c8
        have q11 : (a1_' + (1 : Int32)).toInt = a1_'.toInt + (1 : Int) := add_ti rfl rfl (by omega) (by omega)
        exact ⟨_, rfl, ⟨(show (0 : Int) ≤ (a1_' + (1 : Int32)).toInt by omega), (show (a1_' + (1 : Int32)).toInt ≤ (8 : Int) by omega)⟩, show (8 - (a1_' + (1 : Int32)).toInt).toNat < (8 - a1_'.toInt).toNat by omega⟩
      · have c12 := c
        have r13 := Jr_scene1 hJ_M hk_v0 a1_'.toNatClampNeg
        have d14 : ¬ (M.1 (rf v0 1) a1_'.toNatClampNeg).toInt = v1.toInt := neqi.mp c12
        have q15 : (a1_' + (1 : Int32)).toInt = a1_'.toInt + (1 : Int) := add_ti rfl rfl (by omega) (by omega)
        exact ⟨_, rfl, ⟨(show (0 : Int) ≤ (a1_' + (1 : Int32)).toInt by omega), (show (a1_' + (1 : Int32)).toInt ≤ (8 : Int) by omega)⟩, show (8 - (a1_' + (1 : Int32)).toInt).toNat < (8 - a1_'.toInt).toNat by omega⟩
    · have c16 := c
      have r17 := Jr_scene0 hJ_M hk_v0 a1_'.toNatClampNeg
      have d18 : ¬ (M.1 (rf v0 0) a1_'.toNatClampNeg).toInt = v2.toInt := neqi.mp c16
      have q19 : (a1_' + (1 : Int32)).toInt = a1_'.toInt + (1 : Int) := add_ti rfl rfl (by omega) (by omega)
      exact ⟨_, rfl, ⟨(show (0 : Int) ≤ (a1_' + (1 : Int32)).toInt by omega), (show (a1_' + (1 : Int32)).toInt ≤ (8 : Int) by omega)⟩, show (8 - (a1_' + (1 : Int32)).toInt).toNat < (8 - a1_'.toInt).toNat by omega⟩
theorem sf_Scene_standing (v0 : Nat) (v1 : Int32) (v2 : Int32) (v3 : Int32) (M : Mem) (hk_v0 : kd v0 = 10 + 7) (hp_v3 : (0 : Int) ≤ v3.toInt ∧ v3.toInt ≤ (8 : Int)) (hJ : J M) : ∃ r : Int32, f_Scene_standing v0 v1 v2 v3 M = some r ∧ (True) := by
  unfold f_Scene_standing
  refine c_i hk_v0 ?_
  refine bind_i (sl_Scene_standing_6 v0 v1 v2 v3 M (0 : Int32) (0 : Int32) hk_v0 (⟨show (0 : Int) ≤ v3.toInt by omega, show v3.toInt ≤ (8 : Int) by omega⟩) hJ (show (0 : Int) ≤ (0 : Int32).toInt by decide) (show (0 : Int32).toInt ≤ (8 : Int) by decide)) (fun x4 _ q => ?_)
  exact ⟨x4, rfl, trivial⟩
theorem sl_Scene_planksAt_4 (v0 : Nat) (v1 : Int32) (M : Mem) (a0_ : Int32) (a1_ : Int32) (hk_v0 : kd v0 = 10 + 7) (hJ_M : J M) (i0_ : (0 : Int) ≤ a1_.toInt) (i1_ : a1_.toInt ≤ (6 : Int)) : ∃ x, iter (lb_Scene_planksAt_4 v0 v1 M) FU (a0_, a1_) = some x ∧ (fun r : Int32 => True) x := by
  refine iter_r (fun s : Int32 × Int32 => (0 : Int) ≤ s.2.toInt ∧ s.2.toInt ≤ (6 : Int)) (fun s : Int32 × Int32 => (6 - s.2.toInt).toNat) (fun r : Int32 => True) ?_ FU (a0_, a1_) ⟨i0_, i1_⟩ (by show (6 - a1_.toInt).toNat < FU; rw [FU_v]; omega)
  clear i1_ i0_
  rintro ⟨a0_', a1_'⟩ ⟨i0_, i1_⟩
  dsimp only at i0_ i1_
  unfold lb_Scene_planksAt_4
  dsimp only
  refine if_i (fun c => ?_) (fun c => ?_)
  · have c1 := c
    have d2 : (M.1 v0 6).toInt ≤ a1_'.toInt := lei.mp c1
    exact ⟨_, rfl, trivial⟩
  · have c3 := c
    have d4 : a1_'.toInt < (M.1 v0 6).toInt := nlei.mp c3
    refine if_i (fun c => ?_) (fun c => ?_)
    · have c5 := c
      have d6 : (6 : Int) ≤ a1_'.toInt := lei.mp c5
      exact ⟨_, rfl, trivial⟩
    · have c7 := c
      have d8 : a1_'.toInt < (6 : Int) := nlei.mp c7
      refine inb_i (by omega) (by omega) ?_
      refine if_i (fun c => ?_) (fun c => ?_)
      · have c9 := c
        have r10 := Jr_scene4 hJ_M hk_v0 a1_'.toNatClampNeg
        have d11 : (M.1 (rf v0 4) a1_'.toNatClampNeg).toInt = v1.toInt := eqi.mp c9
        have q12 : (a1_' + (1 : Int32)).toInt = a1_'.toInt + (1 : Int) := add_ti rfl rfl (by omega) (by omega)
        exact ⟨_, rfl, ⟨(show (0 : Int) ≤ (a1_' + (1 : Int32)).toInt by omega), (show (a1_' + (1 : Int32)).toInt ≤ (6 : Int) by omega)⟩, show (6 - (a1_' + (1 : Int32)).toInt).toNat < (6 - a1_'.toInt).toNat by omega⟩
      · have c13 := c
        have r14 := Jr_scene4 hJ_M hk_v0 a1_'.toNatClampNeg
        have d15 : ¬ (M.1 (rf v0 4) a1_'.toNatClampNeg).toInt = v1.toInt := neqi.mp c13
        refine inb_i (by omega) (by omega) ?_
        refine if_i (fun c => ?_) (fun c => ?_)
        · have c16 := c
          have r17 := Jr_scene5 hJ_M hk_v0 a1_'.toNatClampNeg
          have d18 : (M.1 (rf v0 5) a1_'.toNatClampNeg).toInt = v1.toInt := eqi.mp c16
          have q19 : (a1_' + (1 : Int32)).toInt = a1_'.toInt + (1 : Int) := add_ti rfl rfl (by omega) (by omega)
          exact ⟨_, rfl, ⟨(show (0 : Int) ≤ (a1_' + (1 : Int32)).toInt by omega), (show (a1_' + (1 : Int32)).toInt ≤ (6 : Int) by omega)⟩, show (6 - (a1_' + (1 : Int32)).toInt).toNat < (6 - a1_'.toInt).toNat by omega⟩
        · have c20 := c
          have r21 := Jr_scene5 hJ_M hk_v0 a1_'.toNatClampNeg
          have d22 : ¬ (M.1 (rf v0 5) a1_'.toNatClampNeg).toInt = v1.toInt := neqi.mp c20
          have q23 : (a1_' + (1 : Int32)).toInt = a1_'.toInt + (1 : Int) := add_ti rfl rfl (by omega) (by omega)
          exact ⟨_, rfl, ⟨(show (0 : Int) ≤ (a1_' + (1 : Int32)).toInt by omega), (show (a1_' + (1 : Int32)).toInt ≤ (6 : Int) by omega)⟩, show (6 - (a1_' + (1 : Int32)).toInt).toNat < (6 - a1_'.toInt).toNat by omega⟩
theorem sf_Scene_planksAt (v0 : Nat) (v1 : Int32) (M : Mem) (hk_v0 : kd v0 = 10 + 7) (hJ : J M) : ∃ r : Int32, f_Scene_planksAt v0 v1 M = some r ∧ (True) := by
  unfold f_Scene_planksAt
  refine c_i hk_v0 ?_
  refine bind_i (sl_Scene_planksAt_4 v0 v1 M (0 : Int32) (0 : Int32) hk_v0 hJ (show (0 : Int) ≤ (0 : Int32).toInt by decide) (show (0 : Int32).toInt ≤ (6 : Int) by decide)) (fun x5 _ q => ?_)
  exact ⟨x5, rfl, trivial⟩
theorem sf_Scene_meetingsOfTwo (v0 : Nat) (v1 : Int32) (v2 : Int32) (M : Mem) (hk_v0 : kd v0 = 10 + 7) (hp_v1 : (0 : Int) ≤ v1.toInt ∧ v1.toInt ≤ (7 : Int)) (hp_v2 : (0 : Int) ≤ v2.toInt ∧ v2.toInt ≤ (7 : Int)) (hJ : J M) : ∃ r : Int32, f_Scene_meetingsOfTwo v0 v1 v2 M = some r ∧ (True) := by
  unfold f_Scene_meetingsOfTwo
  refine c_i hk_v0 ?_
  have q1 : (v1 * (8 : Int32)).toInt = v1.toInt * (8 : Int) := mul_ti rfl rfl (by omega) (by omega)
  have q2 : ((v1 * (8 : Int32)) + v2).toInt = (v1 * (8 : Int32)).toInt + v2.toInt := add_ti rfl rfl (by omega) (by omega)
  refine inb_i (by omega) (by omega) ?_
  have q3 : (v2 * (8 : Int32)).toInt = v2.toInt * (8 : Int) := mul_ti rfl rfl (by omega) (by omega)
  have q4 : ((v2 * (8 : Int32)) + v1).toInt = (v2 * (8 : Int32)).toInt + v1.toInt := add_ti rfl rfl (by omega) (by omega)
  refine inb_i (by omega) (by omega) ?_
  exact ⟨((M.1 (rf v0 3) ((v1 * (8 : Int32)) + v2).toNatClampNeg) + (M.1 (rf v0 3) ((v2 * (8 : Int32)) + v1).toNatClampNeg)), rfl, trivial⟩
theorem sl_Scene_meetingsOf_4 (v0 : Nat) (v1 : Int32) (M : Mem) (a0_ : Int32) (a1_ : Int32) (hk_v0 : kd v0 = 10 + 7) (hp_v1 : (0 : Int) ≤ v1.toInt ∧ v1.toInt ≤ (7 : Int)) (hJ_M : J M) (i0_ : (0 : Int) ≤ a1_.toInt) (i1_ : a1_.toInt ≤ (8 : Int)) : ∃ x, iter (lb_Scene_meetingsOf_4 v0 v1 M) FU (a0_, a1_) = some x ∧ (fun r : Int32 => True) x := by
  refine iter_r (fun s : Int32 × Int32 => (0 : Int) ≤ s.2.toInt ∧ s.2.toInt ≤ (8 : Int)) (fun s : Int32 × Int32 => (8 - s.2.toInt).toNat) (fun r : Int32 => True) ?_ FU (a0_, a1_) ⟨i0_, i1_⟩ (by show (8 - a1_.toInt).toNat < FU; rw [FU_v]; omega)
  clear i1_ i0_
  rintro ⟨a0_', a1_'⟩ ⟨i0_, i1_⟩
  dsimp only at i0_ i1_
  unfold lb_Scene_meetingsOf_4
  dsimp only
  refine if_i (fun c => ?_) (fun c => ?_)
  · have c1 := c
    have d2 : (8 : Int) ≤ a1_'.toInt := lei.mp c1
    exact ⟨_, rfl, trivial⟩
  · have c3 := c
    have d4 : a1_'.toInt < (8 : Int) := nlei.mp c3
    refine bind_i (sf_Scene_meetingsOfTwo v0 v1 a1_' M hk_v0 (⟨show (0 : Int) ≤ v1.toInt by omega, show v1.toInt ≤ (7 : Int) by omega⟩) (⟨show (0 : Int) ≤ a1_'.toInt by omega, show a1_'.toInt ≤ (7 : Int) by omega⟩) hJ_M) (fun x1 _ q => ?_)
    have q5 : (a1_' + (1 : Int32)).toInt = a1_'.toInt + (1 : Int) := add_ti rfl rfl (by omega) (by omega)
    exact ⟨_, rfl, ⟨(show (0 : Int) ≤ (a1_' + (1 : Int32)).toInt by omega), (show (a1_' + (1 : Int32)).toInt ≤ (8 : Int) by omega)⟩, show (8 - (a1_' + (1 : Int32)).toInt).toNat < (8 - a1_'.toInt).toNat by omega⟩
theorem sf_Scene_meetingsOf (v0 : Nat) (v1 : Int32) (M : Mem) (hk_v0 : kd v0 = 10 + 7) (hp_v1 : (0 : Int) ≤ v1.toInt ∧ v1.toInt ≤ (7 : Int)) (hJ : J M) : ∃ r : Int32, f_Scene_meetingsOf v0 v1 M = some r ∧ (True) := by
  unfold f_Scene_meetingsOf
  refine c_i hk_v0 ?_
  refine bind_i (sl_Scene_meetingsOf_4 v0 v1 M (0 : Int32) (0 : Int32) hk_v0 (⟨show (0 : Int) ≤ v1.toInt by omega, show v1.toInt ≤ (7 : Int) by omega⟩) hJ (show (0 : Int) ≤ (0 : Int32).toInt by decide) (show (0 : Int32).toInt ≤ (8 : Int) by decide)) (fun x3 _ q => ?_)
  exact ⟨x3, rfl, trivial⟩
theorem sl_Scene_isUnderPlank_2 (v0 : Nat) (v2 : Int32) (M : Mem) (a0_ : Int32) (hk_v0 : kd v0 = 10 + 7) (hJ_M : J M) (i0_ : (0 : Int) ≤ a0_.toInt) (i1_ : a0_.toInt ≤ (6 : Int)) : ∃ x, iter (lb_Scene_isUnderPlank_2 v0 v2 M) FU a0_ = some x ∧ (SQ (fun r : Unit => True) (fun r : Unit => True)) x := by
  refine iter_r (fun s : Int32 => (0 : Int) ≤ s.toInt ∧ s.toInt ≤ (6 : Int)) (fun s : Int32 => (6 - s.toInt).toNat) (SQ (fun r : Unit => True) (fun r : Unit => True)) ?_ FU a0_ ⟨i0_, i1_⟩ (by show (6 - a0_.toInt).toNat < FU; rw [FU_v]; omega)
  clear i1_ i0_
  rintro a0_' ⟨i0_, i1_⟩
  unfold lb_Scene_isUnderPlank_2
  refine if_i (fun c => ?_) (fun c => ?_)
  · have c1 := c
    have d2 : (M.1 v0 6).toInt ≤ a0_'.toInt := lei.mp c1
    exact ⟨_, rfl, trivial⟩
  · have c3 := c
    have d4 : a0_'.toInt < (M.1 v0 6).toInt := nlei.mp c3
    refine if_i (fun c => ?_) (fun c => ?_)
    · have c5 := c
      have d6 : (6 : Int) ≤ a0_'.toInt := lei.mp c5
      exact ⟨_, rfl, trivial⟩
    · have c7 := c
      have d8 : a0_'.toInt < (6 : Int) := nlei.mp c7
      refine inb_i (by omega) (by omega) ?_
      refine inb_i (by omega) (by omega) ?_
      refine bind_i (sf_Ground_between (M.1 (rf v0 4) a0_'.toNatClampNeg) (M.1 (rf v0 5) a0_'.toNatClampNeg) M hJ_M) (fun x1 _ q => ?_)
      obtain ⟨h9, h10⟩ := q
      refine if_i (fun c => ?_) (fun c => ?_)
      · have c11 := c
        have d12 : x1.toInt = v2.toInt := eqi.mp c11
        exact ⟨_, rfl, trivial⟩
      · have c13 := c
        have d14 : ¬ x1.toInt = v2.toInt := neqi.mp c13
        have q15 : (a0_' + (1 : Int32)).toInt = a0_'.toInt + (1 : Int) := add_ti rfl rfl (by omega) (by omega)
        exact ⟨_, rfl, ⟨(show (0 : Int) ≤ (a0_' + (1 : Int32)).toInt by omega), (show (a0_' + (1 : Int32)).toInt ≤ (6 : Int) by omega)⟩, show (6 - (a0_' + (1 : Int32)).toInt).toNat < (6 - a0_'.toInt).toNat by omega⟩
theorem sf_Scene_isUnderPlank (v0 : Nat) (v2 : Int32) (M : Mem) (hk_v0 : kd v0 = 10 + 7) (hJ : J M) : ∃ r : Int32, f_Scene_isUnderPlank v0 v2 M = some r ∧ ((0 : Int) ≤ r.toInt ∧ r.toInt ≤ (1 : Int)) := by
  unfold f_Scene_isUnderPlank
  refine c_i hk_v0 ?_
  refine bind_i (sl_Scene_isUnderPlank_2 v0 v2 M (0 : Int32) hk_v0 hJ (show (0 : Int) ≤ (0 : Int32).toInt by decide) (show (0 : Int32).toInt ≤ (6 : Int) by decide)) (fun x1 _ q => ?_)
  rcases x1 with y | y
  · have q9 : True := q
    dsimp only [Sum.elim_inl, Sum.elim_inr]
    exact ⟨(0 : Int32), rfl, (show (0 : Int) ≤ (0 : Int32).toInt by decide), (show (0 : Int32).toInt ≤ (1 : Int) by decide)⟩
  · have q9 : True := q
    dsimp only [Sum.elim_inl, Sum.elim_inr]
    exact ⟨(1 : Int32), rfl, (show (0 : Int) ≤ (1 : Int32).toInt by decide), (show (1 : Int32).toInt ≤ (1 : Int) by decide)⟩
theorem sf_Scene_copy (v0 : Nat) (v1 : Nat) (M : Mem) (hk_v0 : kd v0 = 10 + 7) (hk_v1 : kd v1 = 10 + 7) (hJ : J M) : ∃ r : Mem, f_Scene_copy v0 v1 M = some r ∧ (J r ∧ r.1 46 2 = M.1 46 2) := by
  unfold f_Scene_copy
  refine c_i hk_v0 ?_
  refine c_i hk_v1 ?_
  refine mem_i (fun M1 e2 => ?_)
  have hJ3 : J M1 := by rw [e2]; exact Jc_scene0 hJ hk_v1 hk_v0
  have g4 : M1.1 46 2 = M.1 46 2 := (congrArg (fun m : Mem => m.1 46 2) e2).trans ((sc_ne (fun e => rfk_0_46 hk_v0 e.symm)).trans rfl)
  clear e2
  refine mem_i (fun M2 e6 => ?_)
  have hJ7 : J M2 := by rw [e6]; exact Jc_scene1 hJ3 hk_v1 hk_v0
  have g8 : M2.1 46 2 = M.1 46 2 := (congrArg (fun m : Mem => m.1 46 2) e6).trans ((sc_ne (fun e => rfk_1_46 hk_v0 e.symm)).trans g4)
  clear e6
  refine mem_i (fun M3 e10 => ?_)
  have hJ11 : J M3 := by rw [e10]; exact Jc_scene2 hJ7 hk_v1 hk_v0
  have g12 : M3.1 46 2 = M.1 46 2 := (congrArg (fun m : Mem => m.1 46 2) e10).trans ((sc_ne (fun e => rfk_2_46 hk_v0 e.symm)).trans g8)
  clear e10
  refine mem_i (fun M4 e14 => ?_)
  have hJ15 : J M4 := by rw [e14]; exact Jc_scene3 hJ11 hk_v1 hk_v0
  have g16 : M4.1 46 2 = M.1 46 2 := (congrArg (fun m : Mem => m.1 46 2) e14).trans ((sc_ne (fun e => rfk_3_46 hk_v0 e.symm)).trans g12)
  clear e14
  refine mem_i (fun M5 e18 => ?_)
  have hJ19 : J M5 := by rw [e18]; exact Jc_scene4 hJ15 hk_v1 hk_v0
  have g20 : M5.1 46 2 = M.1 46 2 := (congrArg (fun m : Mem => m.1 46 2) e18).trans ((sc_ne (fun e => rfk_4_46 hk_v0 e.symm)).trans g16)
  clear e18
  refine mem_i (fun M6 e22 => ?_)
  have hJ23 : J M6 := by rw [e22]; exact Jc_scene5 hJ19 hk_v1 hk_v0
  have g24 : M6.1 46 2 = M.1 46 2 := (congrArg (fun m : Mem => m.1 46 2) e22).trans ((sc_ne (fun e => rfk_5_46 hk_v0 e.symm)).trans g20)
  clear e22
  refine mem_i (fun M7 e26 => ?_)
  have hJ27 : J M7 := by rw [e26]; exact Jw_scene hJ23 hk_v0 6 (M6.1 v1 6)
  have g28 : M7.1 46 2 = M.1 46 2 := (congrArg (fun m : Mem => m.1 46 2) e26).trans ((si_ne (by exact fun e => vk_46 hk_v0 e.1.symm)).trans g24)
  clear e26
  refine mem_i (fun M8 e30 => ?_)
  have hJ31 : J M8 := by rw [e30]; exact Jw_scene hJ27 hk_v0 7 (M7.1 v1 7)
  have g32 : M8.1 46 2 = M.1 46 2 := (congrArg (fun m : Mem => m.1 46 2) e30).trans ((si_ne (by exact fun e => vk_46 hk_v0 e.1.symm)).trans g28)
  clear e30
  refine mem_i (fun M9 e34 => ?_)
  have hJ35 : J M9 := by rw [e34]; exact Jw_scene hJ31 hk_v0 8 (M8.1 v1 8)
  have g36 : M9.1 46 2 = M.1 46 2 := (congrArg (fun m : Mem => m.1 46 2) e34).trans ((si_ne (by exact fun e => vk_46 hk_v0 e.1.symm)).trans g32)
  clear e34
  refine mem_i (fun M10 e38 => ?_)
  have hJ39 : J M10 := by rw [e38]; exact Jw_scene hJ35 hk_v0 9 (M9.1 v1 9)
  have g40 : M10.1 46 2 = M.1 46 2 := (congrArg (fun m : Mem => m.1 46 2) e38).trans ((si_ne (by exact fun e => vk_46 hk_v0 e.1.symm)).trans g36)
  clear e38
  exact ⟨M10, rfl, hJ39, (g40)⟩
theorem sf_Scene_hasPlank (v0 : Nat) (v1 : Int32) (v2 : Int32) (M : Mem) (hk_v0 : kd v0 = 10 + 7) (hJ : J M) : ∃ r : Int32, f_Scene_hasPlank v0 v1 v2 M = some r ∧ ((0 : Int) ≤ r.toInt ∧ r.toInt ≤ (1 : Int)) := by
  unfold f_Scene_hasPlank
  refine c_i hk_v0 ?_
  refine bind_i (sf_Scene_planksAt v0 v1 M hk_v0 hJ) (fun x1 _ q => ?_)
  refine bind_i (sf_Scene_planksAt v0 v2 M hk_v0 hJ) (fun x2 _ q => ?_)
  refine if_i (fun c => ?_) (fun c => ?_)
  · have c1 := c
    have d2 : (x1 &&& x2).toInt = (0 : Int) := eqi.mp c1
    exact ⟨(0 : Int32), rfl, (show (0 : Int) ≤ (0 : Int32).toInt by decide), (show (0 : Int32).toInt ≤ (1 : Int) by decide)⟩
  · have c3 := c
    have d4 : ¬ (x1 &&& x2).toInt = (0 : Int) := neqi.mp c3
    exact ⟨(1 : Int32), rfl, (show (0 : Int) ≤ (1 : Int32).toInt by decide), (show (1 : Int32).toInt ≤ (1 : Int) by decide)⟩
theorem sf_Scene_addPlank (v0 : Nat) (v1 : Int32) (v2 : Int32) (M : Mem) (hk_v0 : kd v0 = 10 + 7) (hp_v1 : (0 : Int) ≤ v1.toInt ∧ v1.toInt ≤ (35 : Int)) (hp_v2 : (0 : Int) ≤ v2.toInt ∧ v2.toInt ≤ (35 : Int)) (hJ : J M) : ∃ r : Int32 × Mem, f_Scene_addPlank v0 v1 v2 M = some r ∧ (J r.2 ∧ (0 : Int) ≤ r.1.toInt ∧ r.1.toInt ≤ (1 : Int)) := by
  unfold f_Scene_addPlank
  refine c_i hk_v0 ?_
  refine if_i (fun c => ?_) (fun c => ?_)
  · have c1 := c
    have d2 : (M.1 v0 6).toInt < (0 : Int) := lti.mp c1
    exact ⟨((0 : Int32), M), rfl, hJ, (show (0 : Int) ≤ (0 : Int32).toInt by decide), (show (0 : Int32).toInt ≤ (1 : Int) by decide)⟩
  · have c3 := c
    have d4 : (0 : Int) ≤ (M.1 v0 6).toInt := nlti.mp c3
    refine if_i (fun c => ?_) (fun c => ?_)
    · have c5 := c
      have d6 : (M.1 v0 6).toInt < (6 : Int) := lti.mp c5
      refine inb_i (by omega) (by omega) ?_
      refine mem_i (fun M1 e8 => ?_)
      have hJ9 : J M1 := by rw [e8]; exact Jw_scene4 hJ hk_v0 (M.1 v0 6).toNatClampNeg v1 (show (0 : Int) ≤ v1.toInt by omega) (show v1.toInt ≤ (35 : Int) by omega)
      have f10 : (M1.1 v0 6).toInt = (M.1 v0 6).toInt := by rw [e8]; rw [si_ne (by exact rf_ne4_scene hk_v0)]
      have f11 : (M1.1 (rf v0 4) (M.1 v0 6).toNatClampNeg).toInt = v1.toInt := by rw [e8, si_eq]
      clear e8
      refine inb_i (by omega) (by omega) ?_
      refine mem_i (fun M2 e13 => ?_)
      have hJ14 : J M2 := by rw [e13]; exact Jw_scene5 hJ9 hk_v0 (M1.1 v0 6).toNatClampNeg v2 (show (0 : Int) ≤ v2.toInt by omega) (show v2.toInt ≤ (35 : Int) by omega)
      have f15 : (M2.1 v0 6).toInt = (M1.1 v0 6).toInt := by rw [e13]; rw [si_ne (by exact rf_ne5_scene hk_v0)]
      have f16 : (M2.1 (rf v0 5) (M1.1 v0 6).toNatClampNeg).toInt = v2.toInt := by rw [e13, si_eq]
      clear e13
      refine mem_i (fun M3 e18 => ?_)
      have hJ19 : J M3 := by rw [e18]; exact Jw_scene hJ14 hk_v0 6 ((M2.1 v0 6) + (1 : Int32))
      have f20 : (M3.1 (rf v0 5) (M1.1 v0 6).toNatClampNeg).toInt = (M2.1 (rf v0 5) (M1.1 v0 6).toNatClampNeg).toInt := by rw [e18]; rw [si_ne (by exact rf_en5_scene hk_v0)]
      have q21 : ((M2.1 v0 6) + (1 : Int32)).toInt = (M2.1 v0 6).toInt + (1 : Int) := add_ti rfl rfl (by omega) (by omega)
      have f22 : (M3.1 v0 6).toInt = ((M2.1 v0 6) + (1 : Int32)).toInt := by rw [e18, si_eq]
      clear e18
      exact ⟨((1 : Int32), M3), rfl, hJ19, (show (0 : Int) ≤ (1 : Int32).toInt by decide), (show (1 : Int32).toInt ≤ (1 : Int) by decide)⟩
    · have c23 := c
      have d24 : (6 : Int) ≤ (M.1 v0 6).toInt := nlti.mp c23
      exact ⟨((0 : Int32), M), rfl, hJ, (show (0 : Int) ≤ (0 : Int32).toInt by decide), (show (0 : Int32).toInt ≤ (1 : Int) by decide)⟩
theorem sf_Scene_addMeeting (v0 : Nat) (v1 : Int32) (v2 : Int32) (M : Mem) (hk_v0 : kd v0 = 10 + 7) (hp_v1 : (0 : Int) ≤ v1.toInt ∧ v1.toInt ≤ (7 : Int)) (hp_v2 : (0 : Int) ≤ v2.toInt ∧ v2.toInt ≤ (7 : Int)) (hJ : J M) : ∃ r : Mem, f_Scene_addMeeting v0 v1 v2 M = some r ∧ (J r) := by
  unfold f_Scene_addMeeting
  refine c_i hk_v0 ?_
  have q1 : (v1 * (8 : Int32)).toInt = v1.toInt * (8 : Int) := mul_ti rfl rfl (by omega) (by omega)
  have q2 : ((v1 * (8 : Int32)) + v2).toInt = (v1 * (8 : Int32)).toInt + v2.toInt := add_ti rfl rfl (by omega) (by omega)
  refine inb_i (by omega) (by omega) ?_
  refine inb_i (by omega) (by omega) ?_
  refine mem_i (fun M1 e4 => ?_)
  have hJ5 : J M1 := by rw [e4]; exact Jw_scene3 hJ hk_v0 ((v1 * (8 : Int32)) + v2).toNatClampNeg ((M.1 (rf v0 3) ((v1 * (8 : Int32)) + v2).toNatClampNeg) + (1 : Int32))
  clear e4
  exact ⟨M1, rfl, hJ5⟩
theorem sl_Scene_guarded_5 (v0 : Nat) (v1 : Int32) (v2 : Int32) (M : Mem) (a0_ : Int64) (a1_ : Int32) (hk_v0 : kd v0 = 10 + 7) (hJ_M : J M) (i0_ : (0 : Int) ≤ a1_.toInt) (i1_ : a1_.toInt ≤ (8 : Int)) : ∃ x, iter (lb_Scene_guarded_5 v0 v1 v2 M) FU (a0_, a1_) = some x ∧ (fun r : Int64 => True) x := by
  refine iter_r (fun s : Int64 × Int32 => (0 : Int) ≤ s.2.toInt ∧ s.2.toInt ≤ (8 : Int)) (fun s : Int64 × Int32 => (8 - s.2.toInt).toNat) (fun r : Int64 => True) ?_ FU (a0_, a1_) ⟨i0_, i1_⟩ (by show (8 - a1_.toInt).toNat < FU; rw [FU_v]; omega)
  clear i1_ i0_
  rintro ⟨a0_', a1_'⟩ ⟨i0_, i1_⟩
  dsimp only at i0_ i1_
  unfold lb_Scene_guarded_5
  dsimp only
  refine if_i (fun c => ?_) (fun c => ?_)
  · have c1 := c
    have d2 : (8 : Int) ≤ a1_'.toInt := lei.mp c1
    exact ⟨_, rfl, trivial⟩
  · have c3 := c
    have d4 : a1_'.toInt < (8 : Int) := nlei.mp c3
    refine if_i (fun c => ?_) (fun c => ?_)
    · have c5 := c
      have q6 : (0 : Int) ≤ ((v2 >>> (a1_' &&& 31)) &&& (1 : Int32)).toInt ∧ ((v2 >>> (a1_' &&& 31)) &&& (1 : Int32)).toInt ≤ 1 := and_rng (by decide)
      have d7 : ((v2 >>> (a1_' &&& 31)) &&& (1 : Int32)).toInt = (0 : Int) := eqi.mp c5
      have q8 : (a1_' + (1 : Int32)).toInt = a1_'.toInt + (1 : Int) := add_ti rfl rfl (by omega) (by omega)
      exact ⟨_, rfl, ⟨(show (0 : Int) ≤ (a1_' + (1 : Int32)).toInt by omega), (show (a1_' + (1 : Int32)).toInt ≤ (8 : Int) by omega)⟩, show (8 - (a1_' + (1 : Int32)).toInt).toNat < (8 - a1_'.toInt).toNat by omega⟩
    · have c9 := c
      have q10 : (0 : Int) ≤ ((v2 >>> (a1_' &&& 31)) &&& (1 : Int32)).toInt ∧ ((v2 >>> (a1_' &&& 31)) &&& (1 : Int32)).toInt ≤ 1 := and_rng (by decide)
      have d11 : ¬ ((v2 >>> (a1_' &&& 31)) &&& (1 : Int32)).toInt = (0 : Int) := neqi.mp c9
      refine inb_i (by omega) (by omega) ?_
      refine if_i (fun c => ?_) (fun c => ?_)
      · have c12 := c
        have r13 := Jr_scene1 hJ_M hk_v0 a1_'.toNatClampNeg
        have d14 : (M.1 (rf v0 1) a1_'.toNatClampNeg).toInt = v1.toInt := eqi.mp c12
        refine inb_i (by omega) (by omega) ?_
        have q15 : (a1_' + (1 : Int32)).toInt = a1_'.toInt + (1 : Int) := add_ti rfl rfl (by omega) (by omega)
        exact ⟨_, rfl, ⟨(show (0 : Int) ≤ (a1_' + (1 : Int32)).toInt by omega), (show (a1_' + (1 : Int32)).toInt ≤ (8 : Int) by omega)⟩, show (8 - (a1_' + (1 : Int32)).toInt).toNat < (8 - a1_'.toInt).toNat by omega⟩
      · have c16 := c
        have r17 := Jr_scene1 hJ_M hk_v0 a1_'.toNatClampNeg
        have d18 : ¬ (M.1 (rf v0 1) a1_'.toNatClampNeg).toInt = v1.toInt := neqi.mp c16
        have q19 : (a1_' + (1 : Int32)).toInt = a1_'.toInt + (1 : Int) := add_ti rfl rfl (by omega) (by omega)
        exact ⟨_, rfl, ⟨(show (0 : Int) ≤ (a1_' + (1 : Int32)).toInt by omega), (show (a1_' + (1 : Int32)).toInt ≤ (8 : Int) by omega)⟩, show (8 - (a1_' + (1 : Int32)).toInt).toNat < (8 - a1_'.toInt).toNat by omega⟩
theorem sf_Scene_guarded (v0 : Nat) (v1 : Int32) (v2 : Int32) (M : Mem) (hk_v0 : kd v0 = 10 + 7) (hJ : J M) : ∃ r : Int64, f_Scene_guarded v0 v1 v2 M = some r ∧ (True) := by
  unfold f_Scene_guarded
  refine c_i hk_v0 ?_
  refine bind_i (sl_Scene_guarded_5 v0 v1 v2 M (0 : Int64) (0 : Int32) hk_v0 hJ (show (0 : Int) ≤ (0 : Int32).toInt by decide) (show (0 : Int32).toInt ≤ (8 : Int) by decide)) (fun x4 _ q => ?_)
  exact ⟨x4, rfl, trivial⟩
theorem sf_Scene_occupied (v0 : Nat) (v1 : Int32) (v2 : Int32) (M : Mem) (hk_v0 : kd v0 = 10 + 7) (hJ : J M) : ∃ r : Int64, f_Scene_occupied v0 v1 v2 M = some r ∧ (True) := by
  unfold f_Scene_occupied
  refine c_i hk_v0 ?_
  refine bind_i (sf_Scene_guarded v0 v1 (((1 : Int32) <<< (v2 &&& 31)) - (1 : Int32)) M hk_v0 hJ) (fun x1 _ q => ?_)
  exact ⟨x1, rfl, trivial⟩
theorem sl_Scene_allMeetings_4 (v0 : Nat) (M : Mem) (a0_ : Int32) (a1_ : Int32) (hk_v0 : kd v0 = 10 + 7) (hJ_M : J M) (i0_ : (0 : Int) ≤ a1_.toInt) (i1_ : a1_.toInt ≤ (64 : Int)) : ∃ x, iter (lb_Scene_allMeetings_4 v0 M) FU (a0_, a1_) = some x ∧ (fun r : Int32 => True) x := by
  refine iter_r (fun s : Int32 × Int32 => (0 : Int) ≤ s.2.toInt ∧ s.2.toInt ≤ (64 : Int)) (fun s : Int32 × Int32 => (64 - s.2.toInt).toNat) (fun r : Int32 => True) ?_ FU (a0_, a1_) ⟨i0_, i1_⟩ (by show (64 - a1_.toInt).toNat < FU; rw [FU_v]; omega)
  clear i1_ i0_
  rintro ⟨a0_', a1_'⟩ ⟨i0_, i1_⟩
  dsimp only at i0_ i1_
  unfold lb_Scene_allMeetings_4
  dsimp only
  refine if_i (fun c => ?_) (fun c => ?_)
  · have c1 := c
    have d2 : (64 : Int) ≤ a1_'.toInt := lei.mp c1
    exact ⟨_, rfl, trivial⟩
  · have c3 := c
    have d4 : a1_'.toInt < (64 : Int) := nlei.mp c3
    refine inb_i (by omega) (by omega) ?_
    have q5 : (a1_' + (1 : Int32)).toInt = a1_'.toInt + (1 : Int) := add_ti rfl rfl (by omega) (by omega)
    exact ⟨_, rfl, ⟨(show (0 : Int) ≤ (a1_' + (1 : Int32)).toInt by omega), (show (a1_' + (1 : Int32)).toInt ≤ (64 : Int) by omega)⟩, show (64 - (a1_' + (1 : Int32)).toInt).toNat < (64 - a1_'.toInt).toNat by omega⟩
theorem sf_Scene_allMeetings (v0 : Nat) (M : Mem) (hk_v0 : kd v0 = 10 + 7) (hJ : J M) : ∃ r : Int32, f_Scene_allMeetings v0 M = some r ∧ (True) := by
  unfold f_Scene_allMeetings
  refine c_i hk_v0 ?_
  refine bind_i (sl_Scene_allMeetings_4 v0 M (0 : Int32) (0 : Int32) hk_v0 hJ (show (0 : Int) ≤ (0 : Int32).toInt by decide) (show (0 : Int32).toInt ≤ (64 : Int) by decide)) (fun x2 _ q => ?_)
  exact ⟨x2, rfl, trivial⟩
theorem sf_History_forget (M : Mem) (hJ : J M) : ∃ r : Mem, f_History_forget M = some r ∧ (J r) := by
  unfold f_History_forget
  refine mem_i (fun M1 e2 => ?_)
  have hJ3 : J M1 := by rw [e2]; exact Jw_46_2 hJ (0 : Int32) (show (0 : Int) ≤ (0 : Int32).toInt by decide) (show (0 : Int32).toInt ≤ (12 : Int) by decide)
  have f4 : (M1.1 46 2).toInt = (0 : Int) := by rw [e2, si_eq]; rfl
  clear e2
  exact ⟨M1, rfl, hJ3⟩
theorem sf_History_spoil (M : Mem) (hJ : J M) : ∃ r : Mem, f_History_spoil M = some r ∧ (J r) := by
  unfold f_History_spoil
  refine mem_i (fun M1 e2 => ?_)
  have hJ3 : J M1 := by rw [e2]; exact Jw_fld okf_46_3 hJ (0 : Int32)
  have f4 : (M1.1 46 3).toInt = (0 : Int) := by rw [e2, si_eq]; rfl
  clear e2
  exact ⟨M1, rfl, hJ3⟩
theorem sf_History_clear (M : Mem) (hJ : J M) : ∃ r : Mem, f_History_clear M = some r ∧ (J r) := by
  unfold f_History_clear
  refine bind_i (sf_History_forget M hJ) (fun x1 _ q => ?_)
  have h1 := q
  refine bind_i (sf_History_spoil x1 h1) (fun x2 _ q => ?_)
  have h2 := q
  exact ⟨x2, rfl, h2⟩
theorem sl_History_add_18 (v1 : Nat) (v2 : Nat) (a0_ : Int32) (N_ : Mem) (hk_v1 : kd v1 = 10 + 7) (hk_v2 : kd v2 = 10 + 7) (hN : J N_) (i1_ : (1 : Int) ≤ a0_.toInt) (i2_ : a0_.toInt ≤ (12 : Int)) : ∃ x, iter (lb_History_add_18 v1 v2) FU (a0_, N_) = some x ∧ (fun r : Mem => J r) x := by
  refine iter_r (fun s : Int32 × Mem => J s.2 ∧ (1 : Int) ≤ s.1.toInt ∧ s.1.toInt ≤ (12 : Int)) (fun s : Int32 × Mem => (12 - s.1.toInt).toNat) (fun r : Mem => J r) ?_ FU (a0_, N_) ⟨hN, i1_, i2_⟩ (by show (12 - a0_.toInt).toNat < FU; rw [FU_v]; omega)
  clear i2_ i1_ hN
  rintro ⟨a0_', N_'⟩ ⟨hN, i1_, i2_⟩
  dsimp only at hN i1_ i2_
  unfold lb_History_add_18
  dsimp only
  refine if_i (fun c => ?_) (fun c => ?_)
  · have c1 := c
    have d2 : (12 : Int) ≤ a0_'.toInt := lei.mp c1
    exact ⟨_, rfl, hN⟩
  · have c3 := c
    have d4 : a0_'.toInt < (12 : Int) := nlei.mp c3
    refine inb_i (by omega) (by omega) ?_
    refine bind_i (Jq_47 hN (i := a0_') (by omega) (by omega)) (fun a5 _ hk_a5 => ?_)
    refine c_i hk_a5 ?_
    have q5 : (a0_' - (1 : Int32)).toInt = a0_'.toInt - (1 : Int) := sub_ti rfl rfl (by omega) (by omega)
    refine inb_i (by omega) (by omega) ?_
    refine mem_i (fun M6 e7 => ?_)
    have hJ8 : J M6 := by rw [e7]; exact J_sq hN hk_a5
    clear e7
    have q9 : (a0_' + (1 : Int32)).toInt = a0_'.toInt + (1 : Int) := add_ti rfl rfl (by omega) (by omega)
    exact ⟨_, rfl, ⟨hJ8, (show (1 : Int) ≤ (a0_' + (1 : Int32)).toInt by omega), (show (a0_' + (1 : Int32)).toInt ≤ (12 : Int) by omega)⟩, show (12 - (a0_' + (1 : Int32)).toInt).toNat < (12 - a0_'.toInt).toNat by omega⟩
