/-! safety of the class, 5 -/
theorem sf_Scene_clear (v0 : Nat) (M : Mem) (hk_v0 : kd v0 = 10 + 7) (hJ : J M) : ∃ r : Mem, f_Scene_clear v0 M = some r ∧ (J r ∧ Gc 0 M r) := by
  unfold f_Scene_clear
  refine c_i hk_v0 ?_
  refine bind_i (sl_Scene_clear_2 v0 (0 : Int32) M M hk_v0 hJ Gc_r (show (0 : Int) ≤ (0 : Int32).toInt by decide) (show (0 : Int32).toInt ≤ (8 : Int) by decide)) (fun x3 _ q => ?_)
  obtain ⟨h1, h2⟩ := q
  refine bind_i (sl_Scene_clear_23 v0 (0 : Int32) x3 M hk_v0 h1 h2 (show (0 : Int) ≤ (0 : Int32).toInt by decide) (show (0 : Int32).toInt ≤ (64 : Int) by decide)) (fun x6 _ q => ?_)
  obtain ⟨h3, h4⟩ := q
  refine mem_i (fun M7 e6 => ?_)
  have hJ7 : J M7 := by rw [e6]; exact Jw_scene h3 hk_v0 6 (0 : Int32)
  have hG8 : Gc 0 M M7 := Gc_i h4 e6 (cl_scene hk_v0)
  have f9 : (M7.1 v0 6).toInt = (0 : Int) := by rw [e6, si_eq]; rfl
  clear e6
  refine mem_i (fun M8 e11 => ?_)
  have hJ12 : J M8 := by rw [e11]; exact Jw_scene hJ7 hk_v0 7 (0 : Int32)
  have hG13 : Gc 0 M M8 := Gc_i hG8 e11 (cl_scene hk_v0)
  have f14 : (M8.1 v0 6).toInt = (M7.1 v0 6).toInt := by rw [e11]; rw [si_ne (by exact fun e => absurd e.2 (by decide))]
  have f15 : (M8.1 v0 7).toInt = (0 : Int) := by rw [e11, si_eq]; rfl
  clear e11
  refine mem_i (fun M9 e17 => ?_)
  have hJ18 : J M9 := by rw [e17]; exact Jw_scene hJ12 hk_v0 8 (0 : Int32)
  have hG19 : Gc 0 M M9 := Gc_i hG13 e17 (cl_scene hk_v0)
  have f20 : (M9.1 v0 6).toInt = (M8.1 v0 6).toInt := by rw [e17]; rw [si_ne (by exact fun e => absurd e.2 (by decide))]
  have f21 : (M9.1 v0 7).toInt = (M8.1 v0 7).toInt := by rw [e17]; rw [si_ne (by exact fun e => absurd e.2 (by decide))]
  have f22 : (M9.1 v0 8).toInt = (0 : Int) := by rw [e17, si_eq]; rfl
  clear e17
  refine mem_i (fun M10 e24 => ?_)
  have hJ25 : J M10 := by rw [e24]; exact Jw_scene hJ18 hk_v0 9 (0 : Int32)
  have hG26 : Gc 0 M M10 := Gc_i hG19 e24 (cl_scene hk_v0)
  have f27 : (M10.1 v0 6).toInt = (M9.1 v0 6).toInt := by rw [e24]; rw [si_ne (by exact fun e => absurd e.2 (by decide))]
  have f28 : (M10.1 v0 7).toInt = (M9.1 v0 7).toInt := by rw [e24]; rw [si_ne (by exact fun e => absurd e.2 (by decide))]
  have f29 : (M10.1 v0 8).toInt = (M9.1 v0 8).toInt := by rw [e24]; rw [si_ne (by exact fun e => absurd e.2 (by decide))]
  have f30 : (M10.1 v0 9).toInt = (0 : Int) := by rw [e24, si_eq]; rfl
  clear e24
  exact ⟨M10, rfl, hJ25, hG26⟩
theorem sl_Scene_standing_6 (v0 : Nat) (v1 : Int32) (v2 : Int32) (v3 : Int32) (M : Mem) (a0_ : Int32) (a1_ : Int32) (hk_v0 : kd v0 = 10 + 7) (hp_v3 : (0 : Int) ≤ v3.toInt ∧ v3.toInt ≤ (8 : Int)) (hJ_M : J M) (i0_ : (0 : Int) ≤ a1_.toInt) (i1_ : a1_.toInt ≤ (8 : Int)) : ∃ x, iter (lb_Scene_standing_6 v0 v1 v2 v3 M) FU (a0_, a1_) = some x ∧ (fun r : Int32 => True) x := by
  refine iter_r (fun s : Int32 × Int32 => (0 : Int) ≤ s.2.toInt ∧ s.2.toInt ≤ (8 : Int)) (fun s : Int32 × Int32 => (8 - s.2.toInt).toNat) (fun r : Int32 => True) ?_ FU (a0_, a1_) ⟨i0_, i1_⟩ (by show (8 - a1_.toInt).toNat < FU; rw [FU_v]; omega)
  clear i1_ i0_
  rintro ⟨a0_', a1_'⟩ ⟨i0_, i1_⟩
  dsimp only at i0_ i1_
  unfold lb_Scene_standing_6
  dsimp only
  refine if_i (fun c => ?_) (fun c => ?_)
  · have c1 := c
    have d2 : v3.toInt ≤ a1_'.toInt := lei.mp c1
    exact ⟨_, rfl, trivial⟩
  · have c3 := c
    have d4 : a1_'.toInt < v3.toInt := nlei.mp c3
    refine inb_i (by omega) (by omega) ?_
    refine if_i (fun c => ?_) (fun c => ?_)
    · have c5 := c
      have r6 := Jr_scene0 hJ_M hk_v0 a1_'.toNatClampNeg
      have d7 : (M.1 (rf v0 0) a1_'.toNatClampNeg).toInt = v2.toInt := eqi.mp c5
      refine inb_i (by omega) (by omega) ?_
      refine if_i (fun c => ?_) (fun c => ?_)
      · have c8 := c
        have r9 := Jr_scene1 hJ_M hk_v0 a1_'.toNatClampNeg
        have d10 : (M.1 (rf v0 1) a1_'.toNatClampNeg).toInt = v1.toInt := eqi.mp c8
        have q11 : (a1_' + (1 : Int32)).toInt = a1_'.toInt + (1 : Int) := add_ti rfl rfl (by omega) (by omega)
        exact ⟨_, rfl, ⟨(show (0 : Int) ≤ (a1_' + (1 : Int32)).toInt by omega), (show (a1_' + (1 : Int32)).toInt ≤ (8 : Int) by omega)⟩, show (8 - (a1_' + (1 : Int32)).toInt).toNat < (8 - a1_'.toInt).toNat by omega⟩
      · have c12 := c
        have r13 := Jr_scene1 hJ_M hk_v0 a1_'.toNatClampNeg
        have d14 : ¬ (M.1 (rf v0 1) a1_'.toNatClampNeg).toInt = v1.toInt := neqi.mp c12
        have q15 : (a1_' + (1 : Int32)).toInt = a1_'.toInt + (1 : Int) := add_ti rfl rfl (by omega) (by omega)
        exact ⟨_, rfl, ⟨(show (0 : Int) ≤ (a1_' + (1 : Int32)).toInt by omega), (show (a1_' + (1 : Int32)).toInt ≤ (8 : Int) by omega)⟩, show (8 - (a1_' + (1 : Int32)).toInt).toNat < (8 - a1_'.toInt).toNat by omega⟩
    · have c16 := c
      have r17 := Jr_scene0 hJ_M hk_v0 a1_'.toNatClampNeg
      have d18 : ¬ (M.1 (rf v0 0) a1_'.toNatClampNeg).toInt = v2.toInt := neqi.mp c16
      have q19 : (a1_' + (1 : Int32)).toInt = a1_'.toInt + (1 : Int) := add_ti rfl rfl (by omega) (by omega)
      exact ⟨_, rfl, ⟨(show (0 : Int) ≤ (a1_' + (1 : Int32)).toInt by omega), (show (a1_' + (1 : Int32)).toInt ≤ (8 : Int) by omega)⟩, show (8 - (a1_' + (1 : Int32)).toInt).toNat < (8 - a1_'.toInt).toNat by omega⟩
theorem sf_Scene_standing (v0 : Nat) (v1 : Int32) (v2 : Int32) (v3 : Int32) (M : Mem) (hk_v0 : kd v0 = 10 + 7) (hp_v3 : (0 : Int) ≤ v3.toInt ∧ v3.toInt ≤ (8 : Int)) (hJ : J M) : ∃ r : Int32, f_Scene_standing v0 v1 v2 v3 M = some r ∧ (True) := by
  unfold f_Scene_standing
  refine c_i hk_v0 ?_
  refine bind_i (sl_Scene_standing_6 v0 v1 v2 v3 M (0 : Int32) (0 : Int32) hk_v0 (⟨show (0 : Int) ≤ v3.toInt by omega, show v3.toInt ≤ (8 : Int) by omega⟩) hJ (show (0 : Int) ≤ (0 : Int32).toInt by decide) (show (0 : Int32).toInt ≤ (8 : Int) by decide)) (fun x4 _ q => ?_)
  exact ⟨x4, rfl, trivial⟩
theorem sl_Scene_planksAt_4 (v0 : Nat) (v1 : Int32) (M : Mem) (a0_ : Int32) (a1_ : Int32) (hk_v0 : kd v0 = 10 + 7) (hJ_M : J M) (i0_ : (0 : Int) ≤ a1_.toInt) (i1_ : a1_.toInt ≤ (6 : Int)) : ∃ x, iter (lb_Scene_planksAt_4 v0 v1 M) FU (a0_, a1_) = some x ∧ (fun r : Int32 => True) x := by
  refine iter_r (fun s : Int32 × Int32 => (0 : Int) ≤ s.2.toInt ∧ s.2.toInt ≤ (6 : Int)) (fun s : Int32 × Int32 => (6 - s.2.toInt).toNat) (fun r : Int32 => True) ?_ FU (a0_, a1_) ⟨i0_, i1_⟩ (by show (6 - a1_.toInt).toNat < FU; rw [FU_v]; omega)
  clear i1_ i0_
  rintro ⟨a0_', a1_'⟩ ⟨i0_, i1_⟩
  dsimp only at i0_ i1_
  unfold lb_Scene_planksAt_4
  dsimp only
  refine if_i (fun c => ?_) (fun c => ?_)
  · have c1 := c
    have d2 : (M.1 v0 6).toInt ≤ a1_'.toInt := lei.mp c1
    exact ⟨_, rfl, trivial⟩
  · have c3 := c
    have d4 : a1_'.toInt < (M.1 v0 6).toInt := nlei.mp c3
    refine if_i (fun c => ?_) (fun c => ?_)
    · have c5 := c
      have d6 : (6 : Int) ≤ a1_'.toInt := lei.mp c5
      exact ⟨_, rfl, trivial⟩
    · have c7 := c
      have d8 : a1_'.toInt < (6 : Int) := nlei.mp c7
      refine inb_i (by omega) (by omega) ?_
      refine if_i (fun c => ?_) (fun c => ?_)
      · have c9 := c
        have r10 := Jr_scene4 hJ_M hk_v0 a1_'.toNatClampNeg
        have d11 : (M.1 (rf v0 4) a1_'.toNatClampNeg).toInt = v1.toInt := eqi.mp c9
        have q12 : (a1_' + (1 : Int32)).toInt = a1_'.toInt + (1 : Int) := add_ti rfl rfl (by omega) (by omega)
        exact ⟨_, rfl, ⟨(show (0 : Int) ≤ (a1_' + (1 : Int32)).toInt by omega), (show (a1_' + (1 : Int32)).toInt ≤ (6 : Int) by omega)⟩, show (6 - (a1_' + (1 : Int32)).toInt).toNat < (6 - a1_'.toInt).toNat by omega⟩
      · have c13 := c
        have r14 := Jr_scene4 hJ_M hk_v0 a1_'.toNatClampNeg
        have d15 : ¬ (M.1 (rf v0 4) a1_'.toNatClampNeg).toInt = v1.toInt := neqi.mp c13
        refine inb_i (by omega) (by omega) ?_
        refine if_i (fun c => ?_) (fun c => ?_)
        · have c16 := c
          have r17 := Jr_scene5 hJ_M hk_v0 a1_'.toNatClampNeg
          have d18 : (M.1 (rf v0 5) a1_'.toNatClampNeg).toInt = v1.toInt := eqi.mp c16
          have q19 : (a1_' + (1 : Int32)).toInt = a1_'.toInt + (1 : Int) := add_ti rfl rfl (by omega) (by omega)
          exact ⟨_, rfl, ⟨(show (0 : Int) ≤ (a1_' + (1 : Int32)).toInt by omega), (show (a1_' + (1 : Int32)).toInt ≤ (6 : Int) by omega)⟩, show (6 - (a1_' + (1 : Int32)).toInt).toNat < (6 - a1_'.toInt).toNat by omega⟩
        · have c20 := c
          have r21 := Jr_scene5 hJ_M hk_v0 a1_'.toNatClampNeg
          have d22 : ¬ (M.1 (rf v0 5) a1_'.toNatClampNeg).toInt = v1.toInt := neqi.mp c20
          have q23 : (a1_' + (1 : Int32)).toInt = a1_'.toInt + (1 : Int) := add_ti rfl rfl (by omega) (by omega)
          exact ⟨_, rfl, ⟨(show (0 : Int) ≤ (a1_' + (1 : Int32)).toInt by omega), (show (a1_' + (1 : Int32)).toInt ≤ (6 : Int) by omega)⟩, show (6 - (a1_' + (1 : Int32)).toInt).toNat < (6 - a1_'.toInt).toNat by omega⟩
theorem sf_Scene_planksAt (v0 : Nat) (v1 : Int32) (M : Mem) (hk_v0 : kd v0 = 10 + 7) (hJ : J M) : ∃ r : Int32, f_Scene_planksAt v0 v1 M = some r ∧ (True) := by
  unfold f_Scene_planksAt
  refine c_i hk_v0 ?_
  refine bind_i (sl_Scene_planksAt_4 v0 v1 M (0 : Int32) (0 : Int32) hk_v0 hJ (show (0 : Int) ≤ (0 : Int32).toInt by decide) (show (0 : Int32).toInt ≤ (6 : Int) by decide)) (fun x5 _ q => ?_)
  exact ⟨x5, rfl, trivial⟩
theorem sf_Scene_meetingsOfTwo (v0 : Nat) (v1 : Int32) (v2 : Int32) (M : Mem) (hk_v0 : kd v0 = 10 + 7) (hp_v1 : (0 : Int) ≤ v1.toInt ∧ v1.toInt ≤ (7 : Int)) (hp_v2 : (0 : Int) ≤ v2.toInt ∧ v2.toInt ≤ (7 : Int)) (hJ : J M) : ∃ r : Int32, f_Scene_meetingsOfTwo v0 v1 v2 M = some r ∧ (True) := by
  unfold f_Scene_meetingsOfTwo
  refine c_i hk_v0 ?_
  have q1 : (v1 * (8 : Int32)).toInt = v1.toInt * (8 : Int) := mul_ti rfl rfl (by omega) (by omega)
  have q2 : ((v1 * (8 : Int32)) + v2).toInt = (v1 * (8 : Int32)).toInt + v2.toInt := add_ti rfl rfl (by omega) (by omega)
  refine inb_i (by omega) (by omega) ?_
  have q3 : (v2 * (8 : Int32)).toInt = v2.toInt * (8 : Int) := mul_ti rfl rfl (by omega) (by omega)
  have q4 : ((v2 * (8 : Int32)) + v1).toInt = (v2 * (8 : Int32)).toInt + v1.toInt := add_ti rfl rfl (by omega) (by omega)
  refine inb_i (by omega) (by omega) ?_
  exact ⟨((M.1 (rf v0 3) ((v1 * (8 : Int32)) + v2).toNatClampNeg) + (M.1 (rf v0 3) ((v2 * (8 : Int32)) + v1).toNatClampNeg)), rfl, trivial⟩
theorem sl_Scene_meetingsOf_4 (v0 : Nat) (v1 : Int32) (M : Mem) (a0_ : Int32) (a1_ : Int32) (hk_v0 : kd v0 = 10 + 7) (hp_v1 : (0 : Int) ≤ v1.toInt ∧ v1.toInt ≤ (7 : Int)) (hJ_M : J M) (i0_ : (0 : Int) ≤ a1_.toInt) (i1_ : a1_.toInt ≤ (8 : Int)) : ∃ x, iter (lb_Scene_meetingsOf_4 v0 v1 M) FU (a0_, a1_) = some x ∧ (fun r : Int32 => True) x := by
  refine iter_r (fun s : Int32 × Int32 => (0 : Int) ≤ s.2.toInt ∧ s.2.toInt ≤ (8 : Int)) (fun s : Int32 × Int32 => (8 - s.2.toInt).toNat) (fun r : Int32 => True) ?_ FU (a0_, a1_) ⟨i0_, i1_⟩ (by show (8 - a1_.toInt).toNat < FU; rw [FU_v]; omega)
  clear i1_ i0_
  rintro ⟨a0_', a1_'⟩ ⟨i0_, i1_⟩
  dsimp only at i0_ i1_
  unfold lb_Scene_meetingsOf_4
  dsimp only
  refine if_i (fun c => ?_) (fun c => ?_)
  · have c1 := c
    have d2 : (8 : Int) ≤ a1_'.toInt := lei.mp c1
    exact ⟨_, rfl, trivial⟩
  · have c3 := c
    have d4 : a1_'.toInt < (8 : Int) := nlei.mp c3
    refine bind_i (sf_Scene_meetingsOfTwo v0 v1 a1_' M hk_v0 (⟨show (0 : Int) ≤ v1.toInt by omega, show v1.toInt ≤ (7 : Int) by omega⟩) (⟨show (0 : Int) ≤ a1_'.toInt by omega, show a1_'.toInt ≤ (7 : Int) by omega⟩) hJ_M) (fun x1 _ q => ?_)
    have q5 : (a1_' + (1 : Int32)).toInt = a1_'.toInt + (1 : Int) := add_ti rfl rfl (by omega) (by omega)
    exact ⟨_, rfl, ⟨(show (0 : Int) ≤ (a1_' + (1 : Int32)).toInt by omega), (show (a1_' + (1 : Int32)).toInt ≤ (8 : Int) by omega)⟩, show (8 - (a1_' + (1 : Int32)).toInt).toNat < (8 - a1_'.toInt).toNat by omega⟩
theorem sf_Scene_meetingsOf (v0 : Nat) (v1 : Int32) (M : Mem) (hk_v0 : kd v0 = 10 + 7) (hp_v1 : (0 : Int) ≤ v1.toInt ∧ v1.toInt ≤ (7 : Int)) (hJ : J M) : ∃ r : Int32, f_Scene_meetingsOf v0 v1 M = some r ∧ (True) := by
  unfold f_Scene_meetingsOf
  refine c_i hk_v0 ?_
  refine bind_i (sl_Scene_meetingsOf_4 v0 v1 M (0 : Int32) (0 : Int32) hk_v0 (⟨show (0 : Int) ≤ v1.toInt by omega, show v1.toInt ≤ (7 : Int) by omega⟩) hJ (show (0 : Int) ≤ (0 : Int32).toInt by decide) (show (0 : Int32).toInt ≤ (8 : Int) by decide)) (fun x3 _ q => ?_)
  exact ⟨x3, rfl, trivial⟩
theorem sl_Scene_isUnderPlank_2 (v0 : Nat) (v2 : Int32) (M : Mem) (a0_ : Int32) (hk_v0 : kd v0 = 10 + 7) (hJ_M : J M) (i0_ : (0 : Int) ≤ a0_.toInt) (i1_ : a0_.toInt ≤ (6 : Int)) : ∃ x, iter (lb_Scene_isUnderPlank_2 v0 v2 M) FU a0_ = some x ∧ (SQ (fun r : Unit => True) (fun r : Unit => True)) x := by
  refine iter_r (fun s : Int32 => (0 : Int) ≤ s.toInt ∧ s.toInt ≤ (6 : Int)) (fun s : Int32 => (6 - s.toInt).toNat) (SQ (fun r : Unit => True) (fun r : Unit => True)) ?_ FU a0_ ⟨i0_, i1_⟩ (by show (6 - a0_.toInt).toNat < FU; rw [FU_v]; omega)
  clear i1_ i0_
  rintro a0_' ⟨i0_, i1_⟩
  unfold lb_Scene_isUnderPlank_2
  refine if_i (fun c => ?_) (fun c => ?_)
  · have c1 := c
    have d2 : (M.1 v0 6).toInt ≤ a0_'.toInt := lei.mp c1
    exact ⟨_, rfl, trivial⟩
  · have c3 := c
    have d4 : a0_'.toInt < (M.1 v0 6).toInt := nlei.mp c3
    refine if_i (fun c => ?_) (fun c => ?_)
    · have c5 := c
      have d6 : (6 : Int) ≤ a0_'.toInt := lei.mp c5
      exact ⟨_, rfl, trivial⟩
    · have c7 := c
      have d8 : a0_'.toInt < (6 : Int) := nlei.mp c7
      refine inb_i (by omega) (by omega) ?_
      refine inb_i (by omega) (by omega) ?_
      refine bind_i (sf_Ground_between (M.1 (rf v0 4) a0_'.toNatClampNeg) (M.1 (rf v0 5) a0_'.toNatClampNeg) M hJ_M) (fun x1 _ q => ?_)
      obtain ⟨h9, h10⟩ := q
      refine if_i (fun c => ?_) (fun c => ?_)
      · have c11 := c
        have d12 : x1.toInt = v2.toInt := eqi.mp c11
        exact ⟨_, rfl, trivial⟩
      · have c13 := c
        have d14 : ¬ x1.toInt = v2.toInt := neqi.mp c13
        have q15 : (a0_' + (1 : Int32)).toInt = a0_'.toInt + (1 : Int) := add_ti rfl rfl (by omega) (by omega)
        exact ⟨_, rfl, ⟨(show (0 : Int) ≤ (a0_' + (1 : Int32)).toInt by omega), (show (a0_' + (1 : Int32)).toInt ≤ (6 : Int) by omega)⟩, show (6 - (a0_' + (1 : Int32)).toInt).toNat < (6 - a0_'.toInt).toNat by omega⟩
theorem sf_Scene_isUnderPlank (v0 : Nat) (v2 : Int32) (M : Mem) (hk_v0 : kd v0 = 10 + 7) (hJ : J M) : ∃ r : Int32, f_Scene_isUnderPlank v0 v2 M = some r ∧ ((0 : Int) ≤ r.toInt ∧ r.toInt ≤ (1 : Int)) := by
  unfold f_Scene_isUnderPlank
  refine c_i hk_v0 ?_
  refine bind_i (sl_Scene_isUnderPlank_2 v0 v2 M (0 : Int32) hk_v0 hJ (show (0 : Int) ≤ (0 : Int32).toInt by decide) (show (0 : Int32).toInt ≤ (6 : Int) by decide)) (fun x1 _ q => ?_)
  rcases x1 with y | y
  · have q9 : True := q
    dsimp only [Sum.elim_inl, Sum.elim_inr]
    exact ⟨(0 : Int32), rfl, (show (0 : Int) ≤ (0 : Int32).toInt by decide), (show (0 : Int32).toInt ≤ (1 : Int) by decide)⟩
  · have q9 : True := q
    dsimp only [Sum.elim_inl, Sum.elim_inr]
    exact ⟨(1 : Int32), rfl, (show (0 : Int) ≤ (1 : Int32).toInt by decide), (show (1 : Int32).toInt ≤ (1 : Int) by decide)⟩
theorem sf_Scene_copy (v0 : Nat) (v1 : Nat) (M : Mem) (hk_v0 : kd v0 = 10 + 7) (hk_v1 : kd v1 = 10 + 7) (hJ : J M) : ∃ r : Mem, f_Scene_copy v0 v1 M = some r ∧ (J r ∧ Gc 0 M r ∧ r.1 46 2 = M.1 46 2) := by
  unfold f_Scene_copy
  refine c_i hk_v0 ?_
  refine c_i hk_v1 ?_
  refine mem_i (fun M1 e2 => ?_)
  have hJ3 : J M1 := by rw [e2]; exact Jc_scene0 hJ hk_v1 hk_v0
  have hG4 : Gc 0 M M1 := Gc_c Gc_r e2 (cl_scene0 hk_v0)
  have g5 : M1.1 46 2 = M.1 46 2 := (congrArg (fun m : Mem => m.1 46 2) e2).trans ((sc_ne (fun e => rfk_0_46 hk_v0 e.symm)).trans rfl)
  clear e2
  refine mem_i (fun M2 e7 => ?_)
  have hJ8 : J M2 := by rw [e7]; exact Jc_scene1 hJ3 hk_v1 hk_v0
  have hG9 : Gc 0 M M2 := Gc_c hG4 e7 (cl_scene1 hk_v0)
  have g10 : M2.1 46 2 = M.1 46 2 := (congrArg (fun m : Mem => m.1 46 2) e7).trans ((sc_ne (fun e => rfk_1_46 hk_v0 e.symm)).trans g5)
  clear e7
  refine mem_i (fun M3 e12 => ?_)
  have hJ13 : J M3 := by rw [e12]; exact Jc_scene2 hJ8 hk_v1 hk_v0
  have hG14 : Gc 0 M M3 := Gc_c hG9 e12 (cl_scene2 hk_v0)
  have g15 : M3.1 46 2 = M.1 46 2 := (congrArg (fun m : Mem => m.1 46 2) e12).trans ((sc_ne (fun e => rfk_2_46 hk_v0 e.symm)).trans g10)
  clear e12
  refine mem_i (fun M4 e17 => ?_)
  have hJ18 : J M4 := by rw [e17]; exact Jc_scene3 hJ13 hk_v1 hk_v0
  have hG19 : Gc 0 M M4 := Gc_c hG14 e17 (cl_scene3 hk_v0)
  have g20 : M4.1 46 2 = M.1 46 2 := (congrArg (fun m : Mem => m.1 46 2) e17).trans ((sc_ne (fun e => rfk_3_46 hk_v0 e.symm)).trans g15)
  clear e17
  refine mem_i (fun M5 e22 => ?_)
  have hJ23 : J M5 := by rw [e22]; exact Jc_scene4 hJ18 hk_v1 hk_v0
  have hG24 : Gc 0 M M5 := Gc_c hG19 e22 (cl_scene4 hk_v0)
  have g25 : M5.1 46 2 = M.1 46 2 := (congrArg (fun m : Mem => m.1 46 2) e22).trans ((sc_ne (fun e => rfk_4_46 hk_v0 e.symm)).trans g20)
  clear e22
  refine mem_i (fun M6 e27 => ?_)
  have hJ28 : J M6 := by rw [e27]; exact Jc_scene5 hJ23 hk_v1 hk_v0
  have hG29 : Gc 0 M M6 := Gc_c hG24 e27 (cl_scene5 hk_v0)
  have g30 : M6.1 46 2 = M.1 46 2 := (congrArg (fun m : Mem => m.1 46 2) e27).trans ((sc_ne (fun e => rfk_5_46 hk_v0 e.symm)).trans g25)
  clear e27
  refine mem_i (fun M7 e32 => ?_)
  have hJ33 : J M7 := by rw [e32]; exact Jw_scene hJ28 hk_v0 6 (M6.1 v1 6)
  have hG34 : Gc 0 M M7 := Gc_i hG29 e32 (cl_scene hk_v0)
  have g35 : M7.1 46 2 = M.1 46 2 := (congrArg (fun m : Mem => m.1 46 2) e32).trans ((si_ne (by exact fun e => vk_46 hk_v0 e.1.symm)).trans g30)
  clear e32
  refine mem_i (fun M8 e37 => ?_)
  have hJ38 : J M8 := by rw [e37]; exact Jw_scene hJ33 hk_v0 7 (M7.1 v1 7)
  have hG39 : Gc 0 M M8 := Gc_i hG34 e37 (cl_scene hk_v0)
  have g40 : M8.1 46 2 = M.1 46 2 := (congrArg (fun m : Mem => m.1 46 2) e37).trans ((si_ne (by exact fun e => vk_46 hk_v0 e.1.symm)).trans g35)
  clear e37
  refine mem_i (fun M9 e42 => ?_)
  have hJ43 : J M9 := by rw [e42]; exact Jw_scene hJ38 hk_v0 8 (M8.1 v1 8)
  have hG44 : Gc 0 M M9 := Gc_i hG39 e42 (cl_scene hk_v0)
  have g45 : M9.1 46 2 = M.1 46 2 := (congrArg (fun m : Mem => m.1 46 2) e42).trans ((si_ne (by exact fun e => vk_46 hk_v0 e.1.symm)).trans g40)
  clear e42
  refine mem_i (fun M10 e47 => ?_)
  have hJ48 : J M10 := by rw [e47]; exact Jw_scene hJ43 hk_v0 9 (M9.1 v1 9)
  have hG49 : Gc 0 M M10 := Gc_i hG44 e47 (cl_scene hk_v0)
  have g50 : M10.1 46 2 = M.1 46 2 := (congrArg (fun m : Mem => m.1 46 2) e47).trans ((si_ne (by exact fun e => vk_46 hk_v0 e.1.symm)).trans g45)
  clear e47
  exact ⟨M10, rfl, hJ48, hG49, (g50)⟩
theorem sf_Scene_hasPlank (v0 : Nat) (v1 : Int32) (v2 : Int32) (M : Mem) (hk_v0 : kd v0 = 10 + 7) (hJ : J M) : ∃ r : Int32, f_Scene_hasPlank v0 v1 v2 M = some r ∧ ((0 : Int) ≤ r.toInt ∧ r.toInt ≤ (1 : Int)) := by
  unfold f_Scene_hasPlank
  refine c_i hk_v0 ?_
  refine bind_i (sf_Scene_planksAt v0 v1 M hk_v0 hJ) (fun x1 _ q => ?_)
  refine bind_i (sf_Scene_planksAt v0 v2 M hk_v0 hJ) (fun x2 _ q => ?_)
  refine if_i (fun c => ?_) (fun c => ?_)
  · have c1 := c
    have d2 : (x1 &&& x2).toInt = (0 : Int) := eqi.mp c1
    exact ⟨(0 : Int32), rfl, (show (0 : Int) ≤ (0 : Int32).toInt by decide), (show (0 : Int32).toInt ≤ (1 : Int) by decide)⟩
  · have c3 := c
    have d4 : ¬ (x1 &&& x2).toInt = (0 : Int) := neqi.mp c3
    exact ⟨(1 : Int32), rfl, (show (0 : Int) ≤ (1 : Int32).toInt by decide), (show (1 : Int32).toInt ≤ (1 : Int) by decide)⟩
theorem sf_Scene_addPlank (v0 : Nat) (v1 : Int32) (v2 : Int32) (M : Mem) (hk_v0 : kd v0 = 10 + 7) (hp_v1 : (0 : Int) ≤ v1.toInt ∧ v1.toInt ≤ (35 : Int)) (hp_v2 : (0 : Int) ≤ v2.toInt ∧ v2.toInt ≤ (35 : Int)) (hJ : J M) : ∃ r : Int32 × Mem, f_Scene_addPlank v0 v1 v2 M = some r ∧ (J r.2 ∧ Gc 0 M r.2 ∧ (0 : Int) ≤ r.1.toInt ∧ r.1.toInt ≤ (1 : Int)) := by
  unfold f_Scene_addPlank
  refine c_i hk_v0 ?_
  refine if_i (fun c => ?_) (fun c => ?_)
  · have c1 := c
    have d2 : (M.1 v0 6).toInt < (0 : Int) := lti.mp c1
    exact ⟨((0 : Int32), M), rfl, hJ, Gc_r, (show (0 : Int) ≤ (0 : Int32).toInt by decide), (show (0 : Int32).toInt ≤ (1 : Int) by decide)⟩
  · have c3 := c
    have d4 : (0 : Int) ≤ (M.1 v0 6).toInt := nlti.mp c3
    refine if_i (fun c => ?_) (fun c => ?_)
    · have c5 := c
      have d6 : (M.1 v0 6).toInt < (6 : Int) := lti.mp c5
      refine inb_i (by omega) (by omega) ?_
      refine mem_i (fun M1 e8 => ?_)
      have hJ9 : J M1 := by rw [e8]; exact Jw_scene4 hJ hk_v0 (M.1 v0 6).toNatClampNeg v1 (show (0 : Int) ≤ v1.toInt by omega) (show v1.toInt ≤ (35 : Int) by omega)
      have hG10 : Gc 0 M M1 := Gc_i Gc_r e8 (cl_scene4 hk_v0)
      have f11 : (M1.1 v0 6).toInt = (M.1 v0 6).toInt := by rw [e8]; rw [si_ne (by exact rf_ne4_scene hk_v0)]
      have f12 : (M1.1 (rf v0 4) (M.1 v0 6).toNatClampNeg).toInt = v1.toInt := by rw [e8, si_eq]
      clear e8
      refine inb_i (by omega) (by omega) ?_
      refine mem_i (fun M2 e14 => ?_)
      have hJ15 : J M2 := by rw [e14]; exact Jw_scene5 hJ9 hk_v0 (M1.1 v0 6).toNatClampNeg v2 (show (0 : Int) ≤ v2.toInt by omega) (show v2.toInt ≤ (35 : Int) by omega)
      have hG16 : Gc 0 M M2 := Gc_i hG10 e14 (cl_scene5 hk_v0)
      have f17 : (M2.1 v0 6).toInt = (M1.1 v0 6).toInt := by rw [e14]; rw [si_ne (by exact rf_ne5_scene hk_v0)]
      have f18 : (M2.1 (rf v0 5) (M1.1 v0 6).toNatClampNeg).toInt = v2.toInt := by rw [e14, si_eq]
      clear e14
      refine mem_i (fun M3 e20 => ?_)
      have hJ21 : J M3 := by rw [e20]; exact Jw_scene hJ15 hk_v0 6 ((M2.1 v0 6) + (1 : Int32))
      have hG22 : Gc 0 M M3 := Gc_i hG16 e20 (cl_scene hk_v0)
      have f23 : (M3.1 (rf v0 5) (M1.1 v0 6).toNatClampNeg).toInt = (M2.1 (rf v0 5) (M1.1 v0 6).toNatClampNeg).toInt := by rw [e20]; rw [si_ne (by exact rf_en5_scene hk_v0)]
      have q24 : ((M2.1 v0 6) + (1 : Int32)).toInt = (M2.1 v0 6).toInt + (1 : Int) := add_ti rfl rfl (by omega) (by omega)
      have f25 : (M3.1 v0 6).toInt = ((M2.1 v0 6) + (1 : Int32)).toInt := by rw [e20, si_eq]
      clear e20
      exact ⟨((1 : Int32), M3), rfl, hJ21, hG22, (show (0 : Int) ≤ (1 : Int32).toInt by decide), (show (1 : Int32).toInt ≤ (1 : Int) by decide)⟩
    · have c26 := c
      have d27 : (6 : Int) ≤ (M.1 v0 6).toInt := nlti.mp c26
      exact ⟨((0 : Int32), M), rfl, hJ, Gc_r, (show (0 : Int) ≤ (0 : Int32).toInt by decide), (show (0 : Int32).toInt ≤ (1 : Int) by decide)⟩
theorem sf_Scene_addMeeting (v0 : Nat) (v1 : Int32) (v2 : Int32) (M : Mem) (hk_v0 : kd v0 = 10 + 7) (hp_v1 : (0 : Int) ≤ v1.toInt ∧ v1.toInt ≤ (7 : Int)) (hp_v2 : (0 : Int) ≤ v2.toInt ∧ v2.toInt ≤ (7 : Int)) (hJ : J M) : ∃ r : Mem, f_Scene_addMeeting v0 v1 v2 M = some r ∧ (J r ∧ Gc 0 M r) := by
  unfold f_Scene_addMeeting
  refine c_i hk_v0 ?_
  have q1 : (v1 * (8 : Int32)).toInt = v1.toInt * (8 : Int) := mul_ti rfl rfl (by omega) (by omega)
  have q2 : ((v1 * (8 : Int32)) + v2).toInt = (v1 * (8 : Int32)).toInt + v2.toInt := add_ti rfl rfl (by omega) (by omega)
  refine inb_i (by omega) (by omega) ?_
  refine inb_i (by omega) (by omega) ?_
  refine mem_i (fun M1 e4 => ?_)
  have hJ5 : J M1 := by rw [e4]; exact Jw_scene3 hJ hk_v0 ((v1 * (8 : Int32)) + v2).toNatClampNeg ((M.1 (rf v0 3) ((v1 * (8 : Int32)) + v2).toNatClampNeg) + (1 : Int32))
  have hG6 : Gc 0 M M1 := Gc_i Gc_r e4 (cl_scene3 hk_v0)
  clear e4
  exact ⟨M1, rfl, hJ5, hG6⟩
theorem sl_Scene_guarded_5 (v0 : Nat) (v1 : Int32) (v2 : Int32) (M : Mem) (a0_ : Int64) (a1_ : Int32) (hk_v0 : kd v0 = 10 + 7) (hJ_M : J M) (i0_ : (0 : Int) ≤ a1_.toInt) (i1_ : a1_.toInt ≤ (8 : Int)) : ∃ x, iter (lb_Scene_guarded_5 v0 v1 v2 M) FU (a0_, a1_) = some x ∧ (fun r : Int64 => True) x := by
  refine iter_r (fun s : Int64 × Int32 => (0 : Int) ≤ s.2.toInt ∧ s.2.toInt ≤ (8 : Int)) (fun s : Int64 × Int32 => (8 - s.2.toInt).toNat) (fun r : Int64 => True) ?_ FU (a0_, a1_) ⟨i0_, i1_⟩ (by show (8 - a1_.toInt).toNat < FU; rw [FU_v]; omega)
  clear i1_ i0_
  rintro ⟨a0_', a1_'⟩ ⟨i0_, i1_⟩
  dsimp only at i0_ i1_
  unfold lb_Scene_guarded_5
  dsimp only
  refine if_i (fun c => ?_) (fun c => ?_)
  · have c1 := c
    have d2 : (8 : Int) ≤ a1_'.toInt := lei.mp c1
    exact ⟨_, rfl, trivial⟩
  · have c3 := c
    have d4 : a1_'.toInt < (8 : Int) := nlei.mp c3
    refine if_i (fun c => ?_) (fun c => ?_)
    · have c5 := c
      have q6 : (0 : Int) ≤ ((v2 >>> (a1_' &&& 31)) &&& (1 : Int32)).toInt ∧ ((v2 >>> (a1_' &&& 31)) &&& (1 : Int32)).toInt ≤ 1 := and_rng (by decide)
      have d7 : ((v2 >>> (a1_' &&& 31)) &&& (1 : Int32)).toInt = (0 : Int) := eqi.mp c5
      have q8 : (a1_' + (1 : Int32)).toInt = a1_'.toInt + (1 : Int) := add_ti rfl rfl (by omega) (by omega)
      exact ⟨_, rfl, ⟨(show (0 : Int) ≤ (a1_' + (1 : Int32)).toInt by omega), (show (a1_' + (1 : Int32)).toInt ≤ (8 : Int) by omega)⟩, show (8 - (a1_' + (1 : Int32)).toInt).toNat < (8 - a1_'.toInt).toNat by omega⟩
    · have c9 := c
      have q10 : (0 : Int) ≤ ((v2 >>> (a1_' &&& 31)) &&& (1 : Int32)).toInt ∧ ((v2 >>> (a1_' &&& 31)) &&& (1 : Int32)).toInt ≤ 1 := and_rng (by decide)
      have d11 : ¬ ((v2 >>> (a1_' &&& 31)) &&& (1 : Int32)).toInt = (0 : Int) := neqi.mp c9
      refine inb_i (by omega) (by omega) ?_
      refine if_i (fun c => ?_) (fun c => ?_)
      · have c12 := c
        have r13 := Jr_scene1 hJ_M hk_v0 a1_'.toNatClampNeg
        have d14 : (M.1 (rf v0 1) a1_'.toNatClampNeg).toInt = v1.toInt := eqi.mp c12
        refine inb_i (by omega) (by omega) ?_
        have q15 : (a1_' + (1 : Int32)).toInt = a1_'.toInt + (1 : Int) := add_ti rfl rfl (by omega) (by omega)
        exact ⟨_, rfl, ⟨(show (0 : Int) ≤ (a1_' + (1 : Int32)).toInt by omega), (show (a1_' + (1 : Int32)).toInt ≤ (8 : Int) by omega)⟩, show (8 - (a1_' + (1 : Int32)).toInt).toNat < (8 - a1_'.toInt).toNat by omega⟩
      · have c16 := c
        have r17 := Jr_scene1 hJ_M hk_v0 a1_'.toNatClampNeg
        have d18 : ¬ (M.1 (rf v0 1) a1_'.toNatClampNeg).toInt = v1.toInt := neqi.mp c16
        have q19 : (a1_' + (1 : Int32)).toInt = a1_'.toInt + (1 : Int) := add_ti rfl rfl (by omega) (by omega)
        exact ⟨_, rfl, ⟨(show (0 : Int) ≤ (a1_' + (1 : Int32)).toInt by omega), (show (a1_' + (1 : Int32)).toInt ≤ (8 : Int) by omega)⟩, show (8 - (a1_' + (1 : Int32)).toInt).toNat < (8 - a1_'.toInt).toNat by omega⟩
theorem sf_Scene_guarded (v0 : Nat) (v1 : Int32) (v2 : Int32) (M : Mem) (hk_v0 : kd v0 = 10 + 7) (hJ : J M) : ∃ r : Int64, f_Scene_guarded v0 v1 v2 M = some r ∧ (True) := by
  unfold f_Scene_guarded
  refine c_i hk_v0 ?_
  refine bind_i (sl_Scene_guarded_5 v0 v1 v2 M (0 : Int64) (0 : Int32) hk_v0 hJ (show (0 : Int) ≤ (0 : Int32).toInt by decide) (show (0 : Int32).toInt ≤ (8 : Int) by decide)) (fun x4 _ q => ?_)
  exact ⟨x4, rfl, trivial⟩
theorem sf_Scene_occupied (v0 : Nat) (v1 : Int32) (v2 : Int32) (M : Mem) (hk_v0 : kd v0 = 10 + 7) (hJ : J M) : ∃ r : Int64, f_Scene_occupied v0 v1 v2 M = some r ∧ (True) := by
  unfold f_Scene_occupied
  refine c_i hk_v0 ?_
  refine bind_i (sf_Scene_guarded v0 v1 (((1 : Int32) <<< (v2 &&& 31)) - (1 : Int32)) M hk_v0 hJ) (fun x1 _ q => ?_)
  exact ⟨x1, rfl, trivial⟩
theorem sl_Scene_allMeetings_4 (v0 : Nat) (M : Mem) (a0_ : Int32) (a1_ : Int32) (hk_v0 : kd v0 = 10 + 7) (hJ_M : J M) (i0_ : (0 : Int) ≤ a1_.toInt) (i1_ : a1_.toInt ≤ (64 : Int)) : ∃ x, iter (lb_Scene_allMeetings_4 v0 M) FU (a0_, a1_) = some x ∧ (fun r : Int32 => True) x := by
  refine iter_r (fun s : Int32 × Int32 => (0 : Int) ≤ s.2.toInt ∧ s.2.toInt ≤ (64 : Int)) (fun s : Int32 × Int32 => (64 - s.2.toInt).toNat) (fun r : Int32 => True) ?_ FU (a0_, a1_) ⟨i0_, i1_⟩ (by show (64 - a1_.toInt).toNat < FU; rw [FU_v]; omega)
  clear i1_ i0_
  rintro ⟨a0_', a1_'⟩ ⟨i0_, i1_⟩
  dsimp only at i0_ i1_
  unfold lb_Scene_allMeetings_4
  dsimp only
  refine if_i (fun c => ?_) (fun c => ?_)
  · have c1 := c
    have d2 : (64 : Int) ≤ a1_'.toInt := lei.mp c1
    exact ⟨_, rfl, trivial⟩
  · have c3 := c
    have d4 : a1_'.toInt < (64 : Int) := nlei.mp c3
    refine inb_i (by omega) (by omega) ?_
    have q5 : (a1_' + (1 : Int32)).toInt = a1_'.toInt + (1 : Int) := add_ti rfl rfl (by omega) (by omega)
    exact ⟨_, rfl, ⟨(show (0 : Int) ≤ (a1_' + (1 : Int32)).toInt by omega), (show (a1_' + (1 : Int32)).toInt ≤ (64 : Int) by omega)⟩, show (64 - (a1_' + (1 : Int32)).toInt).toNat < (64 - a1_'.toInt).toNat by omega⟩
