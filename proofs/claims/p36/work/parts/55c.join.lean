section
/-! safety of the reference, 3 -/
theorem sl_Mod_goFeast_10 (v1 : Int32) (a0_ : Int32) (N_ : Mem) (B_ : Mem) (hp_v1 : (0 : Int) ≤ v1.toInt ∧ v1.toInt ≤ (1 : Int)) (hN : J N_) (hG : Gd 163 B_ N_) (i2_ : (0 : Int) ≤ a0_.toInt) (i3_ : a0_.toInt ≤ (8 : Int)) : ∃ x, iter (lb_Mod_goFeast_10 v1) FU (a0_, N_) = some x ∧ (fun r : Mem => J r ∧ Gd 163 B_ r) x := by
  refine iter_r (fun s : Int32 × Mem => J s.2 ∧ Gd 163 B_ s.2 ∧ (0 : Int) ≤ s.1.toInt ∧ s.1.toInt ≤ (8 : Int)) (fun s : Int32 × Mem => (8 - s.1.toInt).toNat) (fun r : Mem => J r ∧ Gd 163 B_ r) ?_ FU (a0_, N_) ⟨hN, hG, i2_, i3_⟩ (by show (8 - a0_.toInt).toNat < FU; rw [FU_v]; omega)
  clear i3_ i2_ hG hN
  rintro ⟨a0_', N_'⟩ ⟨hN, hG, i2_, i3_⟩
  dsimp only at hN hG i2_ i3_
  unfold lb_Mod_goFeast_10
  dsimp only
  refine if_i (fun c => ?_) (fun c => ?_)
  · have c1 := c
    have r2 := Jr_162_4 hN
    have d3 : (N_'.1 162 4).toInt ≤ a0_'.toInt := lei.mp c1
    exact ⟨_, rfl, hN, hG⟩
  · have c4 := c
    have r5 := Jr_162_4 hN
    have d6 : a0_'.toInt < (N_'.1 162 4).toInt := nlei.mp c4
    refine bind_i (sf_Mod_has (N_'.1 162 5) a0_') (fun x2 e_x2 q => ?_)
    obtain ⟨h7, h8⟩ := q
    refine if_i (fun c => ?_) (fun c => ?_)
    · have c9 := c
      have d10 : x2.toInt = (0 : Int) := eqi.mp c9
      have q11 : (a0_' + (1 : Int32)).toInt = a0_'.toInt + (1 : Int) := add_ti rfl rfl (by omega) (by omega)
      exact ⟨_, rfl, ⟨hN, hG, (show (0 : Int) ≤ (a0_' + (1 : Int32)).toInt by omega), (show (a0_' + (1 : Int32)).toInt ≤ (8 : Int) by omega)⟩, show (8 - (a0_' + (1 : Int32)).toInt).toNat < (8 - a0_'.toInt).toNat by omega⟩
    · have c12 := c
      have d13 : ¬ x2.toInt = (0 : Int) := neqi.mp c12
      refine inb_i (by omega) (by omega) ?_
      refine bind_e (show (f_Mod_cellOf (N_'.1 163 a0_'.toNatClampNeg)) = some ((N_'.1 163 a0_'.toNatClampNeg) - (((N_'.1 163 a0_'.toNatClampNeg) / (36 : Int32)) * (36 : Int32))) from rfl) ?_
      have r14 := Jst0 hN St_163 (i := a0_') (by omega) (by omega)
      have q15 : ((N_'.1 163 a0_'.toNatClampNeg) - (((N_'.1 163 a0_'.toNatClampNeg) / (36 : Int32)) * (36 : Int32))).toInt = (N_'.1 163 a0_'.toNatClampNeg).toInt % (36 : Int) := rem_ti rfl rfl (by omega) (by omega)
      refine inb_i (by omega) (by omega) ?_
      refine if_i (fun c => ?_) (fun c => ?_)
      · have c16 := c
        have d17 : (N_'.1 164 ((N_'.1 163 a0_'.toNatClampNeg) - (((N_'.1 163 a0_'.toNatClampNeg) / (36 : Int32)) * (36 : Int32))).toNatClampNeg).toInt = (3 : Int) := eqi.mp c16
        refine inb_i (by omega) (by omega) ?_
        refine bind_e (show (f_Mod_cellOf (N_'.1 163 a0_'.toNatClampNeg)) = some ((N_'.1 163 a0_'.toNatClampNeg) - (((N_'.1 163 a0_'.toNatClampNeg) / (36 : Int32)) * (36 : Int32))) from rfl) ?_
        refine bind_e (show (f_Mod_placeOf ((1 : Int32) - v1) ((N_'.1 163 a0_'.toNatClampNeg) - (((N_'.1 163 a0_'.toNatClampNeg) / (36 : Int32)) * (36 : Int32)))) = some (((36 : Int32) * ((1 : Int32) - v1)) + ((N_'.1 163 a0_'.toNatClampNeg) - (((N_'.1 163 a0_'.toNatClampNeg) / (36 : Int32)) * (36 : Int32)))) from rfl) ?_
        refine inb_i (by omega) (by omega) ?_
        have q19 : ((1 : Int32) - v1).toInt = (1 : Int) - v1.toInt := sub_ti rfl rfl (by omega) (by omega)
        have q20 : ((36 : Int32) * ((1 : Int32) - v1)).toInt = (36 : Int) * ((1 : Int32) - v1).toInt := mul_ti rfl rfl (by omega) (by omega)
        have q21 : (((36 : Int32) * ((1 : Int32) - v1)) + ((N_'.1 163 a0_'.toNatClampNeg) - (((N_'.1 163 a0_'.toNatClampNeg) / (36 : Int32)) * (36 : Int32)))).toInt = ((36 : Int32) * ((1 : Int32) - v1)).toInt + ((N_'.1 163 a0_'.toNatClampNeg) - (((N_'.1 163 a0_'.toNatClampNeg) / (36 : Int32)) * (36 : Int32))).toInt := add_ti rfl rfl (by omega) (by omega)
        refine mem_i (fun M6 e22 => ?_)
        have hJ23 : J M6 := by rw [e22]; exact Jws0 hN St_163 (i := a0_') (by omega) (by omega) (((36 : Int32) * ((1 : Int32) - v1)) + ((N_'.1 163 a0_'.toNatClampNeg) - (((N_'.1 163 a0_'.toNatClampNeg) / (36 : Int32)) * (36 : Int32)))) (show (0 : Int) ≤ (((36 : Int32) * ((1 : Int32) - v1)) + ((N_'.1 163 a0_'.toNatClampNeg) - (((N_'.1 163 a0_'.toNatClampNeg) / (36 : Int32)) * (36 : Int32)))).toInt by omega) (show (((36 : Int32) * ((1 : Int32) - v1)) + ((N_'.1 163 a0_'.toNatClampNeg) - (((N_'.1 163 a0_'.toNatClampNeg) / (36 : Int32)) * (36 : Int32)))).toInt ≤ (71 : Int) by omega)
        have hG24 : Gd 163 B_ M6 := Gd_st hG e22 (by show a0_'.toInt.toNat < 80 ∨ 92 < a0_'.toInt.toNat; omega)
        have f25 : (M6.1 162 4).toInt = (N_'.1 162 4).toInt := by rw [e22]; rw [si_ne (by exact fun e => absurd e.1 (by decide))]
        have f26 : (M6.1 164 ((N_'.1 163 a0_'.toNatClampNeg) - (((N_'.1 163 a0_'.toNatClampNeg) / (36 : Int32)) * (36 : Int32))).toNatClampNeg).toInt = (N_'.1 164 ((N_'.1 163 a0_'.toNatClampNeg) - (((N_'.1 163 a0_'.toNatClampNeg) / (36 : Int32)) * (36 : Int32))).toNatClampNeg).toInt := by rw [e22]; rw [si_ne (by exact fun e => absurd e.1 (by decide))]
        clear e22
        have q27 : (a0_' + (1 : Int32)).toInt = a0_'.toInt + (1 : Int) := add_ti rfl rfl (by omega) (by omega)
        exact ⟨_, rfl, ⟨hJ23, hG24, (show (0 : Int) ≤ (a0_' + (1 : Int32)).toInt by omega), (show (a0_' + (1 : Int32)).toInt ≤ (8 : Int) by omega)⟩, show (8 - (a0_' + (1 : Int32)).toInt).toNat < (8 - a0_'.toInt).toNat by omega⟩
      · have c28 := c
        have d29 : ¬ (N_'.1 164 ((N_'.1 163 a0_'.toNatClampNeg) - (((N_'.1 163 a0_'.toNatClampNeg) / (36 : Int32)) * (36 : Int32))).toNatClampNeg).toInt = (3 : Int) := neqi.mp c28
        have q30 : (a0_' + (1 : Int32)).toInt = a0_'.toInt + (1 : Int) := add_ti rfl rfl (by omega) (by omega)
        exact ⟨_, rfl, ⟨hN, hG, (show (0 : Int) ≤ (a0_' + (1 : Int32)).toInt by omega), (show (a0_' + (1 : Int32)).toInt ≤ (8 : Int) by omega)⟩, show (8 - (a0_' + (1 : Int32)).toInt).toNat < (8 - a0_'.toInt).toNat by omega⟩
theorem sf_Mod_goFeast (v1 : Int32) (M : Mem) (hp_v1 : (0 : Int) ≤ v1.toInt ∧ v1.toInt ≤ (1 : Int)) (hJ : J M) : ∃ r : Mem, f_Mod_goFeast v1 M = some r ∧ (J r ∧ Gd 163 M r) := by
  unfold f_Mod_goFeast
  refine mem_i (fun M1 e2 => ?_)
  have hJ3 : J M1 := by rw [e2]; exact Jws94 hJ St_163 v1 (show (0 : Int) ≤ v1.toInt by omega) (show v1.toInt ≤ (1 : Int) by omega)
  have hG4 : Gd 163 M M1 := Gd_st Gd_r e2 (by decide)
  clear e2
  refine bind_i (sl_Mod_goFeast_10 v1 (0 : Int32) M1 M (⟨show (0 : Int) ≤ v1.toInt by omega, show v1.toInt ≤ (1 : Int) by omega⟩) hJ3 hG4 (show (0 : Int) ≤ (0 : Int32).toInt by decide) (show (0 : Int32).toInt ≤ (8 : Int) by decide)) (fun x10 _ q => ?_)
  obtain ⟨h5, h6⟩ := q
  exact ⟨x10, rfl, h5, h6⟩
theorem sf_Mod_areMeeting (v1 : Nat) (v2 : Int32) (v3 : Int32) (M : Mem) (hk_v1 : St v1) (hp_v2 : (0 : Int) ≤ v2.toInt ∧ v2.toInt ≤ (7 : Int)) (hp_v3 : (0 : Int) ≤ v3.toInt ∧ v3.toInt ≤ (7 : Int)) (hJ : J M) : ∃ r : Int32, f_Mod_areMeeting v1 v2 v3 M = some r ∧ ((0 : Int) ≤ r.toInt ∧ r.toInt ≤ (1 : Int)) := by
  unfold f_Mod_areMeeting
  refine c_i (St_kd hk_v1) ?_
  have l1 := St_ln hk_v1
  refine inb_i (by omega) (by omega) ?_
  refine bind_e (show (f_Mod_cellOf (M.1 v1 v2.toNatClampNeg)) = some ((M.1 v1 v2.toNatClampNeg) - (((M.1 v1 v2.toNatClampNeg) / (36 : Int32)) * (36 : Int32))) from rfl) ?_
  have l2 := St_ln hk_v1
  refine inb_i (by omega) (by omega) ?_
  refine bind_e (show (f_Mod_cellOf (M.1 v1 v3.toNatClampNeg)) = some ((M.1 v1 v3.toNatClampNeg) - (((M.1 v1 v3.toNatClampNeg) / (36 : Int32)) * (36 : Int32))) from rfl) ?_
  refine if_i (fun c => ?_) (fun c => ?_)
  · have c3 := c
    have r4 := Jst0 hJ hk_v1 (i := v2) (by omega) (by omega)
    have q5 : ((M.1 v1 v2.toNatClampNeg) - (((M.1 v1 v2.toNatClampNeg) / (36 : Int32)) * (36 : Int32))).toInt = (M.1 v1 v2.toNatClampNeg).toInt % (36 : Int) := rem_ti rfl rfl (by omega) (by omega)
    have r6 := Jst0 hJ hk_v1 (i := v3) (by omega) (by omega)
    have q7 : ((M.1 v1 v3.toNatClampNeg) - (((M.1 v1 v3.toNatClampNeg) / (36 : Int32)) * (36 : Int32))).toInt = (M.1 v1 v3.toNatClampNeg).toInt % (36 : Int) := rem_ti rfl rfl (by omega) (by omega)
    have d8 : ((M.1 v1 v2.toNatClampNeg) - (((M.1 v1 v2.toNatClampNeg) / (36 : Int32)) * (36 : Int32))).toInt = ((M.1 v1 v3.toNatClampNeg) - (((M.1 v1 v3.toNatClampNeg) / (36 : Int32)) * (36 : Int32))).toInt := eqi.mp c3
    have l9 := St_ln hk_v1
    refine inb_i (by omega) (by omega) ?_
    refine bind_e (show (f_Mod_cellOf (M.1 v1 v2.toNatClampNeg)) = some ((M.1 v1 v2.toNatClampNeg) - (((M.1 v1 v2.toNatClampNeg) / (36 : Int32)) * (36 : Int32))) from rfl) ?_
    refine inb_i (by omega) (by omega) ?_
    refine if_i (fun c => ?_) (fun c => ?_)
    · have c10 := c
      have d11 : (M.1 164 ((M.1 v1 v2.toNatClampNeg) - (((M.1 v1 v2.toNatClampNeg) / (36 : Int32)) * (36 : Int32))).toNatClampNeg).toInt = (3 : Int) := eqi.mp c10
      exact ⟨(1 : Int32), rfl, (show (0 : Int) ≤ (1 : Int32).toInt by decide), (show (1 : Int32).toInt ≤ (1 : Int) by decide)⟩
    · have c12 := c
      have d13 : ¬ (M.1 164 ((M.1 v1 v2.toNatClampNeg) - (((M.1 v1 v2.toNatClampNeg) / (36 : Int32)) * (36 : Int32))).toNatClampNeg).toInt = (3 : Int) := neqi.mp c12
      exact ⟨(0 : Int32), rfl, (show (0 : Int) ≤ (0 : Int32).toInt by decide), (show (0 : Int32).toInt ≤ (1 : Int) by decide)⟩
  · have c14 := c
    have r15 := Jst0 hJ hk_v1 (i := v2) (by omega) (by omega)
    have q16 : ((M.1 v1 v2.toNatClampNeg) - (((M.1 v1 v2.toNatClampNeg) / (36 : Int32)) * (36 : Int32))).toInt = (M.1 v1 v2.toNatClampNeg).toInt % (36 : Int) := rem_ti rfl rfl (by omega) (by omega)
    have r17 := Jst0 hJ hk_v1 (i := v3) (by omega) (by omega)
    have q18 : ((M.1 v1 v3.toNatClampNeg) - (((M.1 v1 v3.toNatClampNeg) / (36 : Int32)) * (36 : Int32))).toInt = (M.1 v1 v3.toNatClampNeg).toInt % (36 : Int) := rem_ti rfl rfl (by omega) (by omega)
    have d19 : ¬ ((M.1 v1 v2.toNatClampNeg) - (((M.1 v1 v2.toNatClampNeg) / (36 : Int32)) * (36 : Int32))).toInt = ((M.1 v1 v3.toNatClampNeg) - (((M.1 v1 v3.toNatClampNeg) / (36 : Int32)) * (36 : Int32))).toInt := neqi.mp c14
    exact ⟨(0 : Int32), rfl, (show (0 : Int) ≤ (0 : Int32).toInt by decide), (show (0 : Int32).toInt ≤ (1 : Int) by decide)⟩
theorem sl_Mod_hears_64 (v1 : Nat) (v4 : Int32) (M : Mem) (a0_ : Int32) (a1_ : Int32) (hk_v1 : St v1) (hp_v4 : (0 : Int) ≤ v4.toInt ∧ v4.toInt ≤ (35 : Int)) (hJ_M : J M) (i0_ : (0 : Int) ≤ a1_.toInt) (i1_ : a1_.toInt ≤ (4 : Int)) : ∃ x, iter (lb_Mod_hears_64 v1 v4 M) FU (a0_, a1_) = some x ∧ (fun r : Int32 => True) x := by
  refine iter_r (fun s : Int32 × Int32 => (0 : Int) ≤ s.2.toInt ∧ s.2.toInt ≤ (4 : Int)) (fun s : Int32 × Int32 => (4 - s.2.toInt).toNat) (fun r : Int32 => True) ?_ FU (a0_, a1_) ⟨i0_, i1_⟩ (by show (4 - a1_.toInt).toNat < FU; rw [FU_v]; omega)
  clear i1_ i0_
  rintro ⟨a0_', a1_'⟩ ⟨i0_, i1_⟩
  dsimp only at i0_ i1_
  unfold lb_Mod_hears_64
  dsimp only
  refine if_i (fun c => ?_) (fun c => ?_)
  · have c1 := c
    have d2 : (4 : Int) ≤ a1_'.toInt := lei.mp c1
    exact ⟨_, rfl, trivial⟩
  · have c3 := c
    have d4 : a1_'.toInt < (4 : Int) := nlei.mp c3
    refine bind_i (sf_Mod_beside v4 a1_' M (⟨show (-1 : Int) ≤ v4.toInt by omega, show v4.toInt ≤ (35 : Int) by omega⟩) hJ_M) (fun x4 e_x4 q => ?_)
    obtain ⟨h5, h6⟩ := q
    refine if_i (fun c => ?_) (fun c => ?_)
    · have c7 := c
      have d8 : x4.toInt = (-1 : Int) := eqi.mp c7
      have q9 : (a1_' + (1 : Int32)).toInt = a1_'.toInt + (1 : Int) := add_ti rfl rfl (by omega) (by omega)
      exact ⟨_, rfl, ⟨(show (0 : Int) ≤ (a1_' + (1 : Int32)).toInt by omega), (show (a1_' + (1 : Int32)).toInt ≤ (4 : Int) by omega)⟩, show (4 - (a1_' + (1 : Int32)).toInt).toNat < (4 - a1_'.toInt).toNat by omega⟩
    · have c10 := c
      have d11 : ¬ x4.toInt = (-1 : Int) := neqi.mp c10
      refine bind_e e_x4 ?_
      refine bind_i (sf_Mod_onPlace v1 x4 M hk_v1 hJ_M) (fun x6 e_x6 q => ?_)
      have q12 : (a1_' + (1 : Int32)).toInt = a1_'.toInt + (1 : Int) := add_ti rfl rfl (by omega) (by omega)
      exact ⟨_, rfl, ⟨(show (0 : Int) ≤ (a1_' + (1 : Int32)).toInt by omega), (show (a1_' + (1 : Int32)).toInt ≤ (4 : Int) by omega)⟩, show (4 - (a1_' + (1 : Int32)).toInt).toNat < (4 - a1_'.toInt).toNat by omega⟩
theorem sf_Mod_hears (v1 : Nat) (v2 : Int32) (M : Mem) (hk_v1 : St v1) (hp_v2 : (0 : Int) ≤ v2.toInt ∧ v2.toInt ≤ (7 : Int)) (hJ : J M) : ∃ r : Int32, f_Mod_hears v1 v2 M = some r ∧ (True) := by
  unfold f_Mod_hears
  refine c_i (St_kd hk_v1) ?_
  have l1 := St_ln hk_v1
  refine inb_i (by omega) (by omega) ?_
  refine bind_i (sf_Mod_onPlace v1 (M.1 v1 v2.toNatClampNeg) M hk_v1 hJ) (fun x1 e_x1 q => ?_)
  have l2 := St_ln hk_v1
  refine inb_i (by omega) (by omega) ?_
  refine bind_e (show (f_Mod_cellOf (M.1 v1 v2.toNatClampNeg)) = some ((M.1 v1 v2.toNatClampNeg) - (((M.1 v1 v2.toNatClampNeg) / (36 : Int32)) * (36 : Int32))) from rfl) ?_
  have r3 := Jst0 hJ hk_v1 (i := v2) (by omega) (by omega)
  have q4 : ((M.1 v1 v2.toNatClampNeg) - (((M.1 v1 v2.toNatClampNeg) / (36 : Int32)) * (36 : Int32))).toInt = (M.1 v1 v2.toNatClampNeg).toInt % (36 : Int) := rem_ti rfl rfl (by omega) (by omega)
  refine inb_i (by omega) (by omega) ?_
  refine if_i (fun c => ?_) (fun c => ?_)
  · have c5 := c
    have d6 : (M.1 164 ((M.1 v1 v2.toNatClampNeg) - (((M.1 v1 v2.toNatClampNeg) / (36 : Int32)) * (36 : Int32))).toNatClampNeg).toInt = (3 : Int) := eqi.mp c5
    refine bind_i (sf_Mod_onPlace v1 ((M.1 v1 v2.toNatClampNeg) - (((M.1 v1 v2.toNatClampNeg) / (36 : Int32)) * (36 : Int32))) M hk_v1 hJ) (fun x11 e_x11 q => ?_)
    refine bind_e (show (f_Mod_placeOf (1 : Int32) ((M.1 v1 v2.toNatClampNeg) - (((M.1 v1 v2.toNatClampNeg) / (36 : Int32)) * (36 : Int32)))) = some (((36 : Int32) * (1 : Int32)) + ((M.1 v1 v2.toNatClampNeg) - (((M.1 v1 v2.toNatClampNeg) / (36 : Int32)) * (36 : Int32)))) from rfl) ?_
    refine bind_i (sf_Mod_onPlace v1 (((36 : Int32) * (1 : Int32)) + ((M.1 v1 v2.toNatClampNeg) - (((M.1 v1 v2.toNatClampNeg) / (36 : Int32)) * (36 : Int32)))) M hk_v1 hJ) (fun x13 e_x13 q => ?_)
    unfold j_Mod_hears_50
    have l7 := St_ln hk_v1
    refine inb_i (by omega) (by omega) ?_
    refine bind_e (show (f_Mod_levelOf (M.1 v1 v2.toNatClampNeg)) = some ((M.1 v1 v2.toNatClampNeg) / (36 : Int32)) from rfl) ?_
    refine if_i (fun c => ?_) (fun c => ?_)
    · have c8 := c
      have q9 : ((M.1 v1 v2.toNatClampNeg) / (36 : Int32)).toInt = (M.1 v1 v2.toNatClampNeg).toInt / (36 : Int) := div_ti rfl rfl (by omega) (by omega)
      have d10 : ((M.1 v1 v2.toNatClampNeg) / (36 : Int32)).toInt = (0 : Int) := eqi.mp c8
      exact ⟨(x1 ||| (x11 ||| x13)), rfl, trivial⟩
    · have c11 := c
      have q12 : ((M.1 v1 v2.toNatClampNeg) / (36 : Int32)).toInt = (M.1 v1 v2.toNatClampNeg).toInt / (36 : Int) := div_ti rfl rfl (by omega) (by omega)
      have d13 : ¬ ((M.1 v1 v2.toNatClampNeg) / (36 : Int32)).toInt = (0 : Int) := neqi.mp c11
      refine bind_i (sl_Mod_hears_64 v1 ((M.1 v1 v2.toNatClampNeg) - (((M.1 v1 v2.toNatClampNeg) / (36 : Int32)) * (36 : Int32))) M (x1 ||| (x11 ||| x13)) (0 : Int32) hk_v1 (⟨show (0 : Int) ≤ ((M.1 v1 v2.toNatClampNeg) - (((M.1 v1 v2.toNatClampNeg) / (36 : Int32)) * (36 : Int32))).toInt by omega, show ((M.1 v1 v2.toNatClampNeg) - (((M.1 v1 v2.toNatClampNeg) / (36 : Int32)) * (36 : Int32))).toInt ≤ (35 : Int) by omega⟩) hJ (show (0 : Int) ≤ (0 : Int32).toInt by decide) (show (0 : Int32).toInt ≤ (4 : Int) by decide)) (fun x9 _ q => ?_)
      exact ⟨x9, rfl, trivial⟩
  · have c14 := c
    have d15 : ¬ (M.1 164 ((M.1 v1 v2.toNatClampNeg) - (((M.1 v1 v2.toNatClampNeg) / (36 : Int32)) * (36 : Int32))).toNatClampNeg).toInt = (3 : Int) := neqi.mp c14
    unfold j_Mod_hears_50
    have l16 := St_ln hk_v1
    refine inb_i (by omega) (by omega) ?_
    refine bind_e (show (f_Mod_levelOf (M.1 v1 v2.toNatClampNeg)) = some ((M.1 v1 v2.toNatClampNeg) / (36 : Int32)) from rfl) ?_
    refine if_i (fun c => ?_) (fun c => ?_)
    · have c17 := c
      have q18 : ((M.1 v1 v2.toNatClampNeg) / (36 : Int32)).toInt = (M.1 v1 v2.toNatClampNeg).toInt / (36 : Int) := div_ti rfl rfl (by omega) (by omega)
      have d19 : ((M.1 v1 v2.toNatClampNeg) / (36 : Int32)).toInt = (0 : Int) := eqi.mp c17
      exact ⟨x1, rfl, trivial⟩
    · have c20 := c
      have q21 : ((M.1 v1 v2.toNatClampNeg) / (36 : Int32)).toInt = (M.1 v1 v2.toNatClampNeg).toInt / (36 : Int) := div_ti rfl rfl (by omega) (by omega)
      have d22 : ¬ ((M.1 v1 v2.toNatClampNeg) / (36 : Int32)).toInt = (0 : Int) := neqi.mp c20
      refine bind_i (sl_Mod_hears_64 v1 ((M.1 v1 v2.toNatClampNeg) - (((M.1 v1 v2.toNatClampNeg) / (36 : Int32)) * (36 : Int32))) M x1 (0 : Int32) hk_v1 (⟨show (0 : Int) ≤ ((M.1 v1 v2.toNatClampNeg) - (((M.1 v1 v2.toNatClampNeg) / (36 : Int32)) * (36 : Int32))).toInt by omega, show ((M.1 v1 v2.toNatClampNeg) - (((M.1 v1 v2.toNatClampNeg) / (36 : Int32)) * (36 : Int32))).toInt ≤ (35 : Int) by omega⟩) hJ (show (0 : Int) ≤ (0 : Int32).toInt by decide) (show (0 : Int32).toInt ≤ (4 : Int) by decide)) (fun x9 _ q => ?_)
      exact ⟨x9, rfl, trivial⟩
theorem St_162 {k : Nat} (h : St k) : k ≠ 162 ∧ k ≠ 166 ∧ k ≠ 165 := by rcases h with rfl | rfl | rfl <;> decide
theorem sl_Mod_goMinute_12 (v1 : Nat) (a0_ : Int32) (N_ : Mem) (B_ : Mem) (hk_v1 : St v1) (hN : J N_) (hG : Gd v1 B_ N_) (i1_ : (0 : Int) ≤ a0_.toInt) (i2_ : a0_.toInt ≤ (8 : Int)) : ∃ x, iter (lb_Mod_goMinute_12 v1) FU (a0_, N_) = some x ∧ (fun r : Mem => J r ∧ Gd v1 B_ r) x := by
  have l := St_ln hk_v1
  obtain ⟨n162, n166, n165⟩ := St_162 hk_v1
  refine iter_r (fun s : Int32 × Mem => (J s.2 ∧ Gd v1 B_ s.2) ∧ 0 ≤ s.1.toInt ∧ s.1.toInt ≤ 8) (fun s : Int32 × Mem => (8 - s.1.toInt).toNat) (fun r : Mem => J r ∧ Gd v1 B_ r) ?_ FU _ ⟨⟨hN, hG⟩, i1_, i2_⟩ (by show (8 - a0_.toInt).toNat < FU; rw [FU_v]; omega)
  rintro ⟨k, N⟩ ⟨⟨j, gN⟩, i1, i2⟩
  dsimp only at j gN i1 i2
  have zp := aP j
  unfold lb_Mod_goMinute_12
  dsimp only
  refine if_i (fun c => ⟨_, rfl, j, gN⟩) (fun c => ?_)
  have d : k.toInt < xP N := nlei.mp c
  have ek : (k + (1 : Int32)).toInt = k.toInt + 1 := add_ti rfl rfl (by omega) (by omega)
  have e8 : ((8 : Int32) + k).toInt = 8 + k.toInt := add_ti rfl rfl (by omega) (by omega)
  have fin : ∀ K : Mem, J K → Gd v1 B_ K → LPq (fun s : Int32 × Mem => (J s.2 ∧ Gd v1 B_ s.2) ∧ 0 ≤ s.1.toInt ∧ s.1.toInt ≤ 8) (fun s : Int32 × Mem => (8 - s.1.toInt).toNat) (fun r : Mem => J r ∧ Gd v1 B_ r) (8 - k.toInt).toNat (.inl (k + (1 : Int32), K)) := by
    intro K hK gK
    refine ⟨⟨⟨hK, gK⟩, ?_, ?_⟩, ?_⟩
    · show 0 ≤ (k + (1 : Int32)).toInt; omega
    · show (k + (1 : Int32)).toInt ≤ 8; omega
    · show (8 - (k + (1 : Int32)).toInt).toNat < (8 - k.toInt).toNat; omega
  have k85 : ∀ K : Mem, J K → Gd v1 B_ K → xP K = xP N → ∃ r, j_Mod_goMinute_85_12 v1 k K = some r ∧ LPq (fun s : Int32 × Mem => (J s.2 ∧ Gd v1 B_ s.2) ∧ 0 ≤ s.1.toInt ∧ s.1.toInt ≤ 8) (fun s : Int32 × Mem => (8 - s.1.toInt).toNat) (fun r : Mem => J r ∧ Gd v1 B_ r) (8 - k.toInt).toNat r := by
    intro K hK gK hP
    have r8 := Jst8 hK hk_v1 (i := (8 : Int32) + k) (by omega) (by omega)
    have rm := Jr_166 hK k.toNatClampNeg
    have rp : 1 ≤ (K.1 166 k.toNatClampNeg).toInt := hK.2.2.2.2.2 k.toNatClampNeg (by show ((k.toNatClampNeg : Nat) : Int) < xP K; rw [tcn']; omega)
    have ea : ((K.1 v1 ((8 : Int32) + k).toNatClampNeg) + (1 : Int32)).toInt = (K.1 v1 ((8 : Int32) + k).toNatClampNeg).toInt + 1 := add_ti rfl rfl (by omega) (by omega)
    have rr := rem_rng (a := (K.1 v1 ((8 : Int32) + k).toNatClampNeg) + (1 : Int32)) (b := K.1 166 k.toNatClampNeg) (by omega) (by omega)
    unfold j_Mod_goMinute_85_12
    refine inb_i (by omega) (by rw [l]; omega) (inb_i i1 (by omega) (z_i (nz_of (by omega)) (inb_i (by omega) (by rw [l]; omega) ?_)))
    refine mem_i (fun m e => ⟨_, rfl, fin m ?_ (Gd_st gK e (by show ((8 : Int32) + k).toInt.toNat < 80 ∨ 92 < ((8 : Int32) + k).toInt.toNat; omega))⟩)
    rw [e]; exact Jws8 hK hk_v1 (by omega) (by omega) _ rr.1 (by omega)
  refine bind_i (sp_goes j v1 k hk_v1 ⟨i1, by omega⟩) (fun x3 ex3 q => ?_)
  obtain ⟨j3, q2, f3⟩ := q
  have g3 : Gd v1 B_ x3.2 := Gd_t gN (Gd_up (by decide) (some_of (sf_Mod_goes v1 k N hk_v1 ⟨i1, by omega⟩ j) ex3).2.1)
  have P3 : xP x3.2 = xP N := congrArg Int32.toInt (f3 162 4 (by decide))
  refine if_i (fun _ => ⟨_, rfl, fin _ j3 g3⟩) (fun _ => ?_)
  have r8 := Jst8 j3 hk_v1 (i := (8 : Int32) + k) (by omega) (by omega)
  have r0 := Jst0 j3 hk_v1 (i := k) (by omega) (by omega)
  have m1 : ((9 : Int32) * k).toInt = 9 * k.toInt := mul_ti rfl rfl (by omega) (by omega)
  have m2 : (((9 : Int32) * k) + (x3.2.1 v1 ((8 : Int32) + k).toNatClampNeg)).toInt = 9 * k.toInt + (x3.2.1 v1 ((8 : Int32) + k).toNatClampNeg).toInt := add_ti m1 rfl (by omega) (by omega)
  refine inb_i i1 (by rw [l]; omega) (inb_i (by omega) (by rw [l]; omega) (inb_i (by omega) (by omega) ?_))
  refine bind_i (sf_Mod_go v1 _ _ x3.2 hk_v1 ⟨r0.1, r0.2⟩ j3) (fun x4 _ q => ?_)
  refine if_i (fun _ => k85 _ j3 g3 P3) (fun c4 => ?_)
  have d4 := neqi.mp c4
  have n1 : (-1 : Int32).toInt = -1 := rfl
  refine inb_i i1 (by rw [l]; omega) (if_i (fun _ => k85 _ j3 g3 P3) (fun _ => inb_i i1 (by rw [l]; omega) ?_))
  refine mem_i (fun M6 e6 => mem_i (fun M7 e7 => ?_))
  have j6 : J M6 := by rw [e6]; exact Jws0 j3 hk_v1 i1 (by omega) _ (by omega) q.2
  have j7 : J M7 := by rw [e7]; exact Jw_fld okf_162_29 j6 _
  refine k85 M7 j7 (Gd_i (Gd_st g3 e6 (by show k.toInt.toNat < 80 ∨ 92 < k.toInt.toNat; omega)) e7 (by decide)) ?_
  rw [xP, e7, si_ne (by decide), e6, si_ne (fun e => n162 e.1.symm)]; exact P3
theorem sl_Mod_goMinute_124 (v1 : Nat) (v2 : Int32) (a0_ : Int32) (N_ : Mem) (B_ : Mem) (hk_v1 : St v1) (hp_v2 : (0 : Int) ≤ v2.toInt ∧ v2.toInt ≤ (7 : Int)) (hN : J N_) (hG : Gd v1 B_ N_) (i2_ : (0 : Int) ≤ a0_.toInt) (i3_ : a0_.toInt ≤ (8 : Int)) : ∃ x, iter (lb_Mod_goMinute_124 v1 v2) FU (a0_, N_) = some x ∧ (fun r : Mem => J r ∧ Gd v1 B_ r) x := by
  refine iter_r (fun s : Int32 × Mem => J s.2 ∧ Gd v1 B_ s.2 ∧ (0 : Int) ≤ s.1.toInt ∧ s.1.toInt ≤ (8 : Int)) (fun s : Int32 × Mem => (8 - s.1.toInt).toNat) (fun r : Mem => J r ∧ Gd v1 B_ r) ?_ FU (a0_, N_) ⟨hN, hG, i2_, i3_⟩ (by show (8 - a0_.toInt).toNat < FU; rw [FU_v]; omega)
  clear i3_ i2_ hG hN
  rintro ⟨a0_', N_'⟩ ⟨hN, hG, i2_, i3_⟩
  dsimp only at hN hG i2_ i3_
  unfold lb_Mod_goMinute_124
  dsimp only
  refine if_i (fun c => ?_) (fun c => ?_)
  · have c1 := c
    have r2 := Jr_162_4 hN
    have d3 : (N_'.1 162 4).toInt ≤ a0_'.toInt := lei.mp c1
    exact ⟨_, rfl, hN, hG⟩
  · have c4 := c
    have r5 := Jr_162_4 hN
    have d6 : a0_'.toInt < (N_'.1 162 4).toInt := nlei.mp c4
    refine bind_i (sf_Mod_has (N_'.1 162 5) v2) (fun x13 e_x13 q => ?_)
    obtain ⟨h7, h8⟩ := q
    refine if_i (fun c => ?_) (fun c => ?_)
    · have c9 := c
      have d10 : x13.toInt = (0 : Int) := eqi.mp c9
      refine bind_i (sf_Mod_has (N_'.1 162 5) a0_') (fun x14 e_x14 q => ?_)
      obtain ⟨h11, h12⟩ := q
      refine if_i (fun c => ?_) (fun c => ?_)
      · have c13 := c
        have d14 : x14.toInt = (0 : Int) := eqi.mp c13
        have q15 : (a0_' + (1 : Int32)).toInt = a0_'.toInt + (1 : Int) := add_ti rfl rfl (by omega) (by omega)
        exact ⟨_, rfl, ⟨hN, hG, (show (0 : Int) ≤ (a0_' + (1 : Int32)).toInt by omega), (show (a0_' + (1 : Int32)).toInt ≤ (8 : Int) by omega)⟩, show (8 - (a0_' + (1 : Int32)).toInt).toNat < (8 - a0_'.toInt).toNat by omega⟩
      · have c16 := c
        have d17 : ¬ x14.toInt = (0 : Int) := neqi.mp c16
        refine bind_i (sf_Mod_areMeeting v1 v2 a0_' N_' hk_v1 (⟨show (0 : Int) ≤ v2.toInt by omega, show v2.toInt ≤ (7 : Int) by omega⟩) (⟨show (0 : Int) ≤ a0_'.toInt by omega, show a0_'.toInt ≤ (7 : Int) by omega⟩) hN) (fun x15 e_x15 q => ?_)
        obtain ⟨h18, h19⟩ := q
        refine if_i (fun c => ?_) (fun c => ?_)
        · have c20 := c
          have d21 : x15.toInt = (0 : Int) := eqi.mp c20
          have q22 : (a0_' + (1 : Int32)).toInt = a0_'.toInt + (1 : Int) := add_ti rfl rfl (by omega) (by omega)
          exact ⟨_, rfl, ⟨hN, hG, (show (0 : Int) ≤ (a0_' + (1 : Int32)).toInt by omega), (show (a0_' + (1 : Int32)).toInt ≤ (8 : Int) by omega)⟩, show (8 - (a0_' + (1 : Int32)).toInt).toNat < (8 - a0_'.toInt).toNat by omega⟩
        · have c23 := c
          have d24 : ¬ x15.toInt = (0 : Int) := neqi.mp c23
          have q25 : ((8 : Int32) * v2).toInt = (8 : Int) * v2.toInt := mul_ti rfl rfl (by omega) (by omega)
          have q26 : ((16 : Int32) + ((8 : Int32) * v2)).toInt = (16 : Int) + ((8 : Int32) * v2).toInt := add_ti rfl rfl (by omega) (by omega)
          have q27 : (((16 : Int32) + ((8 : Int32) * v2)) + a0_').toInt = ((16 : Int32) + ((8 : Int32) * v2)).toInt + a0_'.toInt := add_ti rfl rfl (by omega) (by omega)
          have l28 := St_ln hk_v1
          refine inb_i (by omega) (by omega) ?_
          have l29 := St_ln hk_v1
          refine inb_i (by omega) (by omega) ?_
          refine mem_i (fun M16 e31 => ?_)
          have hJ32 : J M16 := by rw [e31]; exact Jws16 hN hk_v1 (i := (((16 : Int32) + ((8 : Int32) * v2)) + a0_')) (by omega) (by omega) ((N_'.1 v1 (((16 : Int32) + ((8 : Int32) * v2)) + a0_').toNatClampNeg) + (1 : Int32))
          have hG33 : Gd v1 B_ M16 := Gd_st hG e31 (by show (((16 : Int32) + ((8 : Int32) * v2)) + a0_').toInt.toNat < 80 ∨ 92 < (((16 : Int32) + ((8 : Int32) * v2)) + a0_').toInt.toNat; omega)
          clear e31
          have q34 : ((8 : Int32) * a0_').toInt = (8 : Int) * a0_'.toInt := mul_ti rfl rfl (by omega) (by omega)
          have q35 : ((16 : Int32) + ((8 : Int32) * a0_')).toInt = (16 : Int) + ((8 : Int32) * a0_').toInt := add_ti rfl rfl (by omega) (by omega)
          have q36 : (((16 : Int32) + ((8 : Int32) * a0_')) + v2).toInt = ((16 : Int32) + ((8 : Int32) * a0_')).toInt + v2.toInt := add_ti rfl rfl (by omega) (by omega)
          have l37 := St_ln hk_v1
          refine inb_i (by omega) (by omega) ?_
          have l38 := St_ln hk_v1
          refine inb_i (by omega) (by omega) ?_
          refine mem_i (fun M17 e40 => ?_)
          have hJ41 : J M17 := by rw [e40]; exact Jws16 hJ32 hk_v1 (i := (((16 : Int32) + ((8 : Int32) * a0_')) + v2)) (by omega) (by omega) ((M16.1 v1 (((16 : Int32) + ((8 : Int32) * a0_')) + v2).toNatClampNeg) + (1 : Int32))
          have hG42 : Gd v1 B_ M17 := Gd_st hG33 e40 (by show (((16 : Int32) + ((8 : Int32) * a0_')) + v2).toInt.toNat < 80 ∨ 92 < (((16 : Int32) + ((8 : Int32) * a0_')) + v2).toInt.toNat; omega)
          clear e40
          refine mem_i (fun M18 e44 => ?_)
          have hJ45 : J M18 := by rw [e44]; exact Jw_fld okf_162_31 hJ41 ((M17.1 162 31) + (1 : Int32))
          have hG46 : Gd v1 B_ M18 := Gd_i hG42 e44 (by decide)
          clear e44
          have q47 : (a0_' + (1 : Int32)).toInt = a0_'.toInt + (1 : Int) := add_ti rfl rfl (by omega) (by omega)
          exact ⟨_, rfl, ⟨hJ45, hG46, (show (0 : Int) ≤ (a0_' + (1 : Int32)).toInt by omega), (show (a0_' + (1 : Int32)).toInt ≤ (8 : Int) by omega)⟩, show (8 - (a0_' + (1 : Int32)).toInt).toNat < (8 - a0_'.toInt).toNat by omega⟩
    · have c48 := c
      have d49 : ¬ x13.toInt = (0 : Int) := neqi.mp c48
      have q50 : (a0_' + (1 : Int32)).toInt = a0_'.toInt + (1 : Int) := add_ti rfl rfl (by omega) (by omega)
      exact ⟨_, rfl, ⟨hN, hG, (show (0 : Int) ≤ (a0_' + (1 : Int32)).toInt by omega), (show (a0_' + (1 : Int32)).toInt ≤ (8 : Int) by omega)⟩, show (8 - (a0_' + (1 : Int32)).toInt).toNat < (8 - a0_'.toInt).toNat by omega⟩
theorem sl_Mod_goMinute_114 (v1 : Nat) (a0_ : Int32) (N_ : Mem) (B_ : Mem) (hk_v1 : St v1) (hN : J N_) (hG : Gd v1 B_ N_) (i2_ : (0 : Int) ≤ a0_.toInt) (i3_ : a0_.toInt ≤ (8 : Int)) : ∃ x, iter (lb_Mod_goMinute_114 v1) FU (a0_, N_) = some x ∧ (fun r : Mem => J r ∧ Gd v1 B_ r) x := by
  refine iter_r (fun s : Int32 × Mem => J s.2 ∧ Gd v1 B_ s.2 ∧ (0 : Int) ≤ s.1.toInt ∧ s.1.toInt ≤ (8 : Int)) (fun s : Int32 × Mem => (8 - s.1.toInt).toNat) (fun r : Mem => J r ∧ Gd v1 B_ r) ?_ FU (a0_, N_) ⟨hN, hG, i2_, i3_⟩ (by show (8 - a0_.toInt).toNat < FU; rw [FU_v]; omega)
  clear i3_ i2_ hG hN
  rintro ⟨a0_', N_'⟩ ⟨hN, hG, i2_, i3_⟩
  dsimp only at hN hG i2_ i3_
  unfold lb_Mod_goMinute_114
  dsimp only
  refine if_i (fun c => ?_) (fun c => ?_)
  · have c1 := c
    have r2 := Jr_162_4 hN
    have d3 : (N_'.1 162 4).toInt ≤ a0_'.toInt := lei.mp c1
    exact ⟨_, rfl, hN, hG⟩
  · have c4 := c
    have r5 := Jr_162_4 hN
    have d6 : a0_'.toInt < (N_'.1 162 4).toInt := nlei.mp c4
    refine bind_i (sl_Mod_goMinute_124 v1 a0_' (0 : Int32) N_' B_ hk_v1 (⟨show (0 : Int) ≤ a0_'.toInt by omega, show a0_'.toInt ≤ (7 : Int) by omega⟩) hN hG (show (0 : Int) ≤ (0 : Int32).toInt by decide) (show (0 : Int32).toInt ≤ (8 : Int) by decide)) (fun x23 _ q => ?_)
    obtain ⟨h7, h8⟩ := q
    have q9 : (a0_' + (1 : Int32)).toInt = a0_'.toInt + (1 : Int) := add_ti rfl rfl (by omega) (by omega)
    exact ⟨_, rfl, ⟨h7, h8, (show (0 : Int) ≤ (a0_' + (1 : Int32)).toInt by omega), (show (a0_' + (1 : Int32)).toInt ≤ (8 : Int) by omega)⟩, show (8 - (a0_' + (1 : Int32)).toInt).toNat < (8 - a0_'.toInt).toNat by omega⟩
theorem sl_Mod_goMinute_226 (v1 : Nat) (v2 : Int32) (a0_ : Int32) (N_ : Mem) (B_ : Mem) (hk_v1 : St v1) (hN : J N_) (hG : Gd v1 B_ N_) (i2_ : (0 : Int) ≤ a0_.toInt) (i3_ : a0_.toInt ≤ (8 : Int)) : ∃ x, iter (lb_Mod_goMinute_226 v1 v2) FU (a0_, N_) = some x ∧ (fun r : Mem => J r ∧ Gd v1 B_ r) x := by
  refine iter_r (fun s : Int32 × Mem => J s.2 ∧ Gd v1 B_ s.2 ∧ (0 : Int) ≤ s.1.toInt ∧ s.1.toInt ≤ (8 : Int)) (fun s : Int32 × Mem => (8 - s.1.toInt).toNat) (fun r : Mem => J r ∧ Gd v1 B_ r) ?_ FU (a0_, N_) ⟨hN, hG, i2_, i3_⟩ (by show (8 - a0_.toInt).toNat < FU; rw [FU_v]; omega)
  clear i3_ i2_ hG hN
  rintro ⟨a0_', N_'⟩ ⟨hN, hG, i2_, i3_⟩
  dsimp only at hN hG i2_ i3_
  unfold lb_Mod_goMinute_226
  dsimp only
  refine if_i (fun c => ?_) (fun c => ?_)
  · have c1 := c
    have r2 := Jr_162_4 hN
    have d3 : (N_'.1 162 4).toInt ≤ a0_'.toInt := lei.mp c1
    exact ⟨_, rfl, hN, hG⟩
  · have c4 := c
    have r5 := Jr_162_4 hN
    have d6 : a0_'.toInt < (N_'.1 162 4).toInt := nlei.mp c4
    refine bind_i (sf_Mod_has v2 a0_') (fun x26 e_x26 q => ?_)
    obtain ⟨h7, h8⟩ := q
    refine if_i (fun c => ?_) (fun c => ?_)
    · have c9 := c
      have d10 : x26.toInt = (0 : Int) := eqi.mp c9
      have q11 : (a0_' + (1 : Int32)).toInt = a0_'.toInt + (1 : Int) := add_ti rfl rfl (by omega) (by omega)
      exact ⟨_, rfl, ⟨hN, hG, (show (0 : Int) ≤ (a0_' + (1 : Int32)).toInt by omega), (show (a0_' + (1 : Int32)).toInt ≤ (8 : Int) by omega)⟩, show (8 - (a0_' + (1 : Int32)).toInt).toNat < (8 - a0_'.toInt).toNat by omega⟩
    · have c12 := c
      have d13 : ¬ x26.toInt = (0 : Int) := neqi.mp c12
      have l14 := St_ln hk_v1
      refine c_i (inb_st hk_v1 (by decide)) ?_
      refine bind_i (sf_Mod_hears v1 a0_' N_' hk_v1 (⟨show (0 : Int) ≤ a0_'.toInt by omega, show a0_'.toInt ≤ (7 : Int) by omega⟩) hN) (fun x27 e_x27 q => ?_)
      have l15 := St_ln hk_v1
      refine c_i (inb_st hk_v1 (by decide)) ?_
      refine mem_i (fun M28 e17 => ?_)
      have hJ18 : J M28 := by rw [e17]; exact Jws93 hN hk_v1 ((N_'.1 v1 (93 : Int32).toNatClampNeg) ||| x27)
      have hG19 : Gd v1 B_ M28 := Gd_st hG e17 (by decide)
      clear e17
      have q20 : (a0_' + (1 : Int32)).toInt = a0_'.toInt + (1 : Int) := add_ti rfl rfl (by omega) (by omega)
      exact ⟨_, rfl, ⟨hJ18, hG19, (show (0 : Int) ≤ (a0_' + (1 : Int32)).toInt by omega), (show (a0_' + (1 : Int32)).toInt ≤ (8 : Int) by omega)⟩, show (8 - (a0_' + (1 : Int32)).toInt).toNat < (8 - a0_'.toInt).toNat by omega⟩
theorem sf_Mod_goMinute (v1 : Nat) (M : Mem) (hk_v1 : St v1) (hJ : J M) : ∃ r : Mem, f_Mod_goMinute v1 M = some r ∧ (J r ∧ Gd v1 M r) := by
  unfold f_Mod_goMinute
  refine c_i (St_kd hk_v1) ?_
  refine mem_i (fun M1 e2 => ?_)
  have hJ3 : J M1 := by rw [e2]; exact Jw_fld okf_162_29 hJ (0 : Int32)
  have hG4 : Gd v1 M M1 := Gd_i Gd_r e2 (by decide)
  have f5 : (M1.1 162 29).toInt = (0 : Int) := by rw [e2, si_eq]; rfl
  clear e2
  refine mem_i (fun M2 e7 => ?_)
  have hJ8 : J M2 := by rw [e7]; exact Jw_fld okf_162_31 hJ3 (0 : Int32)
  have hG9 : Gd v1 M M2 := Gd_i hG4 e7 (by decide)
  have f10 : (M2.1 162 29).toInt = (M1.1 162 29).toInt := by rw [e7]; rw [si_ne (by exact fun e => absurd e.2 (by decide))]
  have f11 : (M2.1 162 31).toInt = (0 : Int) := by rw [e7, si_eq]; rfl
  clear e7
  refine bind_i (sl_Mod_goMinute_12 v1 (0 : Int32) M2 M hk_v1 hJ8 hG9 (show (0 : Int) ≤ (0 : Int32).toInt by decide) (show (0 : Int32).toInt ≤ (8 : Int) by decide)) (fun x12 _ q => ?_)
  obtain ⟨h12, h13⟩ := q
  refine bind_i (sl_Mod_goMinute_114 v1 (0 : Int32) x12 M hk_v1 h12 h13 (show (0 : Int) ≤ (0 : Int32).toInt by decide) (show (0 : Int32).toInt ≤ (8 : Int) by decide)) (fun x25 _ q => ?_)
  obtain ⟨h14, h15⟩ := q
  have l16 := St_ln hk_v1
  refine c_i (inb_st hk_v1 (by decide)) ?_
  refine bind_i (sl_Mod_goMinute_226 v1 (x25.1 v1 (93 : Int32).toNatClampNeg) (0 : Int32) x25 M hk_v1 h14 h15 (show (0 : Int) ≤ (0 : Int32).toInt by decide) (show (0 : Int32).toInt ≤ (8 : Int) by decide)) (fun x31 _ q => ?_)
  obtain ⟨h17, h18⟩ := q
  have l19 := St_ln hk_v1
  refine c_i (inb_st hk_v1 (by decide)) ?_
  refine mem_i (fun M32 e21 => ?_)
  have hJ22 : J M32 := by rw [e21]; exact Jw_fld okf_162_30 h17 ((x31.1 v1 (93 : Int32).toNatClampNeg) &&& ((x25.1 v1 (93 : Int32).toNatClampNeg) ^^^ (-1 : Int32)))
  have hG23 : Gd v1 M M32 := Gd_i h18 e21 (by decide)
  clear e21
  have l24 := St_ln hk_v1
  refine c_i (inb_st hk_v1 (by decide)) ?_
  have l25 := St_ln hk_v1
  refine c_i (inb_st hk_v1 (by decide)) ?_
  refine mem_i (fun M33 e27 => ?_)
  have hJ28 : J M33 := by rw [e27]; exact Jws95 hJ22 hk_v1 ((M32.1 v1 (95 : Int32).toNatClampNeg) + (1 : Int32))
  have hG29 : Gd v1 M M33 := Gd_st hG23 e27 (by decide)
  clear e27
  exact ⟨M33, rfl, hJ28, hG29⟩
theorem sl_Mod_minutes_36 (v1 : Int32) (a0_ : Int32) (a1_ : Int32) (a2_ : Int32) (N_ : Mem) (B_ : Mem) (hp_v1 : (0 : Int) ≤ v1.toInt ∧ v1.toInt ≤ (60 : Int)) (hN : J N_) (hG : Gd 163 B_ N_) (i2_ : (0 : Int) ≤ a2_.toInt) (i3_ : a2_.toInt ≤ (60 : Int)) : ∃ x, iter (lb_Mod_minutes_36 v1) FU (a0_, a1_, a2_, N_) = some x ∧ (fun r : Int32 × Int32 × Mem => J r.2.2 ∧ Gd 163 B_ r.2.2) x := by
  refine iter_r (fun s : Int32 × Int32 × Int32 × Mem => J s.2.2.2 ∧ Gd 163 B_ s.2.2.2 ∧ (0 : Int) ≤ s.2.2.1.toInt ∧ s.2.2.1.toInt ≤ (60 : Int)) (fun s : Int32 × Int32 × Int32 × Mem => (60 - s.2.2.1.toInt).toNat) (fun r : Int32 × Int32 × Mem => J r.2.2 ∧ Gd 163 B_ r.2.2) ?_ FU (a0_, a1_, a2_, N_) ⟨hN, hG, i2_, i3_⟩ (by show (60 - a2_.toInt).toNat < FU; rw [FU_v]; omega)
  clear i3_ i2_ hG hN
  rintro ⟨a0_', a1_', a2_', N_'⟩ ⟨hN, hG, i2_, i3_⟩
  dsimp only at hN hG i2_ i3_
  unfold lb_Mod_minutes_36
  dsimp only
  refine if_i (fun c => ?_) (fun c => ?_)
  · have c1 := c
    have d2 : v1.toInt ≤ a2_'.toInt := lei.mp c1
    exact ⟨_, rfl, hN, hG⟩
  · have c3 := c
    have d4 : a2_'.toInt < v1.toInt := nlei.mp c3
    refine bind_i (sf_Mod_goMinute 163 N_' St_163 hN) (fun x3 _ q => ?_)
    obtain ⟨h5, h6⟩ := q
    have hG7 : Gd 163 B_ x3 := Gd_t hG h6
    refine bind_i (sf_JInteger_bitCount (x3.1 162 29)) (fun x4 _ q => ?_)
    obtain ⟨h8, h9⟩ := q
    have q10 : (a2_' + (1 : Int32)).toInt = a2_'.toInt + (1 : Int) := add_ti rfl rfl (by omega) (by omega)
    exact ⟨_, rfl, ⟨h5, hG7, (show (0 : Int) ≤ (a2_' + (1 : Int32)).toInt by omega), (show (a2_' + (1 : Int32)).toInt ≤ (60 : Int) by omega)⟩, show (60 - (a2_' + (1 : Int32)).toInt).toNat < (60 - a2_'.toInt).toNat by omega⟩
theorem sf_Mod_met (v1 : Int32) (v2 : Int32) (M : Mem) (hJ : J M) : ∃ r : Int32 × Mem, f_Mod_met v1 v2 M = some r ∧ (J r.2 ∧ Gd 1000 M r.2) := by
  unfold f_Mod_met
  refine mem_i (fun M1 e2 => ?_)
  have hJ3 : J M1 := by rw [e2]; exact Jw_fld okf_162_13 hJ (0 : Int32)
  have hG4 : Gd 1000 M M1 := Gd_i Gd_r e2 (by decide)
  have f5 : (M1.1 162 13).toInt = (0 : Int) := by rw [e2, si_eq]; rfl
  clear e2
  refine bind_i (sf_Mod_areTwo v1 v2 M1 hJ3) (fun x2 e_x2 q => ?_)
  obtain ⟨h6, h7, h8, h9⟩ := q
  refine if_i (fun c => ?_) (fun c => ?_)
  · have c10 := c
    have d11 : x2.toInt = (0 : Int) := eqi.mp c10
    exact ⟨((-1 : Int32), M1), rfl, hJ3, hG4⟩
  · have c12 := c
    have d13 : ¬ x2.toInt = (0 : Int) := neqi.mp c12
    have q14 : ((8 : Int32) * v1).toInt = (8 : Int) * v1.toInt := mul_ti rfl rfl (by omega) (by omega)
    have q15 : ((16 : Int32) + ((8 : Int32) * v1)).toInt = (16 : Int) + ((8 : Int32) * v1).toInt := add_ti rfl rfl (by omega) (by omega)
    have q16 : (((16 : Int32) + ((8 : Int32) * v1)) + v2).toInt = ((16 : Int32) + ((8 : Int32) * v1)).toInt + v2.toInt := add_ti rfl rfl (by omega) (by omega)
    refine inb_i (by omega) (by omega) ?_
    exact ⟨((M1.1 163 (((16 : Int32) + ((8 : Int32) * v1)) + v2).toNatClampNeg), M1), rfl, hJ3, hG4⟩
theorem sl_Mod_ahead_33 (v1 : Int32) (a0_ : Int32) (a1_ : Int32) (N_ : Mem) (B_ : Mem) (hp_v1 : (0 : Int) ≤ v1.toInt ∧ v1.toInt ≤ (60 : Int)) (hN : J N_) (hG : Gd 1000 B_ N_) (i2_ : (0 : Int) ≤ a1_.toInt) (i3_ : a1_.toInt ≤ (60 : Int)) : ∃ x, iter (lb_Mod_ahead_33 v1) FU (a0_, a1_, N_) = some x ∧ (fun r : Int32 × Mem => J r.2 ∧ Gd 1000 B_ r.2) x := by
  refine iter_r (fun s : Int32 × Int32 × Mem => J s.2.2 ∧ Gd 1000 B_ s.2.2 ∧ (0 : Int) ≤ s.2.1.toInt ∧ s.2.1.toInt ≤ (60 : Int)) (fun s : Int32 × Int32 × Mem => (60 - s.2.1.toInt).toNat) (fun r : Int32 × Mem => J r.2 ∧ Gd 1000 B_ r.2) ?_ FU (a0_, a1_, N_) ⟨hN, hG, i2_, i3_⟩ (by show (60 - a1_.toInt).toNat < FU; rw [FU_v]; omega)
  clear i3_ i2_ hG hN
  rintro ⟨a0_', a1_', N_'⟩ ⟨hN, hG, i2_, i3_⟩
  dsimp only at hN hG i2_ i3_
  unfold lb_Mod_ahead_33
  dsimp only
  refine if_i (fun c => ?_) (fun c => ?_)
  · have c1 := c
    have d2 : v1.toInt ≤ a1_'.toInt := lei.mp c1
    exact ⟨_, rfl, hN, hG⟩
  · have c3 := c
    have d4 : a1_'.toInt < v1.toInt := nlei.mp c3
    refine bind_i (sf_Mod_goMinute 176 N_' St_176 hN) (fun x4 _ q => ?_)
    obtain ⟨h5, h6⟩ := q
    have hG7 : Gd 1000 B_ x4 := Gd_t hG (Gd_up (by decide) h6)
    have q8 : (a1_' + (1 : Int32)).toInt = a1_'.toInt + (1 : Int) := add_ti rfl rfl (by omega) (by omega)
    exact ⟨_, rfl, ⟨h5, hG7, (show (0 : Int) ≤ (a1_' + (1 : Int32)).toInt by omega), (show (a1_' + (1 : Int32)).toInt ≤ (60 : Int) by omega)⟩, show (60 - (a1_' + (1 : Int32)).toInt).toNat < (60 - a1_'.toInt).toNat by omega⟩
theorem sl_Mod_ahead_66 (v2 : Int32) (a0_ : Int32) (N_ : Mem) (B_ : Mem) (hN : J N_) (hG : Gd 1000 B_ N_) (i2_ : (0 : Int) ≤ a0_.toInt) (i3_ : a0_.toInt ≤ (8 : Int)) (i4_ : (N_.1 162 12).toInt = a0_.toInt) : ∃ x, iter (lb_Mod_ahead_66 v2) FU (a0_, N_) = some x ∧ (fun r : Mem => J r ∧ Gd 1000 B_ r) x := by
  refine iter_r (fun s : Int32 × Mem => J s.2 ∧ Gd 1000 B_ s.2 ∧ (0 : Int) ≤ s.1.toInt ∧ s.1.toInt ≤ (8 : Int) ∧ (s.2.1 162 12).toInt = s.1.toInt) (fun s : Int32 × Mem => (8 - s.1.toInt).toNat) (fun r : Mem => J r ∧ Gd 1000 B_ r) ?_ FU (a0_, N_) ⟨hN, hG, i2_, i3_, i4_⟩ (by show (8 - a0_.toInt).toNat < FU; rw [FU_v]; omega)
  clear i4_ i3_ i2_ hG hN
  rintro ⟨a0_', N_'⟩ ⟨hN, hG, i2_, i3_, i4_⟩
  dsimp only at hN hG i2_ i3_ i4_
  unfold lb_Mod_ahead_66
  dsimp only
  refine if_i (fun c => ?_) (fun c => ?_)
  · have c1 := c
    have r2 := Jr_162_4 hN
    have d3 : (N_'.1 162 4).toInt ≤ a0_'.toInt := lei.mp c1
    exact ⟨_, rfl, hN, hG⟩
  · have c4 := c
    have r5 := Jr_162_4 hN
    have d6 : a0_'.toInt < (N_'.1 162 4).toInt := nlei.mp c4
    refine inb_i (by omega) (by omega) ?_
    refine bind_e (show (f_Mod_cellOf (N_'.1 176 a0_'.toNatClampNeg)) = some ((N_'.1 176 a0_'.toNatClampNeg) - (((N_'.1 176 a0_'.toNatClampNeg) / (36 : Int32)) * (36 : Int32))) from rfl) ?_
    have r7 := Jr_162_12 hN
    refine bind_i (sf_Mod_put ((N_'.1 176 a0_'.toNatClampNeg) - (((N_'.1 176 a0_'.toNatClampNeg) / (36 : Int32)) * (36 : Int32))) N_' hN (show (N_'.1 162 12).toInt ≤ (15 : Int) by omega)) (fun x9 _ q => ?_)
    obtain ⟨h8, h9, h10⟩ := q
    have hG11 : Gd 1000 B_ x9 := Gd_t hG h9
    have q12 : (a0_' + (1 : Int32)).toInt = a0_'.toInt + (1 : Int) := add_ti rfl rfl (by omega) (by omega)
    have r13 := Jr_162_12 h8
    exact ⟨_, rfl, ⟨h8, hG11, (show (0 : Int) ≤ (a0_' + (1 : Int32)).toInt by omega), (show (a0_' + (1 : Int32)).toInt ≤ (8 : Int) by omega), (show (x9.1 162 12).toInt = (a0_' + (1 : Int32)).toInt by omega)⟩, show (8 - (a0_' + (1 : Int32)).toInt).toNat < (8 - a0_'.toInt).toNat by omega⟩
theorem sf_Mod_ahead (v1 : Int32) (M : Mem) (hJ : J M) : ∃ r : Int32 × Mem, f_Mod_ahead v1 M = some r ∧ (J r.2 ∧ Gd 1000 M r.2) := by
  unfold f_Mod_ahead
  refine mem_i (fun M1 e2 => ?_)
  have hJ3 : J M1 := by rw [e2]; exact Jw_fld okf_162_13 hJ (0 : Int32)
  have hG4 : Gd 1000 M M1 := Gd_i Gd_r e2 (by decide)
  have f5 : (M1.1 162 13).toInt = (0 : Int) := by rw [e2, si_eq]; rfl
  clear e2
  refine bind_i (sf_Mod_in v1 (0 : Int32) (60 : Int32)) (fun x2 _ q => ?_)
  obtain ⟨h6, h7, h8⟩ := q
  replace h8 : ¬ x2.toInt = 0 → (0 : Int) ≤ v1.toInt ∧ v1.toInt ≤ (60 : Int) := h8
  refine if_i (fun c => ?_) (fun c => ?_)
  · have c9 := c
    have d10 : x2.toInt = (0 : Int) := eqi.mp c9
    exact ⟨((-1 : Int32), M1), rfl, hJ3, hG4⟩
  · have c11 := c
    have d12 : ¬ x2.toInt = (0 : Int) := neqi.mp c11
    refine bind_i (sf_Mod_lay 163 176 (0 : Int32) M1 St_163 Sx_176 (⟨by decide, by decide⟩) hJ3) (fun x3 _ q => ?_)
    obtain ⟨h13, h14⟩ := q
    have hG15 : Gd 1000 M x3 := Gd_t hG4 h14
    refine bind_i (sl_Mod_ahead_33 v1 (0 : Int32) (0 : Int32) x3 M (⟨show (0 : Int) ≤ v1.toInt by omega, show v1.toInt ≤ (60 : Int) by omega⟩) h13 hG15 (show (0 : Int) ≤ (0 : Int32).toInt by decide) (show (0 : Int32).toInt ≤ (60 : Int) by decide)) (fun x6 _ q => ?_)
    obtain ⟨h16, h17⟩ := q
    refine mem_i (fun M7 e19 => ?_)
    have hJ20 : J M7 := by rw [e19]; exact Jw_162_12 h16 (0 : Int32) (show (0 : Int) ≤ (0 : Int32).toInt by decide) (show (0 : Int32).toInt ≤ (16 : Int) by decide)
    have hG21 : Gd 1000 M M7 := Gd_i h17 e19 (by decide)
    have f22 : (M7.1 162 12).toInt = (0 : Int) := by rw [e19, si_eq]; rfl
    clear e19
    refine bind_i (sl_Mod_ahead_66 x6.1 (0 : Int32) M7 M hJ20 hG21 (show (0 : Int) ≤ (0 : Int32).toInt by decide) (show (0 : Int32).toInt ≤ (8 : Int) by decide) (show (M7.1 162 12).toInt = 0 by omega)) (fun x11 _ q => ?_)
    obtain ⟨h23, h24⟩ := q
    exact ⟨(x6.1, x11), rfl, h23, h24⟩
theorem sl_Mod_meet_30 (v1 : Int32) (v2 : Int32) (a0_ : Int32) (N_ : Mem) (B_ : Mem) (hp_v1 : (0 : Int) ≤ v1.toInt ∧ v1.toInt ≤ (7 : Int)) (hp_v2 : (0 : Int) ≤ v2.toInt ∧ v2.toInt ≤ (7 : Int)) (hN : J N_) (hG : Gd 1000 B_ N_) (i2_ : (1 : Int) ≤ a0_.toInt) (i3_ : a0_.toInt ≤ (61 : Int)) : ∃ x, iter (lb_Mod_meet_30 v1 v2) FU (a0_, N_) = some x ∧ (SQ (fun r : Mem => J r ∧ Gd 1000 B_ r) (fun r : Int32 × Mem => J r.2 ∧ Gd 1000 B_ r.2 ∧ (1 : Int) ≤ r.1.toInt ∧ r.1.toInt ≤ (60 : Int))) x := by
  refine iter_r (fun s : Int32 × Mem => J s.2 ∧ Gd 1000 B_ s.2 ∧ (1 : Int) ≤ s.1.toInt ∧ s.1.toInt ≤ (61 : Int)) (fun s : Int32 × Mem => (61 - s.1.toInt).toNat) (SQ (fun r : Mem => J r ∧ Gd 1000 B_ r) (fun r : Int32 × Mem => J r.2 ∧ Gd 1000 B_ r.2 ∧ (1 : Int) ≤ r.1.toInt ∧ r.1.toInt ≤ (60 : Int))) ?_ FU (a0_, N_) ⟨hN, hG, i2_, i3_⟩ (by show (61 - a0_.toInt).toNat < FU; rw [FU_v]; omega)
  clear i3_ i2_ hG hN
  rintro ⟨a0_', N_'⟩ ⟨hN, hG, i2_, i3_⟩
  dsimp only at hN hG i2_ i3_
  unfold lb_Mod_meet_30
  dsimp only
  refine if_i (fun c => ?_) (fun c => ?_)
  · have c1 := c
    have d2 : (60 : Int) < a0_'.toInt := lti.mp c1
    exact ⟨_, rfl, hN, hG⟩
  · have c3 := c
    have d4 : a0_'.toInt ≤ (60 : Int) := nlti.mp c3
    refine bind_i (sf_Mod_goMinute 176 N_' St_176 hN) (fun x4 _ q => ?_)
    obtain ⟨h5, h6⟩ := q
    have hG7 : Gd 1000 B_ x4 := Gd_t hG (Gd_up (by decide) h6)
    refine bind_i (sf_Mod_has (x4.1 162 5) v1) (fun x5 e_x5 q => ?_)
    obtain ⟨h8, h9⟩ := q
    refine bind_i (sf_Mod_has (x4.1 162 5) v2) (fun x6 e_x6 q => ?_)
    obtain ⟨h10, h11⟩ := q
    refine if_i (fun c => ?_) (fun c => ?_)
    · have c12 := c
      have d13 : x5.toInt = x6.toInt := eqi.mp c12
      have q14 : (a0_' + (1 : Int32)).toInt = a0_'.toInt + (1 : Int) := add_ti rfl rfl (by omega) (by omega)
      exact ⟨_, rfl, ⟨h5, hG7, (show (1 : Int) ≤ (a0_' + (1 : Int32)).toInt by omega), (show (a0_' + (1 : Int32)).toInt ≤ (61 : Int) by omega)⟩, show (61 - (a0_' + (1 : Int32)).toInt).toNat < (61 - a0_'.toInt).toNat by omega⟩
    · have c15 := c
      have d16 : ¬ x5.toInt = x6.toInt := neqi.mp c15
      refine bind_i (sf_Mod_areMeeting 176 v1 v2 x4 St_176 (⟨show (0 : Int) ≤ v1.toInt by omega, show v1.toInt ≤ (7 : Int) by omega⟩) (⟨show (0 : Int) ≤ v2.toInt by omega, show v2.toInt ≤ (7 : Int) by omega⟩) h5) (fun x7 e_x7 q => ?_)
      obtain ⟨h17, h18⟩ := q
      refine if_i (fun c => ?_) (fun c => ?_)
      · have c19 := c
        have d20 : x7.toInt = (0 : Int) := eqi.mp c19
        have q21 : (a0_' + (1 : Int32)).toInt = a0_'.toInt + (1 : Int) := add_ti rfl rfl (by omega) (by omega)
        exact ⟨_, rfl, ⟨h5, hG7, (show (1 : Int) ≤ (a0_' + (1 : Int32)).toInt by omega), (show (a0_' + (1 : Int32)).toInt ≤ (61 : Int) by omega)⟩, show (61 - (a0_' + (1 : Int32)).toInt).toNat < (61 - a0_'.toInt).toNat by omega⟩
      · have c22 := c
        have d23 : ¬ x7.toInt = (0 : Int) := neqi.mp c22
        exact ⟨_, rfl, h5, hG7, (show (1 : Int) ≤ a0_'.toInt by omega), (show a0_'.toInt ≤ (60 : Int) by omega)⟩
theorem sf_Mod_meet (v1 : Int32) (v2 : Int32) (M : Mem) (hJ : J M) : ∃ r : Int32 × Mem, f_Mod_meet v1 v2 M = some r ∧ (J r.2 ∧ Gd 1000 M r.2 ∧ (-2 : Int) ≤ r.1.toInt ∧ r.1.toInt ≤ (60 : Int)) := by
  unfold f_Mod_meet
  refine mem_i (fun M1 e2 => ?_)
  have hJ3 : J M1 := by rw [e2]; exact Jw_fld okf_162_13 hJ (0 : Int32)
  have hG4 : Gd 1000 M M1 := Gd_i Gd_r e2 (by decide)
  have f5 : (M1.1 162 13).toInt = (0 : Int) := by rw [e2, si_eq]; rfl
  clear e2
  refine bind_i (sf_Mod_areTwo v1 v2 M1 hJ3) (fun x2 e_x2 q => ?_)
  obtain ⟨h6, h7, h8, h9⟩ := q
  refine if_i (fun c => ?_) (fun c => ?_)
  · have c10 := c
    have d11 : x2.toInt = (0 : Int) := eqi.mp c10
    exact ⟨((-1 : Int32), M1), rfl, hJ3, hG4, (show (-2 : Int) ≤ (-1 : Int32).toInt by decide), (show (-1 : Int32).toInt ≤ (60 : Int) by decide)⟩
  · have c12 := c
    have d13 : ¬ x2.toInt = (0 : Int) := neqi.mp c12
    refine bind_i (sf_Mod_lay 163 176 (0 : Int32) M1 St_163 Sx_176 (⟨by decide, by decide⟩) hJ3) (fun x3 _ q => ?_)
    obtain ⟨h14, h15⟩ := q
    have hG16 : Gd 1000 M x3 := Gd_t hG4 h15
    refine bind_i (sl_Mod_meet_30 v1 v2 (1 : Int32) x3 M (⟨show (0 : Int) ≤ v1.toInt by omega, show v1.toInt ≤ (7 : Int) by omega⟩) (⟨show (0 : Int) ≤ v2.toInt by omega, show v2.toInt ≤ (7 : Int) by omega⟩) h14 hG16 (show (1 : Int) ≤ (1 : Int32).toInt by decide) (show (1 : Int32).toInt ≤ (61 : Int) by decide)) (fun x17 _ q => ?_)
    rcases x17 with y | y
    · have q9 : J y ∧ Gd 1000 M y := q
      dsimp only [Sum.elim_inl, Sum.elim_inr]
      obtain ⟨h19, h20⟩ := q9
      exact ⟨((-2 : Int32), y), rfl, h19, h20, (show (-2 : Int) ≤ (-2 : Int32).toInt by decide), (show (-2 : Int32).toInt ≤ (60 : Int) by decide)⟩
    · have q9 : J y.2 ∧ Gd 1000 M y.2 ∧ (1 : Int) ≤ y.1.toInt ∧ y.1.toInt ≤ (60 : Int) := q
      dsimp only [Sum.elim_inl, Sum.elim_inr]
      obtain ⟨h22, h23, h24, h25⟩ := q9
      refine mem_i (fun M14 e27 => ?_)
      have hJ28 : J M14 := by rw [e27]; exact Jw_162_12 h22 (0 : Int32) (show (0 : Int) ≤ (0 : Int32).toInt by decide) (show (0 : Int32).toInt ≤ (16 : Int) by decide)
      have hG29 : Gd 1000 M M14 := Gd_i h23 e27 (by decide)
      have f30 : (M14.1 162 12).toInt = (0 : Int) := by rw [e27, si_eq]; rfl
      clear e27
      refine inb_i (by omega) (by omega) ?_
      refine bind_e (show (f_Mod_cellOf (M14.1 176 v1.toNatClampNeg)) = some ((M14.1 176 v1.toNatClampNeg) - (((M14.1 176 v1.toNatClampNeg) / (36 : Int32)) * (36 : Int32))) from rfl) ?_
      refine bind_i (sf_Mod_put ((M14.1 176 v1.toNatClampNeg) - (((M14.1 176 v1.toNatClampNeg) / (36 : Int32)) * (36 : Int32))) M14 hJ28 (show (M14.1 162 12).toInt ≤ (15 : Int) by omega)) (fun x16 _ q => ?_)
      obtain ⟨h31, h32, h33⟩ := q
      have hG34 : Gd 1000 M x16 := Gd_t hG29 h32
      exact ⟨(y.1, x16), rfl, h31, hG34, (show (-2 : Int) ≤ y.1.toInt by omega), (show y.1.toInt ≤ (60 : Int) by omega)⟩
theorem sl_Mod_known_22  (a0_ : Int32) (a1_ : Int32) (N_ : Mem) (B_ : Mem) (hN : J N_) (hG : Gd 1000 B_ N_) (i2_ : (-2 : Int) ≤ a0_.toInt) (i3_ : a0_.toInt ≤ (60 : Int)) (i4_ : (0 : Int) ≤ a1_.toInt) (i5_ : a1_.toInt ≤ (61 : Int)) : ∃ x, iter (lb_Mod_known_22) FU (a0_, a1_, N_) = some x ∧ (fun r : Int32 × Mem => J r.2 ∧ Gd 1000 B_ r.2 ∧ (-2 : Int) ≤ r.1.toInt ∧ r.1.toInt ≤ (60 : Int)) x := by
  refine iter_r (fun s : Int32 × Int32 × Mem => J s.2.2 ∧ Gd 1000 B_ s.2.2 ∧ (-2 : Int) ≤ s.1.toInt ∧ s.1.toInt ≤ (60 : Int) ∧ (0 : Int) ≤ s.2.1.toInt ∧ s.2.1.toInt ≤ (61 : Int)) (fun s : Int32 × Int32 × Mem => (61 - s.2.1.toInt).toNat) (fun r : Int32 × Mem => J r.2 ∧ Gd 1000 B_ r.2 ∧ (-2 : Int) ≤ r.1.toInt ∧ r.1.toInt ≤ (60 : Int)) ?_ FU (a0_, a1_, N_) ⟨hN, hG, i2_, i3_, i4_, i5_⟩ (by show (61 - a1_.toInt).toNat < FU; rw [FU_v]; omega)
  clear i5_ i4_ i3_ i2_ hG hN
  rintro ⟨a0_', a1_', N_'⟩ ⟨hN, hG, i2_, i3_, i4_, i5_⟩
  dsimp only at hN hG i2_ i3_ i4_ i5_
  unfold lb_Mod_known_22
  dsimp only
  refine if_i (fun c => ?_) (fun c => ?_)
  · have c1 := c
    have d2 : (60 : Int) < a1_'.toInt := lti.mp c1
    exact ⟨_, rfl, hN, hG, (show (-2 : Int) ≤ a0_'.toInt by omega), (show a0_'.toInt ≤ (60 : Int) by omega)⟩
  · have c3 := c
    have d4 : a1_'.toInt ≤ (60 : Int) := nlti.mp c3
    refine if_i (fun c => ?_) (fun c => ?_)
    · have c5 := c
      have d6 : (0 : Int) ≤ a0_'.toInt := lei.mp c5
      exact ⟨_, rfl, hN, hG, (show (-2 : Int) ≤ a0_'.toInt by omega), (show a0_'.toInt ≤ (60 : Int) by omega)⟩
    · have c7 := c
      have d8 : a0_'.toInt < (0 : Int) := nlei.mp c7
      refine if_i (fun c => ?_) (fun c => ?_)
      · have c9 := c
        have d10 : a1_'.toInt ≤ (0 : Int) := lei.mp c9
        unfold j_Mod_known_44_22
        refine if_i (fun c => ?_) (fun c => ?_)
        · have c11 := c
          have r12 := Jr_162_4 hN
          have q13 := shl8 (s := (N_'.1 162 4)) (by omega) (by omega)
          have q14 : (((1 : Int32) <<< ((N_'.1 162 4) &&& 31)) - (1 : Int32)).toInt = ((1 : Int32) <<< ((N_'.1 162 4) &&& 31)).toInt - (1 : Int) := sub_ti rfl rfl (by omega) (by omega)
          have d15 : (N_'.1 176 (93 : Int32).toNatClampNeg).toInt = (((1 : Int32) <<< ((N_'.1 162 4) &&& 31)) - (1 : Int32)).toInt := eqi.mp c11
          have q16 : (a1_' + (1 : Int32)).toInt = a1_'.toInt + (1 : Int) := add_ti rfl rfl (by omega) (by omega)
          exact ⟨_, rfl, ⟨hN, hG, (show (-2 : Int) ≤ a1_'.toInt by omega), (show a1_'.toInt ≤ (60 : Int) by omega), (show (0 : Int) ≤ (a1_' + (1 : Int32)).toInt by omega), (show (a1_' + (1 : Int32)).toInt ≤ (61 : Int) by omega)⟩, show (61 - (a1_' + (1 : Int32)).toInt).toNat < (61 - a1_'.toInt).toNat by omega⟩
        · have c17 := c
          have r18 := Jr_162_4 hN
          have q19 := shl8 (s := (N_'.1 162 4)) (by omega) (by omega)
          have q20 : (((1 : Int32) <<< ((N_'.1 162 4) &&& 31)) - (1 : Int32)).toInt = ((1 : Int32) <<< ((N_'.1 162 4) &&& 31)).toInt - (1 : Int) := sub_ti rfl rfl (by omega) (by omega)
          have d21 : ¬ (N_'.1 176 (93 : Int32).toNatClampNeg).toInt = (((1 : Int32) <<< ((N_'.1 162 4) &&& 31)) - (1 : Int32)).toInt := neqi.mp c17
          have q22 : (a1_' + (1 : Int32)).toInt = a1_'.toInt + (1 : Int) := add_ti rfl rfl (by omega) (by omega)
          exact ⟨_, rfl, ⟨hN, hG, (show (-2 : Int) ≤ a0_'.toInt by omega), (show a0_'.toInt ≤ (60 : Int) by omega), (show (0 : Int) ≤ (a1_' + (1 : Int32)).toInt by omega), (show (a1_' + (1 : Int32)).toInt ≤ (61 : Int) by omega)⟩, show (61 - (a1_' + (1 : Int32)).toInt).toNat < (61 - a1_'.toInt).toNat by omega⟩
      · have c23 := c
        have d24 : (0 : Int) < a1_'.toInt := nlei.mp c23
        refine bind_i (sf_Mod_goMinute 176 N_' St_176 hN) (fun x4 _ q => ?_)
        obtain ⟨h25, h26⟩ := q
        have hG27 : Gd 1000 B_ x4 := Gd_t hG (Gd_up (by decide) h26)
        unfold j_Mod_known_44_22
        refine if_i (fun c => ?_) (fun c => ?_)
        · have c28 := c
          have r29 := Jr_162_4 h25
          have q30 := shl8 (s := (x4.1 162 4)) (by omega) (by omega)
          have q31 : (((1 : Int32) <<< ((x4.1 162 4) &&& 31)) - (1 : Int32)).toInt = ((1 : Int32) <<< ((x4.1 162 4) &&& 31)).toInt - (1 : Int) := sub_ti rfl rfl (by omega) (by omega)
          have d32 : (x4.1 176 (93 : Int32).toNatClampNeg).toInt = (((1 : Int32) <<< ((x4.1 162 4) &&& 31)) - (1 : Int32)).toInt := eqi.mp c28
          have q33 : (a1_' + (1 : Int32)).toInt = a1_'.toInt + (1 : Int) := add_ti rfl rfl (by omega) (by omega)
          exact ⟨_, rfl, ⟨h25, hG27, (show (-2 : Int) ≤ a1_'.toInt by omega), (show a1_'.toInt ≤ (60 : Int) by omega), (show (0 : Int) ≤ (a1_' + (1 : Int32)).toInt by omega), (show (a1_' + (1 : Int32)).toInt ≤ (61 : Int) by omega)⟩, show (61 - (a1_' + (1 : Int32)).toInt).toNat < (61 - a1_'.toInt).toNat by omega⟩
        · have c34 := c
          have r35 := Jr_162_4 h25
          have q36 := shl8 (s := (x4.1 162 4)) (by omega) (by omega)
          have q37 : (((1 : Int32) <<< ((x4.1 162 4) &&& 31)) - (1 : Int32)).toInt = ((1 : Int32) <<< ((x4.1 162 4) &&& 31)).toInt - (1 : Int) := sub_ti rfl rfl (by omega) (by omega)
          have d38 : ¬ (x4.1 176 (93 : Int32).toNatClampNeg).toInt = (((1 : Int32) <<< ((x4.1 162 4) &&& 31)) - (1 : Int32)).toInt := neqi.mp c34
          have q39 : (a1_' + (1 : Int32)).toInt = a1_'.toInt + (1 : Int) := add_ti rfl rfl (by omega) (by omega)
          exact ⟨_, rfl, ⟨h25, hG27, (show (-2 : Int) ≤ a0_'.toInt by omega), (show a0_'.toInt ≤ (60 : Int) by omega), (show (0 : Int) ≤ (a1_' + (1 : Int32)).toInt by omega), (show (a1_' + (1 : Int32)).toInt ≤ (61 : Int) by omega)⟩, show (61 - (a1_' + (1 : Int32)).toInt).toNat < (61 - a1_'.toInt).toNat by omega⟩
theorem sf_Mod_known (M : Mem) (hJ : J M) : ∃ r : Int32 × Mem, f_Mod_known M = some r ∧ (J r.2 ∧ Gd 1000 M r.2 ∧ (-2 : Int) ≤ r.1.toInt ∧ r.1.toInt ≤ (60 : Int)) := by
  unfold f_Mod_known
  refine mem_i (fun M1 e2 => ?_)
  have hJ3 : J M1 := by rw [e2]; exact Jw_fld okf_162_13 hJ (0 : Int32)
  have hG4 : Gd 1000 M M1 := Gd_i Gd_r e2 (by decide)
  have f5 : (M1.1 162 13).toInt = (0 : Int) := by rw [e2, si_eq]; rfl
  clear e2
  refine bind_i (sf_Mod_lay 163 176 (0 : Int32) M1 St_163 Sx_176 (⟨by decide, by decide⟩) hJ3) (fun x2 _ q => ?_)
  obtain ⟨h6, h7⟩ := q
  have hG8 : Gd 1000 M x2 := Gd_t hG4 h7
  refine bind_i (sl_Mod_known_22  (-2 : Int32) (0 : Int32) x2 M h6 hG8 (show (-2 : Int) ≤ (-2 : Int32).toInt by decide) (show (-2 : Int32).toInt ≤ (60 : Int) by decide) (show (0 : Int) ≤ (0 : Int32).toInt by decide) (show (0 : Int32).toInt ≤ (61 : Int) by decide)) (fun x8 _ q => ?_)
  obtain ⟨h9, h10, h11, h12⟩ := q
  unfold j_Mod_known_70
  refine mem_i (fun M9 e14 => ?_)
  have hJ15 : J M9 := by rw [e14]; exact Jw_162_12 h9 (0 : Int32) (show (0 : Int) ≤ (0 : Int32).toInt by decide) (show (0 : Int32).toInt ≤ (16 : Int) by decide)
  have hG16 : Gd 1000 M M9 := Gd_i h10 e14 (by decide)
  have f17 : (M9.1 162 12).toInt = (0 : Int) := by rw [e14, si_eq]; rfl
  clear e14
  refine bind_i (sf_Mod_put (M9.1 176 (93 : Int32).toNatClampNeg) M9 hJ15 (show (M9.1 162 12).toInt ≤ (15 : Int) by omega)) (fun x10 _ q => ?_)
  obtain ⟨h18, h19, h20⟩ := q
  have hG21 : Gd 1000 M x10 := Gd_t hG16 h19
  exact ⟨(x8.1, x10), rfl, h18, hG21, (show (-2 : Int) ≤ x8.1.toInt by omega), (show x8.1.toInt ≤ (60 : Int) by omega)⟩
theorem sl_Mod_gossip_93 (v1 : Int32) (v2 : Int32) (v3 : Int32) (v4 : Int32) (a0_ : Int32) (N_ : Mem) (B_ : Mem) (hp_v1 : (0 : Int) ≤ v1.toInt ∧ v1.toInt ≤ (60 : Int)) (hp_v2 : (-1 : Int) ≤ v2.toInt ∧ v2.toInt ≤ (7 : Int)) (hp_v3 : (-1 : Int) ≤ v3.toInt ∧ v3.toInt ≤ (63 : Int)) (hp_v4 : (-1 : Int) ≤ v4.toInt ∧ v4.toInt ≤ (7 : Int)) (hN : J N_) (hG : Gd 1000 B_ N_) (i2_ : (0 : Int) ≤ a0_.toInt) (i3_ : a0_.toInt ≤ (60 : Int)) : ∃ x, iter (lb_Mod_gossip_93 v1 v2 v3 v4) FU (a0_, N_) = some x ∧ (fun r : Mem => J r ∧ Gd 1000 B_ r) x := by
  refine iter_r (fun s : Int32 × Mem => J s.2 ∧ Gd 1000 B_ s.2 ∧ (0 : Int) ≤ s.1.toInt ∧ s.1.toInt ≤ (60 : Int)) (fun s : Int32 × Mem => (60 - s.1.toInt).toNat) (fun r : Mem => J r ∧ Gd 1000 B_ r) ?_ FU (a0_, N_) ⟨hN, hG, i2_, i3_⟩ (by show (60 - a0_.toInt).toNat < FU; rw [FU_v]; omega)
  clear i3_ i2_ hG hN
  rintro ⟨a0_', N_'⟩ ⟨hN, hG, i2_, i3_⟩
  dsimp only at hN hG i2_ i3_
  unfold lb_Mod_gossip_93
  dsimp only
  refine if_i (fun c => ?_) (fun c => ?_)
  · have c1 := c
    have d2 : v1.toInt ≤ a0_'.toInt := lei.mp c1
    exact ⟨_, rfl, hN, hG⟩
  · have c3 := c
    have d4 : a0_'.toInt < v1.toInt := nlei.mp c3
    refine bind_i (sf_Mod_goMinute 176 N_' St_176 hN) (fun x4 _ q => ?_)
    obtain ⟨h5, h6⟩ := q
    have hG7 : Gd 1000 B_ x4 := Gd_t hG (Gd_up (by decide) h6)
    have q8 : (a0_' + (1 : Int32)).toInt = a0_'.toInt + (1 : Int) := add_ti rfl rfl (by omega) (by omega)
    exact ⟨_, rfl, ⟨h5, hG7, (show (0 : Int) ≤ (a0_' + (1 : Int32)).toInt by omega), (show (a0_' + (1 : Int32)).toInt ≤ (60 : Int) by omega)⟩, show (60 - (a0_' + (1 : Int32)).toInt).toNat < (60 - a0_'.toInt).toNat by omega⟩
end
section
/-! safety of the reference, 4 -/
theorem sl_Mod_gossip_25 (v1 : Int32) (a0_ : Int32) (a1_ : Int32) (a2_ : Int32) (N_ : Mem) (B_ : Mem) (hp_v1 : (0 : Int) ≤ v1.toInt ∧ v1.toInt ≤ (60 : Int)) (hN : J N_) (hG : Gd 1000 B_ N_) (i2_ : (-1 : Int) ≤ a0_.toInt) (i3_ : a0_.toInt ≤ (7 : Int)) (i4_ : (-1 : Int) ≤ a1_.toInt) (i5_ : a1_.toInt ≤ (63 : Int)) (i6_ : (-1 : Int) ≤ a2_.toInt) (i7_ : a2_.toInt ≤ (8 : Int)) : ∃ x, iter (lb_Mod_gossip_25 v1) FU (a0_, a1_, a2_, N_) = some x ∧ (fun r : Int32 × Int32 × Mem => J r.2.2 ∧ Gd 1000 B_ r.2.2 ∧ (-1 : Int) ≤ r.1.toInt ∧ r.1.toInt ≤ (7 : Int) ∧ (-1 : Int) ≤ r.2.1.toInt ∧ r.2.1.toInt ≤ (63 : Int)) x := by
  refine iter_r (fun s : Int32 × Int32 × Int32 × Mem => J s.2.2.2 ∧ Gd 1000 B_ s.2.2.2 ∧ (-1 : Int) ≤ s.1.toInt ∧ s.1.toInt ≤ (7 : Int) ∧ (-1 : Int) ≤ s.2.1.toInt ∧ s.2.1.toInt ≤ (63 : Int) ∧ (-1 : Int) ≤ s.2.2.1.toInt ∧ s.2.2.1.toInt ≤ (8 : Int)) (fun s : Int32 × Int32 × Int32 × Mem => (8 - s.2.2.1.toInt).toNat) (fun r : Int32 × Int32 × Mem => J r.2.2 ∧ Gd 1000 B_ r.2.2 ∧ (-1 : Int) ≤ r.1.toInt ∧ r.1.toInt ≤ (7 : Int) ∧ (-1 : Int) ≤ r.2.1.toInt ∧ r.2.1.toInt ≤ (63 : Int)) ?_ FU (a0_, a1_, a2_, N_) ⟨hN, hG, i2_, i3_, i4_, i5_, i6_, i7_⟩ (by show (8 - a2_.toInt).toNat < FU; rw [FU_v]; omega)
  clear i7_ i6_ i5_ i4_ i3_ i2_ hG hN
  rintro ⟨a0_', a1_', a2_', N_'⟩ ⟨hN, hG, i2_, i3_, i4_, i5_, i6_, i7_⟩
  dsimp only at hN hG i2_ i3_ i4_ i5_ i6_ i7_
  unfold lb_Mod_gossip_25
  dsimp only
  refine if_i (fun c => ?_) (fun c => ?_)
  · have c1 := c
    have r2 := Jr_162_4 hN
    have d3 : (N_'.1 162 4).toInt ≤ a2_'.toInt := lei.mp c1
    exact ⟨_, rfl, hN, hG, (show (-1 : Int) ≤ a0_'.toInt by omega), (show a0_'.toInt ≤ (7 : Int) by omega), (show (-1 : Int) ≤ a1_'.toInt by omega), (show a1_'.toInt ≤ (63 : Int) by omega)⟩
  · have c4 := c
    have r5 := Jr_162_4 hN
    have d6 : a2_'.toInt < (N_'.1 162 4).toInt := nlei.mp c4
    refine if_i (fun c => ?_) (fun c => ?_)
    · have c7 := c
      have d8 : a2_'.toInt = (-1 : Int) := eqi.mp c7
      unfold j_Mod_gossip_58_25
      refine bind_i (sf_Mod_lay 163 176 (0 : Int32) N_' St_163 Sx_176 (⟨by decide, by decide⟩) hN) (fun x3 _ q => ?_)
      obtain ⟨h9, h10⟩ := q
      have hG11 : Gd 1000 B_ x3 := Gd_t hG h10
      refine if_i (fun c => ?_) (fun c => ?_)
      · have c12 := c
        have d13 : a2_'.toInt = (-1 : Int) := eqi.mp c12
        refine bind_i (sl_Mod_gossip_93 v1 a0_' a1_' a2_' (0 : Int32) x3 B_ (⟨show (0 : Int) ≤ v1.toInt by omega, show v1.toInt ≤ (60 : Int) by omega⟩) (⟨show (-1 : Int) ≤ a0_'.toInt by omega, show a0_'.toInt ≤ (7 : Int) by omega⟩) (⟨show (-1 : Int) ≤ a1_'.toInt by omega, show a1_'.toInt ≤ (63 : Int) by omega⟩) (⟨show (-1 : Int) ≤ a2_'.toInt by omega, show a2_'.toInt ≤ (7 : Int) by omega⟩) h9 hG11 (show (0 : Int) ≤ (0 : Int32).toInt by decide) (show (0 : Int32).toInt ≤ (60 : Int) by decide)) (fun x6 _ q => ?_)
        obtain ⟨h14, h15⟩ := q
        refine bind_i (sf_JInteger_bitCount (x6.1 176 (93 : Int32).toNatClampNeg)) (fun x7 _ q => ?_)
        obtain ⟨h16, h17⟩ := q
        refine if_i (fun c => ?_) (fun c => ?_)
        · have c18 := c
          have d19 : a1_'.toInt < x7.toInt := lti.mp c18
          have q20 : (a2_' + (1 : Int32)).toInt = a2_'.toInt + (1 : Int) := add_ti rfl rfl (by omega) (by omega)
          exact ⟨_, rfl, ⟨h14, h15, (show (-1 : Int) ≤ a2_'.toInt by omega), (show a2_'.toInt ≤ (7 : Int) by omega), (show (-1 : Int) ≤ x7.toInt by omega), (show x7.toInt ≤ (63 : Int) by omega), (show (-1 : Int) ≤ (a2_' + (1 : Int32)).toInt by omega), (show (a2_' + (1 : Int32)).toInt ≤ (8 : Int) by omega)⟩, show (8 - (a2_' + (1 : Int32)).toInt).toNat < (8 - a2_'.toInt).toNat by omega⟩
        · have c21 := c
          have d22 : x7.toInt ≤ a1_'.toInt := nlti.mp c21
          have q23 : (a2_' + (1 : Int32)).toInt = a2_'.toInt + (1 : Int) := add_ti rfl rfl (by omega) (by omega)
          exact ⟨_, rfl, ⟨h14, h15, (show (-1 : Int) ≤ a0_'.toInt by omega), (show a0_'.toInt ≤ (7 : Int) by omega), (show (-1 : Int) ≤ a1_'.toInt by omega), (show a1_'.toInt ≤ (63 : Int) by omega), (show (-1 : Int) ≤ (a2_' + (1 : Int32)).toInt by omega), (show (a2_' + (1 : Int32)).toInt ≤ (8 : Int) by omega)⟩, show (8 - (a2_' + (1 : Int32)).toInt).toNat < (8 - a2_'.toInt).toNat by omega⟩
      · have c24 := c
        have d25 : ¬ a2_'.toInt = (-1 : Int) := neqi.mp c24
        exfalso; omega
    · have c26 := c
      have d27 : ¬ a2_'.toInt = (-1 : Int) := neqi.mp c26
      refine bind_i (sf_Mod_has (N_'.1 163 (93 : Int32).toNatClampNeg) a2_') (fun x14 e_x14 q => ?_)
      obtain ⟨h28, h29⟩ := q
      refine if_i (fun c => ?_) (fun c => ?_)
      · have c30 := c
        have d31 : x14.toInt = (0 : Int) := eqi.mp c30
        unfold j_Mod_gossip_58_25
        refine bind_i (sf_Mod_lay 163 176 (0 : Int32) N_' St_163 Sx_176 (⟨by decide, by decide⟩) hN) (fun x3 _ q => ?_)
        obtain ⟨h32, h33⟩ := q
        have hG34 : Gd 1000 B_ x3 := Gd_t hG h33
        refine if_i (fun c => ?_) (fun c => ?_)
        · have c35 := c
          have d36 : a2_'.toInt = (-1 : Int) := eqi.mp c35
          exfalso; omega
        · have c37 := c
          have d38 : ¬ a2_'.toInt = (-1 : Int) := neqi.mp c37
          refine mem_i (fun M9 e40 => ?_)
          have hJ41 : J M9 := by rw [e40]; exact Jws93 h32 St_176 ((x3.1 176 (93 : Int32).toNatClampNeg) ||| ((1 : Int32) <<< (a2_' &&& 31)))
          have hG42 : Gd 1000 B_ M9 := Gd_any hG34 e40 (by decide)
          clear e40
          refine bind_i (sl_Mod_gossip_93 v1 a0_' a1_' a2_' (0 : Int32) M9 B_ (⟨show (0 : Int) ≤ v1.toInt by omega, show v1.toInt ≤ (60 : Int) by omega⟩) (⟨show (-1 : Int) ≤ a0_'.toInt by omega, show a0_'.toInt ≤ (7 : Int) by omega⟩) (⟨show (-1 : Int) ≤ a1_'.toInt by omega, show a1_'.toInt ≤ (63 : Int) by omega⟩) (⟨show (-1 : Int) ≤ a2_'.toInt by omega, show a2_'.toInt ≤ (7 : Int) by omega⟩) hJ41 hG42 (show (0 : Int) ≤ (0 : Int32).toInt by decide) (show (0 : Int32).toInt ≤ (60 : Int) by decide)) (fun x10 _ q => ?_)
          obtain ⟨h43, h44⟩ := q
          refine bind_i (sf_JInteger_bitCount (x10.1 176 (93 : Int32).toNatClampNeg)) (fun x11 _ q => ?_)
          obtain ⟨h45, h46⟩ := q
          refine if_i (fun c => ?_) (fun c => ?_)
          · have c47 := c
            have d48 : a1_'.toInt < x11.toInt := lti.mp c47
            have q49 : (a2_' + (1 : Int32)).toInt = a2_'.toInt + (1 : Int) := add_ti rfl rfl (by omega) (by omega)
            exact ⟨_, rfl, ⟨h43, h44, (show (-1 : Int) ≤ a2_'.toInt by omega), (show a2_'.toInt ≤ (7 : Int) by omega), (show (-1 : Int) ≤ x11.toInt by omega), (show x11.toInt ≤ (63 : Int) by omega), (show (-1 : Int) ≤ (a2_' + (1 : Int32)).toInt by omega), (show (a2_' + (1 : Int32)).toInt ≤ (8 : Int) by omega)⟩, show (8 - (a2_' + (1 : Int32)).toInt).toNat < (8 - a2_'.toInt).toNat by omega⟩
          · have c50 := c
            have d51 : x11.toInt ≤ a1_'.toInt := nlti.mp c50
            have q52 : (a2_' + (1 : Int32)).toInt = a2_'.toInt + (1 : Int) := add_ti rfl rfl (by omega) (by omega)
            exact ⟨_, rfl, ⟨h43, h44, (show (-1 : Int) ≤ a0_'.toInt by omega), (show a0_'.toInt ≤ (7 : Int) by omega), (show (-1 : Int) ≤ a1_'.toInt by omega), (show a1_'.toInt ≤ (63 : Int) by omega), (show (-1 : Int) ≤ (a2_' + (1 : Int32)).toInt by omega), (show (a2_' + (1 : Int32)).toInt ≤ (8 : Int) by omega)⟩, show (8 - (a2_' + (1 : Int32)).toInt).toNat < (8 - a2_'.toInt).toNat by omega⟩
      · have c53 := c
        have d54 : ¬ x14.toInt = (0 : Int) := neqi.mp c53
        have q55 : (a2_' + (1 : Int32)).toInt = a2_'.toInt + (1 : Int) := add_ti rfl rfl (by omega) (by omega)
        exact ⟨_, rfl, ⟨hN, hG, (show (-1 : Int) ≤ a0_'.toInt by omega), (show a0_'.toInt ≤ (7 : Int) by omega), (show (-1 : Int) ≤ a1_'.toInt by omega), (show a1_'.toInt ≤ (63 : Int) by omega), (show (-1 : Int) ≤ (a2_' + (1 : Int32)).toInt by omega), (show (a2_' + (1 : Int32)).toInt ≤ (8 : Int) by omega)⟩, show (8 - (a2_' + (1 : Int32)).toInt).toNat < (8 - a2_'.toInt).toNat by omega⟩
theorem sf_Mod_gossip (v1 : Int32) (M : Mem) (hJ : J M) : ∃ r : Int32 × Mem, f_Mod_gossip v1 M = some r ∧ (J r.2 ∧ Gd 1000 M r.2 ∧ (-2 : Int) ≤ r.1.toInt ∧ r.1.toInt ≤ (7 : Int)) := by
  unfold f_Mod_gossip
  refine mem_i (fun M1 e2 => ?_)
  have hJ3 : J M1 := by rw [e2]; exact Jw_fld okf_162_13 hJ (0 : Int32)
  have hG4 : Gd 1000 M M1 := Gd_i Gd_r e2 (by decide)
  have f5 : (M1.1 162 13).toInt = (0 : Int) := by rw [e2, si_eq]; rfl
  clear e2
  refine bind_i (sf_Mod_in v1 (0 : Int32) (60 : Int32)) (fun x2 _ q => ?_)
  obtain ⟨h6, h7, h8⟩ := q
  replace h8 : ¬ x2.toInt = 0 → (0 : Int) ≤ v1.toInt ∧ v1.toInt ≤ (60 : Int) := h8
  refine if_i (fun c => ?_) (fun c => ?_)
  · have c9 := c
    have d10 : x2.toInt = (0 : Int) := eqi.mp c9
    exact ⟨((-2 : Int32), M1), rfl, hJ3, hG4, (show (-2 : Int) ≤ (-2 : Int32).toInt by decide), (show (-2 : Int32).toInt ≤ (7 : Int) by decide)⟩
  · have c11 := c
    have d12 : ¬ x2.toInt = (0 : Int) := neqi.mp c11
    refine bind_i (sl_Mod_gossip_25 v1 (-1 : Int32) (-1 : Int32) (-1 : Int32) M1 M (⟨show (0 : Int) ≤ v1.toInt by omega, show v1.toInt ≤ (60 : Int) by omega⟩) hJ3 hG4 (show (-1 : Int) ≤ (-1 : Int32).toInt by decide) (show (-1 : Int32).toInt ≤ (7 : Int) by decide) (show (-1 : Int) ≤ (-1 : Int32).toInt by decide) (show (-1 : Int32).toInt ≤ (63 : Int) by decide) (show (-1 : Int) ≤ (-1 : Int32).toInt by decide) (show (-1 : Int32).toInt ≤ (8 : Int) by decide)) (fun x18 _ q => ?_)
    obtain ⟨h13, h14, h15, h16, h17, h18⟩ := q
    refine mem_i (fun M19 e20 => ?_)
    have hJ21 : J M19 := by rw [e20]; exact Jw_162_12 h13 (0 : Int32) (show (0 : Int) ≤ (0 : Int32).toInt by decide) (show (0 : Int32).toInt ≤ (16 : Int) by decide)
    have hG22 : Gd 1000 M M19 := Gd_i h14 e20 (by decide)
    have f23 : (M19.1 162 12).toInt = (0 : Int) := by rw [e20, si_eq]; rfl
    clear e20
    refine bind_i (sf_Mod_put x18.2.1 M19 hJ21 (show (M19.1 162 12).toInt ≤ (15 : Int) by omega)) (fun x20 _ q => ?_)
    obtain ⟨h24, h25, h26⟩ := q
    have hG27 : Gd 1000 M x20 := Gd_t hG22 h25
    exact ⟨(x18.1, x20), rfl, h24, hG27, (show (-2 : Int) ≤ x18.1.toInt by omega), (show x18.1.toInt ≤ (7 : Int) by omega)⟩
theorem sf_Mod_lower (v1 : Int32) (v2 : Int32) (M : Mem) (hp_v1 : (-1 : Int) ≤ v1.toInt ∧ v1.toInt ≤ (71 : Int)) (hp_v2 : (0 : Int) ≤ v2.toInt ∧ v2.toInt ≤ (2000000 : Int)) (hJ : J M) : ∃ r : Int32 × Mem, f_Mod_lower v1 v2 M = some r ∧ (J r.2 ∧ Gd 1000 M r.2 ∧ (0 : Int) ≤ r.1.toInt ∧ r.1.toInt ≤ (1 : Int)) := by
  unfold f_Mod_lower
  refine if_i (fun c => ?_) (fun c => ?_)
  · have c1 := c
    have d2 : v1.toInt = (-1 : Int) := eqi.mp c1
    exact ⟨((0 : Int32), M), rfl, hJ, Gd_r, (show (0 : Int) ≤ (0 : Int32).toInt by decide), (show (0 : Int32).toInt ≤ (1 : Int) by decide)⟩
  · have c3 := c
    have d4 : ¬ v1.toInt = (-1 : Int) := neqi.mp c3
    refine inb_i (by omega) (by omega) ?_
    refine if_i (fun c => ?_) (fun c => ?_)
    · have c5 := c
      have r6 := Jr_177 hJ v1.toNatClampNeg
      have d7 : v2.toInt < (M.1 177 v1.toNatClampNeg).toInt := lti.mp c5
      refine inb_i (by omega) (by omega) ?_
      refine mem_i (fun M1 e9 => ?_)
      have hJ10 : J M1 := by rw [e9]; exact Jw_177 hJ v1.toNatClampNeg v2 (show (0 : Int) ≤ v2.toInt by omega) (show v2.toInt ≤ (1000000 : Int) by omega)
      have hG11 : Gd 1000 M M1 := Gd_any Gd_r e9 (by decide)
      clear e9
      exact ⟨((1 : Int32), M1), rfl, hJ10, hG11, (show (0 : Int) ≤ (1 : Int32).toInt by decide), (show (1 : Int32).toInt ≤ (1 : Int) by decide)⟩
    · have c12 := c
      have r13 := Jr_177 hJ v1.toNatClampNeg
      have d14 : (M.1 177 v1.toNatClampNeg).toInt ≤ v2.toInt := nlti.mp c12
      exact ⟨((0 : Int32), M), rfl, hJ, Gd_r, (show (0 : Int) ≤ (0 : Int32).toInt by decide), (show (0 : Int32).toInt ≤ (1 : Int) by decide)⟩
theorem sf_Mod_findFar (v1 : Int32) (M : Mem) (hp_v1 : (0 : Int) ≤ v1.toInt ∧ v1.toInt ≤ (71 : Int)) (hJ : J M) : ∃ r : Mem, f_Mod_findFar v1 M = some r ∧ (J r ∧ Gd 1000 M r) := by
  obtain ⟨r, e, h⟩ := fs_findFar hJ v1 hp_v1
  exact ⟨r, e, h.1.1, Gd_1 (c := 177) (by decide) h.1.2.1⟩
theorem sl_Mod_putCells_16 (v1 : Int32) (a0_ : Int32) (N_ : Mem) (B_ : Mem) (z0_ : Int32) (hp_v1 : (0 : Int) ≤ v1.toInt ∧ v1.toInt ≤ (1 : Int)) (hN : J N_) (hG : Gd 1000 B_ N_) (i2_ : (0 : Int) ≤ a0_.toInt) (i3_ : a0_.toInt ≤ (36 : Int)) (i4_ : N_.1 162 12 = z0_) : ∃ x, iter (lb_Mod_putCells_16 v1) FU (a0_, N_) = some x ∧ (fun r : Mem => J r ∧ Gd 1000 B_ r ∧ r.1 162 12 = z0_) x := by
  refine iter_r (fun s : Int32 × Mem => J s.2 ∧ Gd 1000 B_ s.2 ∧ (0 : Int) ≤ s.1.toInt ∧ s.1.toInt ≤ (36 : Int) ∧ s.2.1 162 12 = z0_) (fun s : Int32 × Mem => (36 - s.1.toInt).toNat) (fun r : Mem => J r ∧ Gd 1000 B_ r ∧ r.1 162 12 = z0_) ?_ FU (a0_, N_) ⟨hN, hG, i2_, i3_, i4_⟩ (by show (36 - a0_.toInt).toNat < FU; rw [FU_v]; omega)
  clear i4_ i3_ i2_ hG hN
  rintro ⟨a0_', N_'⟩ ⟨hN, hG, i2_, i3_, i4_⟩
  dsimp only at hN hG i2_ i3_ i4_
  unfold lb_Mod_putCells_16
  dsimp only
  refine if_i (fun c => ?_) (fun c => ?_)
  · have c1 := c
    have d2 : (36 : Int) ≤ a0_'.toInt := lei.mp c1
    exact ⟨_, rfl, hN, hG, (i4_)⟩
  · have c3 := c
    have d4 : a0_'.toInt < (36 : Int) := nlei.mp c3
    refine bind_e (show (f_Mod_placeOf v1 a0_') = some (((36 : Int32) * v1) + a0_') from rfl) ?_
    have q5 : ((36 : Int32) * v1).toInt = (36 : Int) * v1.toInt := mul_ti rfl rfl (by omega) (by omega)
    have q6 : (((36 : Int32) * v1) + a0_').toInt = ((36 : Int32) * v1).toInt + a0_'.toInt := add_ti rfl rfl (by omega) (by omega)
    refine inb_i (by omega) (by omega) ?_
    refine if_i (fun c => ?_) (fun c => ?_)
    · have c7 := c
      have r8 := Jr_177 hN (((36 : Int32) * v1) + a0_').toNatClampNeg
      have d9 : (1000000 : Int) ≤ (N_'.1 177 (((36 : Int32) * v1) + a0_').toNatClampNeg).toInt := lei.mp c7
      have q10 : (a0_' + (1 : Int32)).toInt = a0_'.toInt + (1 : Int) := add_ti rfl rfl (by omega) (by omega)
      exact ⟨_, rfl, ⟨hN, hG, (show (0 : Int) ≤ (a0_' + (1 : Int32)).toInt by omega), (show (a0_' + (1 : Int32)).toInt ≤ (36 : Int) by omega), (i4_)⟩, show (36 - (a0_' + (1 : Int32)).toInt).toNat < (36 - a0_'.toInt).toNat by omega⟩
    · have c11 := c
      have r12 := Jr_177 hN (((36 : Int32) * v1) + a0_').toNatClampNeg
      have d13 : (N_'.1 177 (((36 : Int32) * v1) + a0_').toNatClampNeg).toInt < (1000000 : Int) := nlei.mp c11
      have q14 : (a0_' / (18 : Int32)).toInt = a0_'.toInt / (18 : Int) := div_ti rfl rfl (by omega) (by omega)
      refine inb_i (by omega) (by omega) ?_
      refine inb_i (by omega) (by omega) ?_
      refine mem_i (fun M4 e16 => ?_)
      have hJ17 : J M4 := by rw [e16]; exact Jw_any ok_178 hN (a0_' / (18 : Int32)).toNatClampNeg ((N_'.1 178 (a0_' / (18 : Int32)).toNatClampNeg) ||| ((1 : Int32) <<< ((a0_' - ((a0_' / (18 : Int32)) * (18 : Int32))) &&& 31)))
      have hG18 : Gd 1000 B_ M4 := Gd_any hG e16 (by decide)
      have f19 : (M4.1 177 (((36 : Int32) * v1) + a0_').toNatClampNeg).toInt = (N_'.1 177 (((36 : Int32) * v1) + a0_').toNatClampNeg).toInt := by rw [e16]; rw [si_ne (by exact fun e => absurd e.1 (by decide))]
      have g20 : M4.1 162 12 = z0_ := (congrArg (fun m : Mem => m.1 162 12) e16).trans ((si_ne (by exact fun e => absurd e.1 (by decide))).trans i4_)
      clear e16
      have q21 : (a0_' + (1 : Int32)).toInt = a0_'.toInt + (1 : Int) := add_ti rfl rfl (by omega) (by omega)
      exact ⟨_, rfl, ⟨hJ17, hG18, (show (0 : Int) ≤ (a0_' + (1 : Int32)).toInt by omega), (show (a0_' + (1 : Int32)).toInt ≤ (36 : Int) by omega), (g20)⟩, show (36 - (a0_' + (1 : Int32)).toInt).toNat < (36 - a0_'.toInt).toNat by omega⟩
theorem sf_Mod_putCells (v1 : Int32) (M : Mem) (hp_v1 : (0 : Int) ≤ v1.toInt ∧ v1.toInt ≤ (1 : Int)) (hJ : J M) (hx0 : (M.1 162 12).toInt ≤ (14 : Int)) : ∃ r : Mem, f_Mod_putCells v1 M = some r ∧ (J r ∧ Gd 1000 M r ∧ (r.1 162 12).toInt = (M.1 162 12).toInt + 2) := by
  unfold f_Mod_putCells
  refine mem_i (fun M1 e2 => ?_)
  have hJ3 : J M1 := by rw [e2]; exact Jw_any ok_178 hJ (0 : Int32).toNatClampNeg (0 : Int32)
  have hG4 : Gd 1000 M M1 := Gd_any Gd_r e2 (by decide)
  have f5 : (M1.1 162 12).toInt = (M.1 162 12).toInt := by rw [e2]; rw [si_ne (by exact fun e => absurd e.1 (by decide))]
  clear e2
  refine mem_i (fun M2 e7 => ?_)
  have hJ8 : J M2 := by rw [e7]; exact Jw_any ok_178 hJ3 (1 : Int32).toNatClampNeg (0 : Int32)
  have hG9 : Gd 1000 M M2 := Gd_any hG4 e7 (by decide)
  have f10 : (M2.1 162 12).toInt = (M1.1 162 12).toInt := by rw [e7]; rw [si_ne (by exact fun e => absurd e.1 (by decide))]
  clear e7
  refine bind_i (sl_Mod_putCells_16 v1 (0 : Int32) M2 M ((M2.1 162 12)) (⟨show (0 : Int) ≤ v1.toInt by omega, show v1.toInt ≤ (1 : Int) by omega⟩) hJ8 hG9 (show (0 : Int) ≤ (0 : Int32).toInt by decide) (show (0 : Int32).toInt ≤ (36 : Int) by decide) (rfl)) (fun x7 _ q => ?_)
  obtain ⟨h11, h12, h13⟩ := q
  have f14 : (x7.1 162 12).toInt = (M2.1 162 12).toInt := by rw [h13]
  have r15 := Jr_162_12 h11
  refine bind_i (sf_Mod_put (x7.1 178 (0 : Int32).toNatClampNeg) x7 h11 (show (x7.1 162 12).toInt ≤ (15 : Int) by omega)) (fun x8 _ q => ?_)
  obtain ⟨h16, h17, h18⟩ := q
  have hG19 : Gd 1000 M x8 := Gd_t h12 h17
  have r20 := Jr_162_12 h16
  refine bind_i (sf_Mod_put (x8.1 178 (1 : Int32).toNatClampNeg) x8 h16 (show (x8.1 162 12).toInt ≤ (15 : Int) by omega)) (fun x9 _ q => ?_)
  obtain ⟨h21, h22, h23⟩ := q
  have hG24 : Gd 1000 M x9 := Gd_t hG19 h22
  have r25 := Jr_162_12 h21
  have r26 := Jr_162_12 hJ
  exact ⟨x9, rfl, h21, hG24, (show (x9.1 162 12).toInt = (M.1 162 12).toInt + 2 by omega)⟩
theorem sl_Mod_reached_4 (v1 : Int32) (M : Mem) (a0_ : Int32) (a1_ : Int32) (hp_v1 : (0 : Int) ≤ v1.toInt ∧ v1.toInt ≤ (1 : Int)) (hJ_M : J M) (i0_ : (0 : Int) ≤ a1_.toInt) (i1_ : a1_.toInt ≤ (36 : Int)) : ∃ x, iter (lb_Mod_reached_4 v1 M) FU (a0_, a1_) = some x ∧ (fun r : Int32 => True) x := by
  refine iter_r (fun s : Int32 × Int32 => (0 : Int) ≤ s.2.toInt ∧ s.2.toInt ≤ (36 : Int)) (fun s : Int32 × Int32 => (36 - s.2.toInt).toNat) (fun r : Int32 => True) ?_ FU (a0_, a1_) ⟨i0_, i1_⟩ (by show (36 - a1_.toInt).toNat < FU; rw [FU_v]; omega)
  clear i1_ i0_
  rintro ⟨a0_', a1_'⟩ ⟨i0_, i1_⟩
  dsimp only at i0_ i1_
  unfold lb_Mod_reached_4
  dsimp only
  refine if_i (fun c => ?_) (fun c => ?_)
  · have c1 := c
    have d2 : (36 : Int) ≤ a1_'.toInt := lei.mp c1
    exact ⟨_, rfl, trivial⟩
  · have c3 := c
    have d4 : a1_'.toInt < (36 : Int) := nlei.mp c3
    refine bind_e (show (f_Mod_placeOf v1 a1_') = some (((36 : Int32) * v1) + a1_') from rfl) ?_
    have q5 : ((36 : Int32) * v1).toInt = (36 : Int) * v1.toInt := mul_ti rfl rfl (by omega) (by omega)
    have q6 : (((36 : Int32) * v1) + a1_').toInt = ((36 : Int32) * v1).toInt + a1_'.toInt := add_ti rfl rfl (by omega) (by omega)
    refine inb_i (by omega) (by omega) ?_
    refine if_i (fun c => ?_) (fun c => ?_)
    · have c7 := c
      have r8 := Jr_177 hJ_M (((36 : Int32) * v1) + a1_').toNatClampNeg
      have d9 : (1000000 : Int) ≤ (M.1 177 (((36 : Int32) * v1) + a1_').toNatClampNeg).toInt := lei.mp c7
      have q10 : (a1_' + (1 : Int32)).toInt = a1_'.toInt + (1 : Int) := add_ti rfl rfl (by omega) (by omega)
      exact ⟨_, rfl, ⟨(show (0 : Int) ≤ (a1_' + (1 : Int32)).toInt by omega), (show (a1_' + (1 : Int32)).toInt ≤ (36 : Int) by omega)⟩, show (36 - (a1_' + (1 : Int32)).toInt).toNat < (36 - a1_'.toInt).toNat by omega⟩
    · have c11 := c
      have r12 := Jr_177 hJ_M (((36 : Int32) * v1) + a1_').toNatClampNeg
      have d13 : (M.1 177 (((36 : Int32) * v1) + a1_').toNatClampNeg).toInt < (1000000 : Int) := nlei.mp c11
      have q14 : (a1_' + (1 : Int32)).toInt = a1_'.toInt + (1 : Int) := add_ti rfl rfl (by omega) (by omega)
      exact ⟨_, rfl, ⟨(show (0 : Int) ≤ (a1_' + (1 : Int32)).toInt by omega), (show (a1_' + (1 : Int32)).toInt ≤ (36 : Int) by omega)⟩, show (36 - (a1_' + (1 : Int32)).toInt).toNat < (36 - a1_'.toInt).toNat by omega⟩
theorem sf_Mod_reached (v1 : Int32) (M : Mem) (hp_v1 : (0 : Int) ≤ v1.toInt ∧ v1.toInt ≤ (1 : Int)) (hJ : J M) : ∃ r : Int32, f_Mod_reached v1 M = some r ∧ (True) := by
  unfold f_Mod_reached
  refine bind_i (sl_Mod_reached_4 v1 M (0 : Int32) (0 : Int32) (⟨show (0 : Int) ≤ v1.toInt by omega, show v1.toInt ≤ (1 : Int) by omega⟩) hJ (show (0 : Int) ≤ (0 : Int32).toInt by decide) (show (0 : Int32).toInt ≤ (36 : Int) by decide)) (fun x4 _ q => ?_)
  exact ⟨x4, rfl, trivial⟩
theorem sl_Mod_pieces_26 (v1 : Int32) (v2 : Int32) (v3 : Int32) (v4 : Int32) (a0_ : Int32) (N_ : Mem) (B_ : Mem) (hp_v1 : (0 : Int) ≤ v1.toInt ∧ v1.toInt ≤ (1 : Int)) (hp_v2 : (0 : Int) ≤ v2.toInt ∧ v2.toInt ≤ (0 : Int)) (hp_v3 : (0 : Int) ≤ v3.toInt ∧ v3.toInt ≤ (0 : Int)) (hp_v4 : (-1 : Int) ≤ v4.toInt ∧ v4.toInt ≤ (-1 : Int)) (hN : J N_) (hG : Gd 1000 B_ N_) (i2_ : (0 : Int) ≤ a0_.toInt) (i3_ : a0_.toInt ≤ (36 : Int)) : ∃ x, iter (lb_Mod_pieces_26 v1 v2 v3 v4) FU (a0_, N_) = some x ∧ (fun r : Mem => J r ∧ Gd 1000 B_ r) x := by
  refine iter_r (fun s : Int32 × Mem => J s.2 ∧ Gd 1000 B_ s.2 ∧ (0 : Int) ≤ s.1.toInt ∧ s.1.toInt ≤ (36 : Int)) (fun s : Int32 × Mem => (36 - s.1.toInt).toNat) (fun r : Mem => J r ∧ Gd 1000 B_ r) ?_ FU (a0_, N_) ⟨hN, hG, i2_, i3_⟩ (by show (36 - a0_.toInt).toNat < FU; rw [FU_v]; omega)
  clear i3_ i2_ hG hN
  rintro ⟨a0_', N_'⟩ ⟨hN, hG, i2_, i3_⟩
  dsimp only at hN hG i2_ i3_
  unfold lb_Mod_pieces_26
  dsimp only
  refine if_i (fun c => ?_) (fun c => ?_)
  · have c1 := c
    have d2 : (36 : Int) ≤ a0_'.toInt := lei.mp c1
    exact ⟨_, rfl, hN, hG⟩
  · have c3 := c
    have d4 : a0_'.toInt < (36 : Int) := nlei.mp c3
    refine inb_i (by omega) (by omega) ?_
    have q6 := nar01 (0 : Int32)
    refine mem_i (fun M3 e7 => ?_)
    have hJ8 : J M3 := by rw [e7]; exact Jw_179 hN a0_'.toNatClampNeg (vp_nar .boolean (0 : Int32)) (show (0 : Int) ≤ (vp_nar .boolean (0 : Int32)).toInt by omega) (show (vp_nar .boolean (0 : Int32)).toInt ≤ (1 : Int) by omega)
    have hG9 : Gd 1000 B_ M3 := Gd_any hG e7 (by decide)
    clear e7
    have q10 : (a0_' + (1 : Int32)).toInt = a0_'.toInt + (1 : Int) := add_ti rfl rfl (by omega) (by omega)
    exact ⟨_, rfl, ⟨hJ8, hG9, (show (0 : Int) ≤ (a0_' + (1 : Int32)).toInt by omega), (show (a0_' + (1 : Int32)).toInt ≤ (36 : Int) by omega)⟩, show (36 - (a0_' + (1 : Int32)).toInt).toNat < (36 - a0_'.toInt).toNat by omega⟩
theorem sl_Mod_pieces_98 (v1 : Int32) (v2 : Int32) (v3 : Int32) (v4 : Int32) (v5 : Int32) (a0_ : Int32) (N_ : Mem) (B_ : Mem) (hp_v1 : (0 : Int) ≤ v1.toInt ∧ v1.toInt ≤ (1 : Int)) (hp_v3 : (0 : Int) ≤ v3.toInt) (hp_v4 : (-1 : Int) ≤ v4.toInt ∧ v4.toInt ≤ (35 : Int)) (hp_v5 : (0 : Int) ≤ v5.toInt ∧ v5.toInt ≤ (35 : Int)) (hN : J N_) (hG : Gd 1000 B_ N_) (i2_ : (0 : Int) ≤ a0_.toInt) (i3_ : a0_.toInt ≤ (36 : Int)) : ∃ x, iter (lb_Mod_pieces_98 v1 v2 v3 v4 v5) FU (a0_, N_) = some x ∧ (fun r : Mem => J r ∧ Gd 1000 B_ r) x := by
  refine iter_r (fun s : Int32 × Mem => J s.2 ∧ Gd 1000 B_ s.2 ∧ (0 : Int) ≤ s.1.toInt ∧ s.1.toInt ≤ (36 : Int)) (fun s : Int32 × Mem => (36 - s.1.toInt).toNat) (fun r : Mem => J r ∧ Gd 1000 B_ r) ?_ FU (a0_, N_) ⟨hN, hG, i2_, i3_⟩ (by show (36 - a0_.toInt).toNat < FU; rw [FU_v]; omega)
  clear i3_ i2_ hG hN
  rintro ⟨a0_', N_'⟩ ⟨hN, hG, i2_, i3_⟩
  dsimp only at hN hG i2_ i3_
  unfold lb_Mod_pieces_98
  dsimp only
  refine if_i (fun c => ?_) (fun c => ?_)
  · have c1 := c
    have d2 : (36 : Int) ≤ a0_'.toInt := lei.mp c1
    exact ⟨_, rfl, hN, hG⟩
  · have c3 := c
    have d4 : a0_'.toInt < (36 : Int) := nlei.mp c3
    refine inb_i (by omega) (by omega) ?_
    refine bind_e (show (f_Mod_placeOf v1 a0_') = some (((36 : Int32) * v1) + a0_') from rfl) ?_
    have q5 : ((36 : Int32) * v1).toInt = (36 : Int) * v1.toInt := mul_ti rfl rfl (by omega) (by omega)
    have q6 : (((36 : Int32) * v1) + a0_').toInt = ((36 : Int32) * v1).toInt + a0_'.toInt := add_ti rfl rfl (by omega) (by omega)
    refine inb_i (by omega) (by omega) ?_
    refine if_i (fun c => ?_) (fun c => ?_)
    · have c7 := c
      have r8 := Jr_177 hN (((36 : Int32) * v1) + a0_').toNatClampNeg
      have d9 : (1000000 : Int) ≤ (N_'.1 177 (((36 : Int32) * v1) + a0_').toNatClampNeg).toInt := lei.mp c7
      refine inb_i (by omega) (by omega) ?_
      have q11 := nar01 ((N_'.1 179 a0_'.toNatClampNeg) ||| (0 : Int32))
      refine mem_i (fun M11 e12 => ?_)
      have hJ13 : J M11 := by rw [e12]; exact Jw_179 hN a0_'.toNatClampNeg (vp_nar .boolean ((N_'.1 179 a0_'.toNatClampNeg) ||| (0 : Int32))) (show (0 : Int) ≤ (vp_nar .boolean ((N_'.1 179 a0_'.toNatClampNeg) ||| (0 : Int32))).toInt by omega) (show (vp_nar .boolean ((N_'.1 179 a0_'.toNatClampNeg) ||| (0 : Int32))).toInt ≤ (1 : Int) by omega)
      have hG14 : Gd 1000 B_ M11 := Gd_any hG e12 (by decide)
      have f15 : (M11.1 177 (((36 : Int32) * v1) + a0_').toNatClampNeg).toInt = (N_'.1 177 (((36 : Int32) * v1) + a0_').toNatClampNeg).toInt := by rw [e12]; rw [si_ne (by exact fun e => absurd e.1 (by decide))]
      clear e12
      have q16 : (a0_' + (1 : Int32)).toInt = a0_'.toInt + (1 : Int) := add_ti rfl rfl (by omega) (by omega)
      exact ⟨_, rfl, ⟨hJ13, hG14, (show (0 : Int) ≤ (a0_' + (1 : Int32)).toInt by omega), (show (a0_' + (1 : Int32)).toInt ≤ (36 : Int) by omega)⟩, show (36 - (a0_' + (1 : Int32)).toInt).toNat < (36 - a0_'.toInt).toNat by omega⟩
    · have c17 := c
      have r18 := Jr_177 hN (((36 : Int32) * v1) + a0_').toNatClampNeg
      have d19 : (N_'.1 177 (((36 : Int32) * v1) + a0_').toNatClampNeg).toInt < (1000000 : Int) := nlei.mp c17
      refine inb_i (by omega) (by omega) ?_
      have q21 := nar01 ((N_'.1 179 a0_'.toNatClampNeg) ||| (1 : Int32))
      refine mem_i (fun M12 e22 => ?_)
      have hJ23 : J M12 := by rw [e22]; exact Jw_179 hN a0_'.toNatClampNeg (vp_nar .boolean ((N_'.1 179 a0_'.toNatClampNeg) ||| (1 : Int32))) (show (0 : Int) ≤ (vp_nar .boolean ((N_'.1 179 a0_'.toNatClampNeg) ||| (1 : Int32))).toInt by omega) (show (vp_nar .boolean ((N_'.1 179 a0_'.toNatClampNeg) ||| (1 : Int32))).toInt ≤ (1 : Int) by omega)
      have hG24 : Gd 1000 B_ M12 := Gd_any hG e22 (by decide)
      have f25 : (M12.1 177 (((36 : Int32) * v1) + a0_').toNatClampNeg).toInt = (N_'.1 177 (((36 : Int32) * v1) + a0_').toNatClampNeg).toInt := by rw [e22]; rw [si_ne (by exact fun e => absurd e.1 (by decide))]
      clear e22
      have q26 : (a0_' + (1 : Int32)).toInt = a0_'.toInt + (1 : Int) := add_ti rfl rfl (by omega) (by omega)
      exact ⟨_, rfl, ⟨hJ23, hG24, (show (0 : Int) ≤ (a0_' + (1 : Int32)).toInt by omega), (show (a0_' + (1 : Int32)).toInt ≤ (36 : Int) by omega)⟩, show (36 - (a0_' + (1 : Int32)).toInt).toNat < (36 - a0_'.toInt).toNat by omega⟩
theorem sl_Mod_pieces_50 (v1 : Int32) (a0_ : Int32) (a1_ : Int32) (a2_ : Int32) (a3_ : Int32) (N_ : Mem) (B_ : Mem) (hp_v1 : (0 : Int) ≤ v1.toInt ∧ v1.toInt ≤ (1 : Int)) (hN : J N_) (hG : Gd 1000 B_ N_) (i2_ : (0 : Int) ≤ a1_.toInt) (i3_ : (-1 : Int) ≤ a2_.toInt) (i4_ : a2_.toInt ≤ (35 : Int)) (i5_ : (0 : Int) ≤ a3_.toInt) (i6_ : a3_.toInt ≤ (36 : Int)) : ∃ x, iter (lb_Mod_pieces_50 v1) FU (a0_, a1_, a2_, a3_, N_) = some x ∧ (fun r : Int32 × Int32 × Int32 × Mem => J r.2.2.2 ∧ Gd 1000 B_ r.2.2.2 ∧ (0 : Int) ≤ r.2.1.toInt ∧ (-1 : Int) ≤ r.2.2.1.toInt ∧ r.2.2.1.toInt ≤ (35 : Int)) x := by
  refine iter_r (fun s : Int32 × Int32 × Int32 × Int32 × Mem => J s.2.2.2.2 ∧ Gd 1000 B_ s.2.2.2.2 ∧ (0 : Int) ≤ s.2.1.toInt ∧ (-1 : Int) ≤ s.2.2.1.toInt ∧ s.2.2.1.toInt ≤ (35 : Int) ∧ (0 : Int) ≤ s.2.2.2.1.toInt ∧ s.2.2.2.1.toInt ≤ (36 : Int)) (fun s : Int32 × Int32 × Int32 × Int32 × Mem => (36 - s.2.2.2.1.toInt).toNat) (fun r : Int32 × Int32 × Int32 × Mem => J r.2.2.2 ∧ Gd 1000 B_ r.2.2.2 ∧ (0 : Int) ≤ r.2.1.toInt ∧ (-1 : Int) ≤ r.2.2.1.toInt ∧ r.2.2.1.toInt ≤ (35 : Int)) ?_ FU (a0_, a1_, a2_, a3_, N_) ⟨hN, hG, i2_, i3_, i4_, i5_, i6_⟩ (by show (36 - a3_.toInt).toNat < FU; rw [FU_v]; omega)
  clear i6_ i5_ i4_ i3_ i2_ hG hN
  rintro ⟨a0_', a1_', a2_', a3_', N_'⟩ ⟨hN, hG, i2_, i3_, i4_, i5_, i6_⟩
  dsimp only at hN hG i2_ i3_ i4_ i5_ i6_
  unfold lb_Mod_pieces_50
  dsimp only
  refine bind_e (show (f_Mod_cells N_') = some ((N_'.1 162 2) * (N_'.1 162 3)) from rfl) ?_
  refine if_i (fun c => ?_) (fun c => ?_)
  · have c1 := c
    have r2 := Jr_162_2 hN
    have r3 := Jr_162_3 hN
    have q4 := mul_rng (a := (N_'.1 162 2)) (b := (N_'.1 162 3)) (x := 6) (y := 6) (by omega) (by omega) (by omega) (by omega) (by decide)
    have d5 : ((N_'.1 162 2) * (N_'.1 162 3)).toInt ≤ a3_'.toInt := lei.mp c1
    exact ⟨_, rfl, hN, hG, (show (0 : Int) ≤ a1_'.toInt by omega), (show (-1 : Int) ≤ a2_'.toInt by omega), (show a2_'.toInt ≤ (35 : Int) by omega)⟩
  · have c6 := c
    have r7 := Jr_162_2 hN
    have r8 := Jr_162_3 hN
    have q9 := mul_rng (a := (N_'.1 162 2)) (b := (N_'.1 162 3)) (x := 6) (y := 6) (by omega) (by omega) (by omega) (by omega) (by decide)
    have d10 : a3_'.toInt < ((N_'.1 162 2) * (N_'.1 162 3)).toInt := nlei.mp c6
    refine bind_i (sf_Mod_isOf v1 a3_' N_' hN) (fun x7 e_x7 q => ?_)
    obtain ⟨h11, h12, h13⟩ := q
    refine if_i (fun c => ?_) (fun c => ?_)
    · have c14 := c
      have d15 : x7.toInt = (0 : Int) := eqi.mp c14
      have q16 : (a3_' + (1 : Int32)).toInt = a3_'.toInt + (1 : Int) := add_ti rfl rfl (by omega) (by omega)
      exact ⟨_, rfl, ⟨hN, hG, (show (0 : Int) ≤ a1_'.toInt by omega), (show (-1 : Int) ≤ a2_'.toInt by omega), (show a2_'.toInt ≤ (35 : Int) by omega), (show (0 : Int) ≤ (a3_' + (1 : Int32)).toInt by omega), (show (a3_' + (1 : Int32)).toInt ≤ (36 : Int) by omega)⟩, show (36 - (a3_' + (1 : Int32)).toInt).toNat < (36 - a3_'.toInt).toNat by omega⟩
    · have c17 := c
      have d18 : ¬ x7.toInt = (0 : Int) := neqi.mp c17
      refine inb_i (by omega) (by omega) ?_
      refine if_i (fun c => ?_) (fun c => ?_)
      · have c19 := c
        have r20 := Jr_179 hN a3_'.toNatClampNeg
        have d21 : (N_'.1 179 a3_'.toNatClampNeg).toInt = (0 : Int) := eqi.mp c19
        refine bind_e (show (f_Mod_placeOf v1 a3_') = some (((36 : Int32) * v1) + a3_') from rfl) ?_
        have q22 : ((36 : Int32) * v1).toInt = (36 : Int) * v1.toInt := mul_ti rfl rfl (by omega) (by omega)
        have q23 : (((36 : Int32) * v1) + a3_').toInt = ((36 : Int32) * v1).toInt + a3_'.toInt := add_ti rfl rfl (by omega) (by omega)
        refine bind_i (sf_Mod_findFar (((36 : Int32) * v1) + a3_') N_' (⟨show (0 : Int) ≤ (((36 : Int32) * v1) + a3_').toInt by omega, show (((36 : Int32) * v1) + a3_').toInt ≤ (71 : Int) by omega⟩) hN) (fun x9 _ q => ?_)
        obtain ⟨h24, h25⟩ := q
        have hG26 : Gd 1000 B_ x9 := Gd_t hG h25
        refine bind_i (sl_Mod_pieces_98 v1 (a0_' + (1 : Int32)) a1_' a2_' a3_' (0 : Int32) x9 B_ (⟨show (0 : Int) ≤ v1.toInt by omega, show v1.toInt ≤ (1 : Int) by omega⟩) (show (0 : Int) ≤ a1_'.toInt by omega) (⟨show (-1 : Int) ≤ a2_'.toInt by omega, show a2_'.toInt ≤ (35 : Int) by omega⟩) (⟨show (0 : Int) ≤ a3_'.toInt by omega, show a3_'.toInt ≤ (35 : Int) by omega⟩) h24 hG26 (show (0 : Int) ≤ (0 : Int32).toInt by decide) (show (0 : Int32).toInt ≤ (36 : Int) by decide)) (fun x15 _ q => ?_)
        obtain ⟨h27, h28⟩ := q
        refine bind_i (sf_Mod_reached v1 x15 (⟨show (0 : Int) ≤ v1.toInt by omega, show v1.toInt ≤ (1 : Int) by omega⟩) h27) (fun x16 e_x16 q => ?_)
        refine if_i (fun c => ?_) (fun c => ?_)
        · have c29 := c
          have d30 : a1_'.toInt < x16.toInt := lti.mp c29
          refine bind_e e_x16 ?_
          have q31 : (a3_' + (1 : Int32)).toInt = a3_'.toInt + (1 : Int) := add_ti rfl rfl (by omega) (by omega)
          exact ⟨_, rfl, ⟨h27, h28, (show (0 : Int) ≤ x16.toInt by omega), (show (-1 : Int) ≤ a3_'.toInt by omega), (show a3_'.toInt ≤ (35 : Int) by omega), (show (0 : Int) ≤ (a3_' + (1 : Int32)).toInt by omega), (show (a3_' + (1 : Int32)).toInt ≤ (36 : Int) by omega)⟩, show (36 - (a3_' + (1 : Int32)).toInt).toNat < (36 - a3_'.toInt).toNat by omega⟩
        · have c32 := c
          have d33 : x16.toInt ≤ a1_'.toInt := nlti.mp c32
          have q34 : (a3_' + (1 : Int32)).toInt = a3_'.toInt + (1 : Int) := add_ti rfl rfl (by omega) (by omega)
          exact ⟨_, rfl, ⟨h27, h28, (show (0 : Int) ≤ a1_'.toInt by omega), (show (-1 : Int) ≤ a2_'.toInt by omega), (show a2_'.toInt ≤ (35 : Int) by omega), (show (0 : Int) ≤ (a3_' + (1 : Int32)).toInt by omega), (show (a3_' + (1 : Int32)).toInt ≤ (36 : Int) by omega)⟩, show (36 - (a3_' + (1 : Int32)).toInt).toNat < (36 - a3_'.toInt).toNat by omega⟩
      · have c35 := c
        have r36 := Jr_179 hN a3_'.toNatClampNeg
        have d37 : ¬ (N_'.1 179 a3_'.toNatClampNeg).toInt = (0 : Int) := neqi.mp c35
        have q38 : (a3_' + (1 : Int32)).toInt = a3_'.toInt + (1 : Int) := add_ti rfl rfl (by omega) (by omega)
        exact ⟨_, rfl, ⟨hN, hG, (show (0 : Int) ≤ a1_'.toInt by omega), (show (-1 : Int) ≤ a2_'.toInt by omega), (show a2_'.toInt ≤ (35 : Int) by omega), (show (0 : Int) ≤ (a3_' + (1 : Int32)).toInt by omega), (show (a3_' + (1 : Int32)).toInt ≤ (36 : Int) by omega)⟩, show (36 - (a3_' + (1 : Int32)).toInt).toNat < (36 - a3_'.toInt).toNat by omega⟩
theorem sf_Mod_pieces (v1 : Int32) (M : Mem) (hJ : J M) : ∃ r : Int32 × Mem, f_Mod_pieces v1 M = some r ∧ (J r.2 ∧ Gd 1000 M r.2) := by
  unfold f_Mod_pieces
  refine mem_i (fun M1 e2 => ?_)
  have hJ3 : J M1 := by rw [e2]; exact Jw_fld okf_162_13 hJ (0 : Int32)
  have hG4 : Gd 1000 M M1 := Gd_i Gd_r e2 (by decide)
  have f5 : (M1.1 162 13).toInt = (0 : Int) := by rw [e2, si_eq]; rfl
  clear e2
  refine bind_i (sf_Mod_in v1 (0 : Int32) (1 : Int32)) (fun x2 _ q => ?_)
  obtain ⟨h6, h7, h8⟩ := q
  replace h8 : ¬ x2.toInt = 0 → (0 : Int) ≤ v1.toInt ∧ v1.toInt ≤ (1 : Int) := h8
  refine if_i (fun c => ?_) (fun c => ?_)
  · have c9 := c
    have d10 : x2.toInt = (0 : Int) := eqi.mp c9
    exact ⟨((-1 : Int32), M1), rfl, hJ3, hG4⟩
  · have c11 := c
    have d12 : ¬ x2.toInt = (0 : Int) := neqi.mp c11
    refine bind_i (sl_Mod_pieces_26 v1 (0 : Int32) (0 : Int32) (-1 : Int32) (0 : Int32) M1 M (⟨show (0 : Int) ≤ v1.toInt by omega, show v1.toInt ≤ (1 : Int) by omega⟩) (⟨by decide, by decide⟩) (⟨by decide, by decide⟩) (⟨by decide, by decide⟩) hJ3 hG4 (show (0 : Int) ≤ (0 : Int32).toInt by decide) (show (0 : Int32).toInt ≤ (36 : Int) by decide)) (fun x5 _ q => ?_)
    obtain ⟨h13, h14⟩ := q
    refine bind_i (sl_Mod_pieces_50 v1 (0 : Int32) (0 : Int32) (-1 : Int32) (0 : Int32) x5 M (⟨show (0 : Int) ≤ v1.toInt by omega, show v1.toInt ≤ (1 : Int) by omega⟩) h13 h14 (show (0 : Int) ≤ (0 : Int32).toInt by decide) (show (-1 : Int) ≤ (-1 : Int32).toInt by decide) (show (-1 : Int32).toInt ≤ (35 : Int) by decide) (show (0 : Int) ≤ (0 : Int32).toInt by decide) (show (0 : Int32).toInt ≤ (36 : Int) by decide)) (fun x22 _ q => ?_)
    obtain ⟨h15, h16, h17, h18, h19⟩ := q
    refine mem_i (fun M23 e21 => ?_)
    have hJ22 : J M23 := by rw [e21]; exact Jw_162_12 h15 (0 : Int32) (show (0 : Int) ≤ (0 : Int32).toInt by decide) (show (0 : Int32).toInt ≤ (16 : Int) by decide)
    have hG23 : Gd 1000 M M23 := Gd_i h16 e21 (by decide)
    have f24 : (M23.1 162 12).toInt = (0 : Int) := by rw [e21, si_eq]; rfl
    clear e21
    refine bind_i (sf_Mod_put x22.2.1 M23 hJ22 (show (M23.1 162 12).toInt ≤ (15 : Int) by omega)) (fun x24 _ q => ?_)
    obtain ⟨h25, h26, h27⟩ := q
    have hG28 : Gd 1000 M x24 := Gd_t hG23 h26
    have r29 := Jr_162_12 h25
    refine bind_i (sf_Mod_put x22.2.2.1 x24 h25 (show (x24.1 162 12).toInt ≤ (15 : Int) by omega)) (fun x25 _ q => ?_)
    obtain ⟨h30, h31, h32⟩ := q
    have hG33 : Gd 1000 M x25 := Gd_t hG28 h31
    exact ⟨(x22.1, x25), rfl, h30, hG33⟩
theorem sf_Mod_reach (v1 : Int32) (v2 : Int32) (M : Mem) (hJ : J M) : ∃ r : Int32 × Mem, f_Mod_reach v1 v2 M = some r ∧ (J r.2 ∧ Gd 1000 M r.2) := by
  unfold f_Mod_reach
  refine mem_i (fun M1 e2 => ?_)
  have hJ3 : J M1 := by rw [e2]; exact Jw_fld okf_162_13 hJ (0 : Int32)
  have hG4 : Gd 1000 M M1 := Gd_i Gd_r e2 (by decide)
  have f5 : (M1.1 162 13).toInt = (0 : Int) := by rw [e2, si_eq]; rfl
  clear e2
  refine bind_i (sf_Mod_in v1 (0 : Int32) (1 : Int32)) (fun x2 _ q => ?_)
  obtain ⟨h6, h7, h8⟩ := q
  replace h8 : ¬ x2.toInt = 0 → (0 : Int) ≤ v1.toInt ∧ v1.toInt ≤ (1 : Int) := h8
  refine if_i (fun c => ?_) (fun c => ?_)
  · have c9 := c
    have d10 : x2.toInt = (0 : Int) := eqi.mp c9
    exact ⟨((-1 : Int32), M1), rfl, hJ3, hG4⟩
  · have c11 := c
    have d12 : ¬ x2.toInt = (0 : Int) := neqi.mp c11
    refine bind_i (sf_Mod_isCell v2 M1 hJ3) (fun x3 e_x3 q => ?_)
    obtain ⟨h13, h14, h15⟩ := q
    refine if_i (fun c => ?_) (fun c => ?_)
    · have c16 := c
      have d17 : x3.toInt = (0 : Int) := eqi.mp c16
      exact ⟨((-1 : Int32), M1), rfl, hJ3, hG4⟩
    · have c18 := c
      have d19 : ¬ x3.toInt = (0 : Int) := neqi.mp c18
      refine bind_i (sf_Mod_isOf v1 v2 M1 hJ3) (fun x4 e_x4 q => ?_)
      obtain ⟨h20, h21, h22⟩ := q
      refine if_i (fun c => ?_) (fun c => ?_)
      · have c23 := c
        have d24 : x4.toInt = (0 : Int) := eqi.mp c23
        exact ⟨((-2 : Int32), M1), rfl, hJ3, hG4⟩
      · have c25 := c
        have d26 : ¬ x4.toInt = (0 : Int) := neqi.mp c25
        refine bind_e (show (f_Mod_placeOf v1 v2) = some (((36 : Int32) * v1) + v2) from rfl) ?_
        have q27 : ((36 : Int32) * v1).toInt = (36 : Int) * v1.toInt := mul_ti rfl rfl (by omega) (by omega)
        have q28 : (((36 : Int32) * v1) + v2).toInt = ((36 : Int32) * v1).toInt + v2.toInt := add_ti rfl rfl (by omega) (by omega)
        refine bind_i (sf_Mod_findFar (((36 : Int32) * v1) + v2) M1 (⟨show (0 : Int) ≤ (((36 : Int32) * v1) + v2).toInt by omega, show (((36 : Int32) * v1) + v2).toInt ≤ (71 : Int) by omega⟩) hJ3) (fun x6 _ q => ?_)
        obtain ⟨h29, h30⟩ := q
        have hG31 : Gd 1000 M x6 := Gd_t hG4 h30
        refine mem_i (fun M7 e33 => ?_)
        have hJ34 : J M7 := by rw [e33]; exact Jw_162_12 h29 (0 : Int32) (show (0 : Int) ≤ (0 : Int32).toInt by decide) (show (0 : Int32).toInt ≤ (16 : Int) by decide)
        have hG35 : Gd 1000 M M7 := Gd_i hG31 e33 (by decide)
        have f36 : (M7.1 162 12).toInt = (0 : Int) := by rw [e33, si_eq]; rfl
        clear e33
        refine bind_i (sf_Mod_putCells v1 M7 (⟨show (0 : Int) ≤ v1.toInt by omega, show v1.toInt ≤ (1 : Int) by omega⟩) hJ34 (show (M7.1 162 12).toInt ≤ (14 : Int) by omega)) (fun x8 _ q => ?_)
        obtain ⟨h37, h38, h39⟩ := q
        have hG40 : Gd 1000 M x8 := Gd_t hG35 h38
        refine bind_i (sf_Mod_reached v1 x8 (⟨show (0 : Int) ≤ v1.toInt by omega, show v1.toInt ≤ (1 : Int) by omega⟩) h37) (fun x9 e_x9 q => ?_)
        exact ⟨(x9, x8), rfl, h37, hG40⟩
theorem sf_Mod_lowerBoth (v1 : Int32) (v2 : Int32) (M : Mem) (hp_v1 : (-1 : Int) ≤ v1.toInt ∧ v1.toInt ≤ (71 : Int)) (hp_v2 : (0 : Int) ≤ v2.toInt ∧ v2.toInt ≤ (2000000 : Int)) (hJ : J M) : ∃ r : Int32 × Mem, f_Mod_lowerBoth v1 v2 M = some r ∧ (J r.2 ∧ Gd 1000 M r.2 ∧ (0 : Int) ≤ r.1.toInt ∧ r.1.toInt ≤ (1 : Int)) := by
  unfold f_Mod_lowerBoth
  refine if_i (fun c => ?_) (fun c => ?_)
  · have c1 := c
    have d2 : v1.toInt = (-1 : Int) := eqi.mp c1
    exact ⟨((0 : Int32), M), rfl, hJ, Gd_r, (show (0 : Int) ≤ (0 : Int32).toInt by decide), (show (0 : Int32).toInt ≤ (1 : Int) by decide)⟩
  · have c3 := c
    have d4 : ¬ v1.toInt = (-1 : Int) := neqi.mp c3
    refine inb_i (by omega) (by omega) ?_
    refine if_i (fun c => ?_) (fun c => ?_)
    · have c5 := c
      have r6 := Jr_180 hJ v1.toNatClampNeg
      have d7 : v2.toInt < (M.1 180 v1.toNatClampNeg).toInt := lti.mp c5
      refine inb_i (by omega) (by omega) ?_
      refine mem_i (fun M1 e9 => ?_)
      have hJ10 : J M1 := by rw [e9]; exact Jw_180 hJ v1.toNatClampNeg v2 (show (0 : Int) ≤ v2.toInt by omega) (show v2.toInt ≤ (1000000 : Int) by omega)
      have hG11 : Gd 1000 M M1 := Gd_any Gd_r e9 (by decide)
      clear e9
      exact ⟨((1 : Int32), M1), rfl, hJ10, hG11, (show (0 : Int) ≤ (1 : Int32).toInt by decide), (show (1 : Int32).toInt ≤ (1 : Int) by decide)⟩
    · have c12 := c
      have r13 := Jr_180 hJ v1.toNatClampNeg
      have d14 : (M.1 180 v1.toNatClampNeg).toInt ≤ v2.toInt := nlti.mp c12
      exact ⟨((0 : Int32), M), rfl, hJ, Gd_r, (show (0 : Int) ≤ (0 : Int32).toInt by decide), (show (0 : Int32).toInt ≤ (1 : Int) by decide)⟩
/-- what a stretch of lowerings of 'both' leaves -/
def SB (acc0 : Int32) (M0_ : Mem) (acc : Int32) (M : Mem) : Prop := J M ∧ Gd 1000 M0_ M ∧ (acc = 0 ∨ acc = 1) ∧ po 180 M ≤ po 180 M0_ ∧ (acc ≠ 0 → acc0 ≠ 0 ∨ po 180 M < po 180 M0_)
theorem SB_r {a : Int32} {M : Mem} (h : J M) (ha : a = 0 ∨ a = 1) : SB a M a M := ⟨h, Gd_r, ha, Int.le_refl _, fun e => .inl e⟩
theorem SB_t {a0 a1 a2 : Int32} {M0_ M1 M2 : Mem} (h : SB a0 M0_ a1 M1) (g : SB a1 M1 a2 M2) : SB a0 M0_ a2 M2 := by
  obtain ⟨h1, h2, h3, h4, h5⟩ := h
  obtain ⟨g1, g2, g3, g4, g5⟩ := g
  refine ⟨g1, Gd_t h2 g2, g3, by omega, fun e => ?_⟩
  rcases g5 e with w | w
  · rcases h5 w with u | u
    · exact .inl u
    · right; omega
  · right; omega
theorem sp_lowerBoth {M : Mem} (h : J M) (v1 v2 : Int32) (h1 : -1 ≤ v1.toInt ∧ v1.toInt ≤ 71) (h2 : 0 ≤ v2.toInt) (a : Int32) (ha : a = 0 ∨ a = 1) : ∃ r, f_Mod_lowerBoth v1 v2 M = some r ∧ SB a M (a ||| r.1) r.2 := by
  have n1 : (-1 : Int32).toInt = -1 := rfl
  have z : a ||| 0 = a := by rcases ha with rfl | rfl <;> decide
  have no : SB a M (a ||| 0) M := by rw [z]; exact SB_r h ha
  unfold f_Mod_lowerBoth
  refine if_i (fun e => ⟨_, rfl, no⟩) (fun e => ?_)
  have d := neqi.mp e
  have r := Jr_180 h v1.toNatClampNeg
  refine inb_i (by omega) (by omega) (if_i (fun e => inb_i (by omega) (by omega) (mem_i (fun m em => ⟨_, rfl, ?_⟩))) (fun _ => ⟨_, rfl, no⟩))
  have lt := lti.mp e
  have dm := po_dec (c := 180) (M := M) (i := v1.toNatClampNeg) (v := v2) (by rw [tcn']; omega) lt
  rw [← em] at dm
  refine ⟨by show J m; rw [em]; exact Jw_180 h _ _ h2 (by omega), Gd_any Gd_r em (by decide), ?_, ?_, fun _ => .inr dm⟩
  · show a ||| 1 = 0 ∨ a ||| 1 = 1
    rcases ha with rfl | rfl <;> decide
  · show po 180 m ≤ po 180 M; omega
theorem sl_both103 (v3 v4 v6 : Int32) (h6 : 0 ≤ v6.toInt ∧ v6.toInt ≤ 71) {M : Mem} (h : J M) (acc : Int32) (ha : acc = 0 ∨ acc = 1) : ∃ x, iter (lb_Mod_both_103 v3 v4 v6) FU (acc, (0 : Int32), M) = some x ∧ SB acc M x.1 x.2 := by
  refine iter_r (fun s : Int32 × Int32 × Mem => SB acc M s.1 s.2.2 ∧ (0 ≤ s.2.1.toInt ∧ s.2.1.toInt ≤ 4)) (fun s : Int32 × Int32 × Mem => (4 - s.2.1.toInt).toNat) _ ?_ FU _ ⟨SB_r h ha, (by show (0 : Int) ≤ (0 : Int32).toInt ∧ (0 : Int32).toInt ≤ 4; decide)⟩ (by show (4 - (0 : Int)).toNat < FU; rw [FU_v]; decide)
  rintro ⟨a, k, N⟩ ⟨i1, i2⟩
  dsimp only at i1 i2
  have c4 : (4 : Int32).toInt = 4 := rfl
  unfold lb_Mod_both_103 f_Mod_levelOf
  dsimp only
  refine if_i (fun c => ⟨_, rfl, i1⟩) (fun c => ?_)
  have d := nlei.mp c
  have ek : (k + (1 : Int32)).toInt = k.toInt + 1 := add_ti rfl rfl (by omega) (by omega)
  have r := Jr_180 i1.1 v6.toNatClampNeg
  have dv : (v6 / (36 : Int32)).toInt = v6.toInt / 36 := div_ti rfl rfl h6.1 (by decide)
  have a1 : ((N.1 180 v6.toNatClampNeg) + (1000 : Int32)).toInt = (N.1 180 v6.toNatClampNeg).toInt + 1000 := add_ti rfl rfl (by omega) (by omega)
  have a2 : (((N.1 180 v6.toNatClampNeg) + (1000 : Int32)) + (v6 / (36 : Int32))).toInt = (N.1 180 v6.toNatClampNeg).toInt + 1000 + v6.toInt / 36 := add_ti a1 dv (by omega) (by omega)
  refine bind_i (sf_Mod_go 163 v6 k N St_163 h6 i1.1) (fun x9 _ q9 => inb_i h6.1 (by omega) ?_)
  rw [Option.bind_some]
  refine bind_i (sp_lowerBoth i1.1 x9 _ q9 (by omega) a i1.2.2.1) (fun x7 _ q7 => ⟨_, rfl, ⟨SB_t i1 q7, ?_⟩, ?_⟩)
  · show 0 ≤ (k + (1 : Int32)).toInt ∧ (k + (1 : Int32)).toInt ≤ 4; omega
  · show (4 - (k + (1 : Int32)).toInt).toNat < (4 - k.toInt).toNat; omega
theorem sl_both77 (v3 v4 : Int32) {M : Mem} (h : J M) : ∃ x, iter (lb_Mod_both_77 v3 v4) FU ((0 : Int32), (0 : Int32), M) = some x ∧ SB 0 M x.1 x.2 := by
  refine iter_r (fun s : Int32 × Int32 × Mem => SB 0 M s.1 s.2.2 ∧ (0 ≤ s.2.1.toInt ∧ s.2.1.toInt ≤ 72)) (fun s : Int32 × Int32 × Mem => (72 - s.2.1.toInt).toNat) _ ?_ FU _ ⟨SB_r h (.inl rfl), (by show (0 : Int) ≤ (0 : Int32).toInt ∧ (0 : Int32).toInt ≤ 72; decide)⟩ (by show (72 - (0 : Int)).toNat < FU; rw [FU_v]; decide)
  rintro ⟨a, k, N⟩ ⟨i1, i2⟩
  dsimp only at i1 i2
  have c72 : (72 : Int32).toInt = 72 := rfl
  unfold lb_Mod_both_77 f_Mod_cellOf f_Mod_levelOf f_Mod_placeOf
  dsimp only
  refine if_i (fun c => ⟨_, rfl, i1⟩) (fun c => ?_)
  have d := nlei.mp c
  have ek : (k + (1 : Int32)).toInt = k.toInt + 1 := add_ti rfl rfl (by omega) (by omega)
  have rm : (k - k / (36 : Int32) * (36 : Int32)).toInt = k.toInt % 36 := rem_ti rfl rfl i2.1 (by decide)
  have dv : (k / (36 : Int32)).toInt = k.toInt / 36 := div_ti rfl rfl i2.1 (by decide)
  have s1 : ((1 : Int32) - k / (36 : Int32)).toInt = 1 - k.toInt / 36 := sub_ti rfl dv (by omega) (by omega)
  have m1 : ((36 : Int32) * ((1 : Int32) - k / (36 : Int32))).toInt = 36 * (1 - k.toInt / 36) := mul_ti rfl s1 (by omega) (by omega)
  have m2 : (((36 : Int32) * ((1 : Int32) - k / (36 : Int32))) + (k - k / (36 : Int32) * (36 : Int32))).toInt = 36 * (1 - k.toInt / 36) + k.toInt % 36 := add_ti m1 rm (by omega) (by omega)
  have on : ∀ (b : Int32) (K : Mem), SB 0 M b K → LPq (fun s : Int32 × Int32 × Mem => SB 0 M s.1 s.2.2 ∧ (0 ≤ s.2.1.toInt ∧ s.2.1.toInt ≤ 72)) (fun s : Int32 × Int32 × Mem => (72 - s.2.1.toInt).toNat) (fun x : Int32 × Mem => SB 0 M x.1 x.2) (72 - k.toInt).toNat (.inl (b, k + (1 : Int32), K)) := by
    intro b K hK
    refine ⟨⟨hK, ?_⟩, ?_⟩
    · show 0 ≤ (k + (1 : Int32)).toInt ∧ (k + (1 : Int32)).toInt ≤ 72; omega
    · show (72 - (k + (1 : Int32)).toInt).toNat < (72 - k.toInt).toNat; omega
  refine inb_i i2.1 (by omega) (if_i (fun _ => ?_) (fun _ => ⟨_, rfl, on a N i1⟩))
  refine bind_i (sl_both103 v3 v4 k ⟨i2.1, by omega⟩ i1.1 a i1.2.2.1) (fun x9 _ q9 => ?_)
  have S9 := SB_t i1 q9
  rw [Option.bind_some]
  refine inb_i (by omega) (by omega) (if_i (fun _ => ?_) (fun _ => ⟨_, rfl, on _ _ S9⟩))
  rw [Option.bind_some, Option.bind_some, Option.bind_some]
  have r := Jr_180 S9.1 k.toNatClampNeg
  exact inb_i i2.1 (by omega) (bind_i (sp_lowerBoth S9.1 _ _ (by omega) r.1 x9.1 S9.2.2.1) (fun x14 _ q14 => ⟨_, rfl, on _ _ (SB_t S9 q14)⟩))
/-- a pass till nothing changes any more -/
theorem while180 {f : Int32 × Mem → Option ((Int32 × Mem) ⊕ Mem)} (hf0 : ∀ N : Mem, f ((0 : Int32), N) = some (.inr N)) (hf : ∀ (a : Int32) (N : Mem), J N → a ≠ 0 → ∃ b K, f (a, N) = some (.inl (b, K)) ∧ SB 0 N b K) {M : Mem} (h : J M) : ∃ x, iter f FU ((1 : Int32), M) = some x ∧ (J x ∧ Gd 1000 M x) := by
  have b := po_bd (c := 180) (Jr_180 h)
  refine iter_r (fun s : Int32 × Mem => J s.2 ∧ Gd 1000 M s.2) (fun s : Int32 × Mem => (2 * po 180 s.2 + (if s.1 = 0 then 0 else 1)).toNat) _ ?_ FU _ ⟨h, Gd_r⟩ (by show (2 * po 180 M + (if (1 : Int32) = 0 then 0 else 1)).toNat < FU; rw [FU_v, if_neg (by decide)]; omega)
  rintro ⟨a, N⟩ ⟨i1, i2⟩
  dsimp only at i1 i2
  by_cases c : a = 0
  · subst c
    exact ⟨_, hf0 N, i1, i2⟩
  · obtain ⟨x, K, e, q⟩ := hf a N i1 c
    refine ⟨_, e, ⟨q.1, Gd_t i2 q.2.1⟩, ?_⟩
    obtain ⟨q1, -, -, s4, s5⟩ := q
    have b2 := po_bd (c := 180) (Jr_180 q1)
    show (2 * po 180 K + (if x = 0 then 0 else 1)).toNat < (2 * po 180 N + (if a = 0 then 0 else 1)).toNat
    rw [if_neg c]
    by_cases e : x = 0
    · rw [if_pos e]; omega
    · rw [if_neg e]
      rcases s5 e with u | u
      · exact absurd rfl u
      · omega
theorem sl_both29 (v1 v2 v3 v4 : Int32) {M : Mem} (h : J M) : ∃ x, iter (lb_Mod_both_29 v1 v2 v3 v4) FU ((0 : Int32), M) = some x ∧ (J x ∧ Gd 1000 M x) := by
  refine cnt_r _ (fun _ N => J N ∧ Gd 1000 M N) 72 (by decide) ?_ M ⟨h, Gd_r⟩ (by decide)
  intro k N k0 k1 hI
  have c72 : (72 : Int32).toInt = 72 := rfl
  unfold lb_Mod_both_29
  dsimp only
  refine if_i (fun c => ⟨_, rfl, .inl ⟨_, rfl, hI⟩⟩) (fun c => ?_)
  have d := nlei.mp c
  refine inb_i k0 (by omega) (mem_i (fun m e => ⟨_, rfl, .inr ⟨by omega, m, rfl, ?_, Gd_any hI.2 e (by decide)⟩⟩))
  rw [e]; exact Jw_180 hI.1 _ _ (by decide) (by decide)
theorem sf_Mod_both (v1 v2 v3 v4 : Int32) (M : Mem) (hJ : J M) : ∃ r : Int32 × Mem, f_Mod_both v1 v2 v3 v4 M = some r ∧ (J r.2 ∧ Gd 1000 M r.2) := by
  unfold f_Mod_both
  refine mem_i (fun M1 e1 => ?_)
  have j1 : J M1 := by rw [e1]; exact Jw_fld okf_162_13 hJ _
  have g1 : Gd 1000 M M1 := Gd_i Gd_r e1 (by decide)
  refine bind_i (sf_Mod_isPlaceOf v1 v2 M1 j1) (fun x2 _ q2 => if_i (fun _ => ⟨_, rfl, j1, g1⟩) (fun c2 => ?_))
  have a1 := q2.2.2.1 (neqi.mp c2)
  have a2 := q2.2.2.2 (neqi.mp c2)
  refine bind_i (sf_Mod_isPlaceOf v3 v4 M1 j1) (fun x3 _ q3 => if_i (fun _ => ⟨_, rfl, j1, g1⟩) (fun c3 => ?_))
  have b1 := q3.2.2.1 (neqi.mp c3)
  have b2 := q3.2.2.2 (neqi.mp c3)
  have m1 : ((36 : Int32) * v1).toInt = 36 * v1.toInt := mul_ti rfl rfl (by omega) (by omega)
  have m2 : (((36 : Int32) * v1) + v2).toInt = 36 * v1.toInt + v2.toInt := add_ti m1 rfl (by omega) (by omega)
  have m3 : ((36 : Int32) * v3).toInt = 36 * v3.toInt := mul_ti rfl rfl (by omega) (by omega)
  have m4 : (((36 : Int32) * v3) + v4).toInt = 36 * v3.toInt + v4.toInt := add_ti m3 rfl (by omega) (by omega)
  unfold f_Mod_placeOf
  refine bind_i (sl_both29 v1 v2 v3 v4 j1) (fun x6 _ q6 => ?_)
  rw [Option.bind_some]
  refine inb_i (by omega) (by omega) (mem_i (fun M8 e8 => ?_))
  have j8 : J M8 := by rw [e8]; exact Jw_180 q6.1 _ _ (by decide) (by decide)
  have g8 : Gd 1000 M M8 := Gd_any (Gd_t g1 q6.2) e8 (by decide)
  refine bind_i (while180 (f := lb_Mod_both_66 v3 v4) (fun N => rfl) (fun a N hN ha => ?_) j8) (fun x24 _ q24 => ?_)
  · obtain ⟨x, ex, hx⟩ := sl_both77 v3 v4 hN
    refine ⟨x.1, x.2, ?_, hx⟩
    unfold lb_Mod_both_66
    dsimp only
    rw [if_neg ha, ex, Option.bind_some]
  rw [Option.bind_some]
  have g24 := Gd_t g8 q24.2
  refine inb_i (by omega) (by omega) (if_i (fun _ => mem_i (fun M26 e26 => ?_)) (fun _ => ⟨_, rfl, q24.1, g24⟩))
  have j26 : J M26 := by rw [e26]; exact Jw_162_12 q24.1 _ (by decide) (by decide)
  have g26 : Gd 1000 M M26 := Gd_i g24 e26 (by decide)
  have z26 : (M26.1 162 12).toInt ≤ 15 := by rw [e26, si_eq]; decide
  exact bind_i (sf_Mod_put _ M26 j26 z26) (fun x27 _ q27 => ⟨_, rfl, q27.1, Gd_t g26 q27.2.1⟩)
theorem FR_a {k : Nat} (h : FR k) : kd k = 1 ∧ ln k = 72 := by rcases h with rfl | rfl | rfl | rfl <;> decide +kernel
theorem FR_r {k : Nat} (h : FR k) {M : Mem} (hJ : J M) (i : Nat) : (0 : Int) ≤ (M.1 k i).toInt ∧ (M.1 k i).toInt ≤ 1000000 := by
  rcases h with rfl | rfl | rfl | rfl
  · exact Jr_177 hJ i
  · exact Jr_181 hJ i
  · exact Jr_182 hJ i
  · exact Jr_183 hJ i
theorem FR_w {k : Nat} (h : FR k) {M : Mem} (hJ : J M) (i : Nat) (v : Int32) (h1 : (0 : Int) ≤ v.toInt) (h2 : v.toInt ≤ 1000000) : J (s_i M k i v) := by
  rcases h with rfl | rfl | rfl | rfl
  · exact Jw_177 hJ i v h1 h2
  · exact Jw_181 hJ i v h1 h2
  · exact Jw_182 hJ i v h1 h2
  · exact Jw_183 hJ i v h1 h2
theorem sl_copy2 (v0 v1 : Nat) {M : Mem} (h : J M) (h0 : FR v0) (h1 : FR v1) : ∃ x, iter (lb_Mod_copy_2 v0 v1) FU ((0 : Int32), M) = some x ∧ (J x ∧ Fr (fun k _ => k = v1) M x ∧ x.2 = M.2) := by
  have l0 := (FR_a h0).2
  have l1 := (FR_a h1).2
  refine cnt_r _ (fun _ N => J N ∧ Fr (fun k _ => k = v1) M N ∧ N.2 = M.2) 72 (by decide) ?_ M ⟨h, Fr.r, rfl⟩ (by decide)
  intro k N k0 k1 hI
  have c36 : (Int32.ofNat (ln v0)).toInt = 72 := by rw [l0]; rfl
  unfold lb_Mod_copy_2
  dsimp only
  refine if_i (fun c => ⟨_, rfl, .inl ⟨_, rfl, hI⟩⟩) (fun c => ?_)
  have d := nlei.mp c
  have r := FR_r h0 hI.1 k.toNatClampNeg
  refine inb_i k0 (by omega) (inb_i k0 (by omega) ?_)
  refine mem_i (fun m e => ⟨_, rfl, .inr ⟨by omega, m, rfl, ?_⟩⟩)
  rw [e]
  exact ⟨FR_w h1 hI.1 _ _ r.1 r.2, hI.2.1.i rfl, hI.2.2⟩
theorem sf_Mod_copy (v0 : Nat) (v1 : Nat) (M : Mem) (hk_v0 : FR v0) (hk_v1 : FR v1) (hJ : J M) : ∃ r : Mem, f_Mod_copy v0 v1 M = some r ∧ (J r ∧ Gd 1000 M r) := by
  unfold f_Mod_copy
  exact c_i (FR_a hk_v0).1 (c_i (FR_a hk_v1).1 (bind_i (sl_copy2 v0 v1 hJ hk_v0 hk_v1) (fun x _ q => ⟨_, rfl, q.1, Gd_1 (c := v1) (by rcases hk_v1 with rfl | rfl | rfl | rfl <;> decide) q.2.1⟩)))
end
