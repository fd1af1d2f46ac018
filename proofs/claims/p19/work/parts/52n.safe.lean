/-! safety of the class, 14 -/
theorem sf_Top_end (v1 : Int32) (M : Mem) (hJ : J M) : ∃ r : Int32 × Mem, f_Top_end v1 M = some r ∧ (J r.2 ∧ Gc 1 M r.2 ∧ (0 : Int) ≤ r.1.toInt ∧ r.1.toInt ≤ (1 : Int)) := by
  unfold f_Top_end
  refine if_i (fun c => ?_) (fun c => ?_)
  · have c1 := c
    have d2 : v1.toInt < (0 : Int) := lti.mp c1
    exact ⟨((0 : Int32), M), rfl, hJ, Gc_r, (show (0 : Int) ≤ (0 : Int32).toInt by decide), (show (0 : Int32).toInt ≤ (1 : Int) by decide)⟩
  · have c3 := c
    have d4 : (0 : Int) ≤ v1.toInt := nlti.mp c3
    refine if_i (fun c => ?_) (fun c => ?_)
    · have c5 := c
      have r6 := Jr_1_1 hJ
      have d7 : v1.toInt ≤ (M.1 1 1).toInt := lei.mp c5
      refine mem_i (fun M1 e9 => ?_)
      have hJ10 : J M1 := by rw [e9]; exact Jw_1_1 hJ v1 (show (0 : Int) ≤ v1.toInt by omega) (show v1.toInt ≤ (80 : Int) by omega)
      have hG11 : Gc 1 M M1 := Gc_1 Gc_r e9 (by decide)
      have f12 : (M1.1 1 1).toInt = v1.toInt := by rw [e9, si_eq]
      clear e9
      exact ⟨((1 : Int32), M1), rfl, hJ10, hG11, (show (0 : Int) ≤ (1 : Int32).toInt by decide), (show (1 : Int32).toInt ≤ (1 : Int) by decide)⟩
    · have c13 := c
      have r14 := Jr_1_1 hJ
      have d15 : (M.1 1 1).toInt < v1.toInt := nlei.mp c13
      exact ⟨((0 : Int32), M), rfl, hJ, Gc_r, (show (0 : Int) ≤ (0 : Int32).toInt by decide), (show (0 : Int32).toInt ≤ (1 : Int) by decide)⟩
theorem sf_Top_town (M : Mem) (hJ : J M) : ∃ r : Int32 × Mem, f_Top_town M = some r ∧ (J r.2 ∧ Gc 1 M r.2 ∧ (-81 : Int) ≤ r.1.toInt ∧ r.1.toInt ≤ (36 : Int) ∧ (r.2.1 1 1).toInt = 0) := by
  unfold f_Top_town
  refine bind_i (sf_Ground_read M hJ) (fun x1 _ q => ?_)
  obtain ⟨h1, h2, h3, h4⟩ := q
  have hG5 : Gc 1 M x1.2 := Gc_t Gc_r (Gc_up h2)
  refine mem_i (fun M2 e7 => ?_)
  have hJ8 : J M2 := by rw [e7]; exact Jw_1_1 h1 (0 : Int32) (show (0 : Int) ≤ (0 : Int32).toInt by decide) (show (0 : Int32).toInt ≤ (80 : Int) by decide)
  have hG9 : Gc 1 M M2 := Gc_1 hG5 e7 (by decide)
  have f10 : (M2.1 1 1).toInt = (0 : Int) := by rw [e7, si_eq]; rfl
  clear e7
  refine if_i (fun c => ?_) (fun c => ?_)
  · have c11 := c
    have d12 : (0 : Int) ≤ x1.1.toInt := lei.mp c11
    refine bind_i (sf_Crowd_clear M2 hJ8) (fun x3 _ q => ?_)
    obtain ⟨h13, h14⟩ := q
    have f15 : (x3.1 1 1).toInt = (M2.1 1 1).toInt := congrArg Int32.toInt (h14 1 1 (.inr ⟨rfl, rfl, rfl⟩))
    have hG16 : Gc 1 M x3 := Gc_t hG9 (Gc_up h14)
    refine bind_i (sf_Scene_clear 11 x3 kd_11 h13) (fun x4 _ q => ?_)
    obtain ⟨h17, h18⟩ := q
    have f19 : (x4.1 1 1).toInt = (x3.1 1 1).toInt := congrArg Int32.toInt (h18 1 1 (.inr ⟨rfl, rfl, rfl⟩))
    have hG20 : Gc 1 M x4 := Gc_t hG16 (Gc_up h18)
    refine bind_i (sf_History_clear x4 h17) (fun x5 _ q => ?_)
    obtain ⟨h21, h22⟩ := q
    have f23 : (x5.1 1 1).toInt = (x4.1 1 1).toInt := congrArg Int32.toInt (h22 1 1 (.inr ⟨rfl, rfl, rfl⟩))
    have hG24 : Gc 1 M x5 := Gc_t hG20 (Gc_up h22)
    refine mem_i (fun M6 e26 => ?_)
    have hJ27 : J M6 := by rw [e26]; exact Jw_any ok_0 h21 16 (-1 : Int32)
    have hG28 : Gc 1 M M6 := Gc_i hG24 e26 (by decide)
    have f29 : (M6.1 1 1).toInt = (x5.1 1 1).toInt := by rw [e26]; rw [si_ne (by exact fun e => absurd e.1 (by decide))]
    have f30 : (M6.1 0 16).toInt = (-1 : Int) := by rw [e26, si_eq]; rfl
    clear e26
    refine bind_i (sf_Nets_lay 32 11 (-1 : Int32) M6 kd_32 kd_11 hJ27) (fun x7 _ q => ?_)
    obtain ⟨h31, h32⟩ := q
    have f33 : (x7.1 1 1).toInt = (M6.1 1 1).toInt := congrArg Int32.toInt (h32 1 1 (.inr ⟨rfl, rfl, rfl⟩))
    have hG34 : Gc 1 M x7 := Gc_t hG28 (Gc_up h32)
    exact ⟨(x1.1, x7), rfl, h31, hG34, (show (-81 : Int) ≤ x1.1.toInt by omega), (show x1.1.toInt ≤ (36 : Int) by omega), (show (x7.1 1 1).toInt = 0 by omega)⟩
  · have c35 := c
    have d36 : x1.1.toInt < (0 : Int) := nlei.mp c35
    exact ⟨(x1.1, M2), rfl, hJ8, hG9, (show (-81 : Int) ≤ x1.1.toInt by omega), (show x1.1.toInt ≤ (36 : Int) by omega), (show (M2.1 1 1).toInt = 0 by omega)⟩
theorem sl_Top_folk_48 (v1 : Int32) (a0_ : Int32) (N_ : Mem) (B_ : Mem) (hp_v1 : (1 : Int) ≤ v1.toInt ∧ v1.toInt ≤ (9 : Int)) (hN : J N_) (hG : Gc 0 B_ N_) (i2_ : (0 : Int) ≤ a0_.toInt) (i3_ : a0_.toInt ≤ (8 : Int)) : ∃ x, iter (lb_Top_folk_48 v1) FU (a0_, N_) = some x ∧ (fun r : Mem => J r ∧ Gc 0 B_ r) x := by
  refine iter_r (fun s : Int32 × Mem => J s.2 ∧ Gc 0 B_ s.2 ∧ (0 : Int) ≤ s.1.toInt ∧ s.1.toInt ≤ (8 : Int)) (fun s : Int32 × Mem => (8 - s.1.toInt).toNat) (fun r : Mem => J r ∧ Gc 0 B_ r) ?_ FU (a0_, N_) ⟨hN, hG, i2_, i3_⟩ (by show (8 - a0_.toInt).toNat < FU; rw [FU_v]; omega)
  clear i3_ i2_ hG hN
  rintro ⟨a0_', N_'⟩ ⟨hN, hG, i2_, i3_⟩
  dsimp only at hN hG i2_ i3_
  unfold lb_Top_folk_48
  dsimp only
  refine if_i (fun c => ?_) (fun c => ?_)
  · have c1 := c
    have r2 := Jr_6_4 hN
    have d3 : (N_'.1 6 4).toInt ≤ a0_'.toInt := lei.mp c1
    exact ⟨_, rfl, hN, hG⟩
  · have c4 := c
    have r5 := Jr_6_4 hN
    have d6 : a0_'.toInt < (N_'.1 6 4).toInt := nlei.mp c4
    refine inb_i (by omega) (by omega) ?_
    refine bind_i (sf_Crowd_woman a0_' N_' hN) (fun x4 _ q => ?_)
    obtain ⟨h7, h8⟩ := q
    refine if_i (fun c => ?_) (fun c => ?_)
    · have c9 := c
      have d10 : x4.toInt = (0 : Int) := eqi.mp c9
      unfold j_Top_folk_89_48
      have r11 := Jr_9 hN a0_'.toNatClampNeg
      refine bind_i (sf_Scene_put 11 a0_' (N_'.1 9 a0_'.toNatClampNeg) (0 : Int32) N_' kd_11 (⟨show (0 : Int) ≤ a0_'.toInt by omega, show a0_'.toInt ≤ (7 : Int) by omega⟩) (⟨show (0 : Int) ≤ (N_'.1 9 a0_'.toNatClampNeg).toInt by omega, show (N_'.1 9 a0_'.toNatClampNeg).toInt ≤ (35 : Int) by omega⟩) (⟨by decide, by decide⟩) hN) (fun x5 _ q => ?_)
      obtain ⟨h12, h13⟩ := q
      have hG14 : Gc 0 B_ x5 := Gc_t hG h13
      have q15 : (a0_' + (1 : Int32)).toInt = a0_'.toInt + (1 : Int) := add_ti rfl rfl (by omega) (by omega)
      exact ⟨_, rfl, ⟨h12, hG14, (show (0 : Int) ≤ (a0_' + (1 : Int32)).toInt by omega), (show (a0_' + (1 : Int32)).toInt ≤ (8 : Int) by omega)⟩, show (8 - (a0_' + (1 : Int32)).toInt).toNat < (8 - a0_'.toInt).toNat by omega⟩
    · have c16 := c
      have d17 : ¬ x4.toInt = (0 : Int) := neqi.mp c16
      unfold j_Top_folk_89_48
      have r18 := Jr_9 hN a0_'.toNatClampNeg
      refine bind_i (sf_Scene_put 11 a0_' (N_'.1 9 a0_'.toNatClampNeg) (1 : Int32) N_' kd_11 (⟨show (0 : Int) ≤ a0_'.toInt by omega, show a0_'.toInt ≤ (7 : Int) by omega⟩) (⟨show (0 : Int) ≤ (N_'.1 9 a0_'.toNatClampNeg).toInt by omega, show (N_'.1 9 a0_'.toNatClampNeg).toInt ≤ (35 : Int) by omega⟩) (⟨by decide, by decide⟩) hN) (fun x5 _ q => ?_)
      obtain ⟨h19, h20⟩ := q
      have hG21 : Gc 0 B_ x5 := Gc_t hG h20
      have q22 : (a0_' + (1 : Int32)).toInt = a0_'.toInt + (1 : Int) := add_ti rfl rfl (by omega) (by omega)
      exact ⟨_, rfl, ⟨h19, hG21, (show (0 : Int) ≤ (a0_' + (1 : Int32)).toInt by omega), (show (a0_' + (1 : Int32)).toInt ≤ (8 : Int) by omega)⟩, show (8 - (a0_' + (1 : Int32)).toInt).toNat < (8 - a0_'.toInt).toNat by omega⟩
theorem sf_Top_folk (M : Mem) (hJ : J M) : ∃ r : Int32 × Mem, f_Top_folk M = some r ∧ (J r.2 ∧ Gc 1 M r.2 ∧ (-84 : Int) ≤ r.1.toInt ∧ r.1.toInt ≤ (9 : Int) ∧ (r.2.1 1 1).toInt = 0) := by
  unfold f_Top_folk
  refine bind_i (sf_Crowd_read M hJ) (fun x1 _ q => ?_)
  obtain ⟨h1, h2, h3, h4, h5⟩ := q
  have hG6 : Gc 1 M x1.2 := Gc_t Gc_r (Gc_up h2)
  have r7 := Jr_6_4 h1
  refine mem_i (fun M2 e9 => ?_)
  have hJ10 : J M2 := by rw [e9]; exact Jw_1_1 h1 (0 : Int32) (show (0 : Int) ≤ (0 : Int32).toInt by decide) (show (0 : Int32).toInt ≤ (80 : Int) by decide)
  have hG11 : Gc 1 M M2 := Gc_1 hG6 e9 (by decide)
  have f12 : (M2.1 6 4).toInt = (x1.2.1 6 4).toInt := by rw [e9]; rw [si_ne (by exact fun e => absurd e.1 (by decide))]
  have f13 : (M2.1 1 1).toInt = (0 : Int) := by rw [e9, si_eq]; rfl
  clear e9
  refine if_i (fun c => ?_) (fun c => ?_)
  · have c14 := c
    have d15 : (0 : Int) < x1.1.toInt := lti.mp c14
    refine bind_i (sf_Crowd_letIn x1.1 M2 (⟨show (0 : Int) ≤ x1.1.toInt by omega, show x1.1.toInt ≤ (8 : Int) by omega⟩) hJ10 (show (M2.1 6 4).toInt + x1.1.toInt ≤ (8 : Int) by omega)) (fun x3 _ q => ?_)
    obtain ⟨h16, h17⟩ := q
    have f18 : (x3.1 1 1).toInt = (M2.1 1 1).toInt := congrArg Int32.toInt (h17 1 1 (.inr ⟨rfl, rfl, rfl⟩))
    have hG19 : Gc 1 M x3 := Gc_t hG11 (Gc_up h17)
    refine bind_i (sl_Top_folk_48 x1.1 (M2.1 6 4) x3 x3 (⟨show (1 : Int) ≤ x1.1.toInt by omega, show x1.1.toInt ≤ (9 : Int) by omega⟩) h16 Gc_r (show (0 : Int) ≤ (M2.1 6 4).toInt by omega) (show (M2.1 6 4).toInt ≤ (8 : Int) by omega)) (fun x8 _ q => ?_)
    obtain ⟨h20, h21⟩ := q
    have f22 : (x8.1 1 1).toInt = (x3.1 1 1).toInt := congrArg Int32.toInt (h21 1 1 (.inr ⟨rfl, rfl, rfl⟩))
    have hG23 : Gc 1 M x8 := Gc_t hG19 (Gc_up h21)
    refine bind_i (sf_History_forget x8 h20) (fun x9 _ q => ?_)
    obtain ⟨h24, h25⟩ := q
    have f26 : (x9.1 1 1).toInt = (x8.1 1 1).toInt := congrArg Int32.toInt (h25 1 1 (.inr ⟨rfl, rfl, rfl⟩))
    have hG27 : Gc 1 M x9 := Gc_t hG23 (Gc_up h25)
    refine bind_i (sf_History_spoil x9 h24) (fun x10 _ q => ?_)
    obtain ⟨h28, h29⟩ := q
    have f30 : (x10.1 1 1).toInt = (x9.1 1 1).toInt := congrArg Int32.toInt (h29 1 1 (.inr ⟨rfl, rfl, rfl⟩))
    have hG31 : Gc 1 M x10 := Gc_t hG27 (Gc_up h29)
    exact ⟨(x1.1, x10), rfl, h28, hG31, (show (-84 : Int) ≤ x1.1.toInt by omega), (show x1.1.toInt ≤ (9 : Int) by omega), (show (x10.1 1 1).toInt = 0 by omega)⟩
  · have c32 := c
    have d33 : x1.1.toInt ≤ (0 : Int) := nlti.mp c32
    exact ⟨(x1.1, M2), rfl, hJ10, hG11, (show (-84 : Int) ≤ x1.1.toInt by omega), (show x1.1.toInt ≤ (9 : Int) by omega), (show (M2.1 1 1).toInt = 0 by omega)⟩
theorem sf_Top_rule (M : Mem) (hJ : J M) : ∃ r : Int32 × Mem, f_Top_rule M = some r ∧ (J r.2 ∧ Gc 1 M r.2 ∧ (-83 : Int) ≤ r.1.toInt ∧ r.1.toInt ≤ (0 : Int) ∧ (r.2.1 1 1).toInt = 0) := by
  unfold f_Top_rule
  refine bind_i (sf_Law_read M hJ) (fun x1 _ q => ?_)
  obtain ⟨h1, h2, h3, h4⟩ := q
  have hG5 : Gc 1 M x1.2 := Gc_t Gc_r (Gc_up h2)
  refine mem_i (fun M2 e7 => ?_)
  have hJ8 : J M2 := by rw [e7]; exact Jw_1_1 h1 (0 : Int32) (show (0 : Int) ≤ (0 : Int32).toInt by decide) (show (0 : Int32).toInt ≤ (80 : Int) by decide)
  have hG9 : Gc 1 M M2 := Gc_1 hG5 e7 (by decide)
  have f10 : (M2.1 1 1).toInt = (0 : Int) := by rw [e7, si_eq]; rfl
  clear e7
  exact ⟨(x1.1, M2), rfl, hJ8, hG9, (show (-83 : Int) ≤ x1.1.toInt by omega), (show x1.1.toInt ≤ (0 : Int) by omega), (show (M2.1 1 1).toInt = 0 by omega)⟩
theorem sf_Top_route (v1 : Int32) (M : Mem) (hJ : J M) : ∃ r : Int32 × Mem, f_Top_route v1 M = some r ∧ (J r.2 ∧ Gc 1 M r.2 ∧ (-100 : Int) ≤ r.1.toInt ∧ r.1.toInt ≤ (9 : Int) ∧ (r.2.1 1 1).toInt = 0) := by
  unfold f_Top_route
  refine bind_i (sf_Crowd_has v1 M hJ) (fun x1 _ q => ?_)
  obtain ⟨h1, h2, h3⟩ := q
  refine if_i (fun c => ?_) (fun c => ?_)
  · have c4 := c
    have d5 : x1.toInt = (0 : Int) := eqi.mp c4
    unfold j_Top_route_28
    refine mem_i (fun M2 e7 => ?_)
    have hJ8 : J M2 := by rw [e7]; exact Jw_1_1 hJ (0 : Int32) (show (0 : Int) ≤ (0 : Int32).toInt by decide) (show (0 : Int32).toInt ≤ (80 : Int) by decide)
    have hG9 : Gc 1 M M2 := Gc_1 Gc_r e7 (by decide)
    have f10 : (M2.1 1 1).toInt = (0 : Int) := by rw [e7, si_eq]; rfl
    clear e7
    refine if_i (fun c => ?_) (fun c => ?_)
    · have c11 := c
      have d12 : (0 : Int) ≤ (-100 : Int) := lei.mp c11
      exfalso; omega
    · have c13 := c
      have d14 : (-100 : Int) < (0 : Int) := nlei.mp c13
      exact ⟨((-100 : Int32), M2), rfl, hJ8, hG9, (show (-100 : Int) ≤ (-100 : Int32).toInt by decide), (show (-100 : Int32).toInt ≤ (9 : Int) by decide), (show (M2.1 1 1).toInt = 0 by omega)⟩
  · have c15 := c
    have d16 : ¬ x1.toInt = (0 : Int) := neqi.mp c15
    refine bind_i (sf_Crowd_tellWay v1 M hJ) (fun x7 _ q => ?_)
    obtain ⟨h17, h18, h19, h20⟩ := q
    have hG21 : Gc 1 M x7.2 := Gc_t Gc_r (Gc_up h18)
    unfold j_Top_route_28
    refine mem_i (fun M2 e23 => ?_)
    have hJ24 : J M2 := by rw [e23]; exact Jw_1_1 h17 (0 : Int32) (show (0 : Int) ≤ (0 : Int32).toInt by decide) (show (0 : Int32).toInt ≤ (80 : Int) by decide)
    have hG25 : Gc 1 M M2 := Gc_1 hG21 e23 (by decide)
    have f26 : (M2.1 1 1).toInt = (0 : Int) := by rw [e23, si_eq]; rfl
    clear e23
    refine if_i (fun c => ?_) (fun c => ?_)
    · have c27 := c
      have d28 : (0 : Int) ≤ x7.1.toInt := lei.mp c27
      refine inb_i (by omega) (by omega) ?_
      refine mem_i (fun M3 e30 => ?_)
      have hJ31 : J M3 := by rw [e30]; exact Jw_any ok_14 hJ24 v1.toNatClampNeg (0 : Int32)
      have hG32 : Gc 1 M M3 := Gc_i hG25 e30 (by decide)
      have f33 : (M3.1 1 1).toInt = (M2.1 1 1).toInt := by rw [e30]; rw [si_ne (by exact fun e => absurd e.1 (by decide))]
      clear e30
      refine bind_i (sf_History_forget M3 hJ31) (fun x4 _ q => ?_)
      obtain ⟨h34, h35⟩ := q
      have f36 : (x4.1 1 1).toInt = (M3.1 1 1).toInt := congrArg Int32.toInt (h35 1 1 (.inr ⟨rfl, rfl, rfl⟩))
      have hG37 : Gc 1 M x4 := Gc_t hG32 (Gc_up h35)
      refine bind_i (sf_History_spoil x4 h34) (fun x5 _ q => ?_)
      obtain ⟨h38, h39⟩ := q
      have f40 : (x5.1 1 1).toInt = (x4.1 1 1).toInt := congrArg Int32.toInt (h39 1 1 (.inr ⟨rfl, rfl, rfl⟩))
      have hG41 : Gc 1 M x5 := Gc_t hG37 (Gc_up h39)
      exact ⟨(x7.1, x5), rfl, h38, hG41, (show (-100 : Int) ≤ x7.1.toInt by omega), (show x7.1.toInt ≤ (9 : Int) by omega), (show (x5.1 1 1).toInt = 0 by omega)⟩
    · have c42 := c
      have d43 : x7.1.toInt < (0 : Int) := nlei.mp c42
      exact ⟨(x7.1, M2), rfl, hJ24, hG25, (show (-100 : Int) ≤ x7.1.toInt by omega), (show x7.1.toInt ≤ (9 : Int) by omega), (show (M2.1 1 1).toInt = 0 by omega)⟩
theorem sl_Top_canBecome_2 (v1 : Int32) (v2 : Int32) (M : Mem) (a0_ : Int32) (hJ_M : J M) (i0_ : (0 : Int) ≤ a0_.toInt) (i1_ : a0_.toInt ≤ (2 : Int)) : ∃ x, iter (lb_Top_canBecome_2 v1 v2 M) FU a0_ = some x ∧ (SQ (fun r : Unit => True) (fun r : Unit => True)) x := by
  refine iter_r (fun s : Int32 => (0 : Int) ≤ s.toInt ∧ s.toInt ≤ (2 : Int)) (fun s : Int32 => (2 - s.toInt).toNat) (SQ (fun r : Unit => True) (fun r : Unit => True)) ?_ FU a0_ ⟨i0_, i1_⟩ (by show (2 - a0_.toInt).toNat < FU; rw [FU_v]; omega)
  clear i1_ i0_
  rintro a0_' ⟨i0_, i1_⟩
  unfold lb_Top_canBecome_2
  refine if_i (fun c => ?_) (fun c => ?_)
  · have c1 := c
    have d2 : (1 : Int) < a0_'.toInt := lti.mp c1
    exact ⟨_, rfl, trivial⟩
  · have c3 := c
    have d4 : a0_'.toInt ≤ (1 : Int) := nlti.mp c3
    refine if_i (fun c => ?_) (fun c => ?_)
    · have c5 := c
      have q6 : (0 : Int) ≤ ((v2 >>> (a0_' &&& 31)) &&& (1 : Int32)).toInt ∧ ((v2 >>> (a0_' &&& 31)) &&& (1 : Int32)).toInt ≤ 1 := and_rng (by decide)
      have d7 : ((v2 >>> (a0_' &&& 31)) &&& (1 : Int32)).toInt = (0 : Int) := eqi.mp c5
      unfold j_Top_canBecome_20_2
      refine if_i (fun c => ?_) (fun c => ?_)
      · have c8 := c
        have d9 : (1 : Int) = (0 : Int) := eqi.mp c8
        exfalso; omega
      · have c10 := c
        have d11 : ¬ (1 : Int) = (0 : Int) := neqi.mp c10
        have r12 := Jr_6_4 hJ_M
        refine bind_i (sf_Scene_standing 11 a0_' v1 (M.1 6 4) M kd_11 (⟨show (0 : Int) ≤ (M.1 6 4).toInt by omega, show (M.1 6 4).toInt ≤ (8 : Int) by omega⟩) hJ_M) (fun x1 _ q => ?_)
        refine if_i (fun c => ?_) (fun c => ?_)
        · have c13 := c
          have d14 : x1.toInt = (0 : Int) := eqi.mp c13
          have q15 : (a0_' + (1 : Int32)).toInt = a0_'.toInt + (1 : Int) := add_ti rfl rfl (by omega) (by omega)
          exact ⟨_, rfl, ⟨(show (0 : Int) ≤ (a0_' + (1 : Int32)).toInt by omega), (show (a0_' + (1 : Int32)).toInt ≤ (2 : Int) by omega)⟩, show (2 - (a0_' + (1 : Int32)).toInt).toNat < (2 - a0_'.toInt).toNat by omega⟩
        · have c16 := c
          have d17 : ¬ x1.toInt = (0 : Int) := neqi.mp c16
          exact ⟨_, rfl, trivial⟩
    · have c18 := c
      have q19 : (0 : Int) ≤ ((v2 >>> (a0_' &&& 31)) &&& (1 : Int32)).toInt ∧ ((v2 >>> (a0_' &&& 31)) &&& (1 : Int32)).toInt ≤ 1 := and_rng (by decide)
      have d20 : ¬ ((v2 >>> (a0_' &&& 31)) &&& (1 : Int32)).toInt = (0 : Int) := neqi.mp c18
      unfold j_Top_canBecome_20_2
      refine if_i (fun c => ?_) (fun c => ?_)
      · have c21 := c
        have d22 : (0 : Int) = (0 : Int) := eqi.mp c21
        have q23 : (a0_' + (1 : Int32)).toInt = a0_'.toInt + (1 : Int) := add_ti rfl rfl (by omega) (by omega)
        exact ⟨_, rfl, ⟨(show (0 : Int) ≤ (a0_' + (1 : Int32)).toInt by omega), (show (a0_' + (1 : Int32)).toInt ≤ (2 : Int) by omega)⟩, show (2 - (a0_' + (1 : Int32)).toInt).toNat < (2 - a0_'.toInt).toNat by omega⟩
      · have c24 := c
        have d25 : ¬ (0 : Int) = (0 : Int) := neqi.mp c24
        exfalso; omega
theorem sf_Top_canBecome (v1 : Int32) (v2 : Int32) (M : Mem) (hJ : J M) : ∃ r : Int32, f_Top_canBecome v1 v2 M = some r ∧ ((0 : Int) ≤ r.toInt ∧ r.toInt ≤ (1 : Int)) := by
  unfold f_Top_canBecome
  refine bind_i (sl_Top_canBecome_2 v1 v2 M (0 : Int32) hJ (show (0 : Int) ≤ (0 : Int32).toInt by decide) (show (0 : Int32).toInt ≤ (2 : Int) by decide)) (fun x1 _ q => ?_)
  rcases x1 with y | y
  · have q9 : True := q
    dsimp only [Sum.elim_inl, Sum.elim_inr]
    refine if_i (fun c => ?_) (fun c => ?_)
    · have c3 := c
      have q4 : (0 : Int) ≤ ((v2 >>> ((1 : Int32) &&& 31)) &&& (1 : Int32)).toInt ∧ ((v2 >>> ((1 : Int32) &&& 31)) &&& (1 : Int32)).toInt ≤ 1 := and_rng (by decide)
      have d5 : ((v2 >>> ((1 : Int32) &&& 31)) &&& (1 : Int32)).toInt = (0 : Int) := eqi.mp c3
      unfold j_Top_canBecome_67
      refine if_i (fun c => ?_) (fun c => ?_)
      · have c6 := c
        have d7 : (0 : Int) = (0 : Int) := eqi.mp c6
        refine bind_i (sf_Scene_planksAt 11 v1 M kd_11 hJ) (fun x8 _ q => ?_)
        refine if_i (fun c => ?_) (fun c => ?_)
        · have c8 := c
          have d9 : x8.toInt = (0 : Int) := eqi.mp c8
          exact ⟨(1 : Int32), rfl, (show (0 : Int) ≤ (1 : Int32).toInt by decide), (show (1 : Int32).toInt ≤ (1 : Int) by decide)⟩
        · have c10 := c
          have d11 : ¬ x8.toInt = (0 : Int) := neqi.mp c10
          exact ⟨(0 : Int32), rfl, (show (0 : Int) ≤ (0 : Int32).toInt by decide), (show (0 : Int32).toInt ≤ (1 : Int) by decide)⟩
      · have c12 := c
        have d13 : ¬ (0 : Int) = (0 : Int) := neqi.mp c12
        exfalso; omega
    · have c14 := c
      have q15 : (0 : Int) ≤ ((v2 >>> ((1 : Int32) &&& 31)) &&& (1 : Int32)).toInt ∧ ((v2 >>> ((1 : Int32) &&& 31)) &&& (1 : Int32)).toInt ≤ 1 := and_rng (by decide)
      have d16 : ¬ ((v2 >>> ((1 : Int32) &&& 31)) &&& (1 : Int32)).toInt = (0 : Int) := neqi.mp c14
      unfold j_Top_canBecome_67
      refine if_i (fun c => ?_) (fun c => ?_)
      · have c17 := c
        have d18 : (1 : Int) = (0 : Int) := eqi.mp c17
        exfalso; omega
      · have c19 := c
        have d20 : ¬ (1 : Int) = (0 : Int) := neqi.mp c19
        refine bind_i (sf_Scene_isUnderPlank 11 v1 M kd_11 hJ) (fun x10 _ q => ?_)
        obtain ⟨h21, h22⟩ := q
        refine if_i (fun c => ?_) (fun c => ?_)
        · have c23 := c
          have d24 : x10.toInt = (0 : Int) := eqi.mp c23
          exact ⟨(1 : Int32), rfl, (show (0 : Int) ≤ (1 : Int32).toInt by decide), (show (1 : Int32).toInt ≤ (1 : Int) by decide)⟩
        · have c25 := c
          have d26 : ¬ x10.toInt = (0 : Int) := neqi.mp c25
          exact ⟨(0 : Int32), rfl, (show (0 : Int) ≤ (0 : Int32).toInt by decide), (show (0 : Int32).toInt ≤ (1 : Int) by decide)⟩
  · have q9 : True := q
    dsimp only [Sum.elim_inl, Sum.elim_inr]
    exact ⟨(0 : Int32), rfl, (show (0 : Int) ≤ (0 : Int32).toInt by decide), (show (0 : Int32).toInt ≤ (1 : Int) by decide)⟩
theorem sf_Top_build (v1 : Int32) (v2 : Int32) (M : Mem) (hJ : J M) : ∃ r : Int32 × Mem, f_Top_build v1 v2 M = some r ∧ (J r.2 ∧ Gc 0 M r.2) := by
  unfold f_Top_build
  refine bind_i (sf_Ground_has v1 M hJ) (fun x1 _ q => ?_)
  obtain ⟨h1, h2, h3⟩ := q
  refine if_i (fun c => ?_) (fun c => ?_)
  · have c4 := c
    have d5 : x1.toInt = (0 : Int) := eqi.mp c4
    exact ⟨((-1 : Int32), M), rfl, hJ, Gc_r⟩
  · have c6 := c
    have d7 : ¬ x1.toInt = (0 : Int) := neqi.mp c6
    refine if_i (fun c => ?_) (fun c => ?_)
    · have c8 := c
      have d9 : v2.toInt < (0 : Int) := lti.mp c8
      exact ⟨((-1 : Int32), M), rfl, hJ, Gc_r⟩
    · have c10 := c
      have d11 : (0 : Int) ≤ v2.toInt := nlti.mp c10
      refine if_i (fun c => ?_) (fun c => ?_)
      · have c12 := c
        have d13 : (3 : Int) < v2.toInt := lti.mp c12
        exact ⟨((-1 : Int32), M), rfl, hJ, Gc_r⟩
      · have c14 := c
        have d15 : v2.toInt ≤ (3 : Int) := nlti.mp c14
        refine bind_i (sf_Top_canBecome v1 v2 M hJ) (fun x2 _ q => ?_)
        obtain ⟨h16, h17⟩ := q
        refine if_i (fun c => ?_) (fun c => ?_)
        · have c18 := c
          have d19 : x2.toInt = (0 : Int) := eqi.mp c18
          exact ⟨((-1 : Int32), M), rfl, hJ, Gc_r⟩
        · have c20 := c
          have d21 : ¬ x2.toInt = (0 : Int) := neqi.mp c20
          refine inb_i (by omega) (by omega) ?_
          refine inb_i (by omega) (by omega) ?_
          refine mem_i (fun M3 e23 => ?_)
          have hJ24 : J M3 := by rw [e23]; exact Jw_any ok_4 hJ v1.toNatClampNeg v2
          have hG25 : Gc 0 M M3 := Gc_i Gc_r e23 (by decide)
          clear e23
          refine bind_i (sf_History_forget M3 hJ24) (fun x4 _ q => ?_)
          obtain ⟨h26, h27⟩ := q
          have hG28 : Gc 0 M x4 := Gc_t hG25 h27
          refine bind_i (sf_History_spoil x4 h26) (fun x5 _ q => ?_)
          obtain ⟨h29, h30⟩ := q
          have hG31 : Gc 0 M x5 := Gc_t hG28 h30
          refine bind_i (sf_Nets_lay 32 11 (-1 : Int32) x5 kd_32 kd_11 h29) (fun x6 _ q => ?_)
          obtain ⟨h32, h33⟩ := q
          have hG34 : Gc 0 M x6 := Gc_t hG31 h33
          exact ⟨((M.1 4 v1.toNatClampNeg), x6), rfl, h32, hG34⟩
theorem sf_Top_lay (v1 : Int32) (v2 : Int32) (M : Mem) (hJ : J M) : ∃ r : Int32 × Mem, f_Top_lay v1 v2 M = some r ∧ (J r.2 ∧ Gc 0 M r.2) := by
  unfold f_Top_lay
  refine bind_i (sf_Ground_has v1 M hJ) (fun x1 _ q => ?_)
  obtain ⟨h1, h2, h3⟩ := q
  refine if_i (fun c => ?_) (fun c => ?_)
  · have c4 := c
    have d5 : x1.toInt = (0 : Int) := eqi.mp c4
    exact ⟨((-1 : Int32), M), rfl, hJ, Gc_r⟩
  · have c6 := c
    have d7 : ¬ x1.toInt = (0 : Int) := neqi.mp c6
    refine bind_i (sf_Ground_has v2 M hJ) (fun x2 _ q => ?_)
    obtain ⟨h8, h9, h10⟩ := q
    refine if_i (fun c => ?_) (fun c => ?_)
    · have c11 := c
      have d12 : x2.toInt = (0 : Int) := eqi.mp c11
      exact ⟨((-1 : Int32), M), rfl, hJ, Gc_r⟩
    · have c13 := c
      have d14 : ¬ x2.toInt = (0 : Int) := neqi.mp c13
      refine bind_i (sf_Ground_between v1 v2 M hJ) (fun x3 _ q => ?_)
      obtain ⟨h15, h16⟩ := q
      refine if_i (fun c => ?_) (fun c => ?_)
      · have c17 := c
        have d18 : x3.toInt = (-1 : Int) := eqi.mp c17
        exact ⟨((-2 : Int32), M), rfl, hJ, Gc_r⟩
      · have c19 := c
        have d20 : ¬ x3.toInt = (-1 : Int) := neqi.mp c19
        refine bind_i (sf_Ground_holds (1 : Int32) v1 M hJ) (fun x4 _ q => ?_)
        obtain ⟨h21, h22, h23, h24⟩ := q
        clear h23
        refine if_i (fun c => ?_) (fun c => ?_)
        · have c25 := c
          have d26 : x4.toInt = (0 : Int) := eqi.mp c25
          exact ⟨((-2 : Int32), M), rfl, hJ, Gc_r⟩
        · have c27 := c
          have d28 : ¬ x4.toInt = (0 : Int) := neqi.mp c27
          refine bind_i (sf_Ground_holds (1 : Int32) v2 M hJ) (fun x5 _ q => ?_)
          obtain ⟨h29, h30, h31, h32⟩ := q
          clear h31
          refine if_i (fun c => ?_) (fun c => ?_)
          · have c33 := c
            have d34 : x5.toInt = (0 : Int) := eqi.mp c33
            exact ⟨((-2 : Int32), M), rfl, hJ, Gc_r⟩
          · have c35 := c
            have d36 : ¬ x5.toInt = (0 : Int) := neqi.mp c35
            refine bind_i (sf_Ground_holds (1 : Int32) x3 M hJ) (fun x6 _ q => ?_)
            obtain ⟨h37, h38, h39, h40⟩ := q
            clear h39
            refine if_i (fun c => ?_) (fun c => ?_)
            · have c41 := c
              have d42 : x6.toInt = (0 : Int) := eqi.mp c41
              refine bind_i (sf_Scene_hasPlank 11 v1 v2 M kd_11 hJ) (fun x7 _ q => ?_)
              obtain ⟨h43, h44⟩ := q
              refine if_i (fun c => ?_) (fun c => ?_)
              · have c45 := c
                have d46 : x7.toInt = (0 : Int) := eqi.mp c45
                refine bind_i (sf_Scene_addPlank 11 v1 v2 M kd_11 (⟨show (0 : Int) ≤ v1.toInt by omega, show v1.toInt ≤ (35 : Int) by omega⟩) (⟨show (0 : Int) ≤ v2.toInt by omega, show v2.toInt ≤ (35 : Int) by omega⟩) hJ) (fun x8 _ q => ?_)
                obtain ⟨h47, h48, h49, h50⟩ := q
                have hG51 : Gc 0 M x8.2 := Gc_t Gc_r h48
                refine if_i (fun c => ?_) (fun c => ?_)
                · have c52 := c
                  have d53 : x8.1.toInt = (0 : Int) := eqi.mp c52
                  exact ⟨((-4 : Int32), x8.2), rfl, h47, hG51⟩
                · have c54 := c
                  have d55 : ¬ x8.1.toInt = (0 : Int) := neqi.mp c54
                  refine bind_i (sf_Nets_lay 32 11 (-1 : Int32) x8.2 kd_32 kd_11 h47) (fun x9 _ q => ?_)
                  obtain ⟨h56, h57⟩ := q
                  have hG58 : Gc 0 M x9 := Gc_t hG51 h57
                  exact ⟨(((x9.1 11 6) - (1 : Int32)), x9), rfl, h56, hG58⟩
              · have c59 := c
                have d60 : ¬ x7.toInt = (0 : Int) := neqi.mp c59
                exact ⟨((-3 : Int32), M), rfl, hJ, Gc_r⟩
            · have c61 := c
              have d62 : ¬ x6.toInt = (0 : Int) := neqi.mp c61
              exact ⟨((-2 : Int32), M), rfl, hJ, Gc_r⟩
theorem sf_Top_plank (v1 : Int32) (v2 : Int32) (M : Mem) (hJ : J M) : ∃ r : Int32 × Mem, f_Top_plank v1 v2 M = some r ∧ (J r.2 ∧ Gc 0 M r.2) := by
  unfold f_Top_plank
  refine bind_i (sf_Scene_copy 18 11 M kd_18 kd_11 hJ) (fun x1 _ q => ?_)
  obtain ⟨h1, h2, h3⟩ := q
  have hG4 : Gc 0 M x1 := Gc_t Gc_r h2
  refine bind_i (sf_Top_lay v1 v2 x1 h1) (fun x2 _ q => ?_)
  obtain ⟨h5, h6⟩ := q
  have hG7 : Gc 0 M x2.2 := Gc_t hG4 h6
  refine if_i (fun c => ?_) (fun c => ?_)
  · have c8 := c
    have d9 : x2.1.toInt < (0 : Int) := lti.mp c8
    exact ⟨(x2.1, x2.2), rfl, h5, hG7⟩
  · have c10 := c
    have d11 : (0 : Int) ≤ x2.1.toInt := nlti.mp c10
    refine bind_i (sf_History_add 18 x2.2 kd_18 h5) (fun x3 _ q => ?_)
    obtain ⟨h12, h13⟩ := q
    have hG14 : Gc 0 M x3 := Gc_t hG7 h13
    exact ⟨(x2.1, x3), rfl, h12, hG14⟩
theorem sf_Top_lift (M : Mem) (hJ : J M) : ∃ r : Int32 × Mem, f_Top_lift M = some r ∧ (J r.2 ∧ Gc 0 M r.2 ∧ (0 : Int) ≤ r.1.toInt ∧ r.1.toInt ≤ (1 : Int)) := by
  unfold f_Top_lift
  refine if_i (fun c => ?_) (fun c => ?_)
  · have c1 := c
    have d2 : (0 : Int) < (M.1 11 6).toInt := lti.mp c1
    refine mem_i (fun M1 e4 => ?_)
    have hJ5 : J M1 := by rw [e4]; exact Jw_any ok_11 hJ 6 ((M.1 11 6) - (1 : Int32))
    have hG6 : Gc 0 M M1 := Gc_i Gc_r e4 (by decide)
    have q7 := i32hi (M.1 11 6)
    have q8 : ((M.1 11 6) - (1 : Int32)).toInt = (M.1 11 6).toInt - (1 : Int) := sub_ti rfl rfl (by omega) (by omega)
    have f9 : (M1.1 11 6).toInt = ((M.1 11 6) - (1 : Int32)).toInt := by rw [e4, si_eq]
    clear e4
    refine bind_i (sf_Nets_lay 32 11 (-1 : Int32) M1 kd_32 kd_11 hJ5) (fun x2 _ q => ?_)
    obtain ⟨h10, h11⟩ := q
    have hG12 : Gc 0 M x2 := Gc_t hG6 h11
    exact ⟨((1 : Int32), x2), rfl, h10, hG12, (show (0 : Int) ≤ (1 : Int32).toInt by decide), (show (1 : Int32).toInt ≤ (1 : Int) by decide)⟩
  · have c13 := c
    have d14 : (M.1 11 6).toInt ≤ (0 : Int) := nlti.mp c13
    exact ⟨((0 : Int32), M), rfl, hJ, Gc_r, (show (0 : Int) ≤ (0 : Int32).toInt by decide), (show (0 : Int32).toInt ≤ (1 : Int) by decide)⟩
