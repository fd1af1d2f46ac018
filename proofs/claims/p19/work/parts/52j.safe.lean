/-! safety of the class, 10 -/
theorem sf_Law_joined (v0 : Int32) (v1 : Int32) (v2 : Int32) : ∃ r : Int32, f_Law_joined v0 v1 v2 = some r ∧ (True) := by
  unfold f_Law_joined
  refine if_i (fun c => ?_) (fun c => ?_)
  · have c1 := c
    have d2 : v1.toInt = (42 : Int) := eqi.mp c1
    exact ⟨(v0 * v2), rfl, trivial⟩
  · have c3 := c
    have d4 : ¬ v1.toInt = (42 : Int) := neqi.mp c3
    refine if_i (fun c => ?_) (fun c => ?_)
    · have c5 := c
      have d6 : v1.toInt = (43 : Int) := eqi.mp c5
      exact ⟨(v0 + v2), rfl, trivial⟩
    · have c7 := c
      have d8 : ¬ v1.toInt = (43 : Int) := neqi.mp c7
      refine if_i (fun c => ?_) (fun c => ?_)
      · have c9 := c
        have d10 : v1.toInt = (45 : Int) := eqi.mp c9
        exact ⟨(v0 - v2), rfl, trivial⟩
      · have c11 := c
        have d12 : ¬ v1.toInt = (45 : Int) := neqi.mp c11
        refine if_i (fun c => ?_) (fun c => ?_)
        · have c13 := c
          have d14 : v1.toInt = (47 : Int) := eqi.mp c13
          refine if_i (fun c => ?_) (fun c => ?_)
          · have c15 := c
            have d16 : v2.toInt = (0 : Int) := eqi.mp c15
            exact ⟨(0 : Int32), rfl, trivial⟩
          · have c17 := c
            have d18 : ¬ v2.toInt = (0 : Int) := neqi.mp c17
            refine z_i (nz2_of (by omega)) ?_
            exact ⟨(v0 / v2), rfl, trivial⟩
        · have c19 := c
          have d20 : ¬ v1.toInt = (47 : Int) := neqi.mp c19
          refine if_i (fun c => ?_) (fun c => ?_)
          · have c21 := c
            have d22 : v1.toInt = (60 : Int) := eqi.mp c21
            refine if_i (fun c => ?_) (fun c => ?_)
            · have c23 := c
              have d24 : v2.toInt ≤ v0.toInt := lei.mp c23
              exact ⟨(0 : Int32), rfl, trivial⟩
            · have c25 := c
              have d26 : v0.toInt < v2.toInt := nlei.mp c25
              exact ⟨(1 : Int32), rfl, trivial⟩
          · have c27 := c
            have d28 : ¬ v1.toInt = (60 : Int) := neqi.mp c27
            refine if_i (fun c => ?_) (fun c => ?_)
            · have c29 := c
              have d30 : v1.toInt = (61 : Int) := eqi.mp c29
              refine if_i (fun c => ?_) (fun c => ?_)
              · have c31 := c
                have d32 : v0.toInt = v2.toInt := eqi.mp c31
                exact ⟨(1 : Int32), rfl, trivial⟩
              · have c33 := c
                have d34 : ¬ v0.toInt = v2.toInt := neqi.mp c33
                exact ⟨(0 : Int32), rfl, trivial⟩
            · have c35 := c
              have d36 : ¬ v1.toInt = (61 : Int) := neqi.mp c35
              refine if_i (fun c => ?_) (fun c => ?_)
              · have c37 := c
                have d38 : v1.toInt = (62 : Int) := eqi.mp c37
                refine if_i (fun c => ?_) (fun c => ?_)
                · have c39 := c
                  have d40 : v0.toInt ≤ v2.toInt := lei.mp c39
                  exact ⟨(0 : Int32), rfl, trivial⟩
                · have c41 := c
                  have d42 : v2.toInt < v0.toInt := nlei.mp c41
                  exact ⟨(1 : Int32), rfl, trivial⟩
              · have c43 := c
                have d44 : ¬ v1.toInt = (62 : Int) := neqi.mp c43
                exact ⟨(0 : Int32), rfl, trivial⟩
theorem sf_Law_work (v1 : Int32) (M : Mem) (hJ : J M) : ∃ r : Mem, f_Law_work v1 M = some r ∧ (J r ∧ Gc 0 M r) := by
  unfold f_Law_work
  refine bind_i (sf_Law_pop M hJ) (fun x1 _ q => ?_)
  obtain ⟨h1, h2⟩ := q
  have hG3 : Gc 0 M x1.2 := Gc_t Gc_r h2
  refine if_i (fun c => ?_) (fun c => ?_)
  · have c4 := c
    have d5 : v1.toInt = (256 : Int) := eqi.mp c4
    refine bind_i (sf_Law_push (-x1.1) x1.2 h1) (fun x5 _ q => ?_)
    obtain ⟨h6, h7⟩ := q
    have hG8 : Gc 0 M x5 := Gc_t hG3 h7
    exact ⟨x5, rfl, h6, hG8⟩
  · have c9 := c
    have d10 : ¬ v1.toInt = (256 : Int) := neqi.mp c9
    refine bind_i (sf_Law_pop x1.2 h1) (fun x2 _ q => ?_)
    obtain ⟨h11, h12⟩ := q
    have hG13 : Gc 0 M x2.2 := Gc_t hG3 h12
    refine bind_i (sf_Law_joined x2.1 v1 x1.1) (fun x3 _ q => ?_)
    refine bind_i (sf_Law_push x3 x2.2 h11) (fun x4 _ q => ?_)
    obtain ⟨h14, h15⟩ := q
    have hG16 : Gc 0 M x4 := Gc_t hG13 h15
    exact ⟨x4, rfl, h14, hG16⟩
theorem sl_Law_goes_28 (v1 : Int32) (v2 : Nat) (a0_ : Int32) (N_ : Mem) (B_ : Mem) (hp_v1 : (0 : Int) ≤ v1.toInt ∧ v1.toInt ≤ (7 : Int)) (hk_v2 : kd v2 = 10 + 7) (hN : J N_) (hG : Gc 0 B_ N_) (i2_ : (0 : Int) ≤ a0_.toInt) (i3_ : a0_.toInt ≤ (40 : Int)) : ∃ x, iter (lb_Law_goes_28 v1 v2) FU (a0_, N_) = some x ∧ (fun r : Mem => J r ∧ Gc 0 B_ r) x := by
  refine iter_r (fun s : Int32 × Mem => J s.2 ∧ Gc 0 B_ s.2 ∧ (0 : Int) ≤ s.1.toInt ∧ s.1.toInt ≤ (40 : Int)) (fun s : Int32 × Mem => (40 - s.1.toInt).toNat) (fun r : Mem => J r ∧ Gc 0 B_ r) ?_ FU (a0_, N_) ⟨hN, hG, i2_, i3_⟩ (by show (40 - a0_.toInt).toNat < FU; rw [FU_v]; omega)
  clear i3_ i2_ hG hN
  rintro ⟨a0_', N_'⟩ ⟨hN, hG, i2_, i3_⟩
  dsimp only at hN hG i2_ i3_
  unfold lb_Law_goes_28
  dsimp only
  refine if_i (fun c => ?_) (fun c => ?_)
  · have c1 := c
    have d2 : (N_'.1 40 4).toInt ≤ a0_'.toInt := lei.mp c1
    exact ⟨_, rfl, hN, hG⟩
  · have c3 := c
    have d4 : a0_'.toInt < (N_'.1 40 4).toInt := nlei.mp c3
    refine if_i (fun c => ?_) (fun c => ?_)
    · have c5 := c
      have d6 : (40 : Int) ≤ a0_'.toInt := lei.mp c5
      exact ⟨_, rfl, hN, hG⟩
    · have c7 := c
      have d8 : a0_'.toInt < (40 : Int) := nlei.mp c7
      refine inb_i (by omega) (by omega) ?_
      refine if_i (fun c => ?_) (fun c => ?_)
      · have c9 := c
        have d10 : (N_'.1 41 a0_'.toNatClampNeg).toInt < (0 : Int) := lti.mp c9
        refine bind_i (sf_Law_isQuality (-(N_'.1 41 a0_'.toNatClampNeg))) (fun x2 _ q => ?_)
        obtain ⟨h11, h12⟩ := q
        refine if_i (fun c => ?_) (fun c => ?_)
        · have c13 := c
          have d14 : x2.toInt = (0 : Int) := eqi.mp c13
          refine bind_i (sf_Law_work (-(N_'.1 41 a0_'.toNatClampNeg)) N_' hN) (fun x3 _ q => ?_)
          obtain ⟨h15, h16⟩ := q
          have hG17 : Gc 0 B_ x3 := Gc_t hG h16
          have q18 : (a0_' + (1 : Int32)).toInt = a0_'.toInt + (1 : Int) := add_ti rfl rfl (by omega) (by omega)
          exact ⟨_, rfl, ⟨h15, hG17, (show (0 : Int) ≤ (a0_' + (1 : Int32)).toInt by omega), (show (a0_' + (1 : Int32)).toInt ≤ (40 : Int) by omega)⟩, show (40 - (a0_' + (1 : Int32)).toInt).toNat < (40 - a0_'.toInt).toNat by omega⟩
        · have c19 := c
          have d20 : ¬ x2.toInt = (0 : Int) := neqi.mp c19
          refine bind_i (sf_Law_quality (-(N_'.1 41 a0_'.toNatClampNeg)) v1 v2 N_' (⟨show (0 : Int) ≤ v1.toInt by omega, show v1.toInt ≤ (7 : Int) by omega⟩) hk_v2 hN) (fun x4 _ q => ?_)
          refine bind_i (sf_Law_push x4 N_' hN) (fun x5 _ q => ?_)
          obtain ⟨h21, h22⟩ := q
          have hG23 : Gc 0 B_ x5 := Gc_t hG h22
          have q24 : (a0_' + (1 : Int32)).toInt = a0_'.toInt + (1 : Int) := add_ti rfl rfl (by omega) (by omega)
          exact ⟨_, rfl, ⟨h21, hG23, (show (0 : Int) ≤ (a0_' + (1 : Int32)).toInt by omega), (show (a0_' + (1 : Int32)).toInt ≤ (40 : Int) by omega)⟩, show (40 - (a0_' + (1 : Int32)).toInt).toNat < (40 - a0_'.toInt).toNat by omega⟩
      · have c25 := c
        have d26 : (0 : Int) ≤ (N_'.1 41 a0_'.toNatClampNeg).toInt := nlti.mp c25
        refine bind_i (sf_Law_push (N_'.1 41 a0_'.toNatClampNeg) N_' hN) (fun x7 _ q => ?_)
        obtain ⟨h27, h28⟩ := q
        have hG29 : Gc 0 B_ x7 := Gc_t hG h28
        have q30 : (a0_' + (1 : Int32)).toInt = a0_'.toInt + (1 : Int) := add_ti rfl rfl (by omega) (by omega)
        exact ⟨_, rfl, ⟨h27, hG29, (show (0 : Int) ≤ (a0_' + (1 : Int32)).toInt by omega), (show (a0_' + (1 : Int32)).toInt ≤ (40 : Int) by omega)⟩, show (40 - (a0_' + (1 : Int32)).toInt).toNat < (40 - a0_'.toInt).toNat by omega⟩
theorem sf_Law_goes (v1 : Int32) (v2 : Nat) (M : Mem) (hp_v1 : (0 : Int) ≤ v1.toInt ∧ v1.toInt ≤ (7 : Int)) (hk_v2 : kd v2 = 10 + 7) (hJ : J M) : ∃ r : Int32 × Mem, f_Law_goes v1 v2 M = some r ∧ (J r.2 ∧ Gc 0 M r.2 ∧ (0 : Int) ≤ r.1.toInt ∧ r.1.toInt ≤ (1 : Int)) := by
  unfold f_Law_goes
  refine c_i hk_v2 ?_
  refine if_i (fun c => ?_) (fun c => ?_)
  · have c1 := c
    have d2 : (M.1 v2 9).toInt = (1 : Int) := eqi.mp c1
    refine inb_i (by omega) (by omega) ?_
    refine if_i (fun c => ?_) (fun c => ?_)
    · have c3 := c
      have r4 := Jr_scene1 hJ hk_v2 v1.toNatClampNeg
      have d5 : (M.1 (rf v2 1) v1.toNatClampNeg).toInt = (1 : Int) := eqi.mp c3
      exact ⟨((0 : Int32), M), rfl, hJ, Gc_r, (show (0 : Int) ≤ (0 : Int32).toInt by decide), (show (0 : Int32).toInt ≤ (1 : Int) by decide)⟩
    · have c6 := c
      have r7 := Jr_scene1 hJ hk_v2 v1.toNatClampNeg
      have d8 : ¬ (M.1 (rf v2 1) v1.toNatClampNeg).toInt = (1 : Int) := neqi.mp c6
      refine mem_i (fun M15 e10 => ?_)
      have hJ11 : J M15 := by rw [e10]; exact Jw_any ok_40 hJ 7 (0 : Int32)
      have hG12 : Gc 0 M M15 := Gc_i Gc_r e10 (by decide)
      have f13 : (M15.1 40 7).toInt = (0 : Int) := by rw [e10, si_eq]; rfl
      clear e10
      refine bind_i (sl_Law_goes_28 v1 v2 (0 : Int32) M15 M (⟨show (0 : Int) ≤ v1.toInt by omega, show v1.toInt ≤ (7 : Int) by omega⟩) hk_v2 hJ11 hG12 (show (0 : Int) ≤ (0 : Int32).toInt by decide) (show (0 : Int32).toInt ≤ (40 : Int) by decide)) (fun x16 _ q => ?_)
      obtain ⟨h14, h15⟩ := q
      unfold j_Law_goes_107
      refine if_i (fun c => ?_) (fun c => ?_)
      · have c16 := c
        have d17 : (x16.1 40 4).toInt = (0 : Int) := eqi.mp c16
        exact ⟨((1 : Int32), x16), rfl, h14, h15, (show (0 : Int) ≤ (1 : Int32).toInt by decide), (show (1 : Int32).toInt ≤ (1 : Int) by decide)⟩
      · have c18 := c
        have d19 : ¬ (x16.1 40 4).toInt = (0 : Int) := neqi.mp c18
        refine bind_i (sf_Law_pop x16 h14) (fun x12 _ q => ?_)
        obtain ⟨h20, h21⟩ := q
        have hG22 : Gc 0 M x12.2 := Gc_t h15 h21
        refine if_i (fun c => ?_) (fun c => ?_)
        · have c23 := c
          have d24 : x12.1.toInt = (0 : Int) := eqi.mp c23
          exact ⟨((0 : Int32), x12.2), rfl, h20, hG22, (show (0 : Int) ≤ (0 : Int32).toInt by decide), (show (0 : Int32).toInt ≤ (1 : Int) by decide)⟩
        · have c25 := c
          have d26 : ¬ x12.1.toInt = (0 : Int) := neqi.mp c25
          exact ⟨((1 : Int32), x12.2), rfl, h20, hG22, (show (0 : Int) ≤ (1 : Int32).toInt by decide), (show (1 : Int32).toInt ≤ (1 : Int) by decide)⟩
  · have c27 := c
    have d28 : ¬ (M.1 v2 9).toInt = (1 : Int) := neqi.mp c27
    refine mem_i (fun M1 e30 => ?_)
    have hJ31 : J M1 := by rw [e30]; exact Jw_any ok_40 hJ 7 (0 : Int32)
    have hG32 : Gc 0 M M1 := Gc_i Gc_r e30 (by decide)
    have f33 : (M1.1 40 7).toInt = (0 : Int) := by rw [e30, si_eq]; rfl
    clear e30
    refine bind_i (sl_Law_goes_28 v1 v2 (0 : Int32) M1 M (⟨show (0 : Int) ≤ v1.toInt by omega, show v1.toInt ≤ (7 : Int) by omega⟩) hk_v2 hJ31 hG32 (show (0 : Int) ≤ (0 : Int32).toInt by decide) (show (0 : Int32).toInt ≤ (40 : Int) by decide)) (fun x11 _ q => ?_)
    obtain ⟨h34, h35⟩ := q
    unfold j_Law_goes_107
    refine if_i (fun c => ?_) (fun c => ?_)
    · have c36 := c
      have d37 : (x11.1 40 4).toInt = (0 : Int) := eqi.mp c36
      exact ⟨((1 : Int32), x11), rfl, h34, h35, (show (0 : Int) ≤ (1 : Int32).toInt by decide), (show (1 : Int32).toInt ≤ (1 : Int) by decide)⟩
    · have c38 := c
      have d39 : ¬ (x11.1 40 4).toInt = (0 : Int) := neqi.mp c38
      refine bind_i (sf_Law_pop x11 h34) (fun x12 _ q => ?_)
      obtain ⟨h40, h41⟩ := q
      have hG42 : Gc 0 M x12.2 := Gc_t h35 h41
      refine if_i (fun c => ?_) (fun c => ?_)
      · have c43 := c
        have d44 : x12.1.toInt = (0 : Int) := eqi.mp c43
        exact ⟨((0 : Int32), x12.2), rfl, h40, hG42, (show (0 : Int) ≤ (0 : Int32).toInt by decide), (show (0 : Int32).toInt ≤ (1 : Int) by decide)⟩
      · have c45 := c
        have d46 : ¬ x12.1.toInt = (0 : Int) := neqi.mp c45
        exact ⟨((1 : Int32), x12.2), rfl, h40, hG42, (show (0 : Int) ≤ (1 : Int32).toInt by decide), (show (1 : Int32).toInt ≤ (1 : Int) by decide)⟩
theorem sf_Clock_move (v1 : Int32) (v2 : Nat) (v4 : Nat) (M : Mem) (hp_v1 : (0 : Int) ≤ v1.toInt ∧ v1.toInt ≤ (7 : Int)) (hk_v2 : kd v2 = 10 + 7) (hk_v4 : kd v4 = 10 + 6) (hJ : J M) : ∃ r : Mem, f_Clock_move v1 v2 v4 M = some r ∧ (J r ∧ Gc 0 M r) := by
  unfold f_Clock_move
  refine c_i hk_v2 ?_
  refine c_i hk_v4 ?_
  refine inb_i (by omega) (by omega) ?_
  refine bind_i (sf_Crowd_stepAt v1 (M.1 (rf v2 2) v1.toNatClampNeg) M hJ) (fun x1 _ q => ?_)
  refine inb_i (by omega) (by omega) ?_
  refine inb_i (by omega) (by omega) ?_
  have r1 := Jr_scene0 hJ hk_v2 v1.toNatClampNeg
  refine bind_i (sf_Nets_toward v4 (M.1 (rf v2 1) v1.toNatClampNeg) (M.1 (rf v2 0) v1.toNatClampNeg) x1 M hk_v4 (⟨show (0 : Int) ≤ (M.1 (rf v2 0) v1.toNatClampNeg).toInt by omega, show (M.1 (rf v2 0) v1.toNatClampNeg).toInt ≤ (35 : Int) by omega⟩) hJ) (fun x2 _ q => ?_)
  obtain ⟨h2, h3⟩ := q
  refine if_i (fun c => ?_) (fun c => ?_)
  · have c4 := c
    have d5 : x2.toInt = (-1 : Int) := eqi.mp c4
    unfold j_Clock_move_71
    refine inb_i (by omega) (by omega) ?_
    refine bind_i (sf_Crowd_placeBehind v1 (M.1 (rf v2 2) v1.toNatClampNeg) M hJ) (fun x3 _ q => ?_)
    refine inb_i (by omega) (by omega) ?_
    refine mem_i (fun M4 e7 => ?_)
    have hJ8 : J M4 := by rw [e7]; exact Jw_scene2 hJ hk_v2 v1.toNatClampNeg x3
    have hG9 : Gc 0 M M4 := Gc_i Gc_r e7 (cl_scene2 hk_v2)
    clear e7
    exact ⟨M4, rfl, hJ8, hG9⟩
  · have c10 := c
    have d11 : ¬ x2.toInt = (-1 : Int) := neqi.mp c10
    refine inb_i (by omega) (by omega) ?_
    refine if_i (fun c => ?_) (fun c => ?_)
    · have c12 := c
      have d13 : x2.toInt = (M.1 (rf v2 0) v1.toNatClampNeg).toInt := eqi.mp c12
      unfold j_Clock_move_71
      refine inb_i (by omega) (by omega) ?_
      refine bind_i (sf_Crowd_placeBehind v1 (M.1 (rf v2 2) v1.toNatClampNeg) M hJ) (fun x3 _ q => ?_)
      refine inb_i (by omega) (by omega) ?_
      refine mem_i (fun M4 e15 => ?_)
      have hJ16 : J M4 := by rw [e15]; exact Jw_scene2 hJ hk_v2 v1.toNatClampNeg x3
      have hG17 : Gc 0 M M4 := Gc_i Gc_r e15 (cl_scene2 hk_v2)
      clear e15
      exact ⟨M4, rfl, hJ16, hG17⟩
    · have c18 := c
      have d19 : ¬ x2.toInt = (M.1 (rf v2 0) v1.toNatClampNeg).toInt := neqi.mp c18
      refine inb_i (by omega) (by omega) ?_
      refine mem_i (fun M5 e21 => ?_)
      have hJ22 : J M5 := by rw [e21]; exact Jw_scene0 hJ hk_v2 v1.toNatClampNeg x2 (show (0 : Int) ≤ x2.toInt by omega) (show x2.toInt ≤ (35 : Int) by omega)
      have hG23 : Gc 0 M M5 := Gc_i Gc_r e21 (cl_scene0 hk_v2)
      have f24 : (M5.1 (rf v2 0) v1.toNatClampNeg).toInt = x2.toInt := by rw [e21, si_eq]
      clear e21
      refine mem_i (fun M6 e26 => ?_)
      have hJ27 : J M6 := by rw [e26]; exact Jw_any ok_45 hJ22 0 ((M5.1 45 0) ||| ((1 : Int32) <<< (v1 &&& 31)))
      have hG28 : Gc 0 M M6 := Gc_i hG23 e26 (by decide)
      clear e26
      unfold j_Clock_move_71
      refine inb_i (by omega) (by omega) ?_
      refine bind_i (sf_Crowd_placeBehind v1 (M6.1 (rf v2 2) v1.toNatClampNeg) M6 hJ27) (fun x3 _ q => ?_)
      refine inb_i (by omega) (by omega) ?_
      refine mem_i (fun M4 e30 => ?_)
      have hJ31 : J M4 := by rw [e30]; exact Jw_scene2 hJ27 hk_v2 v1.toNatClampNeg x3
      have hG32 : Gc 0 M M4 := Gc_i hG28 e30 (cl_scene2 hk_v2)
      clear e30
      exact ⟨M4, rfl, hJ31, hG32⟩
theorem sl_Clock_greet_26 (v1 : Int32) (v2 : Nat) (a0_ : Int32) (N_ : Mem) (B_ : Mem) (hp_v1 : (0 : Int) ≤ v1.toInt ∧ v1.toInt ≤ (7 : Int)) (hk_v2 : kd v2 = 10 + 7) (hN : J N_) (hG : Gc 0 B_ N_) (i2_ : (0 : Int) ≤ a0_.toInt) (i3_ : a0_.toInt ≤ (8 : Int)) : ∃ x, iter (lb_Clock_greet_26 v1 v2) FU (a0_, N_) = some x ∧ (fun r : Mem => J r ∧ Gc 0 B_ r) x := by
  refine iter_r (fun s : Int32 × Mem => J s.2 ∧ Gc 0 B_ s.2 ∧ (0 : Int) ≤ s.1.toInt ∧ s.1.toInt ≤ (8 : Int)) (fun s : Int32 × Mem => (8 - s.1.toInt).toNat) (fun r : Mem => J r ∧ Gc 0 B_ r) ?_ FU (a0_, N_) ⟨hN, hG, i2_, i3_⟩ (by show (8 - a0_.toInt).toNat < FU; rw [FU_v]; omega)
  clear i3_ i2_ hG hN
  rintro ⟨a0_', N_'⟩ ⟨hN, hG, i2_, i3_⟩
  dsimp only at hN hG i2_ i3_
  unfold lb_Clock_greet_26
  dsimp only
  refine if_i (fun c => ?_) (fun c => ?_)
  · have c1 := c
    have r2 := Jr_6_4 hN
    have d3 : (N_'.1 6 4).toInt ≤ a0_'.toInt := lei.mp c1
    exact ⟨_, rfl, hN, hG⟩
  · have c4 := c
    have r5 := Jr_6_4 hN
    have d6 : a0_'.toInt < (N_'.1 6 4).toInt := nlei.mp c4
    refine bind_i (sf_Crowd_woman a0_' N_' hN) (fun x3 _ q => ?_)
    obtain ⟨h7, h8⟩ := q
    refine if_i (fun c => ?_) (fun c => ?_)
    · have c9 := c
      have d10 : x3.toInt = (0 : Int) := eqi.mp c9
      have q11 : (a0_' + (1 : Int32)).toInt = a0_'.toInt + (1 : Int) := add_ti rfl rfl (by omega) (by omega)
      exact ⟨_, rfl, ⟨hN, hG, (show (0 : Int) ≤ (a0_' + (1 : Int32)).toInt by omega), (show (a0_' + (1 : Int32)).toInt ≤ (8 : Int) by omega)⟩, show (8 - (a0_' + (1 : Int32)).toInt).toNat < (8 - a0_'.toInt).toNat by omega⟩
    · have c12 := c
      have d13 : ¬ x3.toInt = (0 : Int) := neqi.mp c12
      refine inb_i (by omega) (by omega) ?_
      refine inb_i (by omega) (by omega) ?_
      refine if_i (fun c => ?_) (fun c => ?_)
      · have c14 := c
        have r15 := Jr_scene0 hN hk_v2 a0_'.toNatClampNeg
        have r16 := Jr_scene0 hN hk_v2 v1.toNatClampNeg
        have d17 : (N_'.1 (rf v2 0) a0_'.toNatClampNeg).toInt = (N_'.1 (rf v2 0) v1.toNatClampNeg).toInt := eqi.mp c14
        refine bind_i (sf_Scene_addMeeting v2 v1 a0_' N_' hk_v2 (⟨show (0 : Int) ≤ v1.toInt by omega, show v1.toInt ≤ (7 : Int) by omega⟩) (⟨show (0 : Int) ≤ a0_'.toInt by omega, show a0_'.toInt ≤ (7 : Int) by omega⟩) hN) (fun x4 _ q => ?_)
        obtain ⟨h18, h19⟩ := q
        have hG20 : Gc 0 B_ x4 := Gc_t hG h19
        refine mem_i (fun M5 e22 => ?_)
        have hJ23 : J M5 := by rw [e22]; exact Jw_any ok_45 h18 2 ((x4.1 45 2) + (1 : Int32))
        have hG24 : Gc 0 B_ M5 := Gc_i hG20 e22 (by decide)
        clear e22
        have q25 : (a0_' + (1 : Int32)).toInt = a0_'.toInt + (1 : Int) := add_ti rfl rfl (by omega) (by omega)
        exact ⟨_, rfl, ⟨hJ23, hG24, (show (0 : Int) ≤ (a0_' + (1 : Int32)).toInt by omega), (show (a0_' + (1 : Int32)).toInt ≤ (8 : Int) by omega)⟩, show (8 - (a0_' + (1 : Int32)).toInt).toNat < (8 - a0_'.toInt).toNat by omega⟩
      · have c26 := c
        have r27 := Jr_scene0 hN hk_v2 a0_'.toNatClampNeg
        have r28 := Jr_scene0 hN hk_v2 v1.toNatClampNeg
        have d29 : ¬ (N_'.1 (rf v2 0) a0_'.toNatClampNeg).toInt = (N_'.1 (rf v2 0) v1.toNatClampNeg).toInt := neqi.mp c26
        have q30 : (a0_' + (1 : Int32)).toInt = a0_'.toInt + (1 : Int) := add_ti rfl rfl (by omega) (by omega)
        exact ⟨_, rfl, ⟨hN, hG, (show (0 : Int) ≤ (a0_' + (1 : Int32)).toInt by omega), (show (a0_' + (1 : Int32)).toInt ≤ (8 : Int) by omega)⟩, show (8 - (a0_' + (1 : Int32)).toInt).toNat < (8 - a0_'.toInt).toNat by omega⟩
theorem sf_Clock_greet (v1 : Int32) (v2 : Nat) (M : Mem) (hp_v1 : (0 : Int) ≤ v1.toInt ∧ v1.toInt ≤ (7 : Int)) (hk_v2 : kd v2 = 10 + 7) (hJ : J M) : ∃ r : Mem, f_Clock_greet v1 v2 M = some r ∧ (J r ∧ Gc 0 M r) := by
  unfold f_Clock_greet
  refine c_i hk_v2 ?_
  refine bind_i (sf_Crowd_woman v1 M hJ) (fun x1 _ q => ?_)
  obtain ⟨h1, h2⟩ := q
  refine if_i (fun c => ?_) (fun c => ?_)
  · have c3 := c
    have d4 : x1.toInt = (0 : Int) := eqi.mp c3
    refine inb_i (by omega) (by omega) ?_
    have r5 := Jr_scene0 hJ hk_v2 v1.toNatClampNeg
    refine bind_i (sf_Ground_isStair (M.1 (rf v2 0) v1.toNatClampNeg) M hJ) (fun x2 _ q => ?_)
    obtain ⟨h6, h7, h8⟩ := q
    refine if_i (fun c => ?_) (fun c => ?_)
    · have c9 := c
      have d10 : x2.toInt = (0 : Int) := eqi.mp c9
      exact ⟨M, rfl, hJ, Gc_r⟩
    · have c11 := c
      have d12 : ¬ x2.toInt = (0 : Int) := neqi.mp c11
      refine bind_i (sl_Clock_greet_26 v1 v2 (0 : Int32) M M (⟨show (0 : Int) ≤ v1.toInt by omega, show v1.toInt ≤ (7 : Int) by omega⟩) hk_v2 hJ Gc_r (show (0 : Int) ≤ (0 : Int32).toInt by decide) (show (0 : Int32).toInt ≤ (8 : Int) by decide)) (fun x9 _ q => ?_)
      obtain ⟨h13, h14⟩ := q
      exact ⟨x9, rfl, h13, h14⟩
  · have c15 := c
    have d16 : ¬ x1.toInt = (0 : Int) := neqi.mp c15
    exact ⟨M, rfl, hJ, Gc_r⟩
theorem sl_Clock_hearers_68 (v2 : Nat) (v5 : Int32) (M : Mem) (a0_ : Int32) (a1_ : Int32) (hk_v2 : kd v2 = 10 + 7) (hp_v5 : (0 : Int) ≤ v5.toInt ∧ v5.toInt ≤ (35 : Int)) (hJ_M : J M) (i0_ : (0 : Int) ≤ a1_.toInt) (i1_ : a1_.toInt ≤ (4 : Int)) : ∃ x, iter (lb_Clock_hearers_68 v2 v5 M) FU (a0_, a1_) = some x ∧ (fun r : Int32 => True) x := by
  refine iter_r (fun s : Int32 × Int32 => (0 : Int) ≤ s.2.toInt ∧ s.2.toInt ≤ (4 : Int)) (fun s : Int32 × Int32 => (4 - s.2.toInt).toNat) (fun r : Int32 => True) ?_ FU (a0_, a1_) ⟨i0_, i1_⟩ (by show (4 - a1_.toInt).toNat < FU; rw [FU_v]; omega)
  clear i1_ i0_
  rintro ⟨a0_', a1_'⟩ ⟨i0_, i1_⟩
  dsimp only at i0_ i1_
  unfold lb_Clock_hearers_68
  dsimp only
  refine if_i (fun c => ?_) (fun c => ?_)
  · have c1 := c
    have d2 : (4 : Int) ≤ a1_'.toInt := lei.mp c1
    exact ⟨_, rfl, trivial⟩
  · have c3 := c
    have d4 : a1_'.toInt < (4 : Int) := nlei.mp c3
    refine bind_i (sf_Ground_beside v5 a1_' M hJ_M) (fun x3 _ q => ?_)
    obtain ⟨h5, h6, h7⟩ := q
    have r8 := Jr_6_4 hJ_M
    refine bind_i (sf_Scene_standing v2 (0 : Int32) x3 (M.1 6 4) M hk_v2 (⟨show (0 : Int) ≤ (M.1 6 4).toInt by omega, show (M.1 6 4).toInt ≤ (8 : Int) by omega⟩) hJ_M) (fun x4 _ q => ?_)
    have q9 : (a1_' + (1 : Int32)).toInt = a1_'.toInt + (1 : Int) := add_ti rfl rfl (by omega) (by omega)
    exact ⟨_, rfl, ⟨(show (0 : Int) ≤ (a1_' + (1 : Int32)).toInt by omega), (show (a1_' + (1 : Int32)).toInt ≤ (4 : Int) by omega)⟩, show (4 - (a1_' + (1 : Int32)).toInt).toNat < (4 - a1_'.toInt).toNat by omega⟩
theorem sf_Clock_hearers (v1 : Int32) (v2 : Nat) (M : Mem) (hp_v1 : (0 : Int) ≤ v1.toInt ∧ v1.toInt ≤ (7 : Int)) (hk_v2 : kd v2 = 10 + 7) (hJ : J M) : ∃ r : Int32, f_Clock_hearers v1 v2 M = some r ∧ (True) := by
  unfold f_Clock_hearers
  refine c_i hk_v2 ?_
  refine inb_i (by omega) (by omega) ?_
  refine inb_i (by omega) (by omega) ?_
  have r1 := Jr_6_4 hJ
  refine bind_i (sf_Scene_standing v2 (M.1 (rf v2 1) v1.toNatClampNeg) (M.1 (rf v2 0) v1.toNatClampNeg) (M.1 6 4) M hk_v2 (⟨show (0 : Int) ≤ (M.1 6 4).toInt by omega, show (M.1 6 4).toInt ≤ (8 : Int) by omega⟩) hJ) (fun x1 _ q => ?_)
  have r2 := Jr_scene0 hJ hk_v2 v1.toNatClampNeg
  refine bind_i (sf_Ground_isStair (M.1 (rf v2 0) v1.toNatClampNeg) M hJ) (fun x2 _ q => ?_)
  obtain ⟨h3, h4, h5⟩ := q
  refine if_i (fun c => ?_) (fun c => ?_)
  · have c6 := c
    have d7 : x2.toInt = (0 : Int) := eqi.mp c6
    unfold j_Clock_hearers_59
    refine if_i (fun c => ?_) (fun c => ?_)
    · have c8 := c
      have r9 := Jr_scene1 hJ hk_v2 v1.toNatClampNeg
      have d10 : (M.1 (rf v2 1) v1.toNatClampNeg).toInt = (1 : Int) := eqi.mp c8
      refine bind_i (sl_Clock_hearers_68 v2 (M.1 (rf v2 0) v1.toNatClampNeg) M x1 (0 : Int32) hk_v2 (⟨show (0 : Int) ≤ (M.1 (rf v2 0) v1.toNatClampNeg).toInt by omega, show (M.1 (rf v2 0) v1.toNatClampNeg).toInt ≤ (35 : Int) by omega⟩) hJ (show (0 : Int) ≤ (0 : Int32).toInt by decide) (show (0 : Int32).toInt ≤ (4 : Int) by decide)) (fun x6 _ q => ?_)
      exact ⟨x6, rfl, trivial⟩
    · have c11 := c
      have r12 := Jr_scene1 hJ hk_v2 v1.toNatClampNeg
      have d13 : ¬ (M.1 (rf v2 1) v1.toNatClampNeg).toInt = (1 : Int) := neqi.mp c11
      exact ⟨x1, rfl, trivial⟩
  · have c14 := c
    have d15 : ¬ x2.toInt = (0 : Int) := neqi.mp c14
    refine bind_i (sf_Scene_standing v2 ((1 : Int32) - (M.1 (rf v2 1) v1.toNatClampNeg)) (M.1 (rf v2 0) v1.toNatClampNeg) (M.1 6 4) M hk_v2 (⟨show (0 : Int) ≤ (M.1 6 4).toInt by omega, show (M.1 6 4).toInt ≤ (8 : Int) by omega⟩) hJ) (fun x8 _ q => ?_)
    unfold j_Clock_hearers_59
    refine if_i (fun c => ?_) (fun c => ?_)
    · have c16 := c
      have r17 := Jr_scene1 hJ hk_v2 v1.toNatClampNeg
      have d18 : (M.1 (rf v2 1) v1.toNatClampNeg).toInt = (1 : Int) := eqi.mp c16
      refine bind_i (sl_Clock_hearers_68 v2 (M.1 (rf v2 0) v1.toNatClampNeg) M (x1 ||| x8) (0 : Int32) hk_v2 (⟨show (0 : Int) ≤ (M.1 (rf v2 0) v1.toNatClampNeg).toInt by omega, show (M.1 (rf v2 0) v1.toNatClampNeg).toInt ≤ (35 : Int) by omega⟩) hJ (show (0 : Int) ≤ (0 : Int32).toInt by decide) (show (0 : Int32).toInt ≤ (4 : Int) by decide)) (fun x6 _ q => ?_)
      exact ⟨x6, rfl, trivial⟩
    · have c19 := c
      have r20 := Jr_scene1 hJ hk_v2 v1.toNatClampNeg
      have d21 : ¬ (M.1 (rf v2 1) v1.toNatClampNeg).toInt = (1 : Int) := neqi.mp c19
      exact ⟨(x1 ||| x8), rfl, trivial⟩
theorem sl_Clock_pass_8 (v1 : Nat) (v5 : Nat) (a0_ : Int32) (N_ : Mem) (B_ : Mem) (hk_v1 : kd v1 = 10 + 7) (hk_v5 : kd v5 = 10 + 6) (hN : J N_) (hG : Gc 0 B_ N_) (i2_ : (0 : Int) ≤ a0_.toInt) (i3_ : a0_.toInt ≤ (8 : Int)) : ∃ x, iter (lb_Clock_pass_8 v1 v5) FU (a0_, N_) = some x ∧ (fun r : Mem => J r ∧ Gc 0 B_ r) x := by
  refine iter_r (fun s : Int32 × Mem => J s.2 ∧ Gc 0 B_ s.2 ∧ (0 : Int) ≤ s.1.toInt ∧ s.1.toInt ≤ (8 : Int)) (fun s : Int32 × Mem => (8 - s.1.toInt).toNat) (fun r : Mem => J r ∧ Gc 0 B_ r) ?_ FU (a0_, N_) ⟨hN, hG, i2_, i3_⟩ (by show (8 - a0_.toInt).toNat < FU; rw [FU_v]; omega)
  clear i3_ i2_ hG hN
  rintro ⟨a0_', N_'⟩ ⟨hN, hG, i2_, i3_⟩
  dsimp only at hN hG i2_ i3_
  unfold lb_Clock_pass_8
  dsimp only
  refine if_i (fun c => ?_) (fun c => ?_)
  · have c1 := c
    have r2 := Jr_6_4 hN
    have d3 : (N_'.1 6 4).toInt ≤ a0_'.toInt := lei.mp c1
    exact ⟨_, rfl, hN, hG⟩
  · have c4 := c
    have r5 := Jr_6_4 hN
    have d6 : a0_'.toInt < (N_'.1 6 4).toInt := nlei.mp c4
    refine bind_i (sf_Law_goes a0_' v1 N_' (⟨show (0 : Int) ≤ a0_'.toInt by omega, show a0_'.toInt ≤ (7 : Int) by omega⟩) hk_v1 hN) (fun x2 _ q => ?_)
    obtain ⟨h7, h8, h9, h10⟩ := q
    have hG11 : Gc 0 B_ x2.2 := Gc_t hG h8
    refine if_i (fun c => ?_) (fun c => ?_)
    · have c12 := c
      have d13 : x2.1.toInt = (0 : Int) := eqi.mp c12
      have q14 : (a0_' + (1 : Int32)).toInt = a0_'.toInt + (1 : Int) := add_ti rfl rfl (by omega) (by omega)
      exact ⟨_, rfl, ⟨h7, hG11, (show (0 : Int) ≤ (a0_' + (1 : Int32)).toInt by omega), (show (a0_' + (1 : Int32)).toInt ≤ (8 : Int) by omega)⟩, show (8 - (a0_' + (1 : Int32)).toInt).toNat < (8 - a0_'.toInt).toNat by omega⟩
    · have c15 := c
      have d16 : ¬ x2.1.toInt = (0 : Int) := neqi.mp c15
      refine bind_i (sf_Clock_move a0_' v1 v5 x2.2 (⟨show (0 : Int) ≤ a0_'.toInt by omega, show a0_'.toInt ≤ (7 : Int) by omega⟩) hk_v1 hk_v5 h7) (fun x3 _ q => ?_)
      obtain ⟨h17, h18⟩ := q
      have hG19 : Gc 0 B_ x3 := Gc_t hG11 h18
      have q20 : (a0_' + (1 : Int32)).toInt = a0_'.toInt + (1 : Int) := add_ti rfl rfl (by omega) (by omega)
      exact ⟨_, rfl, ⟨h17, hG19, (show (0 : Int) ≤ (a0_' + (1 : Int32)).toInt by omega), (show (a0_' + (1 : Int32)).toInt ≤ (8 : Int) by omega)⟩, show (8 - (a0_' + (1 : Int32)).toInt).toNat < (8 - a0_'.toInt).toNat by omega⟩
