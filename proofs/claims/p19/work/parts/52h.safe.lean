/-! safety of the class, 8 -/
theorem sl_Nets_stepNearer_3 (v0 : Nat) (v1 : Int32) (v2 : Int32) (v3 : Nat) (M : Mem) (a0_ : Int32) (hk_v0 : kd v0 = 10 + 6) (hp_v1 : (0 : Int) ≤ v1.toInt ∧ v1.toInt ≤ (1 : Int)) (hp_v2 : (0 : Int) ≤ v2.toInt ∧ v2.toInt ≤ (35 : Int)) (hk_v3 : FA v3) (hJ_M : J M) (i0_ : (0 : Int) ≤ a0_.toInt) (i1_ : a0_.toInt ≤ (4 : Int)) : ∃ x, iter (lb_Nets_stepNearer_3 v0 v1 v2 v3 M) FU a0_ = some x ∧ (SQ (fun r : Unit => True) (fun r : Int32 => (0 : Int) ≤ r.toInt ∧ r.toInt ≤ (3 : Int))) x := by
  refine iter_r (fun s : Int32 => (0 : Int) ≤ s.toInt ∧ s.toInt ≤ (4 : Int)) (fun s : Int32 => (4 - s.toInt).toNat) (SQ (fun r : Unit => True) (fun r : Int32 => (0 : Int) ≤ r.toInt ∧ r.toInt ≤ (3 : Int))) ?_ FU a0_ ⟨i0_, i1_⟩ (by show (4 - a0_.toInt).toNat < FU; rw [FU_v]; omega)
  clear i1_ i0_
  rintro a0_' ⟨i0_, i1_⟩
  unfold lb_Nets_stepNearer_3
  refine if_i (fun c => ?_) (fun c => ?_)
  · have c1 := c
    have d2 : (4 : Int) ≤ a0_'.toInt := lei.mp c1
    exact ⟨_, rfl, trivial⟩
  · have c3 := c
    have d4 : a0_'.toInt < (4 : Int) := nlei.mp c3
    refine bind_i (sf_Nets_toward v0 v1 v2 a0_' M hk_v0 (⟨show (0 : Int) ≤ v2.toInt by omega, show v2.toInt ≤ (35 : Int) by omega⟩) hJ_M) (fun x1 _ q => ?_)
    obtain ⟨h5, h6⟩ := q
    refine if_i (fun c => ?_) (fun c => ?_)
    · have c7 := c
      have d8 : x1.toInt = (-1 : Int) := eqi.mp c7
      have q9 : (a0_' + (1 : Int32)).toInt = a0_'.toInt + (1 : Int) := add_ti rfl rfl (by omega) (by omega)
      exact ⟨_, rfl, ⟨(show (0 : Int) ≤ (a0_' + (1 : Int32)).toInt by omega), (show (a0_' + (1 : Int32)).toInt ≤ (4 : Int) by omega)⟩, show (4 - (a0_' + (1 : Int32)).toInt).toNat < (4 - a0_'.toInt).toNat by omega⟩
    · have c10 := c
      have d11 : ¬ x1.toInt = (-1 : Int) := neqi.mp c10
      have l12 := FA_ln hk_v3
      refine inb_i (by omega) (by omega) ?_
      have l13 := FA_ln hk_v3
      refine inb_i (by omega) (by omega) ?_
      refine if_i (fun c => ?_) (fun c => ?_)
      · have c14 := c
        have d15 : (M.1 v3 v2.toNatClampNeg).toInt ≤ (M.1 v3 x1.toNatClampNeg).toInt := lei.mp c14
        have q16 : (a0_' + (1 : Int32)).toInt = a0_'.toInt + (1 : Int) := add_ti rfl rfl (by omega) (by omega)
        exact ⟨_, rfl, ⟨(show (0 : Int) ≤ (a0_' + (1 : Int32)).toInt by omega), (show (a0_' + (1 : Int32)).toInt ≤ (4 : Int) by omega)⟩, show (4 - (a0_' + (1 : Int32)).toInt).toNat < (4 - a0_'.toInt).toNat by omega⟩
      · have c17 := c
        have d18 : (M.1 v3 x1.toNatClampNeg).toInt < (M.1 v3 v2.toNatClampNeg).toInt := nlei.mp c17
        exact ⟨_, rfl, (show (0 : Int) ≤ a0_'.toInt by omega), (show a0_'.toInt ≤ (3 : Int) by omega)⟩
theorem sf_Nets_stepNearer (v0 : Nat) (v1 : Int32) (v2 : Int32) (v3 : Nat) (M : Mem) (hk_v0 : kd v0 = 10 + 6) (hp_v1 : (0 : Int) ≤ v1.toInt ∧ v1.toInt ≤ (1 : Int)) (hp_v2 : (0 : Int) ≤ v2.toInt ∧ v2.toInt ≤ (35 : Int)) (hk_v3 : FA v3) (hJ : J M) : ∃ r : Int32, f_Nets_stepNearer v0 v1 v2 v3 M = some r ∧ ((-1 : Int) ≤ r.toInt ∧ r.toInt ≤ (3 : Int)) := by
  unfold f_Nets_stepNearer
  refine c_i hk_v0 ?_
  refine c_i (FA_kd hk_v3) ?_
  refine bind_i (sl_Nets_stepNearer_3 v0 v1 v2 v3 M (0 : Int32) hk_v0 (⟨show (0 : Int) ≤ v1.toInt by omega, show v1.toInt ≤ (1 : Int) by omega⟩) (⟨show (0 : Int) ≤ v2.toInt by omega, show v2.toInt ≤ (35 : Int) by omega⟩) hk_v3 hJ (show (0 : Int) ≤ (0 : Int32).toInt by decide) (show (0 : Int32).toInt ≤ (4 : Int) by decide)) (fun x1 _ q => ?_)
  rcases x1 with y | y
  · have q9 : True := q
    dsimp only [Sum.elim_inl, Sum.elim_inr]
    exact ⟨(-1 : Int32), rfl, (show (-1 : Int) ≤ (-1 : Int32).toInt by decide), (show (-1 : Int32).toInt ≤ (3 : Int) by decide)⟩
  · have q9 : (0 : Int) ≤ y.toInt ∧ y.toInt ≤ (3 : Int) := q
    dsimp only [Sum.elim_inl, Sum.elim_inr]
    obtain ⟨h4, h5⟩ := q9
    exact ⟨y, rfl, (show (-1 : Int) ≤ y.toInt by omega), (show y.toInt ≤ (3 : Int) by omega)⟩
theorem sf_Nets_stairs (v0 : Nat) (M : Mem) (hk_v0 : kd v0 = 10 + 6) (hJ : J M) : ∃ r : Int64, f_Nets_stairs v0 M = some r ∧ (True) := by
  unfold f_Nets_stairs
  refine c_i hk_v0 ?_
  exact ⟨((M.2.1 (rf v0 0) (0 : Int32).toNatClampNeg) &&& (M.2.1 (rf v0 0) (1 : Int32).toNatClampNeg)), rfl, trivial⟩
theorem sf_Law_rankOf (v0 : Int32) : ∃ r : Int32, f_Law_rankOf v0 = some r ∧ ((0 : Int) ≤ r.toInt ∧ r.toInt ≤ (5 : Int)) := by
  unfold f_Law_rankOf
  refine if_i (fun c => ?_) (fun c => ?_)
  · have c1 := c
    have d2 : v0.toInt = (42 : Int) := eqi.mp c1
    exact ⟨(4 : Int32), rfl, (show (0 : Int) ≤ (4 : Int32).toInt by decide), (show (4 : Int32).toInt ≤ (5 : Int) by decide)⟩
  · have c3 := c
    have d4 : ¬ v0.toInt = (42 : Int) := neqi.mp c3
    refine if_i (fun c => ?_) (fun c => ?_)
    · have c5 := c
      have d6 : v0.toInt = (47 : Int) := eqi.mp c5
      exact ⟨(4 : Int32), rfl, (show (0 : Int) ≤ (4 : Int32).toInt by decide), (show (4 : Int32).toInt ≤ (5 : Int) by decide)⟩
    · have c7 := c
      have d8 : ¬ v0.toInt = (47 : Int) := neqi.mp c7
      refine if_i (fun c => ?_) (fun c => ?_)
      · have c9 := c
        have d10 : v0.toInt = (43 : Int) := eqi.mp c9
        exact ⟨(3 : Int32), rfl, (show (0 : Int) ≤ (3 : Int32).toInt by decide), (show (3 : Int32).toInt ≤ (5 : Int) by decide)⟩
      · have c11 := c
        have d12 : ¬ v0.toInt = (43 : Int) := neqi.mp c11
        refine if_i (fun c => ?_) (fun c => ?_)
        · have c13 := c
          have d14 : v0.toInt = (45 : Int) := eqi.mp c13
          exact ⟨(3 : Int32), rfl, (show (0 : Int) ≤ (3 : Int32).toInt by decide), (show (3 : Int32).toInt ≤ (5 : Int) by decide)⟩
        · have c15 := c
          have d16 : ¬ v0.toInt = (45 : Int) := neqi.mp c15
          refine if_i (fun c => ?_) (fun c => ?_)
          · have c17 := c
            have d18 : v0.toInt = (60 : Int) := eqi.mp c17
            exact ⟨(2 : Int32), rfl, (show (0 : Int) ≤ (2 : Int32).toInt by decide), (show (2 : Int32).toInt ≤ (5 : Int) by decide)⟩
          · have c19 := c
            have d20 : ¬ v0.toInt = (60 : Int) := neqi.mp c19
            refine if_i (fun c => ?_) (fun c => ?_)
            · have c21 := c
              have d22 : v0.toInt = (61 : Int) := eqi.mp c21
              exact ⟨(2 : Int32), rfl, (show (0 : Int) ≤ (2 : Int32).toInt by decide), (show (2 : Int32).toInt ≤ (5 : Int) by decide)⟩
            · have c23 := c
              have d24 : ¬ v0.toInt = (61 : Int) := neqi.mp c23
              refine if_i (fun c => ?_) (fun c => ?_)
              · have c25 := c
                have d26 : v0.toInt = (62 : Int) := eqi.mp c25
                exact ⟨(2 : Int32), rfl, (show (0 : Int) ≤ (2 : Int32).toInt by decide), (show (2 : Int32).toInt ≤ (5 : Int) by decide)⟩
              · have c27 := c
                have d28 : ¬ v0.toInt = (62 : Int) := neqi.mp c27
                refine if_i (fun c => ?_) (fun c => ?_)
                · have c29 := c
                  have d30 : v0.toInt = (256 : Int) := eqi.mp c29
                  exact ⟨(5 : Int32), rfl, (show (0 : Int) ≤ (5 : Int32).toInt by decide), (show (5 : Int32).toInt ≤ (5 : Int) by decide)⟩
                · have c31 := c
                  have d32 : ¬ v0.toInt = (256 : Int) := neqi.mp c31
                  exact ⟨(0 : Int32), rfl, (show (0 : Int) ≤ (0 : Int32).toInt by decide), (show (0 : Int32).toInt ≤ (5 : Int) by decide)⟩
theorem sf_Law_emit (v1 : Int32) (M : Mem) (hJ : J M) : ∃ r : Mem, f_Law_emit v1 M = some r ∧ (J r ∧ Gc 0 M r) := by
  unfold f_Law_emit
  refine if_i (fun c => ?_) (fun c => ?_)
  · have c1 := c
    have d2 : (M.1 40 5).toInt < (0 : Int) := lti.mp c1
    exact ⟨M, rfl, hJ, Gc_r⟩
  · have c3 := c
    have d4 : (0 : Int) ≤ (M.1 40 5).toInt := nlti.mp c3
    refine if_i (fun c => ?_) (fun c => ?_)
    · have c5 := c
      have d6 : (40 : Int) ≤ (M.1 40 5).toInt := lei.mp c5
      exact ⟨M, rfl, hJ, Gc_r⟩
    · have c7 := c
      have d8 : (M.1 40 5).toInt < (40 : Int) := nlei.mp c7
      refine inb_i (by omega) (by omega) ?_
      refine mem_i (fun M1 e10 => ?_)
      have hJ11 : J M1 := by rw [e10]; exact Jw_any ok_42 hJ (M.1 40 5).toNatClampNeg v1
      have hG12 : Gc 0 M M1 := Gc_i Gc_r e10 (by decide)
      have f13 : (M1.1 40 5).toInt = (M.1 40 5).toInt := by rw [e10]; rw [si_ne (by exact fun e => absurd e.1 (by decide))]
      clear e10
      refine mem_i (fun M2 e15 => ?_)
      have hJ16 : J M2 := by rw [e15]; exact Jw_any ok_40 hJ11 5 ((M1.1 40 5) + (1 : Int32))
      have hG17 : Gc 0 M M2 := Gc_i hG12 e15 (by decide)
      have q18 : ((M1.1 40 5) + (1 : Int32)).toInt = (M1.1 40 5).toInt + (1 : Int) := add_ti rfl rfl (by omega) (by omega)
      have f19 : (M2.1 40 5).toInt = ((M1.1 40 5) + (1 : Int32)).toInt := by rw [e15, si_eq]
      clear e15
      exact ⟨M2, rfl, hJ16, hG17⟩
theorem sl_Law_settle_2 (v1 : Int32) (a0_ : Int32) (N_ : Mem) (B_ : Mem) (hN : J N_) (hG : Gc 0 B_ N_) (i2_ : (0 : Int) ≤ a0_.toInt) (i3_ : a0_.toInt ≤ (40 : Int)) : ∃ x, iter (lb_Law_settle_2 v1) FU (a0_, N_) = some x ∧ (SQ (fun r : Mem => J r ∧ Gc 0 B_ r) (fun r : Mem => J r ∧ Gc 0 B_ r)) x := by
  refine iter_r (fun s : Int32 × Mem => J s.2 ∧ Gc 0 B_ s.2 ∧ (0 : Int) ≤ s.1.toInt ∧ s.1.toInt ≤ (40 : Int)) (fun s : Int32 × Mem => (40 - s.1.toInt).toNat) (SQ (fun r : Mem => J r ∧ Gc 0 B_ r) (fun r : Mem => J r ∧ Gc 0 B_ r)) ?_ FU (a0_, N_) ⟨hN, hG, i2_, i3_⟩ (by show (40 - a0_.toInt).toNat < FU; rw [FU_v]; omega)
  clear i3_ i2_ hG hN
  rintro ⟨a0_', N_'⟩ ⟨hN, hG, i2_, i3_⟩
  dsimp only at hN hG i2_ i3_
  unfold lb_Law_settle_2
  dsimp only
  refine if_i (fun c => ?_) (fun c => ?_)
  · have c1 := c
    have d2 : (40 : Int) ≤ a0_'.toInt := lei.mp c1
    exact ⟨_, rfl, hN, hG⟩
  · have c3 := c
    have d4 : a0_'.toInt < (40 : Int) := nlei.mp c3
    refine if_i (fun c => ?_) (fun c => ?_)
    · have c5 := c
      have d6 : (N_'.1 40 6).toInt < (1 : Int) := lti.mp c5
      exact ⟨_, rfl, hN, hG⟩
    · have c7 := c
      have d8 : (1 : Int) ≤ (N_'.1 40 6).toInt := nlti.mp c7
      refine if_i (fun c => ?_) (fun c => ?_)
      · have c9 := c
        have d10 : (40 : Int) < (N_'.1 40 6).toInt := lti.mp c9
        exact ⟨_, rfl, hN, hG⟩
      · have c11 := c
        have d12 : (N_'.1 40 6).toInt ≤ (40 : Int) := nlti.mp c11
        have q13 : ((N_'.1 40 6) - (1 : Int32)).toInt = (N_'.1 40 6).toInt - (1 : Int) := sub_ti rfl rfl (by omega) (by omega)
        refine inb_i (by omega) (by omega) ?_
        refine if_i (fun c => ?_) (fun c => ?_)
        · have c14 := c
          have d15 : (N_'.1 43 ((N_'.1 40 6) - (1 : Int32)).toNatClampNeg).toInt = (40 : Int) := eqi.mp c14
          exact ⟨_, rfl, hN, hG⟩
        · have c16 := c
          have d17 : ¬ (N_'.1 43 ((N_'.1 40 6) - (1 : Int32)).toNatClampNeg).toInt = (40 : Int) := neqi.mp c16
          refine inb_i (by omega) (by omega) ?_
          refine bind_i (sf_Law_rankOf (N_'.1 43 ((N_'.1 40 6) - (1 : Int32)).toNatClampNeg)) (fun x1 _ q => ?_)
          obtain ⟨h18, h19⟩ := q
          refine if_i (fun c => ?_) (fun c => ?_)
          · have c20 := c
            have d21 : v1.toInt ≤ x1.toInt := lei.mp c20
            refine mem_i (fun M2 e23 => ?_)
            have hJ24 : J M2 := by rw [e23]; exact Jw_any ok_40 hN 6 ((N_'.1 40 6) - (1 : Int32))
            have hG25 : Gc 0 B_ M2 := Gc_i hG e23 (by decide)
            have f26 : (M2.1 40 6).toInt = ((N_'.1 40 6) - (1 : Int32)).toInt := by rw [e23, si_eq]
            clear e23
            refine inb_i (by omega) (by omega) ?_
            refine bind_i (sf_Law_emit (-(M2.1 43 (M2.1 40 6).toNatClampNeg)) M2 hJ24) (fun x3 _ q => ?_)
            obtain ⟨h27, h28⟩ := q
            have hG29 : Gc 0 B_ x3 := Gc_t hG25 h28
            have q30 : (a0_' + (1 : Int32)).toInt = a0_'.toInt + (1 : Int) := add_ti rfl rfl (by omega) (by omega)
            exact ⟨_, rfl, ⟨h27, hG29, (show (0 : Int) ≤ (a0_' + (1 : Int32)).toInt by omega), (show (a0_' + (1 : Int32)).toInt ≤ (40 : Int) by omega)⟩, show (40 - (a0_' + (1 : Int32)).toInt).toNat < (40 - a0_'.toInt).toNat by omega⟩
          · have c31 := c
            have d32 : x1.toInt < v1.toInt := nlei.mp c31
            exact ⟨_, rfl, hN, hG⟩
theorem sf_Law_settle (v1 : Int32) (M : Mem) (hJ : J M) : ∃ r : Mem, f_Law_settle v1 M = some r ∧ (J r ∧ Gc 0 M r) := by
  unfold f_Law_settle
  refine bind_i (sl_Law_settle_2 v1 (0 : Int32) M M hJ Gc_r (show (0 : Int) ≤ (0 : Int32).toInt by decide) (show (0 : Int32).toInt ≤ (40 : Int) by decide)) (fun x1 _ q => ?_)
  rcases x1 with y | y
  · have q9 : J y ∧ Gc 0 M y := q
    dsimp only [Sum.elim_inl, Sum.elim_inr]
    obtain ⟨h3, h4⟩ := q9
    exact ⟨y, rfl, h3, h4⟩
  · have q9 : J y ∧ Gc 0 M y := q
    dsimp only [Sum.elim_inl, Sum.elim_inr]
    obtain ⟨h6, h7⟩ := q9
    exact ⟨y, rfl, h6, h7⟩
theorem sf_Law_hold (v1 : Int32) (M : Mem) (hJ : J M) : ∃ r : Mem, f_Law_hold v1 M = some r ∧ (J r ∧ Gc 0 M r) := by
  unfold f_Law_hold
  refine if_i (fun c => ?_) (fun c => ?_)
  · have c1 := c
    have d2 : (M.1 40 6).toInt < (0 : Int) := lti.mp c1
    exact ⟨M, rfl, hJ, Gc_r⟩
  · have c3 := c
    have d4 : (0 : Int) ≤ (M.1 40 6).toInt := nlti.mp c3
    refine if_i (fun c => ?_) (fun c => ?_)
    · have c5 := c
      have d6 : (40 : Int) ≤ (M.1 40 6).toInt := lei.mp c5
      exact ⟨M, rfl, hJ, Gc_r⟩
    · have c7 := c
      have d8 : (M.1 40 6).toInt < (40 : Int) := nlei.mp c7
      refine inb_i (by omega) (by omega) ?_
      refine mem_i (fun M1 e10 => ?_)
      have hJ11 : J M1 := by rw [e10]; exact Jw_any ok_43 hJ (M.1 40 6).toNatClampNeg v1
      have hG12 : Gc 0 M M1 := Gc_i Gc_r e10 (by decide)
      have f13 : (M1.1 40 6).toInt = (M.1 40 6).toInt := by rw [e10]; rw [si_ne (by exact fun e => absurd e.1 (by decide))]
      clear e10
      refine mem_i (fun M2 e15 => ?_)
      have hJ16 : J M2 := by rw [e15]; exact Jw_any ok_40 hJ11 6 ((M1.1 40 6) + (1 : Int32))
      have hG17 : Gc 0 M M2 := Gc_i hG12 e15 (by decide)
      have q18 : ((M1.1 40 6) + (1 : Int32)).toInt = (M1.1 40 6).toInt + (1 : Int) := add_ti rfl rfl (by omega) (by omega)
      have f19 : (M2.1 40 6).toInt = ((M1.1 40 6) + (1 : Int32)).toInt := by rw [e15, si_eq]
      clear e15
      exact ⟨M2, rfl, hJ16, hG17⟩
theorem sf_Law_readBehind (v1 : Int32) (M : Mem) (hJ : J M) : ∃ r : Int32 × Mem, f_Law_readBehind v1 M = some r ∧ (J r.2 ∧ Gc 0 M r.2 ∧ (0 : Int) ≤ r.1.toInt ∧ r.1.toInt ≤ (1 : Int)) := by
  unfold f_Law_readBehind
  refine if_i (fun c => ?_) (fun c => ?_)
  · have c1 := c
    have d2 : v1.toInt = (41 : Int) := eqi.mp c1
    refine if_i (fun c => ?_) (fun c => ?_)
    · have c3 := c
      have d4 : (M.1 40 8).toInt ≤ (0 : Int) := lei.mp c3
      unfold j_Law_readBehind_40
      refine bind_i (sf_Law_rankOf v1) (fun x1 _ q => ?_)
      obtain ⟨h5, h6⟩ := q
      refine if_i (fun c => ?_) (fun c => ?_)
      · have c7 := c
        have d8 : x1.toInt = (0 : Int) := eqi.mp c7
        exact ⟨((0 : Int32), M), rfl, hJ, Gc_r, (show (0 : Int) ≤ (0 : Int32).toInt by decide), (show (0 : Int32).toInt ≤ (1 : Int) by decide)⟩
      · have c9 := c
        have d10 : ¬ x1.toInt = (0 : Int) := neqi.mp c9
        refine if_i (fun c => ?_) (fun c => ?_)
        · have c11 := c
          have d12 : x1.toInt = (2 : Int) := eqi.mp c11
          refine if_i (fun c => ?_) (fun c => ?_)
          · have c13 := c
            have q14 : (0 : Int) ≤ (((M.1 40 9) >>> ((M.1 40 8) &&& 31)) &&& (1 : Int32)).toInt ∧ (((M.1 40 9) >>> ((M.1 40 8) &&& 31)) &&& (1 : Int32)).toInt ≤ 1 := and_rng (by decide)
            have d15 : (((M.1 40 9) >>> ((M.1 40 8) &&& 31)) &&& (1 : Int32)).toInt = (0 : Int) := eqi.mp c13
            unfold j_Law_readBehind_70
            refine if_i (fun c => ?_) (fun c => ?_)
            · have c16 := c
              have d17 : x1.toInt = (2 : Int) := eqi.mp c16
              refine mem_i (fun M5 e19 => ?_)
              have hJ20 : J M5 := by rw [e19]; exact Jw_any ok_40 hJ 9 ((M.1 40 9) ||| ((1 : Int32) <<< ((M.1 40 8) &&& 31)))
              have hG21 : Gc 0 M M5 := Gc_i Gc_r e19 (by decide)
              have f22 : (M5.1 40 8).toInt = (M.1 40 8).toInt := by rw [e19]; rw [si_ne (by exact fun e => absurd e.2 (by decide))]
              clear e19
              unfold j_Law_readBehind_90
              refine bind_i (sf_Law_settle x1 M5 hJ20) (fun x2 _ q => ?_)
              obtain ⟨h23, h24⟩ := q
              have hG25 : Gc 0 M x2 := Gc_t hG21 h24
              refine bind_i (sf_Law_hold v1 x2 h23) (fun x3 _ q => ?_)
              obtain ⟨h26, h27⟩ := q
              have hG28 : Gc 0 M x3 := Gc_t hG25 h27
              refine mem_i (fun M4 e30 => ?_)
              have hJ31 : J M4 := by rw [e30]; exact Jw_any ok_40 h26 10 (0 : Int32)
              have hG32 : Gc 0 M M4 := Gc_i hG28 e30 (by decide)
              have f33 : (M4.1 40 10).toInt = (0 : Int) := by rw [e30, si_eq]; rfl
              clear e30
              exact ⟨((1 : Int32), M4), rfl, hJ31, hG32, (show (0 : Int) ≤ (1 : Int32).toInt by decide), (show (1 : Int32).toInt ≤ (1 : Int) by decide)⟩
            · have c34 := c
              have d35 : ¬ x1.toInt = (2 : Int) := neqi.mp c34
              exfalso; omega
          · have c36 := c
            have q37 : (0 : Int) ≤ (((M.1 40 9) >>> ((M.1 40 8) &&& 31)) &&& (1 : Int32)).toInt ∧ (((M.1 40 9) >>> ((M.1 40 8) &&& 31)) &&& (1 : Int32)).toInt ≤ 1 := and_rng (by decide)
            have d38 : ¬ (((M.1 40 9) >>> ((M.1 40 8) &&& 31)) &&& (1 : Int32)).toInt = (0 : Int) := neqi.mp c36
            exact ⟨((0 : Int32), M), rfl, hJ, Gc_r, (show (0 : Int) ≤ (0 : Int32).toInt by decide), (show (0 : Int32).toInt ≤ (1 : Int) by decide)⟩
        · have c39 := c
          have d40 : ¬ x1.toInt = (2 : Int) := neqi.mp c39
          unfold j_Law_readBehind_70
          refine if_i (fun c => ?_) (fun c => ?_)
          · have c41 := c
            have d42 : x1.toInt = (2 : Int) := eqi.mp c41
            refine mem_i (fun M5 e44 => ?_)
            have hJ45 : J M5 := by rw [e44]; exact Jw_any ok_40 hJ 9 ((M.1 40 9) ||| ((1 : Int32) <<< ((M.1 40 8) &&& 31)))
            have hG46 : Gc 0 M M5 := Gc_i Gc_r e44 (by decide)
            have f47 : (M5.1 40 8).toInt = (M.1 40 8).toInt := by rw [e44]; rw [si_ne (by exact fun e => absurd e.2 (by decide))]
            clear e44
            unfold j_Law_readBehind_90
            refine bind_i (sf_Law_settle x1 M5 hJ45) (fun x2 _ q => ?_)
            obtain ⟨h48, h49⟩ := q
            have hG50 : Gc 0 M x2 := Gc_t hG46 h49
            refine bind_i (sf_Law_hold v1 x2 h48) (fun x3 _ q => ?_)
            obtain ⟨h51, h52⟩ := q
            have hG53 : Gc 0 M x3 := Gc_t hG50 h52
            refine mem_i (fun M4 e55 => ?_)
            have hJ56 : J M4 := by rw [e55]; exact Jw_any ok_40 h51 10 (0 : Int32)
            have hG57 : Gc 0 M M4 := Gc_i hG53 e55 (by decide)
            have f58 : (M4.1 40 10).toInt = (0 : Int) := by rw [e55, si_eq]; rfl
            clear e55
            exact ⟨((1 : Int32), M4), rfl, hJ56, hG57, (show (0 : Int) ≤ (1 : Int32).toInt by decide), (show (1 : Int32).toInt ≤ (1 : Int) by decide)⟩
          · have c59 := c
            have d60 : ¬ x1.toInt = (2 : Int) := neqi.mp c59
            unfold j_Law_readBehind_90
            refine bind_i (sf_Law_settle x1 M hJ) (fun x2 _ q => ?_)
            obtain ⟨h61, h62⟩ := q
            have hG63 : Gc 0 M x2 := Gc_t Gc_r h62
            refine bind_i (sf_Law_hold v1 x2 h61) (fun x3 _ q => ?_)
            obtain ⟨h64, h65⟩ := q
            have hG66 : Gc 0 M x3 := Gc_t hG63 h65
            refine mem_i (fun M4 e68 => ?_)
            have hJ69 : J M4 := by rw [e68]; exact Jw_any ok_40 h64 10 (0 : Int32)
            have hG70 : Gc 0 M M4 := Gc_i hG66 e68 (by decide)
            have f71 : (M4.1 40 10).toInt = (0 : Int) := by rw [e68, si_eq]; rfl
            clear e68
            exact ⟨((1 : Int32), M4), rfl, hJ69, hG70, (show (0 : Int) ≤ (1 : Int32).toInt by decide), (show (1 : Int32).toInt ≤ (1 : Int) by decide)⟩
    · have c72 := c
      have d73 : (0 : Int) < (M.1 40 8).toInt := nlei.mp c72
      refine bind_i (sf_Law_settle (1 : Int32) M hJ) (fun x10 _ q => ?_)
      obtain ⟨h74, h75⟩ := q
      have hG76 : Gc 0 M x10 := Gc_t Gc_r h75
      refine mem_i (fun M11 e78 => ?_)
      have hJ79 : J M11 := by rw [e78]; exact Jw_any ok_40 h74 6 ((x10.1 40 6) - (1 : Int32))
      have hG80 : Gc 0 M M11 := Gc_i hG76 e78 (by decide)
      clear e78
      refine mem_i (fun M12 e82 => ?_)
      have hJ83 : J M12 := by rw [e82]; exact Jw_any ok_40 hJ79 8 ((M11.1 40 8) - (1 : Int32))
      have hG84 : Gc 0 M M12 := Gc_i hG80 e82 (by decide)
      clear e82
      exact ⟨((1 : Int32), M12), rfl, hJ83, hG84, (show (0 : Int) ≤ (1 : Int32).toInt by decide), (show (1 : Int32).toInt ≤ (1 : Int) by decide)⟩
  · have c85 := c
    have d86 : ¬ v1.toInt = (41 : Int) := neqi.mp c85
    unfold j_Law_readBehind_40
    refine bind_i (sf_Law_rankOf v1) (fun x1 _ q => ?_)
    obtain ⟨h87, h88⟩ := q
    refine if_i (fun c => ?_) (fun c => ?_)
    · have c89 := c
      have d90 : x1.toInt = (0 : Int) := eqi.mp c89
      exact ⟨((0 : Int32), M), rfl, hJ, Gc_r, (show (0 : Int) ≤ (0 : Int32).toInt by decide), (show (0 : Int32).toInt ≤ (1 : Int) by decide)⟩
    · have c91 := c
      have d92 : ¬ x1.toInt = (0 : Int) := neqi.mp c91
      refine if_i (fun c => ?_) (fun c => ?_)
      · have c93 := c
        have d94 : x1.toInt = (2 : Int) := eqi.mp c93
        refine if_i (fun c => ?_) (fun c => ?_)
        · have c95 := c
          have q96 : (0 : Int) ≤ (((M.1 40 9) >>> ((M.1 40 8) &&& 31)) &&& (1 : Int32)).toInt ∧ (((M.1 40 9) >>> ((M.1 40 8) &&& 31)) &&& (1 : Int32)).toInt ≤ 1 := and_rng (by decide)
          have d97 : (((M.1 40 9) >>> ((M.1 40 8) &&& 31)) &&& (1 : Int32)).toInt = (0 : Int) := eqi.mp c95
          unfold j_Law_readBehind_70
          refine if_i (fun c => ?_) (fun c => ?_)
          · have c98 := c
            have d99 : x1.toInt = (2 : Int) := eqi.mp c98
            refine mem_i (fun M5 e101 => ?_)
            have hJ102 : J M5 := by rw [e101]; exact Jw_any ok_40 hJ 9 ((M.1 40 9) ||| ((1 : Int32) <<< ((M.1 40 8) &&& 31)))
            have hG103 : Gc 0 M M5 := Gc_i Gc_r e101 (by decide)
            clear e101
            unfold j_Law_readBehind_90
            refine bind_i (sf_Law_settle x1 M5 hJ102) (fun x2 _ q => ?_)
            obtain ⟨h104, h105⟩ := q
            have hG106 : Gc 0 M x2 := Gc_t hG103 h105
            refine bind_i (sf_Law_hold v1 x2 h104) (fun x3 _ q => ?_)
            obtain ⟨h107, h108⟩ := q
            have hG109 : Gc 0 M x3 := Gc_t hG106 h108
            refine mem_i (fun M4 e111 => ?_)
            have hJ112 : J M4 := by rw [e111]; exact Jw_any ok_40 h107 10 (0 : Int32)
            have hG113 : Gc 0 M M4 := Gc_i hG109 e111 (by decide)
            have f114 : (M4.1 40 10).toInt = (0 : Int) := by rw [e111, si_eq]; rfl
            clear e111
            exact ⟨((1 : Int32), M4), rfl, hJ112, hG113, (show (0 : Int) ≤ (1 : Int32).toInt by decide), (show (1 : Int32).toInt ≤ (1 : Int) by decide)⟩
          · have c115 := c
            have d116 : ¬ x1.toInt = (2 : Int) := neqi.mp c115
            exfalso; omega
        · have c117 := c
          have q118 : (0 : Int) ≤ (((M.1 40 9) >>> ((M.1 40 8) &&& 31)) &&& (1 : Int32)).toInt ∧ (((M.1 40 9) >>> ((M.1 40 8) &&& 31)) &&& (1 : Int32)).toInt ≤ 1 := and_rng (by decide)
          have d119 : ¬ (((M.1 40 9) >>> ((M.1 40 8) &&& 31)) &&& (1 : Int32)).toInt = (0 : Int) := neqi.mp c117
          exact ⟨((0 : Int32), M), rfl, hJ, Gc_r, (show (0 : Int) ≤ (0 : Int32).toInt by decide), (show (0 : Int32).toInt ≤ (1 : Int) by decide)⟩
      · have c120 := c
        have d121 : ¬ x1.toInt = (2 : Int) := neqi.mp c120
        unfold j_Law_readBehind_70
        refine if_i (fun c => ?_) (fun c => ?_)
        · have c122 := c
          have d123 : x1.toInt = (2 : Int) := eqi.mp c122
          refine mem_i (fun M5 e125 => ?_)
          have hJ126 : J M5 := by rw [e125]; exact Jw_any ok_40 hJ 9 ((M.1 40 9) ||| ((1 : Int32) <<< ((M.1 40 8) &&& 31)))
          have hG127 : Gc 0 M M5 := Gc_i Gc_r e125 (by decide)
          clear e125
          unfold j_Law_readBehind_90
          refine bind_i (sf_Law_settle x1 M5 hJ126) (fun x2 _ q => ?_)
          obtain ⟨h128, h129⟩ := q
          have hG130 : Gc 0 M x2 := Gc_t hG127 h129
          refine bind_i (sf_Law_hold v1 x2 h128) (fun x3 _ q => ?_)
          obtain ⟨h131, h132⟩ := q
          have hG133 : Gc 0 M x3 := Gc_t hG130 h132
          refine mem_i (fun M4 e135 => ?_)
          have hJ136 : J M4 := by rw [e135]; exact Jw_any ok_40 h131 10 (0 : Int32)
          have hG137 : Gc 0 M M4 := Gc_i hG133 e135 (by decide)
          have f138 : (M4.1 40 10).toInt = (0 : Int) := by rw [e135, si_eq]; rfl
          clear e135
          exact ⟨((1 : Int32), M4), rfl, hJ136, hG137, (show (0 : Int) ≤ (1 : Int32).toInt by decide), (show (1 : Int32).toInt ≤ (1 : Int) by decide)⟩
        · have c139 := c
          have d140 : ¬ x1.toInt = (2 : Int) := neqi.mp c139
          unfold j_Law_readBehind_90
          refine bind_i (sf_Law_settle x1 M hJ) (fun x2 _ q => ?_)
          obtain ⟨h141, h142⟩ := q
          have hG143 : Gc 0 M x2 := Gc_t Gc_r h142
          refine bind_i (sf_Law_hold v1 x2 h141) (fun x3 _ q => ?_)
          obtain ⟨h144, h145⟩ := q
          have hG146 : Gc 0 M x3 := Gc_t hG143 h145
          refine mem_i (fun M4 e148 => ?_)
          have hJ149 : J M4 := by rw [e148]; exact Jw_any ok_40 h144 10 (0 : Int32)
          have hG150 : Gc 0 M M4 := Gc_i hG146 e148 (by decide)
          have f151 : (M4.1 40 10).toInt = (0 : Int) := by rw [e148, si_eq]; rfl
          clear e148
          exact ⟨((1 : Int32), M4), rfl, hJ149, hG150, (show (0 : Int) ≤ (1 : Int32).toInt by decide), (show (1 : Int32).toInt ≤ (1 : Int) by decide)⟩
