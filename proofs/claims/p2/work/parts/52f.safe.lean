/-! safety of the class, 6 -/
theorem sf_History_add (v1 : Nat) (M : Mem) (hk_v1 : kd v1 = 10 + 7) (hJ : J M) : ∃ r : Mem, f_History_add v1 M = some r ∧ (J r) := by
  unfold f_History_add
  refine c_i hk_v1 ?_
  refine if_i (fun c => ?_) (fun c => ?_)
  · have c1 := c
    have r2 := Jr_46_2 hJ
    have d3 : (M.1 46 2).toInt < (12 : Int) := lti.mp c1
    unfold j_History_add_58
    refine inb_i (by omega) (by omega) ?_
    refine bind_i (Jq_47 hJ (i := (M.1 46 2)) (by omega) (by omega)) (fun a1 _ hk_a1 => ?_)
    refine c_i hk_a1 ?_
    refine bind_i (sf_Scene_copy a1 v1 M hk_a1 hk_v1 hJ) (fun x2 _ q => ?_)
    obtain ⟨h4, h5⟩ := q
    have f6 : (x2.1 46 2).toInt = (M.1 46 2).toInt := by rw [h5]
    have r8 := Jr_46_2 h4
    have q9 : ((x2.1 46 2) + (1 : Int32)).toInt = (x2.1 46 2).toInt + (1 : Int) := add_ti rfl rfl (by omega) (by omega)
    refine mem_i (fun M3 e10 => ?_)
    have hJ11 : J M3 := by rw [e10]; exact Jw_46_2 h4 ((x2.1 46 2) + (1 : Int32)) (show (0 : Int) ≤ ((x2.1 46 2) + (1 : Int32)).toInt by omega) (show ((x2.1 46 2) + (1 : Int32)).toInt ≤ (12 : Int) by omega)
    have f12 : (M3.1 46 2).toInt = ((x2.1 46 2) + (1 : Int32)).toInt := by rw [e10, si_eq]
    clear e10
    exact ⟨M3, rfl, hJ11⟩
  · have c13 := c
    have r14 := Jr_46_2 hJ
    have d15 : (12 : Int) ≤ (M.1 46 2).toInt := nlti.mp c13
    refine c_i (by decide) ?_
    refine bind_i (Jq_47 hJ (i := (0 : Int32)) (by decide) (by decide)) (fun a4 _ hk_a4 => ?_)
    refine c_i hk_a4 ?_
    refine bind_i (sl_History_add_18 v1 a4 (1 : Int32) M hk_v1 hk_a4 hJ (show (1 : Int) ≤ (1 : Int32).toInt by decide) (show (1 : Int32).toInt ≤ (12 : Int) by decide)) (fun x8 _ q => ?_)
    have h16 := q
    refine mem_i (fun M9 e18 => ?_)
    have hJ19 : J M9 := by rw [e18]; exact J_sq h16 hk_a4
    clear e18
    refine mem_i (fun M10 e21 => ?_)
    have hJ22 : J M10 := by rw [e21]; exact Jw_46_2 hJ19 (11 : Int32) (show (0 : Int) ≤ (11 : Int32).toInt by decide) (show (11 : Int32).toInt ≤ (12 : Int) by decide)
    have f23 : (M10.1 46 2).toInt = (11 : Int) := by rw [e21, si_eq]; rfl
    clear e21
    unfold j_History_add_58
    refine inb_i (by omega) (by omega) ?_
    refine bind_i (Jq_47 hJ22 (i := (M10.1 46 2)) (by omega) (by omega)) (fun a1 _ hk_a1 => ?_)
    refine c_i hk_a1 ?_
    refine bind_i (sf_Scene_copy a1 v1 M10 hk_a1 hk_v1 hJ22) (fun x2 _ q => ?_)
    obtain ⟨h24, h25⟩ := q
    have f26 : (x2.1 46 2).toInt = (M10.1 46 2).toInt := by rw [h25]
    have r28 := Jr_46_2 h24
    have q29 : ((x2.1 46 2) + (1 : Int32)).toInt = (x2.1 46 2).toInt + (1 : Int) := add_ti rfl rfl (by omega) (by omega)
    refine mem_i (fun M3 e30 => ?_)
    have hJ31 : J M3 := by rw [e30]; exact Jw_46_2 h24 ((x2.1 46 2) + (1 : Int32)) (show (0 : Int) ≤ ((x2.1 46 2) + (1 : Int32)).toInt by omega) (show ((x2.1 46 2) + (1 : Int32)).toInt ≤ (12 : Int) by omega)
    have f32 : (M3.1 46 2).toInt = ((x2.1 46 2) + (1 : Int32)).toInt := by rw [e30, si_eq]
    clear e30
    exact ⟨M3, rfl, hJ31⟩
theorem sf_History_back (v1 : Nat) (M : Mem) (hk_v1 : kd v1 = 10 + 7) (hJ : J M) : ∃ r : Int32 × Mem, f_History_back v1 M = some r ∧ (J r.2 ∧ (0 : Int) ≤ r.1.toInt ∧ r.1.toInt ≤ (1 : Int)) := by
  unfold f_History_back
  refine c_i hk_v1 ?_
  refine if_i (fun c => ?_) (fun c => ?_)
  · have c1 := c
    have r2 := Jr_46_2 hJ
    have d3 : (M.1 46 2).toInt < (1 : Int) := lti.mp c1
    exact ⟨((0 : Int32), M), rfl, hJ, (show (0 : Int) ≤ (0 : Int32).toInt by decide), (show (0 : Int32).toInt ≤ (1 : Int) by decide)⟩
  · have c4 := c
    have r5 := Jr_46_2 hJ
    have d6 : (1 : Int) ≤ (M.1 46 2).toInt := nlti.mp c4
    refine if_i (fun c => ?_) (fun c => ?_)
    · have c7 := c
      have d8 : (M.1 46 2).toInt ≤ (12 : Int) := lei.mp c7
      have q10 : ((M.1 46 2) - (1 : Int32)).toInt = (M.1 46 2).toInt - (1 : Int) := sub_ti rfl rfl (by omega) (by omega)
      refine mem_i (fun M1 e11 => ?_)
      have hJ12 : J M1 := by rw [e11]; exact Jw_46_2 hJ ((M.1 46 2) - (1 : Int32)) (show (0 : Int) ≤ ((M.1 46 2) - (1 : Int32)).toInt by omega) (show ((M.1 46 2) - (1 : Int32)).toInt ≤ (12 : Int) by omega)
      have f13 : (M1.1 46 2).toInt = ((M.1 46 2) - (1 : Int32)).toInt := by rw [e11, si_eq]
      clear e11
      refine inb_i (by omega) (by omega) ?_
      refine bind_i (Jq_47 hJ12 (i := (M1.1 46 2)) (by omega) (by omega)) (fun a2 _ hk_a2 => ?_)
      refine c_i hk_a2 ?_
      refine bind_i (sf_Scene_copy v1 a2 M1 hk_v1 hk_a2 hJ12) (fun x3 _ q => ?_)
      obtain ⟨h14, h15⟩ := q
      have f16 : (x3.1 46 2).toInt = (M1.1 46 2).toInt := by rw [h15]
      exact ⟨((1 : Int32), x3), rfl, h14, (show (0 : Int) ≤ (1 : Int32).toInt by decide), (show (1 : Int32).toInt ≤ (1 : Int) by decide)⟩
    · have c17 := c
      have d18 : (12 : Int) < (M.1 46 2).toInt := nlei.mp c17
      exfalso; omega
theorem sf_History_store (v1 : Int32) (v2 : Nat) (M : Mem) (hk_v2 : kd v2 = 10 + 7) (hJ : J M) : ∃ r : Int32 × Mem, f_History_store v1 v2 M = some r ∧ (J r.2 ∧ (0 : Int) ≤ r.1.toInt ∧ r.1.toInt ≤ (1 : Int)) := by
  unfold f_History_store
  refine c_i hk_v2 ?_
  refine if_i (fun c => ?_) (fun c => ?_)
  · have c1 := c
    have d2 : v1.toInt < (0 : Int) := lti.mp c1
    exact ⟨((0 : Int32), M), rfl, hJ, (show (0 : Int) ≤ (0 : Int32).toInt by decide), (show (0 : Int32).toInt ≤ (1 : Int) by decide)⟩
  · have c3 := c
    have d4 : (0 : Int) ≤ v1.toInt := nlti.mp c3
    refine if_i (fun c => ?_) (fun c => ?_)
    · have c5 := c
      have d6 : v1.toInt < (2 : Int) := lti.mp c5
      refine inb_i (by omega) (by omega) ?_
      refine bind_i (Jq_48 hJ (i := v1) (by omega) (by omega)) (fun a1 _ hk_a1 => ?_)
      refine c_i hk_a1 ?_
      refine bind_i (sf_Scene_copy a1 v2 M hk_a1 hk_v2 hJ) (fun x2 _ q => ?_)
      obtain ⟨h7, h8⟩ := q
      refine mem_i (fun M3 e10 => ?_)
      have hJ11 : J M3 := by rw [e10]; exact Jw_fld okf_46_3 h7 ((x2.1 46 3) ||| ((1 : Int32) <<< (v1 &&& 31)))
      clear e10
      exact ⟨((1 : Int32), M3), rfl, hJ11, (show (0 : Int) ≤ (1 : Int32).toInt by decide), (show (1 : Int32).toInt ≤ (1 : Int) by decide)⟩
    · have c12 := c
      have d13 : (2 : Int) ≤ v1.toInt := nlti.mp c12
      exact ⟨((0 : Int32), M), rfl, hJ, (show (0 : Int) ≤ (0 : Int32).toInt by decide), (show (0 : Int32).toInt ≤ (1 : Int) by decide)⟩
theorem sf_History_restore (v1 : Int32) (v2 : Nat) (M : Mem) (hk_v2 : kd v2 = 10 + 7) (hJ : J M) : ∃ r : Int32 × Mem, f_History_restore v1 v2 M = some r ∧ (J r.2 ∧ (0 : Int) ≤ r.1.toInt ∧ r.1.toInt ≤ (1 : Int)) := by
  unfold f_History_restore
  refine c_i hk_v2 ?_
  refine if_i (fun c => ?_) (fun c => ?_)
  · have c1 := c
    have d2 : v1.toInt < (0 : Int) := lti.mp c1
    exact ⟨((0 : Int32), M), rfl, hJ, (show (0 : Int) ≤ (0 : Int32).toInt by decide), (show (0 : Int32).toInt ≤ (1 : Int) by decide)⟩
  · have c3 := c
    have d4 : (0 : Int) ≤ v1.toInt := nlti.mp c3
    refine if_i (fun c => ?_) (fun c => ?_)
    · have c5 := c
      have d6 : (2 : Int) ≤ v1.toInt := lei.mp c5
      exact ⟨((0 : Int32), M), rfl, hJ, (show (0 : Int) ≤ (0 : Int32).toInt by decide), (show (0 : Int32).toInt ≤ (1 : Int) by decide)⟩
    · have c7 := c
      have d8 : v1.toInt < (2 : Int) := nlei.mp c7
      refine if_i (fun c => ?_) (fun c => ?_)
      · have c9 := c
        have q10 : (0 : Int) ≤ (((M.1 46 3) >>> (v1 &&& 31)) &&& (1 : Int32)).toInt ∧ (((M.1 46 3) >>> (v1 &&& 31)) &&& (1 : Int32)).toInt ≤ 1 := and_rng (by decide)
        have d11 : (((M.1 46 3) >>> (v1 &&& 31)) &&& (1 : Int32)).toInt = (0 : Int) := eqi.mp c9
        exact ⟨((0 : Int32), M), rfl, hJ, (show (0 : Int) ≤ (0 : Int32).toInt by decide), (show (0 : Int32).toInt ≤ (1 : Int) by decide)⟩
      · have c12 := c
        have q13 : (0 : Int) ≤ (((M.1 46 3) >>> (v1 &&& 31)) &&& (1 : Int32)).toInt ∧ (((M.1 46 3) >>> (v1 &&& 31)) &&& (1 : Int32)).toInt ≤ 1 := and_rng (by decide)
        have d14 : ¬ (((M.1 46 3) >>> (v1 &&& 31)) &&& (1 : Int32)).toInt = (0 : Int) := neqi.mp c12
        refine inb_i (by omega) (by omega) ?_
        refine bind_i (Jq_48 hJ (i := v1) (by omega) (by omega)) (fun a1 _ hk_a1 => ?_)
        refine c_i hk_a1 ?_
        refine bind_i (sf_Scene_copy v2 a1 M hk_v2 hk_a1 hJ) (fun x2 _ q => ?_)
        obtain ⟨h15, h16⟩ := q
        exact ⟨((1 : Int32), x2), rfl, h15, (show (0 : Int) ≤ (1 : Int32).toInt by decide), (show (1 : Int32).toInt ≤ (1 : Int) by decide)⟩
theorem sf_Nets_isOf (v0 : Nat) (v1 : Int32) (v2 : Int32) (M : Mem) (hk_v0 : kd v0 = 10 + 6) (hp_v1 : (0 : Int) ≤ v1.toInt ∧ v1.toInt ≤ (1 : Int)) (hJ : J M) : ∃ r : Int32, f_Nets_isOf v0 v1 v2 M = some r ∧ ((0 : Int) ≤ r.toInt ∧ r.toInt ≤ (1 : Int)) := by
  unfold f_Nets_isOf
  refine c_i hk_v0 ?_
  refine inb_i (by omega) (by omega) ?_
  refine if_i (fun c => ?_) (fun c => ?_)
  · have c1 := c
    have d2 : (lg_cmp (((M.2.1 (rf v0 0) v1.toNatClampNeg) >>> (v2.toInt64 &&& 63)) &&& (1 : Int64)) (0 : Int64)).toInt = (0 : Int) := eqi.mp c1
    exact ⟨(0 : Int32), rfl, (show (0 : Int) ≤ (0 : Int32).toInt by decide), (show (0 : Int32).toInt ≤ (1 : Int) by decide)⟩
  · have c3 := c
    have d4 : ¬ (lg_cmp (((M.2.1 (rf v0 0) v1.toNatClampNeg) >>> (v2.toInt64 &&& 63)) &&& (1 : Int64)) (0 : Int64)).toInt = (0 : Int) := neqi.mp c3
    exact ⟨(1 : Int32), rfl, (show (0 : Int) ≤ (1 : Int32).toInt by decide), (show (1 : Int32).toInt ≤ (1 : Int) by decide)⟩
theorem sl_Nets_link_19 (v0 : Nat) (v2 : Int32) (v3 : Int32) (v4 : Int32) (a0_ : Int32) (N_ : Mem) (hk_v0 : kd v0 = 10 + 6) (hp_v2 : (0 : Int) ≤ v2.toInt ∧ v2.toInt ≤ (1 : Int)) (hp_v3 : (0 : Int) ≤ v3.toInt ∧ v3.toInt ≤ (35 : Int)) (hp_v4 : (0 : Int) ≤ v4.toInt ∧ v4.toInt ≤ (71 : Int)) (hN : J N_) (i1_ : (0 : Int) ≤ a0_.toInt) (i2_ : a0_.toInt ≤ (4 : Int)) : ∃ x, iter (lb_Nets_link_19 v0 v2 v3 v4) FU (a0_, N_) = some x ∧ (fun r : Mem => J r) x := by
  refine iter_r (fun s : Int32 × Mem => J s.2 ∧ (0 : Int) ≤ s.1.toInt ∧ s.1.toInt ≤ (4 : Int)) (fun s : Int32 × Mem => (4 - s.1.toInt).toNat) (fun r : Mem => J r) ?_ FU (a0_, N_) ⟨hN, i1_, i2_⟩ (by show (4 - a0_.toInt).toNat < FU; rw [FU_v]; omega)
  clear i2_ i1_ hN
  rintro ⟨a0_', N_'⟩ ⟨hN, i1_, i2_⟩
  dsimp only at hN i1_ i2_
  unfold lb_Nets_link_19
  dsimp only
  refine if_i (fun c => ?_) (fun c => ?_)
  · have c1 := c
    have d2 : (4 : Int) ≤ a0_'.toInt := lei.mp c1
    exact ⟨_, rfl, hN⟩
  · have c3 := c
    have d4 : a0_'.toInt < (4 : Int) := nlei.mp c3
    refine bind_i (sf_Ground_beside v3 a0_' N_' hN) (fun x2 _ q => ?_)
    obtain ⟨h5, h6, h7⟩ := q
    refine if_i (fun c => ?_) (fun c => ?_)
    · have c8 := c
      have d9 : x2.toInt = (-1 : Int) := eqi.mp c8
      unfold j_Nets_link_64_19
      refine if_i (fun c => ?_) (fun c => ?_)
      · have c10 := c
        have d11 : (0 : Int) = (0 : Int) := eqi.mp c10
        unfold j_Nets_link_88_19
        have q12 : (v4 * (4 : Int32)).toInt = v4.toInt * (4 : Int) := mul_ti rfl rfl (by omega) (by omega)
        have q13 : ((v4 * (4 : Int32)) + a0_').toInt = (v4 * (4 : Int32)).toInt + a0_'.toInt := add_ti rfl rfl (by omega) (by omega)
        have l14 := ln_nets2 hk_v0
        refine inb_i (by omega) (by omega) ?_
        refine mem_i (fun M3 e16 => ?_)
        have hJ17 : J M3 := by rw [e16]; exact Jw_nets2 hN hk_v0 ((v4 * (4 : Int32)) + a0_').toNatClampNeg (-1 : Int32) (show (-1 : Int) ≤ (-1 : Int32).toInt by decide) (show (-1 : Int32).toInt ≤ (35 : Int) by decide)
        have f18 : (M3.1 (rf v0 2) ((v4 * (4 : Int32)) + a0_').toNatClampNeg).toInt = (-1 : Int) := by rw [e16, si_eq]; rfl
        clear e16
        refine inb_i (by omega) (by omega) ?_
        refine if_i (fun c => ?_) (fun c => ?_)
        · have c19 := c
          have d20 : (0 : Int) = (0 : Int) := eqi.mp c19
          refine inb_i (by omega) (by omega) ?_
          refine mem_i (fun M4 e22 => ?_)
          have hJ23 : J M4 := by rw [e22]; exact Jl hJ17
          have f24 : (M4.1 (rf v0 2) ((v4 * (4 : Int32)) + a0_').toNatClampNeg).toInt = (M3.1 (rf v0 2) ((v4 * (4 : Int32)) + a0_').toNatClampNeg).toInt := by rw [e22]; rfl
          clear e22
          have q25 : (a0_' + (1 : Int32)).toInt = a0_'.toInt + (1 : Int) := add_ti rfl rfl (by omega) (by omega)
          exact ⟨_, rfl, ⟨hJ23, (show (0 : Int) ≤ (a0_' + (1 : Int32)).toInt by omega), (show (a0_' + (1 : Int32)).toInt ≤ (4 : Int) by omega)⟩, show (4 - (a0_' + (1 : Int32)).toInt).toNat < (4 - a0_'.toInt).toNat by omega⟩
        · have c26 := c
          have d27 : ¬ (0 : Int) = (0 : Int) := neqi.mp c26
          exfalso; omega
      · have c28 := c
        have d29 : ¬ (0 : Int) = (0 : Int) := neqi.mp c28
        exfalso; omega
    · have c30 := c
      have d31 : ¬ x2.toInt = (-1 : Int) := neqi.mp c30
      refine bind_i (sf_Nets_isOf v0 v2 v3 N_' hk_v0 (⟨show (0 : Int) ≤ v2.toInt by omega, show v2.toInt ≤ (1 : Int) by omega⟩) hN) (fun x8 _ q => ?_)
      obtain ⟨h32, h33⟩ := q
      refine if_i (fun c => ?_) (fun c => ?_)
      · have c34 := c
        have d35 : x8.toInt = (0 : Int) := eqi.mp c34
        unfold j_Nets_link_64_19
        refine if_i (fun c => ?_) (fun c => ?_)
        · have c36 := c
          have d37 : (0 : Int) = (0 : Int) := eqi.mp c36
          unfold j_Nets_link_88_19
          have q38 : (v4 * (4 : Int32)).toInt = v4.toInt * (4 : Int) := mul_ti rfl rfl (by omega) (by omega)
          have q39 : ((v4 * (4 : Int32)) + a0_').toInt = (v4 * (4 : Int32)).toInt + a0_'.toInt := add_ti rfl rfl (by omega) (by omega)
          have l40 := ln_nets2 hk_v0
          refine inb_i (by omega) (by omega) ?_
          refine mem_i (fun M3 e42 => ?_)
          have hJ43 : J M3 := by rw [e42]; exact Jw_nets2 hN hk_v0 ((v4 * (4 : Int32)) + a0_').toNatClampNeg (-1 : Int32) (show (-1 : Int) ≤ (-1 : Int32).toInt by decide) (show (-1 : Int32).toInt ≤ (35 : Int) by decide)
          have f44 : (M3.1 (rf v0 2) ((v4 * (4 : Int32)) + a0_').toNatClampNeg).toInt = (-1 : Int) := by rw [e42, si_eq]; rfl
          clear e42
          refine inb_i (by omega) (by omega) ?_
          refine if_i (fun c => ?_) (fun c => ?_)
          · have c45 := c
            have d46 : (0 : Int) = (0 : Int) := eqi.mp c45
            refine inb_i (by omega) (by omega) ?_
            refine mem_i (fun M4 e48 => ?_)
            have hJ49 : J M4 := by rw [e48]; exact Jl hJ43
            have f50 : (M4.1 (rf v0 2) ((v4 * (4 : Int32)) + a0_').toNatClampNeg).toInt = (M3.1 (rf v0 2) ((v4 * (4 : Int32)) + a0_').toNatClampNeg).toInt := by rw [e48]; rfl
            clear e48
            have q51 : (a0_' + (1 : Int32)).toInt = a0_'.toInt + (1 : Int) := add_ti rfl rfl (by omega) (by omega)
            exact ⟨_, rfl, ⟨hJ49, (show (0 : Int) ≤ (a0_' + (1 : Int32)).toInt by omega), (show (a0_' + (1 : Int32)).toInt ≤ (4 : Int) by omega)⟩, show (4 - (a0_' + (1 : Int32)).toInt).toNat < (4 - a0_'.toInt).toNat by omega⟩
          · have c52 := c
            have d53 : ¬ (0 : Int) = (0 : Int) := neqi.mp c52
            exfalso; omega
        · have c54 := c
          have d55 : ¬ (0 : Int) = (0 : Int) := neqi.mp c54
          exfalso; omega
      · have c56 := c
        have d57 : ¬ x8.toInt = (0 : Int) := neqi.mp c56
        refine bind_i (sf_Nets_isOf v0 v2 x2 N_' hk_v0 (⟨show (0 : Int) ≤ v2.toInt by omega, show v2.toInt ≤ (1 : Int) by omega⟩) hN) (fun x9 _ q => ?_)
        obtain ⟨h58, h59⟩ := q
        refine if_i (fun c => ?_) (fun c => ?_)
        · have c60 := c
          have d61 : x9.toInt = (0 : Int) := eqi.mp c60
          unfold j_Nets_link_64_19
          refine if_i (fun c => ?_) (fun c => ?_)
          · have c62 := c
            have d63 : (0 : Int) = (0 : Int) := eqi.mp c62
            unfold j_Nets_link_88_19
            have q64 : (v4 * (4 : Int32)).toInt = v4.toInt * (4 : Int) := mul_ti rfl rfl (by omega) (by omega)
            have q65 : ((v4 * (4 : Int32)) + a0_').toInt = (v4 * (4 : Int32)).toInt + a0_'.toInt := add_ti rfl rfl (by omega) (by omega)
            have l66 := ln_nets2 hk_v0
            refine inb_i (by omega) (by omega) ?_
            refine mem_i (fun M3 e68 => ?_)
            have hJ69 : J M3 := by rw [e68]; exact Jw_nets2 hN hk_v0 ((v4 * (4 : Int32)) + a0_').toNatClampNeg (-1 : Int32) (show (-1 : Int) ≤ (-1 : Int32).toInt by decide) (show (-1 : Int32).toInt ≤ (35 : Int) by decide)
            have f70 : (M3.1 (rf v0 2) ((v4 * (4 : Int32)) + a0_').toNatClampNeg).toInt = (-1 : Int) := by rw [e68, si_eq]; rfl
            clear e68
            refine inb_i (by omega) (by omega) ?_
            refine if_i (fun c => ?_) (fun c => ?_)
            · have c71 := c
              have d72 : (0 : Int) = (0 : Int) := eqi.mp c71
              refine inb_i (by omega) (by omega) ?_
              refine mem_i (fun M4 e74 => ?_)
              have hJ75 : J M4 := by rw [e74]; exact Jl hJ69
              have f76 : (M4.1 (rf v0 2) ((v4 * (4 : Int32)) + a0_').toNatClampNeg).toInt = (M3.1 (rf v0 2) ((v4 * (4 : Int32)) + a0_').toNatClampNeg).toInt := by rw [e74]; rfl
              clear e74
              have q77 : (a0_' + (1 : Int32)).toInt = a0_'.toInt + (1 : Int) := add_ti rfl rfl (by omega) (by omega)
              exact ⟨_, rfl, ⟨hJ75, (show (0 : Int) ≤ (a0_' + (1 : Int32)).toInt by omega), (show (a0_' + (1 : Int32)).toInt ≤ (4 : Int) by omega)⟩, show (4 - (a0_' + (1 : Int32)).toInt).toNat < (4 - a0_'.toInt).toNat by omega⟩
            · have c78 := c
              have d79 : ¬ (0 : Int) = (0 : Int) := neqi.mp c78
              exfalso; omega
          · have c80 := c
            have d81 : ¬ (0 : Int) = (0 : Int) := neqi.mp c80
            exfalso; omega
        · have c82 := c
          have d83 : ¬ x9.toInt = (0 : Int) := neqi.mp c82
          unfold j_Nets_link_64_19
          refine if_i (fun c => ?_) (fun c => ?_)
          · have c84 := c
            have d85 : (1 : Int) = (0 : Int) := eqi.mp c84
            exfalso; omega
          · have c86 := c
            have d87 : ¬ (1 : Int) = (0 : Int) := neqi.mp c86
            unfold j_Nets_link_88_19
            have q88 : (v4 * (4 : Int32)).toInt = v4.toInt * (4 : Int) := mul_ti rfl rfl (by omega) (by omega)
            have q89 : ((v4 * (4 : Int32)) + a0_').toInt = (v4 * (4 : Int32)).toInt + a0_'.toInt := add_ti rfl rfl (by omega) (by omega)
            have l90 := ln_nets2 hk_v0
            refine inb_i (by omega) (by omega) ?_
            refine mem_i (fun M3 e92 => ?_)
            have hJ93 : J M3 := by rw [e92]; exact Jw_nets2 hN hk_v0 ((v4 * (4 : Int32)) + a0_').toNatClampNeg x2 (show (-1 : Int) ≤ x2.toInt by omega) (show x2.toInt ≤ (35 : Int) by omega)
            have f94 : (M3.1 (rf v0 2) ((v4 * (4 : Int32)) + a0_').toNatClampNeg).toInt = x2.toInt := by rw [e92, si_eq]
            clear e92
            refine inb_i (by omega) (by omega) ?_
            refine if_i (fun c => ?_) (fun c => ?_)
            · have c95 := c
              have d96 : (1 : Int) = (0 : Int) := eqi.mp c95
              exfalso; omega
            · have c97 := c
              have d98 : ¬ (1 : Int) = (0 : Int) := neqi.mp c97
              refine inb_i (by omega) (by omega) ?_
              refine mem_i (fun M5 e100 => ?_)
              have hJ101 : J M5 := by rw [e100]; exact Jl hJ93
              have f102 : (M5.1 (rf v0 2) ((v4 * (4 : Int32)) + a0_').toNatClampNeg).toInt = (M3.1 (rf v0 2) ((v4 * (4 : Int32)) + a0_').toNatClampNeg).toInt := by rw [e100]; rfl
              clear e100
              have q103 : (a0_' + (1 : Int32)).toInt = a0_'.toInt + (1 : Int) := add_ti rfl rfl (by omega) (by omega)
              exact ⟨_, rfl, ⟨hJ101, (show (0 : Int) ≤ (a0_' + (1 : Int32)).toInt by omega), (show (a0_' + (1 : Int32)).toInt ≤ (4 : Int) by omega)⟩, show (4 - (a0_' + (1 : Int32)).toInt).toNat < (4 - a0_'.toInt).toNat by omega⟩
theorem sf_Nets_link (v0 : Nat) (v2 : Int32) (v3 : Int32) (M : Mem) (hk_v0 : kd v0 = 10 + 6) (hp_v2 : (0 : Int) ≤ v2.toInt ∧ v2.toInt ≤ (1 : Int)) (hp_v3 : (0 : Int) ≤ v3.toInt ∧ v3.toInt ≤ (35 : Int)) (hJ : J M) : ∃ r : Mem, f_Nets_link v0 v2 v3 M = some r ∧ (J r) := by
  unfold f_Nets_link
  refine c_i hk_v0 ?_
  have q1 : (v2 * (36 : Int32)).toInt = v2.toInt * (36 : Int) := mul_ti rfl rfl (by omega) (by omega)
  have q2 : ((v2 * (36 : Int32)) + v3).toInt = (v2 * (36 : Int32)).toInt + v3.toInt := add_ti rfl rfl (by omega) (by omega)
  refine inb_i (by omega) (by omega) ?_
  refine mem_i (fun M1 e4 => ?_)
  have hJ5 : J M1 := by rw [e4]; exact Jl hJ
  clear e4
  refine bind_i (sl_Nets_link_19 v0 v2 v3 ((v2 * (36 : Int32)) + v3) (0 : Int32) M1 hk_v0 (⟨show (0 : Int) ≤ v2.toInt by omega, show v2.toInt ≤ (1 : Int) by omega⟩) (⟨show (0 : Int) ≤ v3.toInt by omega, show v3.toInt ≤ (35 : Int) by omega⟩) (⟨show (0 : Int) ≤ ((v2 * (36 : Int32)) + v3).toInt by omega, show ((v2 * (36 : Int32)) + v3).toInt ≤ (71 : Int) by omega⟩) hJ5 (show (0 : Int) ≤ (0 : Int32).toInt by decide) (show (0 : Int32).toInt ≤ (4 : Int) by decide)) (fun x14 _ q => ?_)
  have h6 := q
  exact ⟨x14, rfl, h6⟩
theorem sf_Nets_bridge (v0 : Nat) (v2 : Int32) (v3 : Int32) (M : Mem) (hk_v0 : kd v0 = 10 + 6) (hp_v2 : (0 : Int) ≤ v2.toInt ∧ v2.toInt ≤ (35 : Int)) (hp_v3 : (0 : Int) ≤ v3.toInt ∧ v3.toInt ≤ (35 : Int)) (hJ : J M) : ∃ r : Mem, f_Nets_bridge v0 v2 v3 M = some r ∧ (J r) := by
  unfold f_Nets_bridge
  refine c_i hk_v0 ?_
  refine bind_i (sf_Ground_across v2 v3 M hJ) (fun x1 _ q => ?_)
  obtain ⟨h1, h2⟩ := q
  refine if_i (fun c => ?_) (fun c => ?_)
  · have c3 := c
    have d4 : x1.toInt = (-1 : Int) := eqi.mp c3
    exact ⟨M, rfl, hJ⟩
  · have c5 := c
    have d6 : ¬ x1.toInt = (-1 : Int) := neqi.mp c5
    have q7 : ((36 : Int32) + v2).toInt = (36 : Int) + v2.toInt := add_ti rfl rfl (by omega) (by omega)
    have q8 : (((36 : Int32) + v2) * (4 : Int32)).toInt = ((36 : Int32) + v2).toInt * (4 : Int) := mul_ti rfl rfl (by omega) (by omega)
    have q9 : ((((36 : Int32) + v2) * (4 : Int32)) + x1).toInt = (((36 : Int32) + v2) * (4 : Int32)).toInt + x1.toInt := add_ti rfl rfl (by omega) (by omega)
    refine inb_i (by omega) (by omega) ?_
    refine mem_i (fun M2 e11 => ?_)
    have hJ12 : J M2 := by rw [e11]; exact Jw_nets2 hJ hk_v0 ((((36 : Int32) + v2) * (4 : Int32)) + x1).toNatClampNeg v3 (show (-1 : Int) ≤ v3.toInt by omega) (show v3.toInt ≤ (35 : Int) by omega)
    have f13 : (M2.1 (rf v0 2) ((((36 : Int32) + v2) * (4 : Int32)) + x1).toNatClampNeg).toInt = v3.toInt := by rw [e11, si_eq]
    clear e11
    refine inb_i (by omega) (by omega) ?_
    refine inb_i (by omega) (by omega) ?_
    refine mem_i (fun M3 e15 => ?_)
    have hJ16 : J M3 := by rw [e15]; exact Jl hJ12
    have f17 : (M3.1 (rf v0 2) ((((36 : Int32) + v2) * (4 : Int32)) + x1).toNatClampNeg).toInt = (M2.1 (rf v0 2) ((((36 : Int32) + v2) * (4 : Int32)) + x1).toNatClampNeg).toInt := by rw [e15]; rfl
    clear e15
    exact ⟨M3, rfl, hJ16⟩
theorem sl_Nets_lay_27 (v0 : Nat) (v2 : Nat) (v3 : Int32) (v4 : Int32) (a0_ : Int32) (N_ : Mem) (hk_v0 : kd v0 = 10 + 6) (hk_v2 : kd v2 = 10 + 7) (hp_v4 : (0 : Int) ≤ v4.toInt ∧ v4.toInt ≤ (35 : Int)) (hN : J N_) (i1_ : (0 : Int) ≤ a0_.toInt) (i2_ : a0_.toInt ≤ (2 : Int)) : ∃ x, iter (lb_Nets_lay_27 v0 v2 v3 v4) FU (a0_, N_) = some x ∧ (fun r : Mem => J r) x := by
  refine iter_r (fun s : Int32 × Mem => J s.2 ∧ (0 : Int) ≤ s.1.toInt ∧ s.1.toInt ≤ (2 : Int)) (fun s : Int32 × Mem => (2 - s.1.toInt).toNat) (fun r : Mem => J r) ?_ FU (a0_, N_) ⟨hN, i1_, i2_⟩ (by show (2 - a0_.toInt).toNat < FU; rw [FU_v]; omega)
  clear i2_ i1_ hN
  rintro ⟨a0_', N_'⟩ ⟨hN, i1_, i2_⟩
  dsimp only at hN i1_ i2_
  unfold lb_Nets_lay_27
  dsimp only
  refine if_i (fun c => ?_) (fun c => ?_)
  · have c1 := c
    have d2 : (1 : Int) < a0_'.toInt := lti.mp c1
    exact ⟨_, rfl, hN⟩
  · have c3 := c
    have d4 : a0_'.toInt ≤ (1 : Int) := nlti.mp c3
    refine if_i (fun c => ?_) (fun c => ?_)
    · have c5 := c
      have d6 : v4.toInt = v3.toInt := eqi.mp c5
      unfold j_Nets_lay_50_27
      refine inb_i (by omega) (by omega) ?_
      refine inb_i (by omega) (by omega) ?_
      refine mem_i (fun M3 e8 => ?_)
      have hJ9 : J M3 := by rw [e8]; exact Jl hN
      clear e8
      have q10 : (a0_' + (1 : Int32)).toInt = a0_'.toInt + (1 : Int) := add_ti rfl rfl (by omega) (by omega)
      exact ⟨_, rfl, ⟨hJ9, (show (0 : Int) ≤ (a0_' + (1 : Int32)).toInt by omega), (show (a0_' + (1 : Int32)).toInt ≤ (2 : Int) by omega)⟩, show (2 - (a0_' + (1 : Int32)).toInt).toNat < (2 - a0_'.toInt).toNat by omega⟩
    · have c11 := c
      have d12 : ¬ v4.toInt = v3.toInt := neqi.mp c11
      refine bind_i (sf_Ground_holds a0_' v4 N_' hN) (fun x4 _ q => ?_)
      obtain ⟨h13, h14, h15, h16⟩ := q
      refine if_i (fun c => ?_) (fun c => ?_)
      · have c17 := c
        have d18 : x4.toInt = (0 : Int) := eqi.mp c17
        have q19 : (a0_' + (1 : Int32)).toInt = a0_'.toInt + (1 : Int) := add_ti rfl rfl (by omega) (by omega)
        exact ⟨_, rfl, ⟨hN, (show (0 : Int) ≤ (a0_' + (1 : Int32)).toInt by omega), (show (a0_' + (1 : Int32)).toInt ≤ (2 : Int) by omega)⟩, show (2 - (a0_' + (1 : Int32)).toInt).toNat < (2 - a0_'.toInt).toNat by omega⟩
      · have c20 := c
        have d21 : ¬ x4.toInt = (0 : Int) := neqi.mp c20
        unfold j_Nets_lay_50_27
        refine inb_i (by omega) (by omega) ?_
        refine inb_i (by omega) (by omega) ?_
        refine mem_i (fun M3 e23 => ?_)
        have hJ24 : J M3 := by rw [e23]; exact Jl hN
        clear e23
        have q25 : (a0_' + (1 : Int32)).toInt = a0_'.toInt + (1 : Int) := add_ti rfl rfl (by omega) (by omega)
        exact ⟨_, rfl, ⟨hJ24, (show (0 : Int) ≤ (a0_' + (1 : Int32)).toInt by omega), (show (a0_' + (1 : Int32)).toInt ≤ (2 : Int) by omega)⟩, show (2 - (a0_' + (1 : Int32)).toInt).toNat < (2 - a0_'.toInt).toNat by omega⟩
theorem sl_Nets_lay_17 (v0 : Nat) (v2 : Nat) (v3 : Int32) (a0_ : Int32) (N_ : Mem) (hk_v0 : kd v0 = 10 + 6) (hk_v2 : kd v2 = 10 + 7) (hN : J N_) (i1_ : (0 : Int) ≤ a0_.toInt) (i2_ : a0_.toInt ≤ (36 : Int)) : ∃ x, iter (lb_Nets_lay_17 v0 v2 v3) FU (a0_, N_) = some x ∧ (fun r : Mem => J r) x := by
  refine iter_r (fun s : Int32 × Mem => J s.2 ∧ (0 : Int) ≤ s.1.toInt ∧ s.1.toInt ≤ (36 : Int)) (fun s : Int32 × Mem => (36 - s.1.toInt).toNat) (fun r : Mem => J r) ?_ FU (a0_, N_) ⟨hN, i1_, i2_⟩ (by show (36 - a0_.toInt).toNat < FU; rw [FU_v]; omega)
  clear i2_ i1_ hN
  rintro ⟨a0_', N_'⟩ ⟨hN, i1_, i2_⟩
  dsimp only at hN i1_ i2_
  unfold lb_Nets_lay_17
  dsimp only
  refine if_i (fun c => ?_) (fun c => ?_)
  · have c1 := c
    have d2 : (36 : Int) ≤ a0_'.toInt := lei.mp c1
    exact ⟨_, rfl, hN⟩
  · have c3 := c
    have d4 : a0_'.toInt < (36 : Int) := nlei.mp c3
    refine bind_i (sl_Nets_lay_27 v0 v2 v3 a0_' (0 : Int32) N_' hk_v0 hk_v2 (⟨show (0 : Int) ≤ a0_'.toInt by omega, show a0_'.toInt ≤ (35 : Int) by omega⟩) hN (show (0 : Int) ≤ (0 : Int32).toInt by decide) (show (0 : Int32).toInt ≤ (2 : Int) by decide)) (fun x8 _ q => ?_)
    have h5 := q
    have q6 : (a0_' + (1 : Int32)).toInt = a0_'.toInt + (1 : Int) := add_ti rfl rfl (by omega) (by omega)
    exact ⟨_, rfl, ⟨h5, (show (0 : Int) ≤ (a0_' + (1 : Int32)).toInt by omega), (show (a0_' + (1 : Int32)).toInt ≤ (36 : Int) by omega)⟩, show (36 - (a0_' + (1 : Int32)).toInt).toNat < (36 - a0_'.toInt).toNat by omega⟩
