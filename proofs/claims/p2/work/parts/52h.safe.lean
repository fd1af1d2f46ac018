/-! safety of the class, 8 -/
theorem sf_Law_rankOf (v0 : Int32) : ∃ r : Int32, f_Law_rankOf v0 = some r ∧ ((0 : Int) ≤ r.toInt ∧ r.toInt ≤ (5 : Int)) := by
  unfold f_Law_rankOf
  refine if_i (fun c => ?_) (fun c => ?_)
  · have c1 := c
    have d2 : v0.toInt = (42 : Int) := eqi.mp c1
    exact ⟨(4 : Int32), rfl, (show (0 : Int) ≤ (4 : Int32).toInt by decide), (show (4 : Int32).toInt ≤ (5 : Int) by decide)⟩
  · have c3 := c
    have d4 : ¬ v0.toInt = (42 : Int) := neqi.mp c3
    refine if_i (fun c => ?_) (fun c => ?_)
    · have c5 := c
      have d6 : v0.toInt = (47 : Int) := eqi.mp c5
      exact ⟨(4 : Int32), rfl, (show (0 : Int) ≤ (4 : Int32).toInt by decide), (show (4 : Int32).toInt ≤ (5 : Int) by decide)⟩
    · have c7 := c
      have d8 : ¬ v0.toInt = (47 : Int) := neqi.mp c7
      refine if_i (fun c => ?_) (fun c => ?_)
      · have c9 := c
        have d10 : v0.toInt = (43 : Int) := eqi.mp c9
        exact ⟨(3 : Int32), rfl, (show (0 : Int) ≤ (3 : Int32).toInt by decide), (show (3 : Int32).toInt ≤ (5 : Int) by decide)⟩
      · have c11 := c
        have d12 : ¬ v0.toInt = (43 : Int) := neqi.mp c11
        refine if_i (fun c => ?_) (fun c => ?_)
        · have c13 := c
          have d14 : v0.toInt = (45 : Int) := eqi.mp c13
          exact ⟨(3 : Int32), rfl, (show (0 : Int) ≤ (3 : Int32).toInt by decide), (show (3 : Int32).toInt ≤ (5 : Int) by decide)⟩
        · have c15 := c
          have d16 : ¬ v0.toInt = (45 : Int) := neqi.mp c15
          refine if_i (fun c => ?_) (fun c => ?_)
          · have c17 := c
            have d18 : v0.toInt = (60 : Int) := eqi.mp c17
            exact ⟨(2 : Int32), rfl, (show (0 : Int) ≤ (2 : Int32).toInt by decide), (show (2 : Int32).toInt ≤ (5 : Int) by decide)⟩
          · have c19 := c
            have d20 : ¬ v0.toInt = (60 : Int) := neqi.mp c19
            refine if_i (fun c => ?_) (fun c => ?_)
            · have c21 := c
              have d22 : v0.toInt = (61 : Int) := eqi.mp c21
              exact ⟨(2 : Int32), rfl, (show (0 : Int) ≤ (2 : Int32).toInt by decide), (show (2 : Int32).toInt ≤ (5 : Int) by decide)⟩
            · have c23 := c
              have d24 : ¬ v0.toInt = (61 : Int) := neqi.mp c23
              refine if_i (fun c => ?_) (fun c => ?_)
              · have c25 := c
                have d26 : v0.toInt = (62 : Int) := eqi.mp c25
                exact ⟨(2 : Int32), rfl, (show (0 : Int) ≤ (2 : Int32).toInt by decide), (show (2 : Int32).toInt ≤ (5 : Int) by decide)⟩
              · have c27 := c
                have d28 : ¬ v0.toInt = (62 : Int) := neqi.mp c27
                refine if_i (fun c => ?_) (fun c => ?_)
                · have c29 := c
                  have d30 : v0.toInt = (256 : Int) := eqi.mp c29
                  exact ⟨(5 : Int32), rfl, (show (0 : Int) ≤ (5 : Int32).toInt by decide), (show (5 : Int32).toInt ≤ (5 : Int) by decide)⟩
                · have c31 := c
                  have d32 : ¬ v0.toInt = (256 : Int) := neqi.mp c31
                  exact ⟨(0 : Int32), rfl, (show (0 : Int) ≤ (0 : Int32).toInt by decide), (show (0 : Int32).toInt ≤ (5 : Int) by decide)⟩
theorem sf_Law_emit (v1 : Int32) (M : Mem) (hJ : J M) : ∃ r : Mem, f_Law_emit v1 M = some r ∧ (J r) := by
  unfold f_Law_emit
  refine if_i (fun c => ?_) (fun c => ?_)
  · have c1 := c
    have d2 : (M.1 40 5).toInt < (0 : Int) := lti.mp c1
    exact ⟨M, rfl, hJ⟩
  · have c3 := c
    have d4 : (0 : Int) ≤ (M.1 40 5).toInt := nlti.mp c3
    refine if_i (fun c => ?_) (fun c => ?_)
    · have c5 := c
      have d6 : (40 : Int) ≤ (M.1 40 5).toInt := lei.mp c5
      exact ⟨M, rfl, hJ⟩
    · have c7 := c
      have d8 : (M.1 40 5).toInt < (40 : Int) := nlei.mp c7
      refine inb_i (by omega) (by omega) ?_
      refine mem_i (fun M1 e10 => ?_)
      have hJ11 : J M1 := by rw [e10]; exact Jw_any ok_42 hJ (M.1 40 5).toNatClampNeg v1
      have f12 : (M1.1 40 5).toInt = (M.1 40 5).toInt := by rw [e10]; rw [si_ne (by exact fun e => absurd e.1 (by decide))]
      clear e10
      refine mem_i (fun M2 e14 => ?_)
      have hJ15 : J M2 := by rw [e14]; exact Jw_any ok_40 hJ11 5 ((M1.1 40 5) + (1 : Int32))
      have q16 : ((M1.1 40 5) + (1 : Int32)).toInt = (M1.1 40 5).toInt + (1 : Int) := add_ti rfl rfl (by omega) (by omega)
      have f17 : (M2.1 40 5).toInt = ((M1.1 40 5) + (1 : Int32)).toInt := by rw [e14, si_eq]
      clear e14
      exact ⟨M2, rfl, hJ15⟩
theorem sl_Law_settle_2 (v1 : Int32) (a0_ : Int32) (N_ : Mem) (hN : J N_) (i1_ : (0 : Int) ≤ a0_.toInt) (i2_ : a0_.toInt ≤ (40 : Int)) : ∃ x, iter (lb_Law_settle_2 v1) FU (a0_, N_) = some x ∧ (SQ (fun r : Mem => J r) (fun r : Mem => J r)) x := by
  refine iter_r (fun s : Int32 × Mem => J s.2 ∧ (0 : Int) ≤ s.1.toInt ∧ s.1.toInt ≤ (40 : Int)) (fun s : Int32 × Mem => (40 - s.1.toInt).toNat) (SQ (fun r : Mem => J r) (fun r : Mem => J r)) ?_ FU (a0_, N_) ⟨hN, i1_, i2_⟩ (by show (40 - a0_.toInt).toNat < FU; rw [FU_v]; omega)
  clear i2_ i1_ hN
  rintro ⟨a0_', N_'⟩ ⟨hN, i1_, i2_⟩
  dsimp only at hN i1_ i2_
  unfold lb_Law_settle_2
  dsimp only
  refine if_i (fun c => ?_) (fun c => ?_)
  · have c1 := c
    have d2 : (40 : Int) ≤ a0_'.toInt := lei.mp c1
    exact ⟨_, rfl, hN⟩
  · have c3 := c
    have d4 : a0_'.toInt < (40 : Int) := nlei.mp c3
    refine if_i (fun c => ?_) (fun c => ?_)
    · have c5 := c
      have d6 : (N_'.1 40 6).toInt < (1 : Int) := lti.mp c5
      exact ⟨_, rfl, hN⟩
    · have c7 := c
      have d8 : (1 : Int) ≤ (N_'.1 40 6).toInt := nlti.mp c7
      refine if_i (fun c => ?_) (fun c => ?_)
      · have c9 := c
        have d10 : (40 : Int) < (N_'.1 40 6).toInt := lti.mp c9
        exact ⟨_, rfl, hN⟩
      · have c11 := c
        have d12 : (N_'.1 40 6).toInt ≤ (40 : Int) := nlti.mp c11
        have q13 : ((N_'.1 40 6) - (1 : Int32)).toInt = (N_'.1 40 6).toInt - (1 : Int) := sub_ti rfl rfl (by omega) (by omega)
        refine inb_i (by omega) (by omega) ?_
        refine if_i (fun c => ?_) (fun c => ?_)
        · have c14 := c
          have d15 : (N_'.1 43 ((N_'.1 40 6) - (1 : Int32)).toNatClampNeg).toInt = (40 : Int) := eqi.mp c14
          exact ⟨_, rfl, hN⟩
        · have c16 := c
          have d17 : ¬ (N_'.1 43 ((N_'.1 40 6) - (1 : Int32)).toNatClampNeg).toInt = (40 : Int) := neqi.mp c16
          refine inb_i (by omega) (by omega) ?_
          refine bind_i (sf_Law_rankOf (N_'.1 43 ((N_'.1 40 6) - (1 : Int32)).toNatClampNeg)) (fun x1 _ q => ?_)
          obtain ⟨h18, h19⟩ := q
          refine if_i (fun c => ?_) (fun c => ?_)
          · have c20 := c
            have d21 : v1.toInt ≤ x1.toInt := lei.mp c20
            refine mem_i (fun M2 e23 => ?_)
            have hJ24 : J M2 := by rw [e23]; exact Jw_any ok_40 hN 6 ((N_'.1 40 6) - (1 : Int32))
            have f25 : (M2.1 40 6).toInt = ((N_'.1 40 6) - (1 : Int32)).toInt := by rw [e23, si_eq]
            clear e23
            refine inb_i (by omega) (by omega) ?_
            refine bind_i (sf_Law_emit (-(M2.1 43 (M2.1 40 6).toNatClampNeg)) M2 hJ24) (fun x3 _ q => ?_)
            have h26 := q
            have q27 : (a0_' + (1 : Int32)).toInt = a0_'.toInt + (1 : Int) := add_ti rfl rfl (by omega) (by omega)
            exact ⟨_, rfl, ⟨h26, (show (0 : Int) ≤ (a0_' + (1 : Int32)).toInt by omega), (show (a0_' + (1 : Int32)).toInt ≤ (40 : Int) by omega)⟩, show (40 - (a0_' + (1 : Int32)).toInt).toNat < (40 - a0_'.toInt).toNat by omega⟩
          · have c28 := c
            have d29 : x1.toInt < v1.toInt := nlei.mp c28
            exact ⟨_, rfl, hN⟩
theorem sf_Law_settle (v1 : Int32) (M : Mem) (hJ : J M) : ∃ r : Mem, f_Law_settle v1 M = some r ∧ (J r) := by
  unfold f_Law_settle
  refine bind_i (sl_Law_settle_2 v1 (0 : Int32) M hJ (show (0 : Int) ≤ (0 : Int32).toInt by decide) (show (0 : Int32).toInt ≤ (40 : Int) by decide)) (fun x1 _ q => ?_)
  rcases x1 with y | y
  · have q9 : J y := q
    dsimp only [Sum.elim_inl, Sum.elim_inr]
    have h3 := q9
    exact ⟨y, rfl, h3⟩
  · have q9 : J y := q
    dsimp only [Sum.elim_inl, Sum.elim_inr]
    have h5 := q9
    exact ⟨y, rfl, h5⟩
theorem sf_Law_hold (v1 : Int32) (M : Mem) (hJ : J M) : ∃ r : Mem, f_Law_hold v1 M = some r ∧ (J r) := by
  unfold f_Law_hold
  refine if_i (fun c => ?_) (fun c => ?_)
  · have c1 := c
    have d2 : (M.1 40 6).toInt < (0 : Int) := lti.mp c1
    exact ⟨M, rfl, hJ⟩
  · have c3 := c
    have d4 : (0 : Int) ≤ (M.1 40 6).toInt := nlti.mp c3
    refine if_i (fun c => ?_) (fun c => ?_)
    · have c5 := c
      have d6 : (40 : Int) ≤ (M.1 40 6).toInt := lei.mp c5
      exact ⟨M, rfl, hJ⟩
    · have c7 := c
      have d8 : (M.1 40 6).toInt < (40 : Int) := nlei.mp c7
      refine inb_i (by omega) (by omega) ?_
      refine mem_i (fun M1 e10 => ?_)
      have hJ11 : J M1 := by rw [e10]; exact Jw_any ok_43 hJ (M.1 40 6).toNatClampNeg v1
      have f12 : (M1.1 40 6).toInt = (M.1 40 6).toInt := by rw [e10]; rw [si_ne (by exact fun e => absurd e.1 (by decide))]
      clear e10
      refine mem_i (fun M2 e14 => ?_)
      have hJ15 : J M2 := by rw [e14]; exact Jw_any ok_40 hJ11 6 ((M1.1 40 6) + (1 : Int32))
      have q16 : ((M1.1 40 6) + (1 : Int32)).toInt = (M1.1 40 6).toInt + (1 : Int) := add_ti rfl rfl (by omega) (by omega)
      have f17 : (M2.1 40 6).toInt = ((M1.1 40 6) + (1 : Int32)).toInt := by rw [e14, si_eq]
      clear e14
      exact ⟨M2, rfl, hJ15⟩
theorem sf_Law_readBehind (v1 : Int32) (M : Mem) (hJ : J M) : ∃ r : Int32 × Mem, f_Law_readBehind v1 M = some r ∧ (J r.2 ∧ (0 : Int) ≤ r.1.toInt ∧ r.1.toInt ≤ (1 : Int)) := by
  unfold f_Law_readBehind
  refine if_i (fun c => ?_) (fun c => ?_)
  · have c1 := c
    have d2 : v1.toInt = (41 : Int) := eqi.mp c1
    refine if_i (fun c => ?_) (fun c => ?_)
    · have c3 := c
      have d4 : (M.1 40 8).toInt ≤ (0 : Int) := lei.mp c3
      unfold j_Law_readBehind_40
      refine bind_i (sf_Law_rankOf v1) (fun x1 _ q => ?_)
      obtain ⟨h5, h6⟩ := q
      refine if_i (fun c => ?_) (fun c => ?_)
      · have c7 := c
        have d8 : x1.toInt = (0 : Int) := eqi.mp c7
        exact ⟨((0 : Int32), M), rfl, hJ, (show (0 : Int) ≤ (0 : Int32).toInt by decide), (show (0 : Int32).toInt ≤ (1 : Int) by decide)⟩
      · have c9 := c
        have d10 : ¬ x1.toInt = (0 : Int) := neqi.mp c9
        refine if_i (fun c => ?_) (fun c => ?_)
        · have c11 := c
          have d12 : x1.toInt = (2 : Int) := eqi.mp c11
          refine if_i (fun c => ?_) (fun c => ?_)
          · have c13 := c
            have q14 : (0 : Int) ≤ (((M.1 40 9) >>> ((M.1 40 8) &&& 31)) &&& (1 : Int32)).toInt ∧ (((M.1 40 9) >>> ((M.1 40 8) &&& 31)) &&& (1 : Int32)).toInt ≤ 1 := and_rng (by decide)
            have d15 : (((M.1 40 9) >>> ((M.1 40 8) &&& 31)) &&& (1 : Int32)).toInt = (0 : Int) := eqi.mp c13
            unfold j_Law_readBehind_70
            refine if_i (fun c => ?_) (fun c => ?_)
            · have c16 := c
              have d17 : x1.toInt = (2 : Int) := eqi.mp c16
              refine mem_i (fun M5 e19 => ?_)
              have hJ20 : J M5 := by rw [e19]; exact Jw_any ok_40 hJ 9 ((M.1 40 9) ||| ((1 : Int32) <<< ((M.1 40 8) &&& 31)))
              have f21 : (M5.1 40 8).toInt = (M.1 40 8).toInt := by rw [e19]; rw [si_ne (by exact fun e => absurd e.2 (by decide))]
              clear e19
              unfold j_Law_readBehind_90
              refine bind_i (sf_Law_settle x1 M5 hJ20) (fun x2 _ q => ?_)
              have h22 := q
              refine bind_i (sf_Law_hold v1 x2 h22) (fun x3 _ q => ?_)
              have h23 := q
              refine mem_i (fun M4 e25 => ?_)
              have hJ26 : J M4 := by rw [e25]; exact Jw_any ok_40 h23 10 (0 : Int32)
              have f27 : (M4.1 40 10).toInt = (0 : Int) := by rw [e25, si_eq]; rfl
              clear e25
              exact ⟨((1 : Int32), M4), rfl, hJ26, (show (0 : Int) ≤ (1 : Int32).toInt by decide), (show (1 : Int32).toInt ≤ (1 : Int) by decide)⟩
            · have c28 := c
              have d29 : ¬ x1.toInt = (2 : Int) := neqi.mp c28
              exfalso; omega
          · have c30 := c
            have q31 : (0 : Int) ≤ (((M.1 40 9) >>> ((M.1 40 8) &&& 31)) &&& (1 : Int32)).toInt ∧ (((M.1 40 9) >>> ((M.1 40 8) &&& 31)) &&& (1 : Int32)).toInt ≤ 1 := and_rng (by decide)
            have d32 : ¬ (((M.1 40 9) >>> ((M.1 40 8) &&& 31)) &&& (1 : Int32)).toInt = (0 : Int) := neqi.mp c30
            exact ⟨((0 : Int32), M), rfl, hJ, (show (0 : Int) ≤ (0 : Int32).toInt by decide), (show (0 : Int32).toInt ≤ (1 : Int) by decide)⟩
        · have c33 := c
          have d34 : ¬ x1.toInt = (2 : Int) := neqi.mp c33
          unfold j_Law_readBehind_70
          refine if_i (fun c => ?_) (fun c => ?_)
          · have c35 := c
            have d36 : x1.toInt = (2 : Int) := eqi.mp c35
            refine mem_i (fun M5 e38 => ?_)
            have hJ39 : J M5 := by rw [e38]; exact Jw_any ok_40 hJ 9 ((M.1 40 9) ||| ((1 : Int32) <<< ((M.1 40 8) &&& 31)))
            have f40 : (M5.1 40 8).toInt = (M.1 40 8).toInt := by rw [e38]; rw [si_ne (by exact fun e => absurd e.2 (by decide))]
            clear e38
            unfold j_Law_readBehind_90
            refine bind_i (sf_Law_settle x1 M5 hJ39) (fun x2 _ q => ?_)
            have h41 := q
            refine bind_i (sf_Law_hold v1 x2 h41) (fun x3 _ q => ?_)
            have h42 := q
            refine mem_i (fun M4 e44 => ?_)
            have hJ45 : J M4 := by rw [e44]; exact Jw_any ok_40 h42 10 (0 : Int32)
            have f46 : (M4.1 40 10).toInt = (0 : Int) := by rw [e44, si_eq]; rfl
            clear e44
            exact ⟨((1 : Int32), M4), rfl, hJ45, (show (0 : Int) ≤ (1 : Int32).toInt by decide), (show (1 : Int32).toInt ≤ (1 : Int) by decide)⟩
          · have c47 := c
            have d48 : ¬ x1.toInt = (2 : Int) := neqi.mp c47
            unfold j_Law_readBehind_90
            refine bind_i (sf_Law_settle x1 M hJ) (fun x2 _ q => ?_)
            have h49 := q
            refine bind_i (sf_Law_hold v1 x2 h49) (fun x3 _ q => ?_)
            have h50 := q
            refine mem_i (fun M4 e52 => ?_)
            have hJ53 : J M4 := by rw [e52]; exact Jw_any ok_40 h50 10 (0 : Int32)
            have f54 : (M4.1 40 10).toInt = (0 : Int) := by rw [e52, si_eq]; rfl
            clear e52
            exact ⟨((1 : Int32), M4), rfl, hJ53, (show (0 : Int) ≤ (1 : Int32).toInt by decide), (show (1 : Int32).toInt ≤ (1 : Int) by decide)⟩
    · have c55 := c
      have d56 : (0 : Int) < (M.1 40 8).toInt := nlei.mp c55
      refine bind_i (sf_Law_settle (1 : Int32) M hJ) (fun x10 _ q => ?_)
      have h57 := q
      refine mem_i (fun M11 e59 => ?_)
      have hJ60 : J M11 := by rw [e59]; exact Jw_any ok_40 h57 6 ((x10.1 40 6) - (1 : Int32))
      clear e59
      refine mem_i (fun M12 e62 => ?_)
      have hJ63 : J M12 := by rw [e62]; exact Jw_any ok_40 hJ60 8 ((M11.1 40 8) - (1 : Int32))
      clear e62
      exact ⟨((1 : Int32), M12), rfl, hJ63, (show (0 : Int) ≤ (1 : Int32).toInt by decide), (show (1 : Int32).toInt ≤ (1 : Int) by decide)⟩
  · have c64 := c
    have d65 : ¬ v1.toInt = (41 : Int) := neqi.mp c64
    unfold j_Law_readBehind_40
    refine bind_i (sf_Law_rankOf v1) (fun x1 _ q => ?_)
    obtain ⟨h66, h67⟩ := q
    refine if_i (fun c => ?_) (fun c => ?_)
    · have c68 := c
      have d69 : x1.toInt = (0 : Int) := eqi.mp c68
      exact ⟨((0 : Int32), M), rfl, hJ, (show (0 : Int) ≤ (0 : Int32).toInt by decide), (show (0 : Int32).toInt ≤ (1 : Int) by decide)⟩
    · have c70 := c
      have d71 : ¬ x1.toInt = (0 : Int) := neqi.mp c70
      refine if_i (fun c => ?_) (fun c => ?_)
      · have c72 := c
        have d73 : x1.toInt = (2 : Int) := eqi.mp c72
        refine if_i (fun c => ?_) (fun c => ?_)
        · have c74 := c
          have q75 : (0 : Int) ≤ (((M.1 40 9) >>> ((M.1 40 8) &&& 31)) &&& (1 : Int32)).toInt ∧ (((M.1 40 9) >>> ((M.1 40 8) &&& 31)) &&& (1 : Int32)).toInt ≤ 1 := and_rng (by decide)
          have d76 : (((M.1 40 9) >>> ((M.1 40 8) &&& 31)) &&& (1 : Int32)).toInt = (0 : Int) := eqi.mp c74
          unfold j_Law_readBehind_70
          refine if_i (fun c => ?_) (fun c => ?_)
          · have c77 := c
            have d78 : x1.toInt = (2 : Int) := eqi.mp c77
            refine mem_i (fun M5 e80 => ?_)
            have hJ81 : J M5 := by rw [e80]; exact Jw_any ok_40 hJ 9 ((M.1 40 9) ||| ((1 : Int32) <<< ((M.1 40 8) &&& 31)))
            clear e80
            unfold j_Law_readBehind_90
            refine bind_i (sf_Law_settle x1 M5 hJ81) (fun x2 _ q => ?_)
            have h82 := q
            refine bind_i (sf_Law_hold v1 x2 h82) (fun x3 _ q => ?_)
            have h83 := q
            refine mem_i (fun M4 e85 => ?_)
            have hJ86 : J M4 := by rw [e85]; exact Jw_any ok_40 h83 10 (0 : Int32)
            have f87 : (M4.1 40 10).toInt = (0 : Int) := by rw [e85, si_eq]; rfl
            clear e85
            exact ⟨((1 : Int32), M4), rfl, hJ86, (show (0 : Int) ≤ (1 : Int32).toInt by decide), (show (1 : Int32).toInt ≤ (1 : Int) by decide)⟩
          · have c88 := c
            have d89 : ¬ x1.toInt = (2 : Int) := neqi.mp c88
            exfalso; omega
        · have c90 := c
          have q91 : (0 : Int) ≤ (((M.1 40 9) >>> ((M.1 40 8) &&& 31)) &&& (1 : Int32)).toInt ∧ (((M.1 40 9) >>> ((M.1 40 8) &&& 31)) &&& (1 : Int32)).toInt ≤ 1 := and_rng (by decide)
          have d92 : ¬ (((M.1 40 9) >>> ((M.1 40 8) &&& 31)) &&& (1 : Int32)).toInt = (0 : Int) := neqi.mp c90
          exact ⟨((0 : Int32), M), rfl, hJ, (show (0 : Int) ≤ (0 : Int32).toInt by decide), (show (0 : Int32).toInt ≤ (1 : Int) by decide)⟩
      · have c93 := c
        have d94 : ¬ x1.toInt = (2 : Int) := neqi.mp c93
        unfold j_Law_readBehind_70
        refine if_i (fun c => ?_) (fun c => ?_)
        · have c95 := c
          have d96 : x1.toInt = (2 : Int) := eqi.mp c95
          refine mem_i (fun M5 e98 => ?_)
          have hJ99 : J M5 := by rw [e98]; exact Jw_any ok_40 hJ 9 ((M.1 40 9) ||| ((1 : Int32) <<< ((M.1 40 8) &&& 31)))
          clear e98
          unfold j_Law_readBehind_90
          refine bind_i (sf_Law_settle x1 M5 hJ99) (fun x2 _ q => ?_)
          have h100 := q
          refine bind_i (sf_Law_hold v1 x2 h100) (fun x3 _ q => ?_)
          have h101 := q
          refine mem_i (fun M4 e103 => ?_)
          have hJ104 : J M4 := by rw [e103]; exact Jw_any ok_40 h101 10 (0 : Int32)
          have f105 : (M4.1 40 10).toInt = (0 : Int) := by rw [e103, si_eq]; rfl
          clear e103
          exact ⟨((1 : Int32), M4), rfl, hJ104, (show (0 : Int) ≤ (1 : Int32).toInt by decide), (show (1 : Int32).toInt ≤ (1 : Int) by decide)⟩
        · have c106 := c
          have d107 : ¬ x1.toInt = (2 : Int) := neqi.mp c106
          unfold j_Law_readBehind_90
          refine bind_i (sf_Law_settle x1 M hJ) (fun x2 _ q => ?_)
          have h108 := q
          refine bind_i (sf_Law_hold v1 x2 h108) (fun x3 _ q => ?_)
          have h109 := q
          refine mem_i (fun M4 e111 => ?_)
          have hJ112 : J M4 := by rw [e111]; exact Jw_any ok_40 h109 10 (0 : Int32)
          have f113 : (M4.1 40 10).toInt = (0 : Int) := by rw [e111, si_eq]; rfl
          clear e111
          exact ⟨((1 : Int32), M4), rfl, hJ112, (show (0 : Int) ≤ (1 : Int32).toInt by decide), (show (1 : Int32).toInt ≤ (1 : Int) by decide)⟩
theorem sf_Law_isQuality (v0 : Int32) : ∃ r : Int32, f_Law_isQuality v0 = some r ∧ ((0 : Int) ≤ r.toInt ∧ r.toInt ≤ (1 : Int)) := by
  unfold f_Law_isQuality
  refine if_i (fun c => ?_) (fun c => ?_)
  · have c1 := c
    have d2 : v0.toInt = (105 : Int) := eqi.mp c1
    exact ⟨(1 : Int32), rfl, (show (0 : Int) ≤ (1 : Int32).toInt by decide), (show (1 : Int32).toInt ≤ (1 : Int) by decide)⟩
  · have c3 := c
    have d4 : ¬ v0.toInt = (105 : Int) := neqi.mp c3
    refine if_i (fun c => ?_) (fun c => ?_)
    · have c5 := c
      have d6 : v0.toInt = (107 : Int) := eqi.mp c5
      exact ⟨(1 : Int32), rfl, (show (0 : Int) ≤ (1 : Int32).toInt by decide), (show (1 : Int32).toInt ≤ (1 : Int) by decide)⟩
    · have c7 := c
      have d8 : ¬ v0.toInt = (107 : Int) := neqi.mp c7
      refine if_i (fun c => ?_) (fun c => ?_)
      · have c9 := c
        have d10 : v0.toInt = (109 : Int) := eqi.mp c9
        exact ⟨(1 : Int32), rfl, (show (0 : Int) ≤ (1 : Int32).toInt by decide), (show (1 : Int32).toInt ≤ (1 : Int) by decide)⟩
      · have c11 := c
        have d12 : ¬ v0.toInt = (109 : Int) := neqi.mp c11
        refine if_i (fun c => ?_) (fun c => ?_)
        · have c13 := c
          have d14 : v0.toInt = (110 : Int) := eqi.mp c13
          exact ⟨(1 : Int32), rfl, (show (0 : Int) ≤ (1 : Int32).toInt by decide), (show (1 : Int32).toInt ≤ (1 : Int) by decide)⟩
        · have c15 := c
          have d16 : ¬ v0.toInt = (110 : Int) := neqi.mp c15
          refine if_i (fun c => ?_) (fun c => ?_)
          · have c17 := c
            have d18 : v0.toInt = (115 : Int) := eqi.mp c17
            exact ⟨(1 : Int32), rfl, (show (0 : Int) ≤ (1 : Int32).toInt by decide), (show (1 : Int32).toInt ≤ (1 : Int) by decide)⟩
          · have c19 := c
            have d20 : ¬ v0.toInt = (115 : Int) := neqi.mp c19
            refine if_i (fun c => ?_) (fun c => ?_)
            · have c21 := c
              have d22 : v0.toInt = (119 : Int) := eqi.mp c21
              exact ⟨(1 : Int32), rfl, (show (0 : Int) ≤ (1 : Int32).toInt by decide), (show (1 : Int32).toInt ≤ (1 : Int) by decide)⟩
            · have c23 := c
              have d24 : ¬ v0.toInt = (119 : Int) := neqi.mp c23
              refine if_i (fun c => ?_) (fun c => ?_)
              · have c25 := c
                have d26 : v0.toInt = (120 : Int) := eqi.mp c25
                exact ⟨(1 : Int32), rfl, (show (0 : Int) ≤ (1 : Int32).toInt by decide), (show (1 : Int32).toInt ≤ (1 : Int) by decide)⟩
              · have c27 := c
                have d28 : ¬ v0.toInt = (120 : Int) := neqi.mp c27
                refine if_i (fun c => ?_) (fun c => ?_)
                · have c29 := c
                  have d30 : v0.toInt = (121 : Int) := eqi.mp c29
                  exact ⟨(1 : Int32), rfl, (show (0 : Int) ≤ (1 : Int32).toInt by decide), (show (1 : Int32).toInt ≤ (1 : Int) by decide)⟩
                · have c31 := c
                  have d32 : ¬ v0.toInt = (121 : Int) := neqi.mp c31
                  exact ⟨(0 : Int32), rfl, (show (0 : Int) ≤ (0 : Int32).toInt by decide), (show (0 : Int32).toInt ≤ (1 : Int) by decide)⟩
theorem sf_Law_readThing (v2 : Int32) (v3 : Int32) (M : Mem) (hJ : J M) : ∃ r : Int32 × Mem, f_Law_readThing v2 v3 M = some r ∧ (J r.2 ∧ (0 : Int) ≤ r.1.toInt ∧ r.1.toInt ≤ (3 : Int)) := by
  unfold f_Law_readThing
  refine if_i (fun c => ?_) (fun c => ?_)
  · have c1 := c
    have d2 : v3.toInt = (45 : Int) := eqi.mp c1
    refine bind_i (sf_Law_hold (256 : Int32) M hJ) (fun x14 _ q => ?_)
    have h3 := q
    exact ⟨((1 : Int32), x14), rfl, h3, (show (0 : Int) ≤ (1 : Int32).toInt by decide), (show (1 : Int32).toInt ≤ (3 : Int) by decide)⟩
  · have c4 := c
    have d5 : ¬ v3.toInt = (45 : Int) := neqi.mp c4
    refine if_i (fun c => ?_) (fun c => ?_)
    · have c6 := c
      have d7 : v3.toInt = (40 : Int) := eqi.mp c6
      refine if_i (fun c => ?_) (fun c => ?_)
      · have c8 := c
        have d9 : (4 : Int) ≤ (M.1 40 8).toInt := lei.mp c8
        unfold j_Law_readThing_63
        refine bind_i (sf_Signs_digits v2 (40 : Int32) (3 : Int32) M (⟨by decide, by decide⟩) hJ) (fun x1 _ q => ?_)
        obtain ⟨h10, h11, h12, h13⟩ := q
        refine if_i (fun c => ?_) (fun c => ?_)
        · have c14 := c
          have d15 : x1.1.toInt ≤ (0 : Int) := lei.mp c14
          refine bind_i (sf_Law_isQuality v3) (fun x2 _ q => ?_)
          obtain ⟨h16, h17⟩ := q
          refine if_i (fun c => ?_) (fun c => ?_)
          · have c18 := c
            have d19 : x2.toInt = (0 : Int) := eqi.mp c18
            exact ⟨((0 : Int32), x1.2), rfl, h10, (show (0 : Int) ≤ (0 : Int32).toInt by decide), (show (0 : Int32).toInt ≤ (3 : Int) by decide)⟩
          · have c20 := c
            have d21 : ¬ x2.toInt = (0 : Int) := neqi.mp c20
            refine bind_i (sf_Law_emit (-v3) x1.2 h10) (fun x3 _ q => ?_)
            have h22 := q
            refine mem_i (fun M4 e24 => ?_)
            have hJ25 : J M4 := by rw [e24]; exact Jw_any ok_40 h22 10 (1 : Int32)
            have f26 : (M4.1 40 10).toInt = (1 : Int) := by rw [e24, si_eq]; rfl
            clear e24
            exact ⟨((1 : Int32), M4), rfl, hJ25, (show (0 : Int) ≤ (1 : Int32).toInt by decide), (show (1 : Int32).toInt ≤ (3 : Int) by decide)⟩
        · have c27 := c
          have d28 : (0 : Int) < x1.1.toInt := nlei.mp c27
          refine bind_i (sf_Law_emit (x1.2.1 1 2) x1.2 h10) (fun x6 _ q => ?_)
          have h29 := q
          refine mem_i (fun M7 e31 => ?_)
          have hJ32 : J M7 := by rw [e31]; exact Jw_any ok_40 h29 10 (1 : Int32)
          have f33 : (M7.1 40 10).toInt = (1 : Int) := by rw [e31, si_eq]; rfl
          clear e31
          exact ⟨(x1.1, M7), rfl, hJ32, (show (0 : Int) ≤ x1.1.toInt by omega), (show x1.1.toInt ≤ (3 : Int) by omega)⟩
      · have c34 := c
        have d35 : (M.1 40 8).toInt < (4 : Int) := nlei.mp c34
        refine mem_i (fun M9 e37 => ?_)
        have hJ38 : J M9 := by rw [e37]; exact Jw_any ok_40 hJ 8 ((M.1 40 8) + (1 : Int32))
        have q39 := i32lo (M.1 40 8)
        have q40 : ((M.1 40 8) + (1 : Int32)).toInt = (M.1 40 8).toInt + (1 : Int) := add_ti rfl rfl (by omega) (by omega)
        have f41 : (M9.1 40 8).toInt = ((M.1 40 8) + (1 : Int32)).toInt := by rw [e37, si_eq]
        clear e37
        refine mem_i (fun M10 e43 => ?_)
        have hJ44 : J M10 := by rw [e43]; exact Jw_any ok_40 hJ38 9 ((M9.1 40 9) &&& (((1 : Int32) <<< ((M9.1 40 8) &&& 31)) ^^^ (-1 : Int32)))
        have f45 : (M10.1 40 8).toInt = (M9.1 40 8).toInt := by rw [e43]; rw [si_ne (by exact fun e => absurd e.2 (by decide))]
        clear e43
        refine bind_i (sf_Law_hold v3 M10 hJ44) (fun x11 _ q => ?_)
        have h46 := q
        exact ⟨((1 : Int32), x11), rfl, h46, (show (0 : Int) ≤ (1 : Int32).toInt by decide), (show (1 : Int32).toInt ≤ (3 : Int) by decide)⟩
    · have c47 := c
      have d48 : ¬ v3.toInt = (40 : Int) := neqi.mp c47
      unfold j_Law_readThing_63
      refine bind_i (sf_Signs_digits v2 (40 : Int32) (3 : Int32) M (⟨by decide, by decide⟩) hJ) (fun x1 _ q => ?_)
      obtain ⟨h49, h50, h51, h52⟩ := q
      refine if_i (fun c => ?_) (fun c => ?_)
      · have c53 := c
        have d54 : x1.1.toInt ≤ (0 : Int) := lei.mp c53
        refine bind_i (sf_Law_isQuality v3) (fun x2 _ q => ?_)
        obtain ⟨h55, h56⟩ := q
        refine if_i (fun c => ?_) (fun c => ?_)
        · have c57 := c
          have d58 : x2.toInt = (0 : Int) := eqi.mp c57
          exact ⟨((0 : Int32), x1.2), rfl, h49, (show (0 : Int) ≤ (0 : Int32).toInt by decide), (show (0 : Int32).toInt ≤ (3 : Int) by decide)⟩
        · have c59 := c
          have d60 : ¬ x2.toInt = (0 : Int) := neqi.mp c59
          refine bind_i (sf_Law_emit (-v3) x1.2 h49) (fun x3 _ q => ?_)
          have h61 := q
          refine mem_i (fun M4 e63 => ?_)
          have hJ64 : J M4 := by rw [e63]; exact Jw_any ok_40 h61 10 (1 : Int32)
          have f65 : (M4.1 40 10).toInt = (1 : Int) := by rw [e63, si_eq]; rfl
          clear e63
          exact ⟨((1 : Int32), M4), rfl, hJ64, (show (0 : Int) ≤ (1 : Int32).toInt by decide), (show (1 : Int32).toInt ≤ (3 : Int) by decide)⟩
      · have c66 := c
        have d67 : (0 : Int) < x1.1.toInt := nlei.mp c66
        refine bind_i (sf_Law_emit (x1.2.1 1 2) x1.2 h49) (fun x6 _ q => ?_)
        have h68 := q
        refine mem_i (fun M7 e70 => ?_)
        have hJ71 : J M7 := by rw [e70]; exact Jw_any ok_40 h68 10 (1 : Int32)
        have f72 : (M7.1 40 10).toInt = (1 : Int) := by rw [e70, si_eq]; rfl
        clear e70
        exact ⟨(x1.1, M7), rfl, hJ71, (show (0 : Int) ≤ x1.1.toInt by omega), (show x1.1.toInt ≤ (3 : Int) by omega)⟩
