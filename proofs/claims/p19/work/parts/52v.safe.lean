/-! safety of the class, 22 -/
theorem sf_Top_count (v1 : Int32) (M : Mem) (hJ : J M) : ∃ r : Int32, f_Top_count v1 M = some r ∧ (True) := by
  unfold f_Top_count
  refine if_i (fun c => ?_) (fun c => ?_)
  · have c1 := c
    have d2 : v1.toInt = (0 : Int) := eqi.mp c1
    exact ⟨(M.1 3 3), rfl, trivial⟩
  · have c3 := c
    have d4 : ¬ v1.toInt = (0 : Int) := neqi.mp c3
    refine if_i (fun c => ?_) (fun c => ?_)
    · have c5 := c
      have d6 : v1.toInt = (1 : Int) := eqi.mp c5
      exact ⟨(M.1 3 2), rfl, trivial⟩
    · have c7 := c
      have d8 : ¬ v1.toInt = (1 : Int) := neqi.mp c7
      refine if_i (fun c => ?_) (fun c => ?_)
      · have c9 := c
        have d10 : v1.toInt = (2 : Int) := eqi.mp c9
        exact ⟨(M.1 6 4), rfl, trivial⟩
      · have c11 := c
        have d12 : ¬ v1.toInt = (2 : Int) := neqi.mp c11
        refine if_i (fun c => ?_) (fun c => ?_)
        · have c13 := c
          have d14 : v1.toInt = (3 : Int) := eqi.mp c13
          exact ⟨(M.1 11 7), rfl, trivial⟩
        · have c15 := c
          have d16 : ¬ v1.toInt = (3 : Int) := neqi.mp c15
          refine if_i (fun c => ?_) (fun c => ?_)
          · have c17 := c
            have d18 : v1.toInt = (4 : Int) := eqi.mp c17
            exact ⟨(M.1 11 6), rfl, trivial⟩
          · have c19 := c
            have d20 : ¬ v1.toInt = (4 : Int) := neqi.mp c19
            refine if_i (fun c => ?_) (fun c => ?_)
            · have c21 := c
              have d22 : v1.toInt = (5 : Int) := eqi.mp c21
              exact ⟨(M.1 6 5), rfl, trivial⟩
            · have c23 := c
              have d24 : ¬ v1.toInt = (5 : Int) := neqi.mp c23
              refine if_i (fun c => ?_) (fun c => ?_)
              · have c25 := c
                have d26 : v1.toInt = (6 : Int) := eqi.mp c25
                exact ⟨(M.1 11 8), rfl, trivial⟩
              · have c27 := c
                have d28 : ¬ v1.toInt = (6 : Int) := neqi.mp c27
                refine if_i (fun c => ?_) (fun c => ?_)
                · have c29 := c
                  have d30 : v1.toInt = (7 : Int) := eqi.mp c29
                  exact ⟨(M.1 11 9), rfl, trivial⟩
                · have c31 := c
                  have d32 : ¬ v1.toInt = (7 : Int) := neqi.mp c31
                  refine if_i (fun c => ?_) (fun c => ?_)
                  · have c33 := c
                    have d34 : v1.toInt = (8 : Int) := eqi.mp c33
                    refine bind_i (sf_Scene_allMeetings 11 M kd_11 hJ) (fun x9 _ q => ?_)
                    exact ⟨x9, rfl, trivial⟩
                  · have c35 := c
                    have d36 : ¬ v1.toInt = (8 : Int) := neqi.mp c35
                    refine if_i (fun c => ?_) (fun c => ?_)
                    · have c37 := c
                      have d38 : v1.toInt = (9 : Int) := eqi.mp c37
                      exact ⟨(M.1 0 16), rfl, trivial⟩
                    · have c39 := c
                      have d40 : ¬ v1.toInt = (9 : Int) := neqi.mp c39
                      refine if_i (fun c => ?_) (fun c => ?_)
                      · have c41 := c
                        have d42 : v1.toInt = (10 : Int) := eqi.mp c41
                        exact ⟨(M.1 46 2), rfl, trivial⟩
                      · have c43 := c
                        have d44 : ¬ v1.toInt = (10 : Int) := neqi.mp c43
                        refine if_i (fun c => ?_) (fun c => ?_)
                        · have c45 := c
                          have d46 : v1.toInt = (11 : Int) := eqi.mp c45
                          exact ⟨(M.1 0 15), rfl, trivial⟩
                        · have c47 := c
                          have d48 : ¬ v1.toInt = (11 : Int) := neqi.mp c47
                          refine if_i (fun c => ?_) (fun c => ?_)
                          · have c49 := c
                            have d50 : v1.toInt = (12 : Int) := eqi.mp c49
                            exact ⟨(M.1 1 1), rfl, trivial⟩
                          · have c51 := c
                            have d52 : ¬ v1.toInt = (12 : Int) := neqi.mp c51
                            exact ⟨(-100 : Int32), rfl, trivial⟩
theorem sf_Top_cell (v1 : Int32) (v2 : Int32) (M : Mem) (hJ : J M) : ∃ r : Option (Int32), f_Top_cell v1 v2 M = some r ∧ (True) := by
  unfold f_Top_cell
  refine bind_i (sf_Ground_has v1 M hJ) (fun x1 _ q => ?_)
  obtain ⟨h1, h2, h3⟩ := q
  refine if_i (fun c => ?_) (fun c => ?_)
  · have c4 := c
    have d5 : x1.toInt = (0 : Int) := eqi.mp c4
    exact ⟨_, rfl, trivial⟩
  · have c6 := c
    have d7 : ¬ x1.toInt = (0 : Int) := neqi.mp c6
    refine if_i (fun c => ?_) (fun c => ?_)
    · have c8 := c
      have d9 : v2.toInt = (0 : Int) := eqi.mp c8
      refine inb_i (by omega) (by omega) ?_
      exact ⟨_, rfl, trivial⟩
    · have c10 := c
      have d11 : ¬ v2.toInt = (0 : Int) := neqi.mp c10
      refine if_i (fun c => ?_) (fun c => ?_)
      · have c12 := c
        have d13 : v2.toInt = (1 : Int) := eqi.mp c12
        have r14 := Jr_6_4 hJ
        refine bind_i (sf_Scene_standing 11 (0 : Int32) v1 (M.1 6 4) M kd_11 (⟨show (0 : Int) ≤ (M.1 6 4).toInt by omega, show (M.1 6 4).toInt ≤ (8 : Int) by omega⟩) hJ) (fun x3 _ q => ?_)
        exact ⟨_, rfl, trivial⟩
      · have c15 := c
        have d16 : ¬ v2.toInt = (1 : Int) := neqi.mp c15
        refine if_i (fun c => ?_) (fun c => ?_)
        · have c17 := c
          have d18 : v2.toInt = (2 : Int) := eqi.mp c17
          have r19 := Jr_6_4 hJ
          refine bind_i (sf_Scene_standing 11 (1 : Int32) v1 (M.1 6 4) M kd_11 (⟨show (0 : Int) ≤ (M.1 6 4).toInt by omega, show (M.1 6 4).toInt ≤ (8 : Int) by omega⟩) hJ) (fun x5 _ q => ?_)
          exact ⟨_, rfl, trivial⟩
        · have c20 := c
          have d21 : ¬ v2.toInt = (2 : Int) := neqi.mp c20
          refine if_i (fun c => ?_) (fun c => ?_)
          · have c22 := c
            have d23 : v2.toInt = (3 : Int) := eqi.mp c22
            refine bind_i (sf_Scene_planksAt 11 v1 M kd_11 hJ) (fun x7 _ q => ?_)
            exact ⟨_, rfl, trivial⟩
          · have c24 := c
            have d25 : ¬ v2.toInt = (3 : Int) := neqi.mp c24
            refine if_i (fun c => ?_) (fun c => ?_)
            · have c26 := c
              have d27 : v2.toInt = (4 : Int) := eqi.mp c26
              refine inb_i (by omega) (by omega) ?_
              refine bind_i (sf_JLong_bitCount (M.2.1 34 v1.toNatClampNeg)) (fun x9 _ q => ?_)
              obtain ⟨h28, h29⟩ := q
              exact ⟨_, rfl, trivial⟩
            · have c30 := c
              have d31 : ¬ v2.toInt = (4 : Int) := neqi.mp c30
              refine if_i (fun c => ?_) (fun c => ?_)
              · have c32 := c
                have d33 : v2.toInt = (5 : Int) := eqi.mp c32
                have q34 : ((36 : Int32) + v1).toInt = (36 : Int) + v1.toInt := add_ti rfl rfl (by omega) (by omega)
                refine inb_i (by omega) (by omega) ?_
                refine bind_i (sf_JLong_bitCount (M.2.1 34 ((36 : Int32) + v1).toNatClampNeg)) (fun x11 _ q => ?_)
                obtain ⟨h35, h36⟩ := q
                exact ⟨_, rfl, trivial⟩
              · have c37 := c
                have d38 : ¬ v2.toInt = (5 : Int) := neqi.mp c37
                exact ⟨_, rfl, trivial⟩
theorem sf_Top_person (v1 : Int32) (v2 : Int32) (M : Mem) (hJ : J M) : ∃ r : (Option (Int32)) × Mem, f_Top_person v1 v2 M = some r ∧ (J r.2 ∧ Gc 0 M r.2) := by
  unfold f_Top_person
  refine bind_i (sf_Crowd_has v1 M hJ) (fun x1 _ q => ?_)
  obtain ⟨h1, h2, h3⟩ := q
  refine if_i (fun c => ?_) (fun c => ?_)
  · have c4 := c
    have d5 : x1.toInt = (0 : Int) := eqi.mp c4
    exact ⟨(none, M), rfl, hJ, Gc_r⟩
  · have c6 := c
    have d7 : ¬ x1.toInt = (0 : Int) := neqi.mp c6
    refine if_i (fun c => ?_) (fun c => ?_)
    · have c8 := c
      have d9 : v2.toInt = (0 : Int) := eqi.mp c8
      refine bind_i (sf_Crowd_woman v1 M hJ) (fun x2 _ q => ?_)
      obtain ⟨h10, h11⟩ := q
      refine if_i (fun c => ?_) (fun c => ?_)
      · have c12 := c
        have d13 : x2.toInt = (0 : Int) := eqi.mp c12
        exact ⟨((some (0 : Int32)), M), rfl, hJ, Gc_r⟩
      · have c14 := c
        have d15 : ¬ x2.toInt = (0 : Int) := neqi.mp c14
        exact ⟨((some (1 : Int32)), M), rfl, hJ, Gc_r⟩
    · have c16 := c
      have d17 : ¬ v2.toInt = (0 : Int) := neqi.mp c16
      refine if_i (fun c => ?_) (fun c => ?_)
      · have c18 := c
        have d19 : v2.toInt = (1 : Int) := eqi.mp c18
        refine inb_i (by omega) (by omega) ?_
        exact ⟨((some (M.1 12 v1.toNatClampNeg)), M), rfl, hJ, Gc_r⟩
      · have c20 := c
        have d21 : ¬ v2.toInt = (1 : Int) := neqi.mp c20
        refine if_i (fun c => ?_) (fun c => ?_)
        · have c22 := c
          have d23 : v2.toInt = (2 : Int) := eqi.mp c22
          refine inb_i (by omega) (by omega) ?_
          exact ⟨((some (M.1 13 v1.toNatClampNeg)), M), rfl, hJ, Gc_r⟩
        · have c24 := c
          have d25 : ¬ v2.toInt = (2 : Int) := neqi.mp c24
          refine if_i (fun c => ?_) (fun c => ?_)
          · have c26 := c
            have d27 : v2.toInt = (3 : Int) := eqi.mp c26
            refine inb_i (by omega) (by omega) ?_
            exact ⟨((some (M.1 14 v1.toNatClampNeg)), M), rfl, hJ, Gc_r⟩
          · have c28 := c
            have d29 : ¬ v2.toInt = (3 : Int) := neqi.mp c28
            refine if_i (fun c => ?_) (fun c => ?_)
            · have c30 := c
              have d31 : v2.toInt = (4 : Int) := eqi.mp c30
              refine inb_i (by omega) (by omega) ?_
              exact ⟨((some (M.1 8 v1.toNatClampNeg)), M), rfl, hJ, Gc_r⟩
            · have c32 := c
              have d33 : ¬ v2.toInt = (4 : Int) := neqi.mp c32
              refine if_i (fun c => ?_) (fun c => ?_)
              · have c34 := c
                have d35 : v2.toInt = (5 : Int) := eqi.mp c34
                exact ⟨((some (((M.1 11 8) >>> (v1 &&& 31)) &&& (1 : Int32))), M), rfl, hJ, Gc_r⟩
              · have c36 := c
                have d37 : ¬ v2.toInt = (5 : Int) := neqi.mp c36
                refine if_i (fun c => ?_) (fun c => ?_)
                · have c38 := c
                  have d39 : v2.toInt = (6 : Int) := eqi.mp c38
                  refine bind_i (sf_Scene_meetingsOf 11 v1 M kd_11 (⟨show (0 : Int) ≤ v1.toInt by omega, show v1.toInt ≤ (7 : Int) by omega⟩) hJ) (fun x10 _ q => ?_)
                  exact ⟨((some x10), M), rfl, hJ, Gc_r⟩
                · have c40 := c
                  have d41 : ¬ v2.toInt = (6 : Int) := neqi.mp c40
                  refine if_i (fun c => ?_) (fun c => ?_)
                  · have c42 := c
                    have d43 : v2.toInt = (7 : Int) := eqi.mp c42
                    refine bind_i (sf_Law_goes v1 11 M (⟨show (0 : Int) ≤ v1.toInt by omega, show v1.toInt ≤ (7 : Int) by omega⟩) kd_11 hJ) (fun x12 _ q => ?_)
                    obtain ⟨h44, h45, h46, h47⟩ := q
                    have hG48 : Gc 0 M x12.2 := Gc_t Gc_r h45
                    refine if_i (fun c => ?_) (fun c => ?_)
                    · have c49 := c
                      have d50 : x12.1.toInt = (0 : Int) := eqi.mp c49
                      exact ⟨((some (0 : Int32)), x12.2), rfl, h44, hG48⟩
                    · have c51 := c
                      have d52 : ¬ x12.1.toInt = (0 : Int) := neqi.mp c51
                      exact ⟨((some (1 : Int32)), x12.2), rfl, h44, hG48⟩
                  · have c53 := c
                    have d54 : ¬ v2.toInt = (7 : Int) := neqi.mp c53
                    exact ⟨(none, M), rfl, hJ, Gc_r⟩
theorem sf_Top_row (v1 : Int32) (M : Mem) (hJ : J M) : ∃ r : Option (Int32), f_Top_row v1 M = some r ∧ (True) := by
  unfold f_Top_row
  refine if_i (fun c => ?_) (fun c => ?_)
  · have c1 := c
    have d2 : v1.toInt < (0 : Int) := lti.mp c1
    exact ⟨_, rfl, trivial⟩
  · have c3 := c
    have d4 : (0 : Int) ≤ v1.toInt := nlti.mp c3
    refine if_i (fun c => ?_) (fun c => ?_)
    · have c5 := c
      have d6 : (M.1 0 15).toInt ≤ v1.toInt := lei.mp c5
      exact ⟨_, rfl, trivial⟩
    · have c7 := c
      have d8 : v1.toInt < (M.1 0 15).toInt := nlei.mp c7
      refine if_i (fun c => ?_) (fun c => ?_)
      · have c9 := c
        have d10 : v1.toInt < (10 : Int) := lti.mp c9
        refine inb_i (by omega) (by omega) ?_
        exact ⟨_, rfl, trivial⟩
      · have c11 := c
        have d12 : (10 : Int) ≤ v1.toInt := nlti.mp c11
        exact ⟨_, rfl, trivial⟩
