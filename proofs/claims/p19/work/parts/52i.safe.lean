/-! safety of the class, 9 -/
theorem sf_Law_isQuality (v0 : Int32) : ∃ r : Int32, f_Law_isQuality v0 = some r ∧ ((0 : Int) ≤ r.toInt ∧ r.toInt ≤ (1 : Int)) := by
  unfold f_Law_isQuality
  refine if_i (fun c => ?_) (fun c => ?_)
  · have c1 := c
    have d2 : v0.toInt = (105 : Int) := eqi.mp c1
    exact ⟨(1 : Int32), rfl, (show (0 : Int) ≤ (1 : Int32).toInt by decide), (show (1 : Int32).toInt ≤ (1 : Int) by decide)⟩
  · have c3 := c
    have d4 : ¬ v0.toInt = (105 : Int) := neqi.mp c3
    refine if_i (fun c => ?_) (fun c => ?_)
    · have c5 := c
      have d6 : v0.toInt = (107 : Int) := eqi.mp c5
      exact ⟨(1 : Int32), rfl, (show (0 : Int) ≤ (1 : Int32).toInt by decide), (show (1 : Int32).toInt ≤ (1 : Int) by decide)⟩
    · have c7 := c
      have d8 : ¬ v0.toInt = (107 : Int) := neqi.mp c7
      refine if_i (fun c => ?_) (fun c => ?_)
      · have c9 := c
        have d10 : v0.toInt = (109 : Int) := eqi.mp c9
        exact ⟨(1 : Int32), rfl, (show (0 : Int) ≤ (1 : Int32).toInt by decide), (show (1 : Int32).toInt ≤ (1 : Int) by decide)⟩
      · have c11 := c
        have d12 : ¬ v0.toInt = (109 : Int) := neqi.mp c11
        refine if_i (fun c => ?_) (fun c => ?_)
        · have c13 := c
          have d14 : v0.toInt = (110 : Int) := eqi.mp c13
          exact ⟨(1 : Int32), rfl, (show (0 : Int) ≤ (1 : Int32).toInt by decide), (show (1 : Int32).toInt ≤ (1 : Int) by decide)⟩
        · have c15 := c
          have d16 : ¬ v0.toInt = (110 : Int) := neqi.mp c15
          refine if_i (fun c => ?_) (fun c => ?_)
          · have c17 := c
            have d18 : v0.toInt = (115 : Int) := eqi.mp c17
            exact ⟨(1 : Int32), rfl, (show (0 : Int) ≤ (1 : Int32).toInt by decide), (show (1 : Int32).toInt ≤ (1 : Int) by decide)⟩
          · have c19 := c
            have d20 : ¬ v0.toInt = (115 : Int) := neqi.mp c19
            refine if_i (fun c => ?_) (fun c => ?_)
            · have c21 := c
              have d22 : v0.toInt = (119 : Int) := eqi.mp c21
              exact ⟨(1 : Int32), rfl, (show (0 : Int) ≤ (1 : Int32).toInt by decide), (show (1 : Int32).toInt ≤ (1 : Int) by decide)⟩
            · have c23 := c
              have d24 : ¬ v0.toInt = (119 : Int) := neqi.mp c23
              refine if_i (fun c => ?_) (fun c => ?_)
              · have c25 := c
                have d26 : v0.toInt = (120 : Int) := eqi.mp c25
                exact ⟨(1 : Int32), rfl, (show (0 : Int) ≤ (1 : Int32).toInt by decide), (show (1 : Int32).toInt ≤ (1 : Int) by decide)⟩
              · have c27 := c
                have d28 : ¬ v0.toInt = (120 : Int) := neqi.mp c27
                refine if_i (fun c => ?_) (fun c => ?_)
                · have c29 := c
                  have d30 : v0.toInt = (121 : Int) := eqi.mp c29
                  exact ⟨(1 : Int32), rfl, (show (0 : Int) ≤ (1 : Int32).toInt by decide), (show (1 : Int32).toInt ≤ (1 : Int) by decide)⟩
                · have c31 := c
                  have d32 : ¬ v0.toInt = (121 : Int) := neqi.mp c31
                  exact ⟨(0 : Int32), rfl, (show (0 : Int) ≤ (0 : Int32).toInt by decide), (show (0 : Int32).toInt ≤ (1 : Int) by decide)⟩
theorem sf_Law_readThing (v2 : Int32) (v3 : Int32) (M : Mem) (hJ : J M) : ∃ r : Int32 × Mem, f_Law_readThing v2 v3 M = some r ∧ (J r.2 ∧ Gc 0 M r.2 ∧ (0 : Int) ≤ r.1.toInt ∧ r.1.toInt ≤ (3 : Int)) := by
  unfold f_Law_readThing
  refine if_i (fun c => ?_) (fun c => ?_)
  · have c1 := c
    have d2 : v3.toInt = (45 : Int) := eqi.mp c1
    refine bind_i (sf_Law_hold (256 : Int32) M hJ) (fun x14 _ q => ?_)
    obtain ⟨h3, h4⟩ := q
    have hG5 : Gc 0 M x14 := Gc_t Gc_r h4
    exact ⟨((1 : Int32), x14), rfl, h3, hG5, (show (0 : Int) ≤ (1 : Int32).toInt by decide), (show (1 : Int32).toInt ≤ (3 : Int) by decide)⟩
  · have c6 := c
    have d7 : ¬ v3.toInt = (45 : Int) := neqi.mp c6
    refine if_i (fun c => ?_) (fun c => ?_)
    · have c8 := c
      have d9 : v3.toInt = (40 : Int) := eqi.mp c8
      refine if_i (fun c => ?_) (fun c => ?_)
      · have c10 := c
        have d11 : (4 : Int) ≤ (M.1 40 8).toInt := lei.mp c10
        unfold j_Law_readThing_63
        refine bind_i (sf_Signs_digits v2 (40 : Int32) (3 : Int32) M (⟨by decide, by decide⟩) hJ) (fun x1 _ q => ?_)
        obtain ⟨h12, h13, h14, h15, h16⟩ := q
        have hG17 : Gc 0 M x1.2 := Gc_t Gc_r h13
        refine if_i (fun c => ?_) (fun c => ?_)
        · have c18 := c
          have d19 : x1.1.toInt ≤ (0 : Int) := lei.mp c18
          refine bind_i (sf_Law_isQuality v3) (fun x2 _ q => ?_)
          obtain ⟨h20, h21⟩ := q
          refine if_i (fun c => ?_) (fun c => ?_)
          · have c22 := c
            have d23 : x2.toInt = (0 : Int) := eqi.mp c22
            exact ⟨((0 : Int32), x1.2), rfl, h12, hG17, (show (0 : Int) ≤ (0 : Int32).toInt by decide), (show (0 : Int32).toInt ≤ (3 : Int) by decide)⟩
          · have c24 := c
            have d25 : ¬ x2.toInt = (0 : Int) := neqi.mp c24
            refine bind_i (sf_Law_emit (-v3) x1.2 h12) (fun x3 _ q => ?_)
            obtain ⟨h26, h27⟩ := q
            have hG28 : Gc 0 M x3 := Gc_t hG17 h27
            refine mem_i (fun M4 e30 => ?_)
            have hJ31 : J M4 := by rw [e30]; exact Jw_any ok_40 h26 10 (1 : Int32)
            have hG32 : Gc 0 M M4 := Gc_i hG28 e30 (by decide)
            have f33 : (M4.1 40 10).toInt = (1 : Int) := by rw [e30, si_eq]; rfl
            clear e30
            exact ⟨((1 : Int32), M4), rfl, hJ31, hG32, (show (0 : Int) ≤ (1 : Int32).toInt by decide), (show (1 : Int32).toInt ≤ (3 : Int) by decide)⟩
        · have c34 := c
          have d35 : (0 : Int) < x1.1.toInt := nlei.mp c34
          refine bind_i (sf_Law_emit (x1.2.1 1 2) x1.2 h12) (fun x6 _ q => ?_)
          obtain ⟨h36, h37⟩ := q
          have hG38 : Gc 0 M x6 := Gc_t hG17 h37
          refine mem_i (fun M7 e40 => ?_)
          have hJ41 : J M7 := by rw [e40]; exact Jw_any ok_40 h36 10 (1 : Int32)
          have hG42 : Gc 0 M M7 := Gc_i hG38 e40 (by decide)
          have f43 : (M7.1 40 10).toInt = (1 : Int) := by rw [e40, si_eq]; rfl
          clear e40
          exact ⟨(x1.1, M7), rfl, hJ41, hG42, (show (0 : Int) ≤ x1.1.toInt by omega), (show x1.1.toInt ≤ (3 : Int) by omega)⟩
      · have c44 := c
        have d45 : (M.1 40 8).toInt < (4 : Int) := nlei.mp c44
        refine mem_i (fun M9 e47 => ?_)
        have hJ48 : J M9 := by rw [e47]; exact Jw_any ok_40 hJ 8 ((M.1 40 8) + (1 : Int32))
        have hG49 : Gc 0 M M9 := Gc_i Gc_r e47 (by decide)
        have q50 := i32lo (M.1 40 8)
        have q51 : ((M.1 40 8) + (1 : Int32)).toInt = (M.1 40 8).toInt + (1 : Int) := add_ti rfl rfl (by omega) (by omega)
        have f52 : (M9.1 40 8).toInt = ((M.1 40 8) + (1 : Int32)).toInt := by rw [e47, si_eq]
        clear e47
        refine mem_i (fun M10 e54 => ?_)
        have hJ55 : J M10 := by rw [e54]; exact Jw_any ok_40 hJ48 9 ((M9.1 40 9) &&& (((1 : Int32) <<< ((M9.1 40 8) &&& 31)) ^^^ (-1 : Int32)))
        have hG56 : Gc 0 M M10 := Gc_i hG49 e54 (by decide)
        have f57 : (M10.1 40 8).toInt = (M9.1 40 8).toInt := by rw [e54]; rw [si_ne (by exact fun e => absurd e.2 (by decide))]
        clear e54
        refine bind_i (sf_Law_hold v3 M10 hJ55) (fun x11 _ q => ?_)
        obtain ⟨h58, h59⟩ := q
        have hG60 : Gc 0 M x11 := Gc_t hG56 h59
        exact ⟨((1 : Int32), x11), rfl, h58, hG60, (show (0 : Int) ≤ (1 : Int32).toInt by decide), (show (1 : Int32).toInt ≤ (3 : Int) by decide)⟩
    · have c61 := c
      have d62 : ¬ v3.toInt = (40 : Int) := neqi.mp c61
      unfold j_Law_readThing_63
      refine bind_i (sf_Signs_digits v2 (40 : Int32) (3 : Int32) M (⟨by decide, by decide⟩) hJ) (fun x1 _ q => ?_)
      obtain ⟨h63, h64, h65, h66, h67⟩ := q
      have hG68 : Gc 0 M x1.2 := Gc_t Gc_r h64
      refine if_i (fun c => ?_) (fun c => ?_)
      · have c69 := c
        have d70 : x1.1.toInt ≤ (0 : Int) := lei.mp c69
        refine bind_i (sf_Law_isQuality v3) (fun x2 _ q => ?_)
        obtain ⟨h71, h72⟩ := q
        refine if_i (fun c => ?_) (fun c => ?_)
        · have c73 := c
          have d74 : x2.toInt = (0 : Int) := eqi.mp c73
          exact ⟨((0 : Int32), x1.2), rfl, h63, hG68, (show (0 : Int) ≤ (0 : Int32).toInt by decide), (show (0 : Int32).toInt ≤ (3 : Int) by decide)⟩
        · have c75 := c
          have d76 : ¬ x2.toInt = (0 : Int) := neqi.mp c75
          refine bind_i (sf_Law_emit (-v3) x1.2 h63) (fun x3 _ q => ?_)
          obtain ⟨h77, h78⟩ := q
          have hG79 : Gc 0 M x3 := Gc_t hG68 h78
          refine mem_i (fun M4 e81 => ?_)
          have hJ82 : J M4 := by rw [e81]; exact Jw_any ok_40 h77 10 (1 : Int32)
          have hG83 : Gc 0 M M4 := Gc_i hG79 e81 (by decide)
          have f84 : (M4.1 40 10).toInt = (1 : Int) := by rw [e81, si_eq]; rfl
          clear e81
          exact ⟨((1 : Int32), M4), rfl, hJ82, hG83, (show (0 : Int) ≤ (1 : Int32).toInt by decide), (show (1 : Int32).toInt ≤ (3 : Int) by decide)⟩
      · have c85 := c
        have d86 : (0 : Int) < x1.1.toInt := nlei.mp c85
        refine bind_i (sf_Law_emit (x1.2.1 1 2) x1.2 h63) (fun x6 _ q => ?_)
        obtain ⟨h87, h88⟩ := q
        have hG89 : Gc 0 M x6 := Gc_t hG68 h88
        refine mem_i (fun M7 e91 => ?_)
        have hJ92 : J M7 := by rw [e91]; exact Jw_any ok_40 h87 10 (1 : Int32)
        have hG93 : Gc 0 M M7 := Gc_i hG89 e91 (by decide)
        have f94 : (M7.1 40 10).toInt = (1 : Int) := by rw [e91, si_eq]; rfl
        clear e91
        exact ⟨(x1.1, M7), rfl, hJ92, hG93, (show (0 : Int) ≤ x1.1.toInt by omega), (show x1.1.toInt ≤ (3 : Int) by omega)⟩
theorem sl_Law_read_29  (a0_ : Int32) (a1_ : Int32) (N_ : Mem) (B_ : Mem) (hN : J N_) (hG : Gc 0 B_ N_) (i2_ : (0 : Int) ≤ a0_.toInt) (i3_ : a0_.toInt ≤ (82 : Int)) (i4_ : (0 : Int) ≤ a1_.toInt) (i5_ : a1_.toInt ≤ (41 : Int)) : ∃ x, iter (lb_Law_read_29) FU (a0_, a1_, N_) = some x ∧ (SQ (fun r : Mem => J r ∧ Gc 0 B_ r) (SQ (fun r : Int32 × Mem => J r.2 ∧ Gc 0 B_ r.2 ∧ (0 : Int) ≤ r.1.toInt ∧ r.1.toInt ≤ (82 : Int)) (fun r : Int32 × Mem => J r.2 ∧ Gc 0 B_ r.2 ∧ (0 : Int) ≤ r.1.toInt ∧ r.1.toInt ≤ (79 : Int)))) x := by
  refine iter_r (fun s : Int32 × Int32 × Mem => J s.2.2 ∧ Gc 0 B_ s.2.2 ∧ (0 : Int) ≤ s.1.toInt ∧ s.1.toInt ≤ (82 : Int) ∧ (0 : Int) ≤ s.2.1.toInt ∧ s.2.1.toInt ≤ (41 : Int)) (fun s : Int32 × Int32 × Mem => (41 - s.2.1.toInt).toNat) (SQ (fun r : Mem => J r ∧ Gc 0 B_ r) (SQ (fun r : Int32 × Mem => J r.2 ∧ Gc 0 B_ r.2 ∧ (0 : Int) ≤ r.1.toInt ∧ r.1.toInt ≤ (82 : Int)) (fun r : Int32 × Mem => J r.2 ∧ Gc 0 B_ r.2 ∧ (0 : Int) ≤ r.1.toInt ∧ r.1.toInt ≤ (79 : Int)))) ?_ FU (a0_, a1_, N_) ⟨hN, hG, i2_, i3_, i4_, i5_⟩ (by show (41 - a1_.toInt).toNat < FU; rw [FU_v]; omega)
  clear i5_ i4_ i3_ i2_ hG hN
  rintro ⟨a0_', a1_', N_'⟩ ⟨hN, hG, i2_, i3_, i4_, i5_⟩
  dsimp only at hN hG i2_ i3_ i4_ i5_
  unfold lb_Law_read_29
  dsimp only
  refine if_i (fun c => ?_) (fun c => ?_)
  · have c1 := c
    have d2 : (40 : Int) < a1_'.toInt := lti.mp c1
    exact ⟨_, rfl, hN, hG⟩
  · have c3 := c
    have d4 : a1_'.toInt ≤ (40 : Int) := nlti.mp c3
    refine if_i (fun c => ?_) (fun c => ?_)
    · have c5 := c
      have r6 := Jr_1_1 hN
      have d7 : (N_'.1 1 1).toInt ≤ (0 : Int) := lei.mp c5
      exact ⟨_, rfl, hN, hG⟩
    · have c8 := c
      have r9 := Jr_1_1 hN
      have d10 : (0 : Int) < (N_'.1 1 1).toInt := nlei.mp c8
      refine bind_i (sf_Signs_at a0_' (40 : Int32) N_' hN) (fun x6 _ q => ?_)
      obtain ⟨h11, h12, h13⟩ := q
      refine if_i (fun c => ?_) (fun c => ?_)
      · have c14 := c
        have d15 : x6.toInt = (-1 : Int) := eqi.mp c14
        exact ⟨_, rfl, hN, hG, (show (0 : Int) ≤ a0_'.toInt by omega), (show a0_'.toInt ≤ (82 : Int) by omega)⟩
      · have c16 := c
        have d17 : ¬ x6.toInt = (-1 : Int) := neqi.mp c16
        refine if_i (fun c => ?_) (fun c => ?_)
        · have c18 := c
          have d19 : (N_'.1 40 10).toInt = (0 : Int) := eqi.mp c18
          refine bind_i (sf_Law_readThing a0_' x6 N_' hN) (fun x7 _ q => ?_)
          obtain ⟨h20, h21, h22, h23⟩ := q
          have hG24 : Gc 0 B_ x7.2 := Gc_t hG h21
          unfold j_Law_read_108_29
          refine if_i (fun c => ?_) (fun c => ?_)
          · have c25 := c
            have d26 : x7.1.toInt = (0 : Int) := eqi.mp c25
            exact ⟨_, rfl, h20, hG24, (show (0 : Int) ≤ a0_'.toInt by omega), (show a0_'.toInt ≤ (79 : Int) by omega)⟩
          · have c27 := c
            have d28 : ¬ x7.1.toInt = (0 : Int) := neqi.mp c27
            have q29 : (a0_' + x7.1).toInt = a0_'.toInt + x7.1.toInt := add_ti rfl rfl (by omega) (by omega)
            have q30 : (a1_' + (1 : Int32)).toInt = a1_'.toInt + (1 : Int) := add_ti rfl rfl (by omega) (by omega)
            exact ⟨_, rfl, ⟨h20, hG24, (show (0 : Int) ≤ (a0_' + x7.1).toInt by omega), (show (a0_' + x7.1).toInt ≤ (82 : Int) by omega), (show (0 : Int) ≤ (a1_' + (1 : Int32)).toInt by omega), (show (a1_' + (1 : Int32)).toInt ≤ (41 : Int) by omega)⟩, show (41 - (a1_' + (1 : Int32)).toInt).toNat < (41 - a1_'.toInt).toNat by omega⟩
        · have c31 := c
          have d32 : ¬ (N_'.1 40 10).toInt = (0 : Int) := neqi.mp c31
          refine bind_i (sf_Law_readBehind x6 N_' hN) (fun x9 _ q => ?_)
          obtain ⟨h33, h34, h35, h36⟩ := q
          have hG37 : Gc 0 B_ x9.2 := Gc_t hG h34
          unfold j_Law_read_108_29
          refine if_i (fun c => ?_) (fun c => ?_)
          · have c38 := c
            have d39 : x9.1.toInt = (0 : Int) := eqi.mp c38
            exact ⟨_, rfl, h33, hG37, (show (0 : Int) ≤ a0_'.toInt by omega), (show a0_'.toInt ≤ (79 : Int) by omega)⟩
          · have c40 := c
            have d41 : ¬ x9.1.toInt = (0 : Int) := neqi.mp c40
            have q42 : (a0_' + x9.1).toInt = a0_'.toInt + x9.1.toInt := add_ti rfl rfl (by omega) (by omega)
            have q43 : (a1_' + (1 : Int32)).toInt = a1_'.toInt + (1 : Int) := add_ti rfl rfl (by omega) (by omega)
            exact ⟨_, rfl, ⟨h33, hG37, (show (0 : Int) ≤ (a0_' + x9.1).toInt by omega), (show (a0_' + x9.1).toInt ≤ (82 : Int) by omega), (show (0 : Int) ≤ (a1_' + (1 : Int32)).toInt by omega), (show (a1_' + (1 : Int32)).toInt ≤ (41 : Int) by omega)⟩, show (41 - (a1_' + (1 : Int32)).toInt).toNat < (41 - a1_'.toInt).toNat by omega⟩
theorem sf_Law_read (M : Mem) (hJ : J M) : ∃ r : Int32 × Mem, f_Law_read M = some r ∧ (J r.2 ∧ Gc 0 M r.2 ∧ (-83 : Int) ≤ r.1.toInt ∧ r.1.toInt ≤ (0 : Int)) := by
  unfold f_Law_read
  refine mem_i (fun M1 e2 => ?_)
  have hJ3 : J M1 := by rw [e2]; exact Jw_any ok_40 hJ 5 (0 : Int32)
  have hG4 : Gc 0 M M1 := Gc_i Gc_r e2 (by decide)
  have f5 : (M1.1 40 5).toInt = (0 : Int) := by rw [e2, si_eq]; rfl
  clear e2
  refine mem_i (fun M2 e7 => ?_)
  have hJ8 : J M2 := by rw [e7]; exact Jw_any ok_40 hJ3 6 (0 : Int32)
  have hG9 : Gc 0 M M2 := Gc_i hG4 e7 (by decide)
  have f10 : (M2.1 40 5).toInt = (M1.1 40 5).toInt := by rw [e7]; rw [si_ne (by exact fun e => absurd e.2 (by decide))]
  have f11 : (M2.1 40 6).toInt = (0 : Int) := by rw [e7, si_eq]; rfl
  clear e7
  refine mem_i (fun M3 e13 => ?_)
  have hJ14 : J M3 := by rw [e13]; exact Jw_any ok_40 hJ8 8 (0 : Int32)
  have hG15 : Gc 0 M M3 := Gc_i hG9 e13 (by decide)
  have f16 : (M3.1 40 5).toInt = (M2.1 40 5).toInt := by rw [e13]; rw [si_ne (by exact fun e => absurd e.2 (by decide))]
  have f17 : (M3.1 40 6).toInt = (M2.1 40 6).toInt := by rw [e13]; rw [si_ne (by exact fun e => absurd e.2 (by decide))]
  have f18 : (M3.1 40 8).toInt = (0 : Int) := by rw [e13, si_eq]; rfl
  clear e13
  refine mem_i (fun M4 e20 => ?_)
  have hJ21 : J M4 := by rw [e20]; exact Jw_any ok_40 hJ14 9 (0 : Int32)
  have hG22 : Gc 0 M M4 := Gc_i hG15 e20 (by decide)
  have f23 : (M4.1 40 5).toInt = (M3.1 40 5).toInt := by rw [e20]; rw [si_ne (by exact fun e => absurd e.2 (by decide))]
  have f24 : (M4.1 40 6).toInt = (M3.1 40 6).toInt := by rw [e20]; rw [si_ne (by exact fun e => absurd e.2 (by decide))]
  have f25 : (M4.1 40 8).toInt = (M3.1 40 8).toInt := by rw [e20]; rw [si_ne (by exact fun e => absurd e.2 (by decide))]
  have f26 : (M4.1 40 9).toInt = (0 : Int) := by rw [e20, si_eq]; rfl
  clear e20
  refine mem_i (fun M5 e28 => ?_)
  have hJ29 : J M5 := by rw [e28]; exact Jw_any ok_40 hJ21 10 (0 : Int32)
  have hG30 : Gc 0 M M5 := Gc_i hG22 e28 (by decide)
  have f31 : (M5.1 40 5).toInt = (M4.1 40 5).toInt := by rw [e28]; rw [si_ne (by exact fun e => absurd e.2 (by decide))]
  have f32 : (M5.1 40 6).toInt = (M4.1 40 6).toInt := by rw [e28]; rw [si_ne (by exact fun e => absurd e.2 (by decide))]
  have f33 : (M5.1 40 8).toInt = (M4.1 40 8).toInt := by rw [e28]; rw [si_ne (by exact fun e => absurd e.2 (by decide))]
  have f34 : (M5.1 40 9).toInt = (M4.1 40 9).toInt := by rw [e28]; rw [si_ne (by exact fun e => absurd e.2 (by decide))]
  have f35 : (M5.1 40 10).toInt = (0 : Int) := by rw [e28, si_eq]; rfl
  clear e28
  refine bind_i (sl_Law_read_29  (0 : Int32) (0 : Int32) M5 M hJ29 hG30 (show (0 : Int) ≤ (0 : Int32).toInt by decide) (show (0 : Int32).toInt ≤ (82 : Int) by decide) (show (0 : Int) ≤ (0 : Int32).toInt by decide) (show (0 : Int32).toInt ≤ (41 : Int) by decide)) (fun x36 _ q => ?_)
  rcases x36 with y | y | y
  · have q9 : J y ∧ Gc 0 M y := q
    dsimp only [Sum.elim_inl, Sum.elim_inr]
    obtain ⟨h38, h39⟩ := q9
    unfold j_Law_read_130
    refine bind_i (sf_Law_settle (0 : Int32) y h38) (fun x16 _ q => ?_)
    obtain ⟨h40, h41⟩ := q
    have hG42 : Gc 0 M x16 := Gc_t h39 h41
    refine mem_i (fun M17 e44 => ?_)
    have hJ45 : J M17 := by rw [e44]; exact Jc_any (k0 := 42) (k1 := 41) ⟨ok_42, ok_41⟩ h40
    have hG46 : Gc 0 M M17 := Gc_c hG42 e44 (by decide)
    clear e44
    refine mem_i (fun M18 e48 => ?_)
    have hJ49 : J M18 := by rw [e48]; exact Jw_any ok_40 hJ45 4 (M17.1 40 5)
    have hG50 : Gc 0 M M18 := Gc_i hG46 e48 (by decide)
    clear e48
    exact ⟨((0 : Int32), M18), rfl, hJ49, hG50, (show (-83 : Int) ≤ (0 : Int32).toInt by decide), (show (0 : Int32).toInt ≤ (0 : Int) by decide)⟩
  · have q9 : J y.2 ∧ Gc 0 M y.2 ∧ (0 : Int) ≤ y.1.toInt ∧ y.1.toInt ≤ (82 : Int) := q
    dsimp only [Sum.elim_inl, Sum.elim_inr]
    obtain ⟨h52, h53, h54, h55⟩ := q9
    refine if_i (fun c => ?_) (fun c => ?_)
    · have c56 := c
      have r57 := Jr_1_1 h52
      have d58 : (40 : Int) < (y.2.1 1 1).toInt := lti.mp c56
      have q59 : ((-1 : Int32) - y.1).toInt = (-1 : Int) - y.1.toInt := sub_ti rfl rfl (by omega) (by omega)
      exact ⟨(((-1 : Int32) - y.1), y.2), rfl, h52, h53, (show (-83 : Int) ≤ ((-1 : Int32) - y.1).toInt by rw [q59]; clear q59; omega), (show ((-1 : Int32) - y.1).toInt ≤ (0 : Int) by rw [q59]; clear q59; omega)⟩
    · have c60 := c
      have r61 := Jr_1_1 h52
      have d62 : (y.2.1 1 1).toInt ≤ (40 : Int) := nlti.mp c60
      refine if_i (fun c => ?_) (fun c => ?_)
      · have c63 := c
        have d64 : (y.2.1 40 10).toInt = (0 : Int) := eqi.mp c63
        have q65 : ((-1 : Int32) - y.1).toInt = (-1 : Int) - y.1.toInt := sub_ti rfl rfl (by omega) (by omega)
        exact ⟨(((-1 : Int32) - y.1), y.2), rfl, h52, h53, (show (-83 : Int) ≤ ((-1 : Int32) - y.1).toInt by rw [q65]; clear q65; omega), (show ((-1 : Int32) - y.1).toInt ≤ (0 : Int) by rw [q65]; clear q65; omega)⟩
      · have c66 := c
        have d67 : ¬ (y.2.1 40 10).toInt = (0 : Int) := neqi.mp c66
        refine if_i (fun c => ?_) (fun c => ?_)
        · have c68 := c
          have d69 : (y.2.1 40 8).toInt ≤ (0 : Int) := lei.mp c68
          unfold j_Law_read_130
          refine bind_i (sf_Law_settle (0 : Int32) y.2 h52) (fun x16 _ q => ?_)
          obtain ⟨h70, h71⟩ := q
          have hG72 : Gc 0 M x16 := Gc_t h53 h71
          refine mem_i (fun M17 e74 => ?_)
          have hJ75 : J M17 := by rw [e74]; exact Jc_any (k0 := 42) (k1 := 41) ⟨ok_42, ok_41⟩ h70
          have hG76 : Gc 0 M M17 := Gc_c hG72 e74 (by decide)
          clear e74
          refine mem_i (fun M18 e78 => ?_)
          have hJ79 : J M18 := by rw [e78]; exact Jw_any ok_40 hJ75 4 (M17.1 40 5)
          have hG80 : Gc 0 M M18 := Gc_i hG76 e78 (by decide)
          clear e78
          exact ⟨((0 : Int32), M18), rfl, hJ79, hG80, (show (-83 : Int) ≤ (0 : Int32).toInt by decide), (show (0 : Int32).toInt ≤ (0 : Int) by decide)⟩
        · have c81 := c
          have d82 : (0 : Int) < (y.2.1 40 8).toInt := nlei.mp c81
          have q83 : ((-1 : Int32) - y.1).toInt = (-1 : Int) - y.1.toInt := sub_ti rfl rfl (by omega) (by omega)
          exact ⟨(((-1 : Int32) - y.1), y.2), rfl, h52, h53, (show (-83 : Int) ≤ ((-1 : Int32) - y.1).toInt by rw [q83]; clear q83; omega), (show ((-1 : Int32) - y.1).toInt ≤ (0 : Int) by rw [q83]; clear q83; omega)⟩
  · have q9 : J y.2 ∧ Gc 0 M y.2 ∧ (0 : Int) ≤ y.1.toInt ∧ y.1.toInt ≤ (79 : Int) := q
    dsimp only [Sum.elim_inl, Sum.elim_inr]
    obtain ⟨h85, h86, h87, h88⟩ := q9
    have q89 : ((-1 : Int32) - y.1).toInt = (-1 : Int) - y.1.toInt := sub_ti rfl rfl (by omega) (by omega)
    exact ⟨(((-1 : Int32) - y.1), y.2), rfl, h85, h86, (show (-83 : Int) ≤ ((-1 : Int32) - y.1).toInt by rw [q89]; clear q89; omega), (show ((-1 : Int32) - y.1).toInt ≤ (0 : Int) by rw [q89]; clear q89; omega)⟩
theorem sf_Law_push (v1 : Int32) (M : Mem) (hJ : J M) : ∃ r : Mem, f_Law_push v1 M = some r ∧ (J r ∧ Gc 0 M r) := by
  unfold f_Law_push
  refine if_i (fun c => ?_) (fun c => ?_)
  · have c1 := c
    have d2 : (M.1 40 7).toInt < (0 : Int) := lti.mp c1
    exact ⟨M, rfl, hJ, Gc_r⟩
  · have c3 := c
    have d4 : (0 : Int) ≤ (M.1 40 7).toInt := nlti.mp c3
    refine if_i (fun c => ?_) (fun c => ?_)
    · have c5 := c
      have d6 : (40 : Int) ≤ (M.1 40 7).toInt := lei.mp c5
      exact ⟨M, rfl, hJ, Gc_r⟩
    · have c7 := c
      have d8 : (M.1 40 7).toInt < (40 : Int) := nlei.mp c7
      refine inb_i (by omega) (by omega) ?_
      refine mem_i (fun M1 e10 => ?_)
      have hJ11 : J M1 := by rw [e10]; exact Jw_any ok_44 hJ (M.1 40 7).toNatClampNeg v1
      have hG12 : Gc 0 M M1 := Gc_i Gc_r e10 (by decide)
      have f13 : (M1.1 40 7).toInt = (M.1 40 7).toInt := by rw [e10]; rw [si_ne (by exact fun e => absurd e.1 (by decide))]
      clear e10
      refine mem_i (fun M2 e15 => ?_)
      have hJ16 : J M2 := by rw [e15]; exact Jw_any ok_40 hJ11 7 ((M1.1 40 7) + (1 : Int32))
      have hG17 : Gc 0 M M2 := Gc_i hG12 e15 (by decide)
      have q18 : ((M1.1 40 7) + (1 : Int32)).toInt = (M1.1 40 7).toInt + (1 : Int) := add_ti rfl rfl (by omega) (by omega)
      have f19 : (M2.1 40 7).toInt = ((M1.1 40 7) + (1 : Int32)).toInt := by rw [e15, si_eq]
      clear e15
      exact ⟨M2, rfl, hJ16, hG17⟩
theorem sf_Law_quality (v0 : Int32) (v1 : Int32) (v2 : Nat) (M : Mem) (hp_v1 : (0 : Int) ≤ v1.toInt ∧ v1.toInt ≤ (7 : Int)) (hk_v2 : kd v2 = 10 + 7) (hJ : J M) : ∃ r : Int32, f_Law_quality v0 v1 v2 M = some r ∧ (True) := by
  unfold f_Law_quality
  refine c_i hk_v2 ?_
  refine inb_i (by omega) (by omega) ?_
  refine if_i (fun c => ?_) (fun c => ?_)
  · have c1 := c
    have d2 : v0.toInt = (105 : Int) := eqi.mp c1
    exact ⟨v1, rfl, trivial⟩
  · have c3 := c
    have d4 : ¬ v0.toInt = (105 : Int) := neqi.mp c3
    refine if_i (fun c => ?_) (fun c => ?_)
    · have c5 := c
      have d6 : v0.toInt = (107 : Int) := eqi.mp c5
      exact ⟨(((M.1 v2 8) >>> (v1 &&& 31)) &&& (1 : Int32)), rfl, trivial⟩
    · have c7 := c
      have d8 : ¬ v0.toInt = (107 : Int) := neqi.mp c7
      refine if_i (fun c => ?_) (fun c => ?_)
      · have c9 := c
        have d10 : v0.toInt = (109 : Int) := eqi.mp c9
        exact ⟨(M.1 v2 7), rfl, trivial⟩
      · have c11 := c
        have d12 : ¬ v0.toInt = (109 : Int) := neqi.mp c11
        refine if_i (fun c => ?_) (fun c => ?_)
        · have c13 := c
          have d14 : v0.toInt = (110 : Int) := eqi.mp c13
          refine inb_i (by omega) (by omega) ?_
          have r15 := Jr_6_4 hJ
          refine bind_i (sf_Scene_standing v2 (M.1 (rf v2 1) v1.toNatClampNeg) (M.1 (rf v2 0) v1.toNatClampNeg) (M.1 6 4) M hk_v2 (⟨show (0 : Int) ≤ (M.1 6 4).toInt by omega, show (M.1 6 4).toInt ≤ (8 : Int) by omega⟩) hJ) (fun x4 _ q => ?_)
          refine bind_i (sf_JInteger_bitCount x4) (fun x5 _ q => ?_)
          obtain ⟨h16, h17⟩ := q
          exact ⟨(x5 - (1 : Int32)), rfl, trivial⟩
        · have c18 := c
          have d19 : ¬ v0.toInt = (110 : Int) := neqi.mp c18
          refine if_i (fun c => ?_) (fun c => ?_)
          · have c20 := c
            have d21 : v0.toInt = (115 : Int) := eqi.mp c20
            have r22 := Jr_scene0 hJ hk_v2 v1.toNatClampNeg
            refine bind_i (sf_Ground_isStair (M.1 (rf v2 0) v1.toNatClampNeg) M hJ) (fun x7 _ q => ?_)
            obtain ⟨h23, h24, h25⟩ := q
            refine if_i (fun c => ?_) (fun c => ?_)
            · have c26 := c
              have d27 : x7.toInt = (0 : Int) := eqi.mp c26
              exact ⟨(0 : Int32), rfl, trivial⟩
            · have c28 := c
              have d29 : ¬ x7.toInt = (0 : Int) := neqi.mp c28
              exact ⟨(1 : Int32), rfl, trivial⟩
          · have c30 := c
            have d31 : ¬ v0.toInt = (115 : Int) := neqi.mp c30
            refine if_i (fun c => ?_) (fun c => ?_)
            · have c32 := c
              have d33 : v0.toInt = (119 : Int) := eqi.mp c32
              refine bind_i (sf_Crowd_woman v1 M hJ) (fun x10 _ q => ?_)
              obtain ⟨h34, h35⟩ := q
              refine if_i (fun c => ?_) (fun c => ?_)
              · have c36 := c
                have d37 : x10.toInt = (0 : Int) := eqi.mp c36
                exact ⟨(0 : Int32), rfl, trivial⟩
              · have c38 := c
                have d39 : ¬ x10.toInt = (0 : Int) := neqi.mp c38
                exact ⟨(1 : Int32), rfl, trivial⟩
            · have c40 := c
              have d41 : ¬ v0.toInt = (119 : Int) := neqi.mp c40
              refine if_i (fun c => ?_) (fun c => ?_)
              · have c42 := c
                have d43 : v0.toInt = (120 : Int) := eqi.mp c42
                refine bind_i (sf_Ground_column (M.1 (rf v2 0) v1.toNatClampNeg) M hJ) (fun x13 _ q => ?_)
                exact ⟨x13, rfl, trivial⟩
              · have c44 := c
                have d45 : ¬ v0.toInt = (120 : Int) := neqi.mp c44
                refine if_i (fun c => ?_) (fun c => ?_)
                · have c46 := c
                  have d47 : v0.toInt = (121 : Int) := eqi.mp c46
                  refine bind_i (sf_Ground_line (M.1 (rf v2 0) v1.toNatClampNeg) M hJ) (fun x15 _ q => ?_)
                  exact ⟨x15, rfl, trivial⟩
                · have c48 := c
                  have d49 : ¬ v0.toInt = (121 : Int) := neqi.mp c48
                  exact ⟨(0 : Int32), rfl, trivial⟩
theorem sf_Law_pop (M : Mem) (hJ : J M) : ∃ r : Int32 × Mem, f_Law_pop M = some r ∧ (J r.2 ∧ Gc 0 M r.2) := by
  unfold f_Law_pop
  refine if_i (fun c => ?_) (fun c => ?_)
  · have c1 := c
    have d2 : (M.1 40 7).toInt < (1 : Int) := lti.mp c1
    exact ⟨((0 : Int32), M), rfl, hJ, Gc_r⟩
  · have c3 := c
    have d4 : (1 : Int) ≤ (M.1 40 7).toInt := nlti.mp c3
    refine if_i (fun c => ?_) (fun c => ?_)
    · have c5 := c
      have d6 : (M.1 40 7).toInt ≤ (40 : Int) := lei.mp c5
      refine mem_i (fun M1 e8 => ?_)
      have hJ9 : J M1 := by rw [e8]; exact Jw_any ok_40 hJ 7 ((M.1 40 7) - (1 : Int32))
      have hG10 : Gc 0 M M1 := Gc_i Gc_r e8 (by decide)
      have q11 : ((M.1 40 7) - (1 : Int32)).toInt = (M.1 40 7).toInt - (1 : Int) := sub_ti rfl rfl (by omega) (by omega)
      have f12 : (M1.1 40 7).toInt = ((M.1 40 7) - (1 : Int32)).toInt := by rw [e8, si_eq]
      clear e8
      refine inb_i (by omega) (by omega) ?_
      exact ⟨((M1.1 44 (M1.1 40 7).toNatClampNeg), M1), rfl, hJ9, hG10⟩
    · have c13 := c
      have d14 : (40 : Int) < (M.1 40 7).toInt := nlei.mp c13
      exact ⟨((0 : Int32), M), rfl, hJ, Gc_r⟩
