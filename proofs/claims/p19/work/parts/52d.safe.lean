/-! safety of the class, 4 -/
theorem sl_Crowd_read_19  (a0_ : Int32) (a1_ : Int32) (N_ : Mem) (B_ : Mem) (hN : J N_) (hG : Gc 0 B_ N_) (i2_ : (0 : Int) ≤ a0_.toInt) (i3_ : a0_.toInt ≤ (80 : Int)) (i4_ : (0 : Int) ≤ a1_.toInt) (i5_ : a1_.toInt ≤ (9 : Int)) : ∃ x, iter (lb_Crowd_read_19) FU (a0_, a1_, N_) = some x ∧ (SQ (fun r : Int32 × Mem => J r.2 ∧ Gc 0 B_ r.2 ∧ (0 : Int) ≤ r.1.toInt ∧ r.1.toInt ≤ (80 : Int)) (SQ (fun r : Int32 × Mem => J r.2 ∧ Gc 0 B_ r.2 ∧ (-84 : Int) ≤ r.1.toInt ∧ r.1.toInt ≤ (-1 : Int)) (SQ (fun r : Int32 × Mem => J r.2 ∧ Gc 0 B_ r.2 ∧ (0 : Int) ≤ r.1.toInt ∧ r.1.toInt ≤ (8 : Int) ∧ (r.2.1 6 4).toInt + r.1.toInt + 1 ≤ (8 : Int)) (fun r : Int32 × Mem => J r.2 ∧ Gc 0 B_ r.2 ∧ (0 : Int) ≤ r.1.toInt ∧ r.1.toInt ≤ (79 : Int))))) x := by
  refine iter_r (fun s : Int32 × Int32 × Mem => J s.2.2 ∧ Gc 0 B_ s.2.2 ∧ (0 : Int) ≤ s.1.toInt ∧ s.1.toInt ≤ (80 : Int) ∧ (0 : Int) ≤ s.2.1.toInt ∧ s.2.1.toInt ≤ (9 : Int)) (fun s : Int32 × Int32 × Mem => (9 - s.2.1.toInt).toNat) (SQ (fun r : Int32 × Mem => J r.2 ∧ Gc 0 B_ r.2 ∧ (0 : Int) ≤ r.1.toInt ∧ r.1.toInt ≤ (80 : Int)) (SQ (fun r : Int32 × Mem => J r.2 ∧ Gc 0 B_ r.2 ∧ (-84 : Int) ≤ r.1.toInt ∧ r.1.toInt ≤ (-1 : Int)) (SQ (fun r : Int32 × Mem => J r.2 ∧ Gc 0 B_ r.2 ∧ (0 : Int) ≤ r.1.toInt ∧ r.1.toInt ≤ (8 : Int) ∧ (r.2.1 6 4).toInt + r.1.toInt + 1 ≤ (8 : Int)) (fun r : Int32 × Mem => J r.2 ∧ Gc 0 B_ r.2 ∧ (0 : Int) ≤ r.1.toInt ∧ r.1.toInt ≤ (79 : Int))))) ?_ FU (a0_, a1_, N_) ⟨hN, hG, i2_, i3_, i4_, i5_⟩ (by show (9 - a1_.toInt).toNat < FU; rw [FU_v]; omega)
  clear i5_ i4_ i3_ i2_ hG hN
  rintro ⟨a0_', a1_', N_'⟩ ⟨hN, hG, i2_, i3_, i4_, i5_⟩
  dsimp only at hN hG i2_ i3_ i4_ i5_
  unfold lb_Crowd_read_19
  dsimp only
  refine if_i (fun c => ?_) (fun c => ?_)
  · have c1 := c
    have d2 : (8 : Int) < a1_'.toInt := lti.mp c1
    exact ⟨_, rfl, hN, hG, (show (0 : Int) ≤ a0_'.toInt by omega), (show a0_'.toInt ≤ (80 : Int) by omega)⟩
  · have c3 := c
    have d4 : a1_'.toInt ≤ (8 : Int) := nlti.mp c3
    have r5 := Jr_6_4 hN
    have q6 : ((N_'.1 6 4) + a1_').toInt = (N_'.1 6 4).toInt + a1_'.toInt := add_ti rfl rfl (by omega) (by omega)
    refine bind_i (sf_Crowd_readLine ((N_'.1 6 4) + a1_') a0_' N_' (⟨show (0 : Int) ≤ a0_'.toInt by omega, show a0_'.toInt ≤ (80 : Int) by omega⟩) hN) (fun x2 _ q => ?_)
    obtain ⟨h7, h8, h9, h10, h11, h12⟩ := q
    have hG13 : Gc 0 B_ x2.2 := Gc_t hG h8
    have f14 : (x2.2.1 6 4).toInt = (N_'.1 6 4).toInt := by rw [h12]
    refine if_i (fun c => ?_) (fun c => ?_)
    · have c15 := c
      have d16 : (0 : Int) ≤ x2.1.toInt := lei.mp c15
      refine bind_i (sf_Signs_at x2.1 (76 : Int32) x2.2 h7) (fun x3 _ q => ?_)
      obtain ⟨h17, h18, h19⟩ := q
      refine if_i (fun c => ?_) (fun c => ?_)
      · have c20 := c
        have d21 : x3.toInt = (-1 : Int) := eqi.mp c20
        have r22 := Jr_6_4 h7
        exact ⟨_, rfl, h7, hG13, (show (0 : Int) ≤ a1_'.toInt by omega), (show a1_'.toInt ≤ (8 : Int) by omega), (show (x2.2.1 6 4).toInt + a1_'.toInt + 1 ≤ (8 : Int) by omega)⟩
      · have c23 := c
        have d24 : ¬ x3.toInt = (-1 : Int) := neqi.mp c23
        refine if_i (fun c => ?_) (fun c => ?_)
        · have c25 := c
          have d26 : x3.toInt = (59 : Int) := eqi.mp c25
          have q27 : (x2.1 + (1 : Int32)).toInt = x2.1.toInt + (1 : Int) := add_ti rfl rfl (by omega) (by omega)
          have q28 : (a1_' + (1 : Int32)).toInt = a1_'.toInt + (1 : Int) := add_ti rfl rfl (by omega) (by omega)
          exact ⟨_, rfl, ⟨h7, hG13, (show (0 : Int) ≤ (x2.1 + (1 : Int32)).toInt by omega), (show (x2.1 + (1 : Int32)).toInt ≤ (80 : Int) by omega), (show (0 : Int) ≤ (a1_' + (1 : Int32)).toInt by omega), (show (a1_' + (1 : Int32)).toInt ≤ (9 : Int) by omega)⟩, show (9 - (a1_' + (1 : Int32)).toInt).toNat < (9 - a1_'.toInt).toNat by omega⟩
        · have c29 := c
          have d30 : ¬ x3.toInt = (59 : Int) := neqi.mp c29
          exact ⟨_, rfl, h7, hG13, (show (0 : Int) ≤ x2.1.toInt by omega), (show x2.1.toInt ≤ (79 : Int) by omega)⟩
    · have c31 := c
      have d32 : x2.1.toInt < (0 : Int) := nlei.mp c31
      exact ⟨_, rfl, h7, hG13, (show (-84 : Int) ≤ x2.1.toInt by omega), (show x2.1.toInt ≤ (-1 : Int) by omega)⟩
theorem sf_Crowd_read (M : Mem) (hJ : J M) : ∃ r : Int32 × Mem, f_Crowd_read M = some r ∧ (J r.2 ∧ Gc 0 M r.2 ∧ (-84 : Int) ≤ r.1.toInt ∧ r.1.toInt ≤ (9 : Int) ∧ ((1 : Int) ≤ r.1.toInt → (r.2.1 6 4).toInt + r.1.toInt ≤ (8 : Int))) := by
  unfold f_Crowd_read
  refine if_i (fun c => ?_) (fun c => ?_)
  · have c1 := c
    have r2 := Jr_1_1 hJ
    have d3 : (M.1 1 1).toInt = (0 : Int) := eqi.mp c1
    have r4 := Jr_6_4 hJ
    exact ⟨((0 : Int32), M), rfl, hJ, Gc_r, (show (-84 : Int) ≤ (0 : Int32).toInt by decide), (show (0 : Int32).toInt ≤ (9 : Int) by decide), (fun hh => by have hh : (1 : Int) ≤ (0 : Int) := hh; show (M.1 6 4).toInt + (0 : Int32).toInt ≤ (8 : Int); omega)⟩
  · have c5 := c
    have r6 := Jr_1_1 hJ
    have d7 : ¬ (M.1 1 1).toInt = (0 : Int) := neqi.mp c5
    refine mem_i (fun M1 e9 => ?_)
    have hJ10 : J M1 := by rw [e9]; exact Jw_fld okf_6_6 hJ (0 : Int32)
    have hG11 : Gc 0 M M1 := Gc_i Gc_r e9 (by decide)
    have f12 : (M1.1 1 1).toInt = (M.1 1 1).toInt := by rw [e9]; rw [si_ne (by exact fun e => absurd e.1 (by decide))]
    have f13 : (M1.1 6 6).toInt = (0 : Int) := by rw [e9, si_eq]; rfl
    clear e9
    refine bind_i (sl_Crowd_read_19  (0 : Int32) (0 : Int32) M1 M hJ10 hG11 (show (0 : Int) ≤ (0 : Int32).toInt by decide) (show (0 : Int32).toInt ≤ (80 : Int) by decide) (show (0 : Int) ≤ (0 : Int32).toInt by decide) (show (0 : Int32).toInt ≤ (9 : Int) by decide)) (fun x14 _ q => ?_)
    rcases x14 with y | y | y | y
    · have q9 : J y.2 ∧ Gc 0 M y.2 ∧ (0 : Int) ≤ y.1.toInt ∧ y.1.toInt ≤ (80 : Int) := q
      dsimp only [Sum.elim_inl, Sum.elim_inr]
      obtain ⟨h16, h17, h18, h19⟩ := q9
      have q20 : ((-1 : Int32) - y.1).toInt = (-1 : Int) - y.1.toInt := sub_ti rfl rfl (by omega) (by omega)
      have r21 := Jr_6_4 h16
      exact ⟨(((-1 : Int32) - y.1), y.2), rfl, h16, h17, (show (-84 : Int) ≤ ((-1 : Int32) - y.1).toInt by rw [q20]; clear q20; omega), (show ((-1 : Int32) - y.1).toInt ≤ (9 : Int) by rw [q20]; clear q20; omega), (fun hh => by have hh : (1 : Int) ≤ ((-1 : Int32) - y.1).toInt := hh; show (y.2.1 6 4).toInt + ((-1 : Int32) - y.1).toInt ≤ (8 : Int); omega)⟩
    · have q9 : J y.2 ∧ Gc 0 M y.2 ∧ (-84 : Int) ≤ y.1.toInt ∧ y.1.toInt ≤ (-1 : Int) := q
      dsimp only [Sum.elim_inl, Sum.elim_inr]
      obtain ⟨h23, h24, h25, h26⟩ := q9
      have r27 := Jr_6_4 h23
      exact ⟨(y.1, y.2), rfl, h23, h24, (show (-84 : Int) ≤ y.1.toInt by omega), (show y.1.toInt ≤ (9 : Int) by omega), (fun hh => by have hh : (1 : Int) ≤ y.1.toInt := hh; show (y.2.1 6 4).toInt + y.1.toInt ≤ (8 : Int); omega)⟩
    · have q9 : J y.2 ∧ Gc 0 M y.2 ∧ (0 : Int) ≤ y.1.toInt ∧ y.1.toInt ≤ (8 : Int) ∧ (y.2.1 6 4).toInt + y.1.toInt + 1 ≤ (8 : Int) := q
      dsimp only [Sum.elim_inl, Sum.elim_inr]
      obtain ⟨h29, h30, h31, h32, h33⟩ := q9
      refine if_i (fun c => ?_) (fun c => ?_)
      · have c34 := c
        have r35 := Jr_1_1 h29
        have d36 : (y.2.1 1 1).toInt ≤ (76 : Int) := lei.mp c34
        have q37 : (y.1 + (1 : Int32)).toInt = y.1.toInt + (1 : Int) := add_ti rfl rfl (by omega) (by omega)
        have r38 := Jr_6_4 h29
        exact ⟨((y.1 + (1 : Int32)), y.2), rfl, h29, h30, (show (-84 : Int) ≤ (y.1 + (1 : Int32)).toInt by omega), (show (y.1 + (1 : Int32)).toInt ≤ (9 : Int) by omega), (fun hh => by have hh : (1 : Int) ≤ (y.1 + (1 : Int32)).toInt := hh; show (y.2.1 6 4).toInt + (y.1 + (1 : Int32)).toInt ≤ (8 : Int); omega)⟩
      · have c39 := c
        have r40 := Jr_1_1 h29
        have d41 : (76 : Int) < (y.2.1 1 1).toInt := nlei.mp c39
        have r42 := Jr_6_4 h29
        exact ⟨((-77 : Int32), y.2), rfl, h29, h30, (show (-84 : Int) ≤ (-77 : Int32).toInt by decide), (show (-77 : Int32).toInt ≤ (9 : Int) by decide), (fun hh => by have hh : (1 : Int) ≤ (-77 : Int) := hh; show (y.2.1 6 4).toInt + (-77 : Int32).toInt ≤ (8 : Int); omega)⟩
    · have q9 : J y.2 ∧ Gc 0 M y.2 ∧ (0 : Int) ≤ y.1.toInt ∧ y.1.toInt ≤ (79 : Int) := q
      dsimp only [Sum.elim_inl, Sum.elim_inr]
      obtain ⟨h44, h45, h46, h47⟩ := q9
      have q48 : ((-1 : Int32) - y.1).toInt = (-1 : Int) - y.1.toInt := sub_ti rfl rfl (by omega) (by omega)
      have r49 := Jr_6_4 h44
      exact ⟨(((-1 : Int32) - y.1), y.2), rfl, h44, h45, (show (-84 : Int) ≤ ((-1 : Int32) - y.1).toInt by rw [q48]; clear q48; omega), (show ((-1 : Int32) - y.1).toInt ≤ (9 : Int) by rw [q48]; clear q48; omega), (fun hh => by have hh : (1 : Int) ≤ ((-1 : Int32) - y.1).toInt := hh; show (y.2.1 6 4).toInt + ((-1 : Int32) - y.1).toInt ≤ (8 : Int); omega)⟩
theorem sf_Crowd_letIn (v1 : Int32) (M : Mem) (hp_v1 : (0 : Int) ≤ v1.toInt ∧ v1.toInt ≤ (8 : Int)) (hJ : J M) (hx0 : (M.1 6 4).toInt + v1.toInt ≤ (8 : Int)) : ∃ r : Mem, f_Crowd_letIn v1 M = some r ∧ (J r ∧ Gc 0 M r) := by
  unfold f_Crowd_letIn
  have r2 := Jr_6_4 hJ
  have q3 : ((M.1 6 4) + v1).toInt = (M.1 6 4).toInt + v1.toInt := add_ti rfl rfl (by omega) (by omega)
  refine mem_i (fun M1 e4 => ?_)
  have hJ5 : J M1 := by rw [e4]; exact Jw_6_4 hJ ((M.1 6 4) + v1) (show (0 : Int) ≤ ((M.1 6 4) + v1).toInt by omega) (show ((M.1 6 4) + v1).toInt ≤ (8 : Int) by omega)
  have hG6 : Gc 0 M M1 := Gc_i Gc_r e4 (by decide)
  have f7 : (M1.1 6 4).toInt = ((M.1 6 4) + v1).toInt := by rw [e4, si_eq]
  clear e4
  refine mem_i (fun M2 e9 => ?_)
  have hJ10 : J M2 := by rw [e9]; exact Jw_fld okf_6_5 hJ5 ((M1.1 6 5) ||| (M1.1 6 6))
  have hG11 : Gc 0 M M2 := Gc_i hG6 e9 (by decide)
  have f12 : (M2.1 6 4).toInt = (M1.1 6 4).toInt := by rw [e9]; rw [si_ne (by exact fun e => absurd e.2 (by decide))]
  clear e9
  exact ⟨M2, rfl, hJ10, hG11⟩
theorem sf_Crowd_woman (v1 : Int32) (M : Mem) (hJ : J M) : ∃ r : Int32, f_Crowd_woman v1 M = some r ∧ ((0 : Int) ≤ r.toInt ∧ r.toInt ≤ (1 : Int)) := by
  unfold f_Crowd_woman
  refine if_i (fun c => ?_) (fun c => ?_)
  · have c1 := c
    have q2 : (0 : Int) ≤ (((M.1 6 5) >>> (v1 &&& 31)) &&& (1 : Int32)).toInt ∧ (((M.1 6 5) >>> (v1 &&& 31)) &&& (1 : Int32)).toInt ≤ 1 := and_rng (by decide)
    have d3 : (((M.1 6 5) >>> (v1 &&& 31)) &&& (1 : Int32)).toInt = (0 : Int) := eqi.mp c1
    exact ⟨(0 : Int32), rfl, (show (0 : Int) ≤ (0 : Int32).toInt by decide), (show (0 : Int32).toInt ≤ (1 : Int) by decide)⟩
  · have c4 := c
    have q5 : (0 : Int) ≤ (((M.1 6 5) >>> (v1 &&& 31)) &&& (1 : Int32)).toInt ∧ (((M.1 6 5) >>> (v1 &&& 31)) &&& (1 : Int32)).toInt ≤ 1 := and_rng (by decide)
    have d6 : ¬ (((M.1 6 5) >>> (v1 &&& 31)) &&& (1 : Int32)).toInt = (0 : Int) := neqi.mp c4
    exact ⟨(1 : Int32), rfl, (show (0 : Int) ≤ (1 : Int32).toInt by decide), (show (1 : Int32).toInt ≤ (1 : Int) by decide)⟩
theorem sf_Crowd_has (v1 : Int32) (M : Mem) (hJ : J M) : ∃ r : Int32, f_Crowd_has v1 M = some r ∧ ((0 : Int) ≤ r.toInt ∧ r.toInt ≤ (1 : Int) ∧ (¬ r.toInt = 0 → (0 : Int) ≤ v1.toInt ∧ v1.toInt ≤ (7 : Int))) := by
  unfold f_Crowd_has
  refine if_i (fun c => ?_) (fun c => ?_)
  · have c1 := c
    have d2 : v1.toInt < (0 : Int) := lti.mp c1
    exact ⟨(0 : Int32), rfl, (show (0 : Int) ≤ (0 : Int32).toInt by decide), (show (0 : Int32).toInt ≤ (1 : Int) by decide), (fun hh => by have hh : ¬ (0 : Int32).toInt = 0 := hh; have zz : (0 : Int32).toInt = 0 := rfl; omega)⟩
  · have c3 := c
    have d4 : (0 : Int) ≤ v1.toInt := nlti.mp c3
    refine if_i (fun c => ?_) (fun c => ?_)
    · have c5 := c
      have r6 := Jr_6_4 hJ
      have d7 : (M.1 6 4).toInt ≤ v1.toInt := lei.mp c5
      exact ⟨(0 : Int32), rfl, (show (0 : Int) ≤ (0 : Int32).toInt by decide), (show (0 : Int32).toInt ≤ (1 : Int) by decide), (fun hh => by have hh : ¬ (0 : Int32).toInt = 0 := hh; have zz : (0 : Int32).toInt = 0 := rfl; omega)⟩
    · have c8 := c
      have r9 := Jr_6_4 hJ
      have d10 : v1.toInt < (M.1 6 4).toInt := nlei.mp c8
      refine if_i (fun c => ?_) (fun c => ?_)
      · have c11 := c
        have d12 : (8 : Int) ≤ v1.toInt := lei.mp c11
        exfalso; omega
      · have c13 := c
        have d14 : v1.toInt < (8 : Int) := nlei.mp c13
        exact ⟨(1 : Int32), rfl, (show (0 : Int) ≤ (1 : Int32).toInt by decide), (show (1 : Int32).toInt ≤ (1 : Int) by decide), (fun hh => by have hh : ¬ (1 : Int32).toInt = 0 := hh; have zz : (1 : Int32).toInt = 1 := rfl; omega)⟩
theorem sl_Crowd_tellWay_40 (v1 : Int32) (v3 : Int32) (a0_ : Int32) (N_ : Mem) (B_ : Mem) (hp_v1 : (0 : Int) ≤ v1.toInt ∧ v1.toInt ≤ (7 : Int)) (hp_v3 : (1 : Int) ≤ v3.toInt ∧ v3.toInt ≤ (9 : Int)) (hN : J N_) (hG : Gc 0 B_ N_) (i2_ : (0 : Int) ≤ a0_.toInt) (i3_ : a0_.toInt ≤ (9 : Int)) : ∃ x, iter (lb_Crowd_tellWay_40 v1 v3) FU (a0_, N_) = some x ∧ (fun r : Mem => J r ∧ Gc 0 B_ r) x := by
  refine iter_r (fun s : Int32 × Mem => J s.2 ∧ Gc 0 B_ s.2 ∧ (0 : Int) ≤ s.1.toInt ∧ s.1.toInt ≤ (9 : Int)) (fun s : Int32 × Mem => (9 - s.1.toInt).toNat) (fun r : Mem => J r ∧ Gc 0 B_ r) ?_ FU (a0_, N_) ⟨hN, hG, i2_, i3_⟩ (by show (9 - a0_.toInt).toNat < FU; rw [FU_v]; omega)
  clear i3_ i2_ hG hN
  rintro ⟨a0_', N_'⟩ ⟨hN, hG, i2_, i3_⟩
  dsimp only at hN hG i2_ i3_
  unfold lb_Crowd_tellWay_40
  dsimp only
  refine if_i (fun c => ?_) (fun c => ?_)
  · have c1 := c
    have d2 : (9 : Int) ≤ a0_'.toInt := lei.mp c1
    exact ⟨_, rfl, hN, hG⟩
  · have c3 := c
    have d4 : a0_'.toInt < (9 : Int) := nlei.mp c3
    refine inb_i (by omega) (by omega) ?_
    have q5 : (v1 * (9 : Int32)).toInt = v1.toInt * (9 : Int) := mul_ti rfl rfl (by omega) (by omega)
    have q6 : ((v1 * (9 : Int32)) + a0_').toInt = (v1 * (9 : Int32)).toInt + a0_'.toInt := add_ti rfl rfl (by omega) (by omega)
    refine inb_i (by omega) (by omega) ?_
    refine mem_i (fun M3 e8 => ?_)
    have hJ9 : J M3 := by rw [e8]; exact Jw_any ok_7 hN ((v1 * (9 : Int32)) + a0_').toNatClampNeg (N_'.1 10 a0_'.toNatClampNeg)
    have hG10 : Gc 0 B_ M3 := Gc_i hG e8 (by decide)
    clear e8
    have q11 : (a0_' + (1 : Int32)).toInt = a0_'.toInt + (1 : Int) := add_ti rfl rfl (by omega) (by omega)
    exact ⟨_, rfl, ⟨hJ9, hG10, (show (0 : Int) ≤ (a0_' + (1 : Int32)).toInt by omega), (show (a0_' + (1 : Int32)).toInt ≤ (9 : Int) by omega)⟩, show (9 - (a0_' + (1 : Int32)).toInt).toNat < (9 - a0_'.toInt).toNat by omega⟩
theorem sf_Crowd_tellWay (v1 : Int32) (M : Mem) (hJ : J M) : ∃ r : Int32 × Mem, f_Crowd_tellWay v1 M = some r ∧ (J r.2 ∧ Gc 0 M r.2 ∧ (-10 : Int) ≤ r.1.toInt ∧ r.1.toInt ≤ (9 : Int)) := by
  unfold f_Crowd_tellWay
  refine bind_i (sf_Signs_steps (0 : Int32) (80 : Int32) 10 (0 : Int32) M FS_10 (⟨by decide, by decide⟩) hJ) (fun x1 _ q => ?_)
  obtain ⟨h1, h2, h3, h4, h5⟩ := q
  have hG6 : Gc 0 M x1.2 := Gc_t Gc_r h2
  refine bind_i (sf_Crowd_has v1 x1.2 h1) (fun x2 _ q => ?_)
  obtain ⟨h7, h8, h9⟩ := q
  refine if_i (fun c => ?_) (fun c => ?_)
  · have c10 := c
    have d11 : x2.toInt = (0 : Int) := eqi.mp c10
    have q12 : ((-1 : Int32) - x1.1).toInt = (-1 : Int) - x1.1.toInt := sub_ti rfl rfl (by omega) (by omega)
    exact ⟨(((-1 : Int32) - x1.1), x1.2), rfl, h1, hG6, (show (-10 : Int) ≤ ((-1 : Int32) - x1.1).toInt by rw [q12]; clear q12; omega), (show ((-1 : Int32) - x1.1).toInt ≤ (9 : Int) by rw [q12]; clear q12; omega)⟩
  · have c13 := c
    have d14 : ¬ x2.toInt = (0 : Int) := neqi.mp c13
    refine if_i (fun c => ?_) (fun c => ?_)
    · have c15 := c
      have d16 : x1.1.toInt = (0 : Int) := eqi.mp c15
      have q17 : ((-1 : Int32) - x1.1).toInt = (-1 : Int) - x1.1.toInt := sub_ti rfl rfl (by omega) (by omega)
      exact ⟨(((-1 : Int32) - x1.1), x1.2), rfl, h1, hG6, (show (-10 : Int) ≤ ((-1 : Int32) - x1.1).toInt by rw [q17]; clear q17; omega), (show ((-1 : Int32) - x1.1).toInt ≤ (9 : Int) by rw [q17]; clear q17; omega)⟩
    · have c18 := c
      have d19 : ¬ x1.1.toInt = (0 : Int) := neqi.mp c18
      refine if_i (fun c => ?_) (fun c => ?_)
      · have c20 := c
        have r21 := Jr_1_1 h1
        have d22 : (x1.2.1 1 1).toInt ≤ x1.1.toInt := lei.mp c20
        refine bind_i (sl_Crowd_tellWay_40 v1 x1.1 (0 : Int32) x1.2 M (⟨show (0 : Int) ≤ v1.toInt by omega, show v1.toInt ≤ (7 : Int) by omega⟩) (⟨show (1 : Int) ≤ x1.1.toInt by omega, show x1.1.toInt ≤ (9 : Int) by omega⟩) h1 hG6 (show (0 : Int) ≤ (0 : Int32).toInt by decide) (show (0 : Int32).toInt ≤ (9 : Int) by decide)) (fun x5 _ q => ?_)
        obtain ⟨h23, h24⟩ := q
        refine inb_i (by omega) (by omega) ?_
        refine mem_i (fun M6 e26 => ?_)
        have hJ27 : J M6 := by rw [e26]; exact Jw_any ok_8 h23 v1.toNatClampNeg x1.1
        have hG28 : Gc 0 M M6 := Gc_i h24 e26 (by decide)
        clear e26
        exact ⟨(x1.1, M6), rfl, hJ27, hG28, (show (-10 : Int) ≤ x1.1.toInt by omega), (show x1.1.toInt ≤ (9 : Int) by omega)⟩
      · have c29 := c
        have r30 := Jr_1_1 h1
        have d31 : x1.1.toInt < (x1.2.1 1 1).toInt := nlei.mp c29
        have q32 : ((-1 : Int32) - x1.1).toInt = (-1 : Int) - x1.1.toInt := sub_ti rfl rfl (by omega) (by omega)
        exact ⟨(((-1 : Int32) - x1.1), x1.2), rfl, h1, hG6, (show (-10 : Int) ≤ ((-1 : Int32) - x1.1).toInt by rw [q32]; clear q32; omega), (show ((-1 : Int32) - x1.1).toInt ≤ (9 : Int) by rw [q32]; clear q32; omega)⟩
theorem sf_Crowd_within (v1 : Int32) (v2 : Int32) (M : Mem) (hJ : J M) : ∃ r : Int32, f_Crowd_within v1 v2 M = some r ∧ ((0 : Int) ≤ r.toInt) := by
  unfold f_Crowd_within
  refine bind_i (sf_Crowd_has v1 M hJ) (fun x1 _ q => ?_)
  obtain ⟨h1, h2, h3⟩ := q
  refine if_i (fun c => ?_) (fun c => ?_)
  · have c4 := c
    have d5 : x1.toInt = (0 : Int) := eqi.mp c4
    exact ⟨(0 : Int32), rfl, (show (0 : Int) ≤ (0 : Int32).toInt by decide)⟩
  · have c6 := c
    have d7 : ¬ x1.toInt = (0 : Int) := neqi.mp c6
    refine inb_i (by omega) (by omega) ?_
    have q8 : (0 : Int) ≤ (if (0 : Int32) < (if ((M.1 8 v1.toNatClampNeg) - (1 : Int32)) < v2 then ((M.1 8 v1.toNatClampNeg) - (1 : Int32)) else v2) then (if ((M.1 8 v1.toNatClampNeg) - (1 : Int32)) < v2 then ((M.1 8 v1.toNatClampNeg) - (1 : Int32)) else v2) else (0 : Int32)).toInt := by
      by_cases cc : (0 : Int32) < (if ((M.1 8 v1.toNatClampNeg) - (1 : Int32)) < v2 then ((M.1 8 v1.toNatClampNeg) - (1 : Int32)) else v2)
      · rw [if_pos cc]
        have d9 : (0 : Int) < (if ((M.1 8 v1.toNatClampNeg) - (1 : Int32)) < v2 then ((M.1 8 v1.toNatClampNeg) - (1 : Int32)) else v2).toInt := lti.mp cc
        omega
      · rw [if_neg cc]
        have d10 : (if ((M.1 8 v1.toNatClampNeg) - (1 : Int32)) < v2 then ((M.1 8 v1.toNatClampNeg) - (1 : Int32)) else v2).toInt ≤ (0 : Int) := nlti.mp cc
        decide
    exact ⟨(if (0 : Int32) < (if ((M.1 8 v1.toNatClampNeg) - (1 : Int32)) < v2 then ((M.1 8 v1.toNatClampNeg) - (1 : Int32)) else v2) then (if ((M.1 8 v1.toNatClampNeg) - (1 : Int32)) < v2 then ((M.1 8 v1.toNatClampNeg) - (1 : Int32)) else v2) else (0 : Int32)), rfl, (show (0 : Int) ≤ (if (0 : Int32) < (if ((M.1 8 v1.toNatClampNeg) - (1 : Int32)) < v2 then ((M.1 8 v1.toNatClampNeg) - (1 : Int32)) else v2) then (if ((M.1 8 v1.toNatClampNeg) - (1 : Int32)) < v2 then ((M.1 8 v1.toNatClampNeg) - (1 : Int32)) else v2) else (0 : Int32)).toInt by omega)⟩
theorem sf_Crowd_stepAt (v1 : Int32) (v2 : Int32) (M : Mem) (hJ : J M) : ∃ r : Int32, f_Crowd_stepAt v1 v2 M = some r ∧ (True) := by
  unfold f_Crowd_stepAt
  refine bind_i (sf_Crowd_has v1 M hJ) (fun x1 _ q => ?_)
  obtain ⟨h1, h2, h3⟩ := q
  refine if_i (fun c => ?_) (fun c => ?_)
  · have c4 := c
    have d5 : x1.toInt = (0 : Int) := eqi.mp c4
    exact ⟨(4 : Int32), rfl, trivial⟩
  · have c6 := c
    have d7 : ¬ x1.toInt = (0 : Int) := neqi.mp c6
    refine if_i (fun c => ?_) (fun c => ?_)
    · have c8 := c
      have d9 : v2.toInt < (0 : Int) := lti.mp c8
      exact ⟨(4 : Int32), rfl, trivial⟩
    · have c10 := c
      have d11 : (0 : Int) ≤ v2.toInt := nlti.mp c10
      refine inb_i (by omega) (by omega) ?_
      refine if_i (fun c => ?_) (fun c => ?_)
      · have c12 := c
        have d13 : (M.1 8 v1.toNatClampNeg).toInt ≤ v2.toInt := lei.mp c12
        exact ⟨(4 : Int32), rfl, trivial⟩
      · have c14 := c
        have d15 : v2.toInt < (M.1 8 v1.toNatClampNeg).toInt := nlei.mp c14
        refine if_i (fun c => ?_) (fun c => ?_)
        · have c16 := c
          have d17 : v2.toInt < (9 : Int) := lti.mp c16
          have q18 : (v1 * (9 : Int32)).toInt = v1.toInt * (9 : Int) := mul_ti rfl rfl (by omega) (by omega)
          have q19 : ((v1 * (9 : Int32)) + v2).toInt = (v1 * (9 : Int32)).toInt + v2.toInt := add_ti rfl rfl (by omega) (by omega)
          refine inb_i (by omega) (by omega) ?_
          exact ⟨(M.1 7 ((v1 * (9 : Int32)) + v2).toNatClampNeg), rfl, trivial⟩
        · have c20 := c
          have d21 : (9 : Int) ≤ v2.toInt := nlti.mp c20
          exact ⟨(4 : Int32), rfl, trivial⟩
theorem sf_Crowd_placeBehind (v1 : Int32) (v2 : Int32) (M : Mem) (hJ : J M) : ∃ r : Int32, f_Crowd_placeBehind v1 v2 M = some r ∧ (True) := by
  unfold f_Crowd_placeBehind
  refine bind_i (sf_Crowd_has v1 M hJ) (fun x1 _ q => ?_)
  obtain ⟨h1, h2, h3⟩ := q
  refine if_i (fun c => ?_) (fun c => ?_)
  · have c4 := c
    have d5 : x1.toInt = (0 : Int) := eqi.mp c4
    exact ⟨(0 : Int32), rfl, trivial⟩
  · have c6 := c
    have d7 : ¬ x1.toInt = (0 : Int) := neqi.mp c6
    refine inb_i (by omega) (by omega) ?_
    refine if_i (fun c => ?_) (fun c => ?_)
    · have c8 := c
      have d9 : (M.1 8 v1.toNatClampNeg).toInt ≤ (v2 + (1 : Int32)).toInt := lei.mp c8
      exact ⟨(0 : Int32), rfl, trivial⟩
    · have c10 := c
      have d11 : (v2 + (1 : Int32)).toInt < (M.1 8 v1.toNatClampNeg).toInt := nlei.mp c10
      exact ⟨(v2 + (1 : Int32)), rfl, trivial⟩
theorem sf_Scene_put (v0 : Nat) (v1 : Int32) (v2 : Int32) (v3 : Int32) (M : Mem) (hk_v0 : kd v0 = 10 + 7) (hp_v1 : (0 : Int) ≤ v1.toInt ∧ v1.toInt ≤ (7 : Int)) (hp_v2 : (0 : Int) ≤ v2.toInt ∧ v2.toInt ≤ (35 : Int)) (hp_v3 : (0 : Int) ≤ v3.toInt ∧ v3.toInt ≤ (1 : Int)) (hJ : J M) : ∃ r : Mem, f_Scene_put v0 v1 v2 v3 M = some r ∧ (J r ∧ Gc 0 M r) := by
  unfold f_Scene_put
  refine c_i hk_v0 ?_
  refine inb_i (by omega) (by omega) ?_
  refine mem_i (fun M1 e2 => ?_)
  have hJ3 : J M1 := by rw [e2]; exact Jw_scene0 hJ hk_v0 v1.toNatClampNeg v2 (show (0 : Int) ≤ v2.toInt by omega) (show v2.toInt ≤ (35 : Int) by omega)
  have hG4 : Gc 0 M M1 := Gc_i Gc_r e2 (cl_scene0 hk_v0)
  have f5 : (M1.1 (rf v0 0) v1.toNatClampNeg).toInt = v2.toInt := by rw [e2, si_eq]
  clear e2
  refine inb_i (by omega) (by omega) ?_
  refine mem_i (fun M2 e7 => ?_)
  have hJ8 : J M2 := by rw [e7]; exact Jw_scene1 hJ3 hk_v0 v1.toNatClampNeg v3 (show (0 : Int) ≤ v3.toInt by omega) (show v3.toInt ≤ (1 : Int) by omega)
  have hG9 : Gc 0 M M2 := Gc_i hG4 e7 (cl_scene1 hk_v0)
  have f10 : (M2.1 (rf v0 1) v1.toNatClampNeg).toInt = v3.toInt := by rw [e7, si_eq]
  clear e7
  refine inb_i (by omega) (by omega) ?_
  refine mem_i (fun M3 e12 => ?_)
  have hJ13 : J M3 := by rw [e12]; exact Jw_scene2 hJ8 hk_v0 v1.toNatClampNeg (0 : Int32)
  have hG14 : Gc 0 M M3 := Gc_i hG9 e12 (cl_scene2 hk_v0)
  have f15 : (M3.1 (rf v0 2) v1.toNatClampNeg).toInt = (0 : Int) := by rw [e12, si_eq]; rfl
  clear e12
  exact ⟨M3, rfl, hJ13, hG14⟩
theorem sl_Scene_clear_2 (v0 : Nat) (a0_ : Int32) (N_ : Mem) (B_ : Mem) (hk_v0 : kd v0 = 10 + 7) (hN : J N_) (hG : Gc 0 B_ N_) (i2_ : (0 : Int) ≤ a0_.toInt) (i3_ : a0_.toInt ≤ (8 : Int)) : ∃ x, iter (lb_Scene_clear_2 v0) FU (a0_, N_) = some x ∧ (fun r : Mem => J r ∧ Gc 0 B_ r) x := by
  refine iter_r (fun s : Int32 × Mem => J s.2 ∧ Gc 0 B_ s.2 ∧ (0 : Int) ≤ s.1.toInt ∧ s.1.toInt ≤ (8 : Int)) (fun s : Int32 × Mem => (8 - s.1.toInt).toNat) (fun r : Mem => J r ∧ Gc 0 B_ r) ?_ FU (a0_, N_) ⟨hN, hG, i2_, i3_⟩ (by show (8 - a0_.toInt).toNat < FU; rw [FU_v]; omega)
  clear i3_ i2_ hG hN
  rintro ⟨a0_', N_'⟩ ⟨hN, hG, i2_, i3_⟩
  dsimp only at hN hG i2_ i3_
  unfold lb_Scene_clear_2
  dsimp only
  refine if_i (fun c => ?_) (fun c => ?_)
  · have c1 := c
    have d2 : (8 : Int) ≤ a0_'.toInt := lei.mp c1
    exact ⟨_, rfl, hN, hG⟩
  · have c3 := c
    have d4 : a0_'.toInt < (8 : Int) := nlei.mp c3
    refine bind_i (sf_Scene_put v0 a0_' (0 : Int32) (0 : Int32) N_' hk_v0 (⟨show (0 : Int) ≤ a0_'.toInt by omega, show a0_'.toInt ≤ (7 : Int) by omega⟩) (⟨by decide, by decide⟩) (⟨by decide, by decide⟩) hN) (fun x1 _ q => ?_)
    obtain ⟨h5, h6⟩ := q
    have hG7 : Gc 0 B_ x1 := Gc_t hG h6
    have q8 : (a0_' + (1 : Int32)).toInt = a0_'.toInt + (1 : Int) := add_ti rfl rfl (by omega) (by omega)
    exact ⟨_, rfl, ⟨h5, hG7, (show (0 : Int) ≤ (a0_' + (1 : Int32)).toInt by omega), (show (a0_' + (1 : Int32)).toInt ≤ (8 : Int) by omega)⟩, show (8 - (a0_' + (1 : Int32)).toInt).toNat < (8 - a0_'.toInt).toNat by omega⟩
theorem sl_Scene_clear_23 (v0 : Nat) (a0_ : Int32) (N_ : Mem) (B_ : Mem) (hk_v0 : kd v0 = 10 + 7) (hN : J N_) (hG : Gc 0 B_ N_) (i2_ : (0 : Int) ≤ a0_.toInt) (i3_ : a0_.toInt ≤ (64 : Int)) : ∃ x, iter (lb_Scene_clear_23 v0) FU (a0_, N_) = some x ∧ (fun r : Mem => J r ∧ Gc 0 B_ r) x := by
  refine iter_r (fun s : Int32 × Mem => J s.2 ∧ Gc 0 B_ s.2 ∧ (0 : Int) ≤ s.1.toInt ∧ s.1.toInt ≤ (64 : Int)) (fun s : Int32 × Mem => (64 - s.1.toInt).toNat) (fun r : Mem => J r ∧ Gc 0 B_ r) ?_ FU (a0_, N_) ⟨hN, hG, i2_, i3_⟩ (by show (64 - a0_.toInt).toNat < FU; rw [FU_v]; omega)
  clear i3_ i2_ hG hN
  rintro ⟨a0_', N_'⟩ ⟨hN, hG, i2_, i3_⟩
  dsimp only at hN hG i2_ i3_
  unfold lb_Scene_clear_23
  dsimp only
  refine if_i (fun c => ?_) (fun c => ?_)
  · have c1 := c
    have d2 : (64 : Int) ≤ a0_'.toInt := lei.mp c1
    exact ⟨_, rfl, hN, hG⟩
  · have c3 := c
    have d4 : a0_'.toInt < (64 : Int) := nlei.mp c3
    refine inb_i (by omega) (by omega) ?_
    refine mem_i (fun M4 e6 => ?_)
    have hJ7 : J M4 := by rw [e6]; exact Jw_scene3 hN hk_v0 a0_'.toNatClampNeg (0 : Int32)
    have hG8 : Gc 0 B_ M4 := Gc_i hG e6 (cl_scene3 hk_v0)
    have f9 : (M4.1 (rf v0 3) a0_'.toNatClampNeg).toInt = (0 : Int) := by rw [e6, si_eq]; rfl
    clear e6
    have q10 : (a0_' + (1 : Int32)).toInt = a0_'.toInt + (1 : Int) := add_ti rfl rfl (by omega) (by omega)
    exact ⟨_, rfl, ⟨hJ7, hG8, (show (0 : Int) ≤ (a0_' + (1 : Int32)).toInt by omega), (show (a0_' + (1 : Int32)).toInt ≤ (64 : Int) by omega)⟩, show (64 - (a0_' + (1 : Int32)).toInt).toNat < (64 - a0_'.toInt).toNat by omega⟩
