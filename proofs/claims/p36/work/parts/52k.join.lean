section
/-! safety of the class, 11 -/
theorem sl_Clock_pass_54 (v1 : Nat) (a0_ : Int32) (N_ : Mem) (B_ : Mem) (hk_v1 : kd v1 = 10 + 7) (hN : J N_) (hG : Gc 0 B_ N_) (i2_ : (0 : Int) ≤ a0_.toInt) (i3_ : a0_.toInt ≤ (8 : Int)) : ∃ x, iter (lb_Clock_pass_54 v1) FU (a0_, N_) = some x ∧ (fun r : Mem => J r ∧ Gc 0 B_ r) x := by
  refine iter_r (fun s : Int32 × Mem => J s.2 ∧ Gc 0 B_ s.2 ∧ (0 : Int) ≤ s.1.toInt ∧ s.1.toInt ≤ (8 : Int)) (fun s : Int32 × Mem => (8 - s.1.toInt).toNat) (fun r : Mem => J r ∧ Gc 0 B_ r) ?_ FU (a0_, N_) ⟨hN, hG, i2_, i3_⟩ (by show (8 - a0_.toInt).toNat < FU; rw [FU_v]; omega)
  clear i3_ i2_ hG hN
  rintro ⟨a0_', N_'⟩ ⟨hN, hG, i2_, i3_⟩
  dsimp only at hN hG i2_ i3_
  unfold lb_Clock_pass_54
  dsimp only
  refine if_i (fun c => ?_) (fun c => ?_)
  · have c1 := c
    have r2 := Jr_6_4 hN
    have d3 : (N_'.1 6 4).toInt ≤ a0_'.toInt := lei.mp c1
    exact ⟨_, rfl, hN, hG⟩
  · have c4 := c
    have r5 := Jr_6_4 hN
    have d6 : a0_'.toInt < (N_'.1 6 4).toInt := nlei.mp c4
    refine bind_i (sf_Clock_greet a0_' v1 N_' (⟨show (0 : Int) ≤ a0_'.toInt by omega, show a0_'.toInt ≤ (7 : Int) by omega⟩) hk_v1 hN) (fun x8 _ q => ?_)
    obtain ⟨h7, h8⟩ := q
    have hG9 : Gc 0 B_ x8 := Gc_t hG h8
    have q10 : (a0_' + (1 : Int32)).toInt = a0_'.toInt + (1 : Int) := add_ti rfl rfl (by omega) (by omega)
    exact ⟨_, rfl, ⟨h7, hG9, (show (0 : Int) ≤ (a0_' + (1 : Int32)).toInt by omega), (show (a0_' + (1 : Int32)).toInt ≤ (8 : Int) by omega)⟩, show (8 - (a0_' + (1 : Int32)).toInt).toNat < (8 - a0_'.toInt).toNat by omega⟩
theorem sl_Clock_pass_87 (v1 : Nat) (v6 : Int32) (a0_ : Int32) (N_ : Mem) (B_ : Mem) (hk_v1 : kd v1 = 10 + 7) (hN : J N_) (hG : Gc 0 B_ N_) (i2_ : (0 : Int) ≤ a0_.toInt) (i3_ : a0_.toInt ≤ (8 : Int)) : ∃ x, iter (lb_Clock_pass_87 v1 v6) FU (a0_, N_) = some x ∧ (fun r : Mem => J r ∧ Gc 0 B_ r) x := by
  refine iter_r (fun s : Int32 × Mem => J s.2 ∧ Gc 0 B_ s.2 ∧ (0 : Int) ≤ s.1.toInt ∧ s.1.toInt ≤ (8 : Int)) (fun s : Int32 × Mem => (8 - s.1.toInt).toNat) (fun r : Mem => J r ∧ Gc 0 B_ r) ?_ FU (a0_, N_) ⟨hN, hG, i2_, i3_⟩ (by show (8 - a0_.toInt).toNat < FU; rw [FU_v]; omega)
  clear i3_ i2_ hG hN
  rintro ⟨a0_', N_'⟩ ⟨hN, hG, i2_, i3_⟩
  dsimp only at hN hG i2_ i3_
  unfold lb_Clock_pass_87
  dsimp only
  refine if_i (fun c => ?_) (fun c => ?_)
  · have c1 := c
    have r2 := Jr_6_4 hN
    have d3 : (N_'.1 6 4).toInt ≤ a0_'.toInt := lei.mp c1
    exact ⟨_, rfl, hN, hG⟩
  · have c4 := c
    have r5 := Jr_6_4 hN
    have d6 : a0_'.toInt < (N_'.1 6 4).toInt := nlei.mp c4
    refine if_i (fun c => ?_) (fun c => ?_)
    · have c7 := c
      have q8 : (0 : Int) ≤ ((v6 >>> (a0_' &&& 31)) &&& (1 : Int32)).toInt ∧ ((v6 >>> (a0_' &&& 31)) &&& (1 : Int32)).toInt ≤ 1 := and_rng (by decide)
      have d9 : ((v6 >>> (a0_' &&& 31)) &&& (1 : Int32)).toInt = (0 : Int) := eqi.mp c7
      have q10 : (a0_' + (1 : Int32)).toInt = a0_'.toInt + (1 : Int) := add_ti rfl rfl (by omega) (by omega)
      exact ⟨_, rfl, ⟨hN, hG, (show (0 : Int) ≤ (a0_' + (1 : Int32)).toInt by omega), (show (a0_' + (1 : Int32)).toInt ≤ (8 : Int) by omega)⟩, show (8 - (a0_' + (1 : Int32)).toInt).toNat < (8 - a0_'.toInt).toNat by omega⟩
    · have c11 := c
      have q12 : (0 : Int) ≤ ((v6 >>> (a0_' &&& 31)) &&& (1 : Int32)).toInt ∧ ((v6 >>> (a0_' &&& 31)) &&& (1 : Int32)).toInt ≤ 1 := and_rng (by decide)
      have d13 : ¬ ((v6 >>> (a0_' &&& 31)) &&& (1 : Int32)).toInt = (0 : Int) := neqi.mp c11
      refine bind_i (sf_Clock_hearers a0_' v1 N_' (⟨show (0 : Int) ≤ a0_'.toInt by omega, show a0_'.toInt ≤ (7 : Int) by omega⟩) hk_v1 hN) (fun x11 _ q => ?_)
      refine mem_i (fun M12 e15 => ?_)
      have hJ16 : J M12 := by rw [e15]; exact Jw_scene hN hk_v1 8 ((N_'.1 v1 8) ||| x11)
      have hG17 : Gc 0 B_ M12 := Gc_i hG e15 (cl_scene hk_v1)
      clear e15
      have q18 : (a0_' + (1 : Int32)).toInt = a0_'.toInt + (1 : Int) := add_ti rfl rfl (by omega) (by omega)
      exact ⟨_, rfl, ⟨hJ16, hG17, (show (0 : Int) ≤ (a0_' + (1 : Int32)).toInt by omega), (show (a0_' + (1 : Int32)).toInt ≤ (8 : Int) by omega)⟩, show (8 - (a0_' + (1 : Int32)).toInt).toNat < (8 - a0_'.toInt).toNat by omega⟩
theorem sf_Clock_pass (v1 : Nat) (v5 : Nat) (M : Mem) (hk_v1 : kd v1 = 10 + 7) (hk_v5 : kd v5 = 10 + 6) (hJ : J M) : ∃ r : Mem, f_Clock_pass v1 v5 M = some r ∧ (J r ∧ Gc 0 M r) := by
  unfold f_Clock_pass
  refine c_i hk_v1 ?_
  refine c_i hk_v5 ?_
  refine mem_i (fun M1 e2 => ?_)
  have hJ3 : J M1 := by rw [e2]; exact Jw_any ok_45 hJ 0 (0 : Int32)
  have hG4 : Gc 0 M M1 := Gc_i Gc_r e2 (by decide)
  have f5 : (M1.1 45 0).toInt = (0 : Int) := by rw [e2, si_eq]; rfl
  clear e2
  refine bind_i (sl_Clock_pass_8 v1 v5 (0 : Int32) M1 M hk_v1 hk_v5 hJ3 hG4 (show (0 : Int) ≤ (0 : Int32).toInt by decide) (show (0 : Int32).toInt ≤ (8 : Int) by decide)) (fun x6 _ q => ?_)
  obtain ⟨h6, h7⟩ := q
  refine mem_i (fun M7 e9 => ?_)
  have hJ10 : J M7 := by rw [e9]; exact Jw_any ok_45 h6 2 (0 : Int32)
  have hG11 : Gc 0 M M7 := Gc_i h7 e9 (by decide)
  have f12 : (M7.1 45 2).toInt = (0 : Int) := by rw [e9, si_eq]; rfl
  clear e9
  refine bind_i (sl_Clock_pass_54 v1 (0 : Int32) M7 M hk_v1 hJ10 hG11 (show (0 : Int) ≤ (0 : Int32).toInt by decide) (show (0 : Int32).toInt ≤ (8 : Int) by decide)) (fun x10 _ q => ?_)
  obtain ⟨h13, h14⟩ := q
  refine bind_i (sl_Clock_pass_87 v1 (x10.1 v1 8) (0 : Int32) x10 M hk_v1 h13 h14 (show (0 : Int) ≤ (0 : Int32).toInt by decide) (show (0 : Int32).toInt ≤ (8 : Int) by decide)) (fun x15 _ q => ?_)
  obtain ⟨h15, h16⟩ := q
  refine mem_i (fun M16 e18 => ?_)
  have hJ19 : J M16 := by rw [e18]; exact Jw_any ok_45 h15 1 ((x15.1 v1 8) &&& ((x10.1 v1 8) ^^^ (-1 : Int32)))
  have hG20 : Gc 0 M M16 := Gc_i h16 e18 (by decide)
  clear e18
  refine mem_i (fun M17 e22 => ?_)
  have hJ23 : J M17 := by rw [e22]; exact Jw_scene hJ19 hk_v1 7 ((M16.1 v1 7) + (1 : Int32))
  have hG24 : Gc 0 M M17 := Gc_i hG20 e22 (cl_scene hk_v1)
  clear e22
  refine bind_i (sf_JInteger_bitCount (M17.1 45 0)) (fun x18 _ q => ?_)
  obtain ⟨h25, h26⟩ := q
  refine mem_i (fun M19 e28 => ?_)
  have hJ29 : J M19 := by rw [e28]; exact Jw_any ok_45 hJ23 3 ((M17.1 45 3) + x18)
  have hG30 : Gc 0 M M19 := Gc_i hG24 e28 (by decide)
  clear e28
  refine mem_i (fun M20 e32 => ?_)
  have hJ33 : J M20 := by rw [e32]; exact Jw_any ok_45 hJ29 4 ((M19.1 45 4) + (M19.1 45 2))
  have hG34 : Gc 0 M M20 := Gc_i hG30 e32 (by decide)
  clear e32
  exact ⟨M20, rfl, hJ33, hG34⟩
theorem sf_Clock_reset (M : Mem) (hJ : J M) : ∃ r : Mem, f_Clock_reset M = some r ∧ (J r ∧ Gc 0 M r) := by
  unfold f_Clock_reset
  refine mem_i (fun M1 e2 => ?_)
  have hJ3 : J M1 := by rw [e2]; exact Jw_any ok_45 hJ 3 (0 : Int32)
  have hG4 : Gc 0 M M1 := Gc_i Gc_r e2 (by decide)
  have f5 : (M1.1 45 3).toInt = (0 : Int) := by rw [e2, si_eq]; rfl
  clear e2
  refine mem_i (fun M2 e7 => ?_)
  have hJ8 : J M2 := by rw [e7]; exact Jw_any ok_45 hJ3 4 (0 : Int32)
  have hG9 : Gc 0 M M2 := Gc_i hG4 e7 (by decide)
  have f10 : (M2.1 45 3).toInt = (M1.1 45 3).toInt := by rw [e7]; rw [si_ne (by exact fun e => absurd e.2 (by decide))]
  have f11 : (M2.1 45 4).toInt = (0 : Int) := by rw [e7, si_eq]; rfl
  clear e7
  exact ⟨M2, rfl, hJ8, hG9⟩
theorem sf_Acts_add (v1 : Int32) (v2 : Int32) (v3 : Int32) (M : Mem) (hJ : J M) : ∃ r : Mem, f_Acts_add v1 v2 v3 M = some r ∧ (J r ∧ Gc 0 M r) := by
  unfold f_Acts_add
  refine if_i (fun c => ?_) (fun c => ?_)
  · have c1 := c
    have r2 := Jr_147_3 hJ
    have d3 : (M.1 147 3).toInt < (0 : Int) := lti.mp c1
    exfalso; omega
  · have c4 := c
    have r5 := Jr_147_3 hJ
    have d6 : (0 : Int) ≤ (M.1 147 3).toInt := nlti.mp c4
    refine if_i (fun c => ?_) (fun c => ?_)
    · have c7 := c
      have d8 : (32 : Int) ≤ (M.1 147 3).toInt := lei.mp c7
      exact ⟨M, rfl, hJ, Gc_r⟩
    · have c9 := c
      have d10 : (M.1 147 3).toInt < (32 : Int) := nlei.mp c9
      refine inb_i (by omega) (by omega) ?_
      refine mem_i (fun M1 e12 => ?_)
      have hJ13 : J M1 := by rw [e12]; exact Jw_any ok_148 hJ (M.1 147 3).toNatClampNeg v1
      have hG14 : Gc 0 M M1 := Gc_i Gc_r e12 (by decide)
      have f15 : (M1.1 147 3).toInt = (M.1 147 3).toInt := by rw [e12]; rw [si_ne (by exact fun e => absurd e.1 (by decide))]
      clear e12
      refine inb_i (by omega) (by omega) ?_
      refine mem_i (fun M2 e17 => ?_)
      have hJ18 : J M2 := by rw [e17]; exact Jw_any ok_149 hJ13 (M1.1 147 3).toNatClampNeg v2
      have hG19 : Gc 0 M M2 := Gc_i hG14 e17 (by decide)
      have f20 : (M2.1 147 3).toInt = (M1.1 147 3).toInt := by rw [e17]; rw [si_ne (by exact fun e => absurd e.1 (by decide))]
      clear e17
      refine inb_i (by omega) (by omega) ?_
      refine mem_i (fun M3 e22 => ?_)
      have hJ23 : J M3 := by rw [e22]; exact Jw_any ok_150 hJ18 (M2.1 147 3).toNatClampNeg v3
      have hG24 : Gc 0 M M3 := Gc_i hG19 e22 (by decide)
      have f25 : (M3.1 147 3).toInt = (M2.1 147 3).toInt := by rw [e22]; rw [si_ne (by exact fun e => absurd e.1 (by decide))]
      clear e22
      have q27 : ((M3.1 147 3) + (1 : Int32)).toInt = (M3.1 147 3).toInt + (1 : Int) := add_ti rfl rfl (by omega) (by omega)
      refine mem_i (fun M4 e28 => ?_)
      have hJ29 : J M4 := by rw [e28]; exact Jw_147_3 hJ23 ((M3.1 147 3) + (1 : Int32)) (show (0 : Int) ≤ ((M3.1 147 3) + (1 : Int32)).toInt by omega) (show ((M3.1 147 3) + (1 : Int32)).toInt ≤ (32 : Int) by omega)
      have hG30 : Gc 0 M M4 := Gc_i hG24 e28 (by decide)
      have f31 : (M4.1 147 3).toInt = ((M3.1 147 3) + (1 : Int32)).toInt := by rw [e28, si_eq]
      clear e28
      exact ⟨M4, rfl, hJ29, hG30⟩
theorem sf_Acts_readLetter (v2 : Int32) (M : Mem) (hJ : J M) : ∃ r : Int32 × Mem, f_Acts_readLetter v2 M = some r ∧ (J r.2 ∧ Gc 0 M r.2) := by
  unfold f_Acts_readLetter
  refine bind_i (sf_Signs_at v2 (60 : Int32) M hJ) (fun x1 _ q => ?_)
  obtain ⟨h1, h2, h3⟩ := q
  refine if_i (fun c => ?_) (fun c => ?_)
  · have c4 := c
    have d5 : x1.toInt < (97 : Int) := lti.mp c4
    exact ⟨(((-1 : Int32) - v2), M), rfl, hJ, Gc_r⟩
  · have c6 := c
    have d7 : (97 : Int) ≤ x1.toInt := nlti.mp c6
    refine if_i (fun c => ?_) (fun c => ?_)
    · have c8 := c
      have d9 : x1.toInt ≤ (104 : Int) := lei.mp c8
      refine bind_i (sf_Acts_add (110 : Int32) (x1 - (97 : Int32)) (0 : Int32) M hJ) (fun x2 _ q => ?_)
      obtain ⟨h10, h11⟩ := q
      have hG12 : Gc 0 M x2 := Gc_t Gc_r h11
      exact ⟨((v2 + (1 : Int32)), x2), rfl, h10, hG12⟩
    · have c13 := c
      have d14 : (104 : Int) < x1.toInt := nlei.mp c13
      exact ⟨(((-1 : Int32) - v2), M), rfl, hJ, Gc_r⟩
theorem sf_Acts_readNumber (v2 : Int32) (M : Mem) (hJ : J M) : ∃ r : Int32 × Mem, f_Acts_readNumber v2 M = some r ∧ (J r.2 ∧ Gc 0 M r.2) := by
  unfold f_Acts_readNumber
  refine bind_i (sf_Signs_digits v2 (60 : Int32) (2 : Int32) M (⟨by decide, by decide⟩) hJ) (fun x1 _ q => ?_)
  obtain ⟨h1, h2, h3, h4, h5⟩ := q
  have hG6 : Gc 0 M x1.2 := Gc_t Gc_r h2
  refine if_i (fun c => ?_) (fun c => ?_)
  · have c7 := c
    have d8 : x1.1.toInt = (0 : Int) := eqi.mp c7
    exact ⟨(((-1 : Int32) - v2), x1.2), rfl, h1, hG6⟩
  · have c9 := c
    have d10 : ¬ x1.1.toInt = (0 : Int) := neqi.mp c9
    refine bind_i (sf_Acts_add (109 : Int32) (x1.2.1 1 2) (0 : Int32) x1.2 h1) (fun x2 _ q => ?_)
    obtain ⟨h11, h12⟩ := q
    have hG13 : Gc 0 M x2 := Gc_t hG6 h12
    exact ⟨((v2 + x1.1), x2), rfl, h11, hG13⟩
theorem sf_Acts_readPlank (v2 : Int32) (M : Mem) (hJ : J M) : ∃ r : Int32 × Mem, f_Acts_readPlank v2 M = some r ∧ (J r.2 ∧ Gc 0 M r.2) := by
  unfold f_Acts_readPlank
  refine bind_i (sf_Signs_digits v2 (60 : Int32) (2 : Int32) M (⟨by decide, by decide⟩) hJ) (fun x1 _ q => ?_)
  obtain ⟨h1, h2, h3, h4, h5⟩ := q
  have hG6 : Gc 0 M x1.2 := Gc_t Gc_r h2
  refine if_i (fun c => ?_) (fun c => ?_)
  · have c7 := c
    have d8 : x1.1.toInt = (0 : Int) := eqi.mp c7
    exact ⟨(((-1 : Int32) - (v2 + x1.1)), x1.2), rfl, h1, hG6⟩
  · have c9 := c
    have d10 : ¬ x1.1.toInt = (0 : Int) := neqi.mp c9
    refine bind_i (sf_Signs_at (v2 + x1.1) (60 : Int32) x1.2 h1) (fun x2 _ q => ?_)
    obtain ⟨h11, h12, h13⟩ := q
    refine if_i (fun c => ?_) (fun c => ?_)
    · have c14 := c
      have d15 : x2.toInt = (45 : Int) := eqi.mp c14
      refine bind_i (sf_Signs_digits ((v2 + x1.1) + (1 : Int32)) (60 : Int32) (2 : Int32) x1.2 (⟨by decide, by decide⟩) h1) (fun x3 _ q => ?_)
      obtain ⟨h16, h17, h18, h19, h20⟩ := q
      have hG21 : Gc 0 M x3.2 := Gc_t hG6 h17
      refine if_i (fun c => ?_) (fun c => ?_)
      · have c22 := c
        have d23 : x3.1.toInt = (0 : Int) := eqi.mp c22
        exact ⟨(((-2 : Int32) - (v2 + x1.1)), x3.2), rfl, h16, hG21⟩
      · have c24 := c
        have d25 : ¬ x3.1.toInt = (0 : Int) := neqi.mp c24
        refine bind_i (sf_Acts_add (112 : Int32) (x1.2.1 1 2) (x3.2.1 1 2) x3.2 h16) (fun x4 _ q => ?_)
        obtain ⟨h26, h27⟩ := q
        have hG28 : Gc 0 M x4 := Gc_t hG21 h27
        exact ⟨((((v2 + x1.1) + (1 : Int32)) + x3.1), x4), rfl, h26, hG28⟩
    · have c29 := c
      have d30 : ¬ x2.toInt = (45 : Int) := neqi.mp c29
      exact ⟨(((-1 : Int32) - (v2 + x1.1)), x1.2), rfl, h1, hG6⟩
theorem sf_Acts_readAct (v2 : Int32) (M : Mem) (hJ : J M) : ∃ r : Int32 × Mem, f_Acts_readAct v2 M = some r ∧ (J r.2 ∧ Gc 0 M r.2) := by
  unfold f_Acts_readAct
  refine bind_i (sf_Signs_at v2 (60 : Int32) M hJ) (fun x1 _ q => ?_)
  obtain ⟨h1, h2, h3⟩ := q
  refine if_i (fun c => ?_) (fun c => ?_)
  · have c4 := c
    have d5 : x1.toInt = (102 : Int) := eqi.mp c4
    refine bind_i (sf_Acts_add x1 (0 : Int32) (0 : Int32) M hJ) (fun x2 _ q => ?_)
    obtain ⟨h6, h7⟩ := q
    have hG8 : Gc 0 M x2 := Gc_t Gc_r h7
    exact ⟨((v2 + (1 : Int32)), x2), rfl, h6, hG8⟩
  · have c9 := c
    have d10 : ¬ x1.toInt = (102 : Int) := neqi.mp c9
    refine if_i (fun c => ?_) (fun c => ?_)
    · have c11 := c
      have d12 : x1.toInt = (120 : Int) := eqi.mp c11
      refine bind_i (sf_Acts_add x1 (0 : Int32) (0 : Int32) M hJ) (fun x2 _ q => ?_)
      obtain ⟨h13, h14⟩ := q
      have hG15 : Gc 0 M x2 := Gc_t Gc_r h14
      exact ⟨((v2 + (1 : Int32)), x2), rfl, h13, hG15⟩
    · have c16 := c
      have d17 : ¬ x1.toInt = (120 : Int) := neqi.mp c16
      refine if_i (fun c => ?_) (fun c => ?_)
      · have c18 := c
        have d19 : x1.toInt = (109 : Int) := eqi.mp c18
        refine bind_i (sf_Acts_readNumber (v2 + (1 : Int32)) M hJ) (fun x5 _ q => ?_)
        obtain ⟨h20, h21⟩ := q
        have hG22 : Gc 0 M x5.2 := Gc_t Gc_r h21
        exact ⟨(x5.1, x5.2), rfl, h20, hG22⟩
      · have c23 := c
        have d24 : ¬ x1.toInt = (109 : Int) := neqi.mp c23
        refine if_i (fun c => ?_) (fun c => ?_)
        · have c25 := c
          have d26 : x1.toInt = (110 : Int) := eqi.mp c25
          refine bind_i (sf_Acts_readLetter (v2 + (1 : Int32)) M hJ) (fun x7 _ q => ?_)
          obtain ⟨h27, h28⟩ := q
          have hG29 : Gc 0 M x7.2 := Gc_t Gc_r h28
          exact ⟨(x7.1, x7.2), rfl, h27, hG29⟩
        · have c30 := c
          have d31 : ¬ x1.toInt = (110 : Int) := neqi.mp c30
          refine if_i (fun c => ?_) (fun c => ?_)
          · have c32 := c
            have d33 : x1.toInt = (112 : Int) := eqi.mp c32
            refine bind_i (sf_Acts_readPlank (v2 + (1 : Int32)) M hJ) (fun x9 _ q => ?_)
            obtain ⟨h34, h35⟩ := q
            have hG36 : Gc 0 M x9.2 := Gc_t Gc_r h35
            exact ⟨(x9.1, x9.2), rfl, h34, hG36⟩
          · have c37 := c
            have d38 : ¬ x1.toInt = (112 : Int) := neqi.mp c37
            exact ⟨(((-1 : Int32) - v2), M), rfl, hJ, Gc_r⟩
theorem sl_Acts_read_18  (a0_ : Int32) (a1_ : Int32) (N_ : Mem) (B_ : Mem) (hN : J N_) (hG : Gc 0 B_ N_) (i2_ : (0 : Int) ≤ a0_.toInt) (i3_ : a0_.toInt ≤ (80 : Int)) (i4_ : (0 : Int) ≤ a1_.toInt) (i5_ : a1_.toInt ≤ (32 : Int)) : ∃ x, iter (lb_Acts_read_18) FU (a0_, a1_, N_) = some x ∧ (SQ (fun r : Int32 × Mem => J r.2 ∧ Gc 0 B_ r.2 ∧ (0 : Int) ≤ r.1.toInt ∧ r.1.toInt ≤ (80 : Int)) (SQ (fun r : Int32 × Mem => J r.2 ∧ Gc 0 B_ r.2 ∧ r.1.toInt ≤ (-1 : Int)) (SQ (fun r : Mem => J r ∧ Gc 0 B_ r) (fun r : Int32 × Mem => J r.2 ∧ Gc 0 B_ r.2 ∧ (0 : Int) ≤ r.1.toInt ∧ r.1.toInt ≤ (79 : Int))))) x := by
  refine iter_r (fun s : Int32 × Int32 × Mem => J s.2.2 ∧ Gc 0 B_ s.2.2 ∧ (0 : Int) ≤ s.1.toInt ∧ s.1.toInt ≤ (80 : Int) ∧ (0 : Int) ≤ s.2.1.toInt ∧ s.2.1.toInt ≤ (32 : Int)) (fun s : Int32 × Int32 × Mem => (32 - s.2.1.toInt).toNat) (SQ (fun r : Int32 × Mem => J r.2 ∧ Gc 0 B_ r.2 ∧ (0 : Int) ≤ r.1.toInt ∧ r.1.toInt ≤ (80 : Int)) (SQ (fun r : Int32 × Mem => J r.2 ∧ Gc 0 B_ r.2 ∧ r.1.toInt ≤ (-1 : Int)) (SQ (fun r : Mem => J r ∧ Gc 0 B_ r) (fun r : Int32 × Mem => J r.2 ∧ Gc 0 B_ r.2 ∧ (0 : Int) ≤ r.1.toInt ∧ r.1.toInt ≤ (79 : Int))))) ?_ FU (a0_, a1_, N_) ⟨hN, hG, i2_, i3_, i4_, i5_⟩ (by show (32 - a1_.toInt).toNat < FU; rw [FU_v]; omega)
  clear i5_ i4_ i3_ i2_ hG hN
  rintro ⟨a0_', a1_', N_'⟩ ⟨hN, hG, i2_, i3_, i4_, i5_⟩
  dsimp only at hN hG i2_ i3_ i4_ i5_
  unfold lb_Acts_read_18
  dsimp only
  refine if_i (fun c => ?_) (fun c => ?_)
  · have c1 := c
    have d2 : (32 : Int) ≤ a1_'.toInt := lei.mp c1
    exact ⟨_, rfl, hN, hG, (show (0 : Int) ≤ a0_'.toInt by omega), (show a0_'.toInt ≤ (80 : Int) by omega)⟩
  · have c3 := c
    have d4 : a1_'.toInt < (32 : Int) := nlei.mp c3
    refine bind_i (sf_Acts_readAct a0_' N_' hN) (fun x2 _ q => ?_)
    obtain ⟨h5, h6⟩ := q
    have hG7 : Gc 0 B_ x2.2 := Gc_t hG h6
    refine if_i (fun c => ?_) (fun c => ?_)
    · have c8 := c
      have d9 : (0 : Int) ≤ x2.1.toInt := lei.mp c8
      refine bind_i (sf_Signs_at x2.1 (60 : Int32) x2.2 h5) (fun x3 _ q => ?_)
      obtain ⟨h10, h11, h12⟩ := q
      refine if_i (fun c => ?_) (fun c => ?_)
      · have c13 := c
        have d14 : x3.toInt = (-1 : Int) := eqi.mp c13
        exact ⟨_, rfl, h5, hG7⟩
      · have c15 := c
        have d16 : ¬ x3.toInt = (-1 : Int) := neqi.mp c15
        refine if_i (fun c => ?_) (fun c => ?_)
        · have c17 := c
          have d18 : x3.toInt = (59 : Int) := eqi.mp c17
          have q19 : (x2.1 + (1 : Int32)).toInt = x2.1.toInt + (1 : Int) := add_ti rfl rfl (by omega) (by omega)
          have q20 : (a1_' + (1 : Int32)).toInt = a1_'.toInt + (1 : Int) := add_ti rfl rfl (by omega) (by omega)
          exact ⟨_, rfl, ⟨h5, hG7, (show (0 : Int) ≤ (x2.1 + (1 : Int32)).toInt by omega), (show (x2.1 + (1 : Int32)).toInt ≤ (80 : Int) by omega), (show (0 : Int) ≤ (a1_' + (1 : Int32)).toInt by omega), (show (a1_' + (1 : Int32)).toInt ≤ (32 : Int) by omega)⟩, show (32 - (a1_' + (1 : Int32)).toInt).toNat < (32 - a1_'.toInt).toNat by omega⟩
        · have c21 := c
          have d22 : ¬ x3.toInt = (59 : Int) := neqi.mp c21
          exact ⟨_, rfl, h5, hG7, (show (0 : Int) ≤ x2.1.toInt by omega), (show x2.1.toInt ≤ (79 : Int) by omega)⟩
    · have c23 := c
      have d24 : x2.1.toInt < (0 : Int) := nlei.mp c23
      exact ⟨_, rfl, h5, hG7, (show x2.1.toInt ≤ (-1 : Int) by omega)⟩
theorem sf_Acts_read (M : Mem) (hJ : J M) : ∃ r : Int32 × Mem, f_Acts_read M = some r ∧ (J r.2 ∧ Gc 0 M r.2 ∧ r.1.toInt ≤ (32 : Int)) := by
  unfold f_Acts_read
  refine mem_i (fun M1 e2 => ?_)
  have hJ3 : J M1 := by rw [e2]; exact Jw_147_3 hJ (0 : Int32) (show (0 : Int) ≤ (0 : Int32).toInt by decide) (show (0 : Int32).toInt ≤ (32 : Int) by decide)
  have hG4 : Gc 0 M M1 := Gc_i Gc_r e2 (by decide)
  have f5 : (M1.1 147 3).toInt = (0 : Int) := by rw [e2, si_eq]; rfl
  clear e2
  refine if_i (fun c => ?_) (fun c => ?_)
  · have c6 := c
    have r7 := Jr_1_1 hJ3
    have d8 : (M1.1 1 1).toInt = (0 : Int) := eqi.mp c6
    exact ⟨((0 : Int32), M1), rfl, hJ3, hG4, (show (0 : Int32).toInt ≤ (32 : Int) by decide)⟩
  · have c9 := c
    have r10 := Jr_1_1 hJ3
    have d11 : ¬ (M1.1 1 1).toInt = (0 : Int) := neqi.mp c9
    refine bind_i (sl_Acts_read_18  (0 : Int32) (0 : Int32) M1 M hJ3 hG4 (show (0 : Int) ≤ (0 : Int32).toInt by decide) (show (0 : Int32).toInt ≤ (80 : Int) by decide) (show (0 : Int) ≤ (0 : Int32).toInt by decide) (show (0 : Int32).toInt ≤ (32 : Int) by decide)) (fun x12 _ q => ?_)
    rcases x12 with y | y | y | y
    · have q9 : J y.2 ∧ Gc 0 M y.2 ∧ (0 : Int) ≤ y.1.toInt ∧ y.1.toInt ≤ (80 : Int) := q
      dsimp only [Sum.elim_inl, Sum.elim_inr]
      obtain ⟨h14, h15, h16, h17⟩ := q9
      have q18 : ((-1 : Int32) - y.1).toInt = (-1 : Int) - y.1.toInt := sub_ti rfl rfl (by omega) (by omega)
      exact ⟨(((-1 : Int32) - y.1), y.2), rfl, h14, h15, (show ((-1 : Int32) - y.1).toInt ≤ (32 : Int) by rw [q18]; clear q18; omega)⟩
    · have q9 : J y.2 ∧ Gc 0 M y.2 ∧ y.1.toInt ≤ (-1 : Int) := q
      dsimp only [Sum.elim_inl, Sum.elim_inr]
      obtain ⟨h20, h21, h22⟩ := q9
      exact ⟨(y.1, y.2), rfl, h20, h21, (show y.1.toInt ≤ (32 : Int) by omega)⟩
    · have q9 : J y ∧ Gc 0 M y := q
      dsimp only [Sum.elim_inl, Sum.elim_inr]
      obtain ⟨h24, h25⟩ := q9
      refine if_i (fun c => ?_) (fun c => ?_)
      · have c26 := c
        have r27 := Jr_1_1 h24
        have d28 : (y.1 1 1).toInt ≤ (60 : Int) := lei.mp c26
        have r29 := Jr_147_3 h24
        exact ⟨((y.1 147 3), y), rfl, h24, h25, (show (y.1 147 3).toInt ≤ (32 : Int) by omega)⟩
      · have c30 := c
        have r31 := Jr_1_1 h24
        have d32 : (60 : Int) < (y.1 1 1).toInt := nlei.mp c30
        exact ⟨((-61 : Int32), y), rfl, h24, h25, (show (-61 : Int32).toInt ≤ (32 : Int) by decide)⟩
    · have q9 : J y.2 ∧ Gc 0 M y.2 ∧ (0 : Int) ≤ y.1.toInt ∧ y.1.toInt ≤ (79 : Int) := q
      dsimp only [Sum.elim_inl, Sum.elim_inr]
      obtain ⟨h34, h35, h36, h37⟩ := q9
      have q38 : ((-1 : Int32) - y.1).toInt = (-1 : Int) - y.1.toInt := sub_ti rfl rfl (by omega) (by omega)
      exact ⟨(((-1 : Int32) - y.1), y.2), rfl, h34, h35, (show ((-1 : Int32) - y.1).toInt ≤ (32 : Int) by rw [q38]; clear q38; omega)⟩
theorem sl_Ways_begin_2 (v1 : Int32) (a0_ : Int32) (N_ : Mem) (B_ : Mem) (hp_v1 : (0 : Int) ≤ v1.toInt ∧ v1.toInt ≤ (71 : Int)) (hN : J N_) (hG : Gc 0 B_ N_) (i2_ : (0 : Int) ≤ a0_.toInt) (i3_ : a0_.toInt ≤ (72 : Int)) : ∃ x, iter (lb_Ways_begin_2 v1) FU (a0_, N_) = some x ∧ (fun r : Mem => J r ∧ Gc 0 B_ r) x := by
  refine iter_r (fun s : Int32 × Mem => J s.2 ∧ Gc 0 B_ s.2 ∧ (0 : Int) ≤ s.1.toInt ∧ s.1.toInt ≤ (72 : Int)) (fun s : Int32 × Mem => (72 - s.1.toInt).toNat) (fun r : Mem => J r ∧ Gc 0 B_ r) ?_ FU (a0_, N_) ⟨hN, hG, i2_, i3_⟩ (by show (72 - a0_.toInt).toNat < FU; rw [FU_v]; omega)
  clear i3_ i2_ hG hN
  rintro ⟨a0_', N_'⟩ ⟨hN, hG, i2_, i3_⟩
  dsimp only at hN hG i2_ i3_
  unfold lb_Ways_begin_2
  dsimp only
  refine if_i (fun c => ?_) (fun c => ?_)
  · have c1 := c
    have d2 : (72 : Int) ≤ a0_'.toInt := lei.mp c1
    exact ⟨_, rfl, hN, hG⟩
  · have c3 := c
    have d4 : a0_'.toInt < (72 : Int) := nlei.mp c3
    refine inb_i (by omega) (by omega) ?_
    refine mem_i (fun M1 e6 => ?_)
    have hJ7 : J M1 := by rw [e6]; exact Jw_any ok_158 hN a0_'.toNatClampNeg (1000000 : Int32)
    have hG8 : Gc 0 B_ M1 := Gc_i hG e6 (by decide)
    clear e6
    have q9 : (a0_' + (1 : Int32)).toInt = a0_'.toInt + (1 : Int) := add_ti rfl rfl (by omega) (by omega)
    exact ⟨_, rfl, ⟨hJ7, hG8, (show (0 : Int) ≤ (a0_' + (1 : Int32)).toInt by omega), (show (a0_' + (1 : Int32)).toInt ≤ (72 : Int) by omega)⟩, show (72 - (a0_' + (1 : Int32)).toInt).toNat < (72 - a0_'.toInt).toNat by omega⟩
theorem sf_Ways_begin (v1 : Int32) (M : Mem) (hp_v1 : (0 : Int) ≤ v1.toInt ∧ v1.toInt ≤ (71 : Int)) (hJ : J M) : ∃ r : Mem, f_Ways_begin v1 M = some r ∧ (J r ∧ Gc 0 M r) := by
  unfold f_Ways_begin
  refine bind_i (sl_Ways_begin_2 v1 (0 : Int32) M M (⟨show (0 : Int) ≤ v1.toInt by omega, show v1.toInt ≤ (71 : Int) by omega⟩) hJ Gc_r (show (0 : Int) ≤ (0 : Int32).toInt by decide) (show (0 : Int32).toInt ≤ (72 : Int) by decide)) (fun x3 _ q => ?_)
  obtain ⟨h1, h2⟩ := q
  refine inb_i (by omega) (by omega) ?_
  refine mem_i (fun M4 e4 => ?_)
  have hJ5 : J M4 := by rw [e4]; exact Jw_any ok_158 h1 v1.toNatClampNeg (0 : Int32)
  have hG6 : Gc 0 M M4 := Gc_i h2 e4 (by decide)
  clear e4
  exact ⟨M4, rfl, hJ5, hG6⟩
theorem sf_Ways_lower (v1 : Int32) (v2 : Int32) (M : Mem) (hp_v1 : (0 : Int) ≤ v1.toInt ∧ v1.toInt ≤ (71 : Int)) (hJ : J M) : ∃ r : Int32 × Mem, f_Ways_lower v1 v2 M = some r ∧ (J r.2 ∧ Gc 0 M r.2 ∧ (0 : Int) ≤ r.1.toInt ∧ r.1.toInt ≤ (1 : Int)) := by
  unfold f_Ways_lower
  refine inb_i (by omega) (by omega) ?_
  refine if_i (fun c => ?_) (fun c => ?_)
  · have c1 := c
    have d2 : v2.toInt < (M.1 158 v1.toNatClampNeg).toInt := lti.mp c1
    refine inb_i (by omega) (by omega) ?_
    refine mem_i (fun M1 e4 => ?_)
    have hJ5 : J M1 := by rw [e4]; exact Jw_any ok_158 hJ v1.toNatClampNeg v2
    have hG6 : Gc 0 M M1 := Gc_i Gc_r e4 (by decide)
    clear e4
    exact ⟨((1 : Int32), M1), rfl, hJ5, hG6, (show (0 : Int) ≤ (1 : Int32).toInt by decide), (show (1 : Int32).toInt ≤ (1 : Int) by decide)⟩
  · have c7 := c
    have d8 : (M.1 158 v1.toNatClampNeg).toInt ≤ v2.toInt := nlti.mp c7
    exact ⟨((0 : Int32), M), rfl, hJ, Gc_r, (show (0 : Int) ≤ (0 : Int32).toInt by decide), (show (0 : Int32).toInt ≤ (1 : Int) by decide)⟩
end
section
/-! safety of the class, 12 -/
theorem sl_Ways_leave_28 (v1 : Nat) (v2 : Int32) (v3 : Int32) (v4 : Int32) (a0_ : Int32) (a1_ : Int32) (N_ : Mem) (B_ : Mem) (hk_v1 : kd v1 = 10 + 6) (hp_v2 : (0 : Int) ≤ v2.toInt ∧ v2.toInt ≤ (1 : Int)) (hp_v3 : (0 : Int) ≤ v3.toInt ∧ v3.toInt ≤ (35 : Int)) (hp_v4 : v4.toInt ≤ (999999 : Int)) (hN : J N_) (hG : Gc 0 B_ N_) (i2_ : (0 : Int) ≤ a0_.toInt) (i3_ : a0_.toInt ≤ (1 : Int)) (i4_ : (0 : Int) ≤ a1_.toInt) (i5_ : a1_.toInt ≤ (4 : Int)) : ∃ x, iter (lb_Ways_leave_28 v1 v2 v3 v4) FU (a0_, a1_, N_) = some x ∧ (fun r : Int32 × Mem => J r.2 ∧ Gc 0 B_ r.2 ∧ (0 : Int) ≤ r.1.toInt ∧ r.1.toInt ≤ (1 : Int)) x := by
  refine iter_r (fun s : Int32 × Int32 × Mem => J s.2.2 ∧ Gc 0 B_ s.2.2 ∧ (0 : Int) ≤ s.1.toInt ∧ s.1.toInt ≤ (1 : Int) ∧ (0 : Int) ≤ s.2.1.toInt ∧ s.2.1.toInt ≤ (4 : Int)) (fun s : Int32 × Int32 × Mem => (4 - s.2.1.toInt).toNat) (fun r : Int32 × Mem => J r.2 ∧ Gc 0 B_ r.2 ∧ (0 : Int) ≤ r.1.toInt ∧ r.1.toInt ≤ (1 : Int)) ?_ FU (a0_, a1_, N_) ⟨hN, hG, i2_, i3_, i4_, i5_⟩ (by show (4 - a1_.toInt).toNat < FU; rw [FU_v]; omega)
  clear i5_ i4_ i3_ i2_ hG hN
  rintro ⟨a0_', a1_', N_'⟩ ⟨hN, hG, i2_, i3_, i4_, i5_⟩
  dsimp only at hN hG i2_ i3_ i4_ i5_
  unfold lb_Ways_leave_28
  dsimp only
  refine if_i (fun c => ?_) (fun c => ?_)
  · have c1 := c
    have d2 : (4 : Int) ≤ a1_'.toInt := lei.mp c1
    exact ⟨_, rfl, hN, hG, (show (0 : Int) ≤ a0_'.toInt by omega), (show a0_'.toInt ≤ (1 : Int) by omega)⟩
  · have c3 := c
    have d4 : a1_'.toInt < (4 : Int) := nlei.mp c3
    refine bind_i (sf_Nets_toward v1 v2 v3 a1_' N_' hk_v1 (⟨show (0 : Int) ≤ v3.toInt by omega, show v3.toInt ≤ (35 : Int) by omega⟩) hN) (fun x1 _ q => ?_)
    obtain ⟨h5, h6⟩ := q
    refine if_i (fun c => ?_) (fun c => ?_)
    · have c7 := c
      have d8 : x1.toInt = (-1 : Int) := eqi.mp c7
      have q9 : (a1_' + (1 : Int32)).toInt = a1_'.toInt + (1 : Int) := add_ti rfl rfl (by omega) (by omega)
      exact ⟨_, rfl, ⟨hN, hG, (show (0 : Int) ≤ a0_'.toInt by omega), (show a0_'.toInt ≤ (1 : Int) by omega), (show (0 : Int) ≤ (a1_' + (1 : Int32)).toInt by omega), (show (a1_' + (1 : Int32)).toInt ≤ (4 : Int) by omega)⟩, show (4 - (a1_' + (1 : Int32)).toInt).toNat < (4 - a1_'.toInt).toNat by omega⟩
    · have c10 := c
      have d11 : ¬ x1.toInt = (-1 : Int) := neqi.mp c10
      have q12 : (v2 * (36 : Int32)).toInt = v2.toInt * (36 : Int) := mul_ti rfl rfl (by omega) (by omega)
      have q13 : ((v2 * (36 : Int32)) + x1).toInt = (v2 * (36 : Int32)).toInt + x1.toInt := add_ti rfl rfl (by omega) (by omega)
      refine bind_i (sf_Ways_lower ((v2 * (36 : Int32)) + x1) ((v4 + (100 : Int32)) + v2) N_' (⟨show (0 : Int) ≤ ((v2 * (36 : Int32)) + x1).toInt by omega, show ((v2 * (36 : Int32)) + x1).toInt ≤ (71 : Int) by omega⟩) hN) (fun x2 _ q => ?_)
      obtain ⟨h14, h15, h16, h17⟩ := q
      have hG18 : Gc 0 B_ x2.2 := Gc_t hG h15
      have q19 := or01 (a := a0_') (b := x2.1) (by omega) (by omega) (by omega) (by omega)
      have q20 : (a1_' + (1 : Int32)).toInt = a1_'.toInt + (1 : Int) := add_ti rfl rfl (by omega) (by omega)
      exact ⟨_, rfl, ⟨h14, hG18, (show (0 : Int) ≤ (a0_' ||| x2.1).toInt by omega), (show (a0_' ||| x2.1).toInt ≤ (1 : Int) by omega), (show (0 : Int) ≤ (a1_' + (1 : Int32)).toInt by omega), (show (a1_' + (1 : Int32)).toInt ≤ (4 : Int) by omega)⟩, show (4 - (a1_' + (1 : Int32)).toInt).toNat < (4 - a1_'.toInt).toNat by omega⟩
theorem sf_Ways_leave (v1 : Nat) (v2 : Int32) (v3 : Int32) (M : Mem) (hk_v1 : kd v1 = 10 + 6) (hp_v2 : (0 : Int) ≤ v2.toInt ∧ v2.toInt ≤ (1 : Int)) (hp_v3 : (0 : Int) ≤ v3.toInt ∧ v3.toInt ≤ (35 : Int)) (hJ : J M) : ∃ r : Int32 × Mem, f_Ways_leave v1 v2 v3 M = some r ∧ (J r.2 ∧ Gc 0 M r.2 ∧ (0 : Int) ≤ r.1.toInt ∧ r.1.toInt ≤ (1 : Int)) := by
  unfold f_Ways_leave
  refine c_i hk_v1 ?_
  have q1 : (v2 * (36 : Int32)).toInt = v2.toInt * (36 : Int) := mul_ti rfl rfl (by omega) (by omega)
  have q2 : ((v2 * (36 : Int32)) + v3).toInt = (v2 * (36 : Int32)).toInt + v3.toInt := add_ti rfl rfl (by omega) (by omega)
  refine inb_i (by omega) (by omega) ?_
  refine if_i (fun c => ?_) (fun c => ?_)
  · have c3 := c
    have d4 : (M.1 158 ((v2 * (36 : Int32)) + v3).toNatClampNeg).toInt < (1000000 : Int) := lti.mp c3
    refine bind_i (sl_Ways_leave_28 v1 v2 v3 (M.1 158 ((v2 * (36 : Int32)) + v3).toNatClampNeg) (0 : Int32) (0 : Int32) M M hk_v1 (⟨show (0 : Int) ≤ v2.toInt by omega, show v2.toInt ≤ (1 : Int) by omega⟩) (⟨show (0 : Int) ≤ v3.toInt by omega, show v3.toInt ≤ (35 : Int) by omega⟩) (show (M.1 158 ((v2 * (36 : Int32)) + v3).toNatClampNeg).toInt ≤ (999999 : Int) by omega) hJ Gc_r (show (0 : Int) ≤ (0 : Int32).toInt by decide) (show (0 : Int32).toInt ≤ (1 : Int) by decide) (show (0 : Int) ≤ (0 : Int32).toInt by decide) (show (0 : Int32).toInt ≤ (4 : Int) by decide)) (fun x5 _ q => ?_)
    obtain ⟨h5, h6, h7, h8⟩ := q
    refine bind_i (sf_Nets_stairs v1 x5.2 hk_v1 h5) (fun x6 _ q => ?_)
    refine if_i (fun c => ?_) (fun c => ?_)
    · have c9 := c
      have d10 : (lg_cmp ((x6 >>> (v3.toInt64 &&& 63)) &&& (1 : Int64)) (0 : Int64)).toInt = (0 : Int) := eqi.mp c9
      refine c_i (bool_of (by omega) (by omega)) ?_
      exact ⟨(x5.1, x5.2), rfl, h5, h6, (show (0 : Int) ≤ x5.1.toInt by omega), (show x5.1.toInt ≤ (1 : Int) by omega)⟩
    · have c11 := c
      have d12 : ¬ (lg_cmp ((x6 >>> (v3.toInt64 &&& 63)) &&& (1 : Int64)) (0 : Int64)).toInt = (0 : Int) := neqi.mp c11
      have q13 : ((1 : Int32) - v2).toInt = (1 : Int) - v2.toInt := sub_ti rfl rfl (by omega) (by omega)
      have q14 : (((1 : Int32) - v2) * (36 : Int32)).toInt = ((1 : Int32) - v2).toInt * (36 : Int) := mul_ti rfl rfl (by omega) (by omega)
      have q15 : ((((1 : Int32) - v2) * (36 : Int32)) + v3).toInt = (((1 : Int32) - v2) * (36 : Int32)).toInt + v3.toInt := add_ti rfl rfl (by omega) (by omega)
      refine bind_i (sf_Ways_lower ((((1 : Int32) - v2) * (36 : Int32)) + v3) (M.1 158 ((v2 * (36 : Int32)) + v3).toNatClampNeg) x5.2 (⟨show (0 : Int) ≤ ((((1 : Int32) - v2) * (36 : Int32)) + v3).toInt by omega, show ((((1 : Int32) - v2) * (36 : Int32)) + v3).toInt ≤ (71 : Int) by omega⟩) h5) (fun x7 _ q => ?_)
      obtain ⟨h16, h17, h18, h19⟩ := q
      have hG20 : Gc 0 M x7.2 := Gc_t h6 h17
      have q21 := or01 (a := x5.1) (b := x7.1) (by omega) (by omega) (by omega) (by omega)
      refine c_i (bool_of (by omega) (by omega)) ?_
      exact ⟨((x5.1 ||| x7.1), x7.2), rfl, h16, hG20, (show (0 : Int) ≤ (x5.1 ||| x7.1).toInt by omega), (show (x5.1 ||| x7.1).toInt ≤ (1 : Int) by omega)⟩
  · have c22 := c
    have d23 : (1000000 : Int) ≤ (M.1 158 ((v2 * (36 : Int32)) + v3).toNatClampNeg).toInt := nlti.mp c22
    exact ⟨((0 : Int32), M), rfl, hJ, Gc_r, (show (0 : Int) ≤ (0 : Int32).toInt by decide), (show (0 : Int32).toInt ≤ (1 : Int) by decide)⟩
theorem sl_Ways_acrossLevels_29 (v1 : Nat) (v3 : Int32) (v5 : Int32) (a0_ : Int32) (a1_ : Int32) (N_ : Mem) (B_ : Mem) (hk_v1 : kd v1 = 10 + 6) (hp_v3 : (0 : Int) ≤ v3.toInt ∧ v3.toInt ≤ (71 : Int)) (hp_v5 : (0 : Int) ≤ v5.toInt ∧ v5.toInt ≤ (71 : Int)) (hN : J N_) (hG : Gc 0 B_ N_) (i2_ : (0 : Int) ≤ a0_.toInt) (i3_ : a0_.toInt ≤ (1 : Int)) (i4_ : (0 : Int) ≤ a1_.toInt) (i5_ : a1_.toInt ≤ (36 : Int)) : ∃ x, iter (lb_Ways_acrossLevels_29 v1 v3 v5) FU (a0_, a1_, N_) = some x ∧ (fun r : Int32 × Mem => J r.2 ∧ Gc 0 B_ r.2 ∧ (0 : Int) ≤ r.1.toInt ∧ r.1.toInt ≤ (1 : Int)) x := by
  refine iter_r (fun s : Int32 × Int32 × Mem => J s.2.2 ∧ Gc 0 B_ s.2.2 ∧ (0 : Int) ≤ s.1.toInt ∧ s.1.toInt ≤ (1 : Int) ∧ (0 : Int) ≤ s.2.1.toInt ∧ s.2.1.toInt ≤ (36 : Int)) (fun s : Int32 × Int32 × Mem => (36 - s.2.1.toInt).toNat) (fun r : Int32 × Mem => J r.2 ∧ Gc 0 B_ r.2 ∧ (0 : Int) ≤ r.1.toInt ∧ r.1.toInt ≤ (1 : Int)) ?_ FU (a0_, a1_, N_) ⟨hN, hG, i2_, i3_, i4_, i5_⟩ (by show (36 - a1_.toInt).toNat < FU; rw [FU_v]; omega)
  clear i5_ i4_ i3_ i2_ hG hN
  rintro ⟨a0_', a1_', N_'⟩ ⟨hN, hG, i2_, i3_, i4_, i5_⟩
  dsimp only at hN hG i2_ i3_ i4_ i5_
  unfold lb_Ways_acrossLevels_29
  dsimp only
  refine if_i (fun c => ?_) (fun c => ?_)
  · have c1 := c
    have d2 : (36 : Int) ≤ a1_'.toInt := lei.mp c1
    exact ⟨_, rfl, hN, hG, (show (0 : Int) ≤ a0_'.toInt by omega), (show a0_'.toInt ≤ (1 : Int) by omega)⟩
  · have c3 := c
    have d4 : a1_'.toInt < (36 : Int) := nlei.mp c3
    refine bind_i (sf_Ways_leave v1 (0 : Int32) a1_' N_' hk_v1 (⟨by decide, by decide⟩) (⟨show (0 : Int) ≤ a1_'.toInt by omega, show a1_'.toInt ≤ (35 : Int) by omega⟩) hN) (fun x2 _ q => ?_)
    obtain ⟨h5, h6, h7, h8⟩ := q
    have hG9 : Gc 0 B_ x2.2 := Gc_t hG h6
    refine bind_i (sf_Ways_leave v1 (1 : Int32) a1_' x2.2 hk_v1 (⟨by decide, by decide⟩) (⟨show (0 : Int) ≤ a1_'.toInt by omega, show a1_'.toInt ≤ (35 : Int) by omega⟩) h5) (fun x3 _ q => ?_)
    obtain ⟨h10, h11, h12, h13⟩ := q
    have hG14 : Gc 0 B_ x3.2 := Gc_t hG9 h11
    have q15 := or01 (a := a0_') (b := x2.1) (by omega) (by omega) (by omega) (by omega)
    have q16 := or01 (a := (a0_' ||| x2.1)) (b := x3.1) (by omega) (by omega) (by omega) (by omega)
    have q17 : (a1_' + (1 : Int32)).toInt = a1_'.toInt + (1 : Int) := add_ti rfl rfl (by omega) (by omega)
    exact ⟨_, rfl, ⟨h10, hG14, (show (0 : Int) ≤ ((a0_' ||| x2.1) ||| x3.1).toInt by omega), (show ((a0_' ||| x2.1) ||| x3.1).toInt ≤ (1 : Int) by omega), (show (0 : Int) ≤ (a1_' + (1 : Int32)).toInt by omega), (show (a1_' + (1 : Int32)).toInt ≤ (36 : Int) by omega)⟩, show (36 - (a1_' + (1 : Int32)).toInt).toNat < (36 - a1_'.toInt).toNat by omega⟩
theorem sl_Ways_acrossLevels_11 (v1 : Nat) (v3 : Int32) (a0_ : Int32) (a1_ : Int32) (N_ : Mem) (B_ : Mem) (hk_v1 : kd v1 = 10 + 6) (hp_v3 : (0 : Int) ≤ v3.toInt ∧ v3.toInt ≤ (71 : Int)) (hN : J N_) (hG : Gc 0 B_ N_) (i2_ : (0 : Int) ≤ a0_.toInt) (i3_ : a0_.toInt ≤ (1 : Int)) (i4_ : (0 : Int) ≤ a1_.toInt) (i5_ : a1_.toInt ≤ (72 : Int)) : ∃ x, iter (lb_Ways_acrossLevels_11 v1 v3) FU (a0_, a1_, N_) = some x ∧ (fun r : Mem => J r ∧ Gc 0 B_ r) x := by
  refine iter_r (fun s : Int32 × Int32 × Mem => J s.2.2 ∧ Gc 0 B_ s.2.2 ∧ (0 : Int) ≤ s.1.toInt ∧ s.1.toInt ≤ (1 : Int) ∧ (0 : Int) ≤ s.2.1.toInt ∧ s.2.1.toInt ≤ (72 : Int)) (fun s : Int32 × Int32 × Mem => (72 - s.2.1.toInt).toNat) (fun r : Mem => J r ∧ Gc 0 B_ r) ?_ FU (a0_, a1_, N_) ⟨hN, hG, i2_, i3_, i4_, i5_⟩ (by show (72 - a1_.toInt).toNat < FU; rw [FU_v]; omega)
  clear i5_ i4_ i3_ i2_ hG hN
  rintro ⟨a0_', a1_', N_'⟩ ⟨hN, hG, i2_, i3_, i4_, i5_⟩
  dsimp only at hN hG i2_ i3_ i4_ i5_
  unfold lb_Ways_acrossLevels_11
  dsimp only
  refine if_i (fun c => ?_) (fun c => ?_)
  · have c1 := c
    have d2 : (72 : Int) ≤ a1_'.toInt := lei.mp c1
    exact ⟨_, rfl, hN, hG⟩
  · have c3 := c
    have d4 : a1_'.toInt < (72 : Int) := nlei.mp c3
    refine if_i (fun c => ?_) (fun c => ?_)
    · have c5 := c
      have d6 : a0_'.toInt = (0 : Int) := eqi.mp c5
      exact ⟨_, rfl, hN, hG⟩
    · have c7 := c
      have d8 : ¬ a0_'.toInt = (0 : Int) := neqi.mp c7
      refine bind_i (sl_Ways_acrossLevels_29 v1 v3 a1_' (0 : Int32) (0 : Int32) N_' B_ hk_v1 (⟨show (0 : Int) ≤ v3.toInt by omega, show v3.toInt ≤ (71 : Int) by omega⟩) (⟨show (0 : Int) ≤ a1_'.toInt by omega, show a1_'.toInt ≤ (71 : Int) by omega⟩) hN hG (show (0 : Int) ≤ (0 : Int32).toInt by decide) (show (0 : Int32).toInt ≤ (1 : Int) by decide) (show (0 : Int) ≤ (0 : Int32).toInt by decide) (show (0 : Int32).toInt ≤ (36 : Int) by decide)) (fun x5 _ q => ?_)
      obtain ⟨h9, h10, h11, h12⟩ := q
      have q13 : (a1_' + (1 : Int32)).toInt = a1_'.toInt + (1 : Int) := add_ti rfl rfl (by omega) (by omega)
      exact ⟨_, rfl, ⟨h9, h10, (show (0 : Int) ≤ x5.1.toInt by omega), (show x5.1.toInt ≤ (1 : Int) by omega), (show (0 : Int) ≤ (a1_' + (1 : Int32)).toInt by omega), (show (a1_' + (1 : Int32)).toInt ≤ (72 : Int) by omega)⟩, show (72 - (a1_' + (1 : Int32)).toInt).toNat < (72 - a1_'.toInt).toNat by omega⟩
theorem sf_Ways_acrossLevels (v1 : Nat) (v2 : Int32) (v3 : Int32) (M : Mem) (hk_v1 : kd v1 = 10 + 6) (hp_v2 : (0 : Int) ≤ v2.toInt ∧ v2.toInt ≤ (71 : Int)) (hp_v3 : (0 : Int) ≤ v3.toInt ∧ v3.toInt ≤ (71 : Int)) (hJ : J M) : ∃ r : Int32 × Mem, f_Ways_acrossLevels v1 v2 v3 M = some r ∧ (J r.2 ∧ Gc 0 M r.2) := by
  unfold f_Ways_acrossLevels
  refine c_i hk_v1 ?_
  refine bind_i (sf_Ways_begin v2 M (⟨show (0 : Int) ≤ v2.toInt by omega, show v2.toInt ≤ (71 : Int) by omega⟩) hJ) (fun x1 _ q => ?_)
  obtain ⟨h1, h2⟩ := q
  have hG3 : Gc 0 M x1 := Gc_t Gc_r h2
  refine bind_i (sl_Ways_acrossLevels_11 v1 v3 (1 : Int32) (0 : Int32) x1 M hk_v1 (⟨show (0 : Int) ≤ v3.toInt by omega, show v3.toInt ≤ (71 : Int) by omega⟩) h1 hG3 (show (0 : Int) ≤ (1 : Int32).toInt by decide) (show (1 : Int32).toInt ≤ (1 : Int) by decide) (show (0 : Int) ≤ (0 : Int32).toInt by decide) (show (0 : Int32).toInt ≤ (72 : Int) by decide)) (fun x8 _ q => ?_)
  obtain ⟨h4, h5⟩ := q
  refine inb_i (by omega) (by omega) ?_
  exact ⟨((x8.1 158 v3.toNatClampNeg), x8), rfl, h4, h5⟩
theorem sf_Ways_later (v1 : Int32) (M : Mem) (hp_v1 : (0 : Int) ≤ v1.toInt ∧ v1.toInt ≤ (35 : Int)) (hJ : J M) : ∃ r : Int32, f_Ways_later v1 M = some r ∧ (True) := by
  unfold f_Ways_later
  refine inb_i (by omega) (by omega) ?_
  refine inb_i (by omega) (by omega) ?_
  exact ⟨(if (M.1 155 v1.toNatClampNeg) < (M.1 156 v1.toNatClampNeg) then (M.1 156 v1.toNatClampNeg) else (M.1 155 v1.toNatClampNeg)), rfl, trivial⟩
theorem sl_Ways_cross_6 (v2 : Nat) (v3 : Int32) (a0_ : Int32) (a1_ : Int32) (N_ : Mem) (B_ : Mem) (hk_v2 : kd v2 = 10 + 6) (hp_v3 : (0 : Int) ≤ v3.toInt ∧ v3.toInt ≤ (35 : Int)) (hN : J N_) (hG : Gc 0 B_ N_) (i2_ : (0 : Int) ≤ a0_.toInt) (i3_ : a0_.toInt ≤ (1 : Int)) (i4_ : (0 : Int) ≤ a1_.toInt) (i5_ : a1_.toInt ≤ (4 : Int)) : ∃ x, iter (lb_Ways_cross_6 v2 v3) FU (a0_, a1_, N_) = some x ∧ (fun r : Int32 × Mem => J r.2 ∧ Gc 0 B_ r.2 ∧ (0 : Int) ≤ r.1.toInt ∧ r.1.toInt ≤ (1 : Int)) x := by
  refine iter_r (fun s : Int32 × Int32 × Mem => J s.2.2 ∧ Gc 0 B_ s.2.2 ∧ (0 : Int) ≤ s.1.toInt ∧ s.1.toInt ≤ (1 : Int) ∧ (0 : Int) ≤ s.2.1.toInt ∧ s.2.1.toInt ≤ (4 : Int)) (fun s : Int32 × Int32 × Mem => (4 - s.2.1.toInt).toNat) (fun r : Int32 × Mem => J r.2 ∧ Gc 0 B_ r.2 ∧ (0 : Int) ≤ r.1.toInt ∧ r.1.toInt ≤ (1 : Int)) ?_ FU (a0_, a1_, N_) ⟨hN, hG, i2_, i3_, i4_, i5_⟩ (by show (4 - a1_.toInt).toNat < FU; rw [FU_v]; omega)
  clear i5_ i4_ i3_ i2_ hG hN
  rintro ⟨a0_', a1_', N_'⟩ ⟨hN, hG, i2_, i3_, i4_, i5_⟩
  dsimp only at hN hG i2_ i3_ i4_ i5_
  unfold lb_Ways_cross_6
  dsimp only
  refine if_i (fun c => ?_) (fun c => ?_)
  · have c1 := c
    have d2 : (4 : Int) ≤ a1_'.toInt := lei.mp c1
    exact ⟨_, rfl, hN, hG, (show (0 : Int) ≤ a0_'.toInt by omega), (show a0_'.toInt ≤ (1 : Int) by omega)⟩
  · have c3 := c
    have d4 : a1_'.toInt < (4 : Int) := nlei.mp c3
    refine bind_i (sf_Nets_toward v2 (1 : Int32) v3 a1_' N_' hk_v2 (⟨show (0 : Int) ≤ v3.toInt by omega, show v3.toInt ≤ (35 : Int) by omega⟩) hN) (fun x1 _ q => ?_)
    obtain ⟨h5, h6⟩ := q
    refine bind_i (sf_Ground_beside v3 a1_' N_' hN) (fun x2 _ q => ?_)
    obtain ⟨h7, h8, h9⟩ := q
    refine bind_i (sf_Ground_beside x2 a1_' N_' hN) (fun x3 _ q => ?_)
    obtain ⟨h10, h11, h12⟩ := q
    refine if_i (fun c => ?_) (fun c => ?_)
    · have c13 := c
      have d14 : x1.toInt = (-1 : Int) := eqi.mp c13
      refine bind_i (sf_Ground_holds (1 : Int32) x3 N_' hN) (fun x4 _ q => ?_)
      obtain ⟨h15, h16, h17, h18⟩ := q
      clear h17
      refine if_i (fun c => ?_) (fun c => ?_)
      · have c19 := c
        have d20 : x4.toInt = (0 : Int) := eqi.mp c19
        have q21 : (a1_' + (1 : Int32)).toInt = a1_'.toInt + (1 : Int) := add_ti rfl rfl (by omega) (by omega)
        exact ⟨_, rfl, ⟨hN, hG, (show (0 : Int) ≤ a0_'.toInt by omega), (show a0_'.toInt ≤ (1 : Int) by omega), (show (0 : Int) ≤ (a1_' + (1 : Int32)).toInt by omega), (show (a1_' + (1 : Int32)).toInt ≤ (4 : Int) by omega)⟩, show (4 - (a1_' + (1 : Int32)).toInt).toNat < (4 - a1_'.toInt).toNat by omega⟩
      · have c22 := c
        have d23 : ¬ x4.toInt = (0 : Int) := neqi.mp c22
        refine inb_i (by omega) (by omega) ?_
        refine bind_i (sf_Ways_lower x3 (((N_'.1 158 v3.toNatClampNeg) + (100 : Int32)) + (1 : Int32)) N_' (⟨show (0 : Int) ≤ x3.toInt by omega, show x3.toInt ≤ (71 : Int) by omega⟩) hN) (fun x5 _ q => ?_)
        obtain ⟨h24, h25, h26, h27⟩ := q
        have hG28 : Gc 0 B_ x5.2 := Gc_t hG h25
        have q29 := or01 (a := a0_') (b := x5.1) (by omega) (by omega) (by omega) (by omega)
        have q30 : (a1_' + (1 : Int32)).toInt = a1_'.toInt + (1 : Int) := add_ti rfl rfl (by omega) (by omega)
        exact ⟨_, rfl, ⟨h24, hG28, (show (0 : Int) ≤ (a0_' ||| x5.1).toInt by omega), (show (a0_' ||| x5.1).toInt ≤ (1 : Int) by omega), (show (0 : Int) ≤ (a1_' + (1 : Int32)).toInt by omega), (show (a1_' + (1 : Int32)).toInt ≤ (4 : Int) by omega)⟩, show (4 - (a1_' + (1 : Int32)).toInt).toNat < (4 - a1_'.toInt).toNat by omega⟩
    · have c31 := c
      have d32 : ¬ x1.toInt = (-1 : Int) := neqi.mp c31
      refine inb_i (by omega) (by omega) ?_
      refine bind_i (sf_Ways_lower x1 ((N_'.1 158 v3.toNatClampNeg) + (1 : Int32)) N_' (⟨show (0 : Int) ≤ x1.toInt by omega, show x1.toInt ≤ (71 : Int) by omega⟩) hN) (fun x7 _ q => ?_)
      obtain ⟨h33, h34, h35, h36⟩ := q
      have hG37 : Gc 0 B_ x7.2 := Gc_t hG h34
      have q38 := or01 (a := a0_') (b := x7.1) (by omega) (by omega) (by omega) (by omega)
      have q39 : (a1_' + (1 : Int32)).toInt = a1_'.toInt + (1 : Int) := add_ti rfl rfl (by omega) (by omega)
      exact ⟨_, rfl, ⟨h33, hG37, (show (0 : Int) ≤ (a0_' ||| x7.1).toInt by omega), (show (a0_' ||| x7.1).toInt ≤ (1 : Int) by omega), (show (0 : Int) ≤ (a1_' + (1 : Int32)).toInt by omega), (show (a1_' + (1 : Int32)).toInt ≤ (4 : Int) by omega)⟩, show (4 - (a1_' + (1 : Int32)).toInt).toNat < (4 - a1_'.toInt).toNat by omega⟩
theorem sf_Ways_cross (v2 : Nat) (v3 : Int32) (M : Mem) (hk_v2 : kd v2 = 10 + 6) (hp_v3 : (0 : Int) ≤ v3.toInt ∧ v3.toInt ≤ (35 : Int)) (hJ : J M) : ∃ r : Int32 × Mem, f_Ways_cross v2 v3 M = some r ∧ (J r.2 ∧ Gc 0 M r.2 ∧ (0 : Int) ≤ r.1.toInt ∧ r.1.toInt ≤ (1 : Int)) := by
  unfold f_Ways_cross
  refine c_i hk_v2 ?_
  refine bind_i (sl_Ways_cross_6 v2 v3 (0 : Int32) (0 : Int32) M M hk_v2 (⟨show (0 : Int) ≤ v3.toInt by omega, show v3.toInt ≤ (35 : Int) by omega⟩) hJ Gc_r (show (0 : Int) ≤ (0 : Int32).toInt by decide) (show (0 : Int32).toInt ≤ (1 : Int) by decide) (show (0 : Int) ≤ (0 : Int32).toInt by decide) (show (0 : Int32).toInt ≤ (4 : Int) by decide)) (fun x10 _ q => ?_)
  obtain ⟨h1, h2, h3, h4⟩ := q
  refine c_i (bool_of (by omega) (by omega)) ?_
  exact ⟨(x10.1, x10.2), rfl, h1, h2, (show (0 : Int) ≤ x10.1.toInt by omega), (show x10.1.toInt ≤ (1 : Int) by omega)⟩
theorem sl_Ways_bridged_29 (v2 : Nat) (v4 : Int32) (v6 : Int32) (a0_ : Int32) (a1_ : Int32) (N_ : Mem) (B_ : Mem) (hk_v2 : kd v2 = 10 + 6) (hp_v4 : (0 : Int) ≤ v4.toInt ∧ v4.toInt ≤ (35 : Int)) (hp_v6 : (0 : Int) ≤ v6.toInt ∧ v6.toInt ≤ (35 : Int)) (hN : J N_) (hG : Gc 0 B_ N_) (i2_ : (0 : Int) ≤ a0_.toInt) (i3_ : a0_.toInt ≤ (1 : Int)) (i4_ : (0 : Int) ≤ a1_.toInt) (i5_ : a1_.toInt ≤ (36 : Int)) : ∃ x, iter (lb_Ways_bridged_29 v2 v4 v6) FU (a0_, a1_, N_) = some x ∧ (fun r : Int32 × Mem => J r.2 ∧ Gc 0 B_ r.2 ∧ (0 : Int) ≤ r.1.toInt ∧ r.1.toInt ≤ (1 : Int)) x := by
  refine iter_r (fun s : Int32 × Int32 × Mem => J s.2.2 ∧ Gc 0 B_ s.2.2 ∧ (0 : Int) ≤ s.1.toInt ∧ s.1.toInt ≤ (1 : Int) ∧ (0 : Int) ≤ s.2.1.toInt ∧ s.2.1.toInt ≤ (36 : Int)) (fun s : Int32 × Int32 × Mem => (36 - s.2.1.toInt).toNat) (fun r : Int32 × Mem => J r.2 ∧ Gc 0 B_ r.2 ∧ (0 : Int) ≤ r.1.toInt ∧ r.1.toInt ≤ (1 : Int)) ?_ FU (a0_, a1_, N_) ⟨hN, hG, i2_, i3_, i4_, i5_⟩ (by show (36 - a1_.toInt).toNat < FU; rw [FU_v]; omega)
  clear i5_ i4_ i3_ i2_ hG hN
  rintro ⟨a0_', a1_', N_'⟩ ⟨hN, hG, i2_, i3_, i4_, i5_⟩
  dsimp only at hN hG i2_ i3_ i4_ i5_
  unfold lb_Ways_bridged_29
  dsimp only
  refine if_i (fun c => ?_) (fun c => ?_)
  · have c1 := c
    have d2 : (36 : Int) ≤ a1_'.toInt := lei.mp c1
    exact ⟨_, rfl, hN, hG, (show (0 : Int) ≤ a0_'.toInt by omega), (show a0_'.toInt ≤ (1 : Int) by omega)⟩
  · have c3 := c
    have d4 : a1_'.toInt < (36 : Int) := nlei.mp c3
    refine inb_i (by omega) (by omega) ?_
    refine if_i (fun c => ?_) (fun c => ?_)
    · have c5 := c
      have d6 : (1000000 : Int) ≤ (N_'.1 158 a1_'.toNatClampNeg).toInt := lei.mp c5
      have q7 : (0 : Int32).toInt = 0 := rfl
      have q8 := or01 (a := a0_') (b := (0 : Int32)) (by omega) (by omega) (by omega) (by omega)
      have q9 : (a1_' + (1 : Int32)).toInt = a1_'.toInt + (1 : Int) := add_ti rfl rfl (by omega) (by omega)
      exact ⟨_, rfl, ⟨hN, hG, (show (0 : Int) ≤ (a0_' ||| (0 : Int32)).toInt by omega), (show (a0_' ||| (0 : Int32)).toInt ≤ (1 : Int) by omega), (show (0 : Int) ≤ (a1_' + (1 : Int32)).toInt by omega), (show (a1_' + (1 : Int32)).toInt ≤ (36 : Int) by omega)⟩, show (36 - (a1_' + (1 : Int32)).toInt).toNat < (36 - a1_'.toInt).toNat by omega⟩
    · have c10 := c
      have d11 : (N_'.1 158 a1_'.toNatClampNeg).toInt < (1000000 : Int) := nlei.mp c10
      refine bind_i (sf_Ways_cross v2 a1_' N_' hk_v2 (⟨show (0 : Int) ≤ a1_'.toInt by omega, show a1_'.toInt ≤ (35 : Int) by omega⟩) hN) (fun x2 _ q => ?_)
      obtain ⟨h12, h13, h14, h15⟩ := q
      have hG16 : Gc 0 B_ x2.2 := Gc_t hG h13
      refine if_i (fun c => ?_) (fun c => ?_)
      · have c17 := c
        have d18 : x2.1.toInt = (0 : Int) := eqi.mp c17
        have q19 : (0 : Int32).toInt = 0 := rfl
        have q20 := or01 (a := a0_') (b := (0 : Int32)) (by omega) (by omega) (by omega) (by omega)
        have q21 : (a1_' + (1 : Int32)).toInt = a1_'.toInt + (1 : Int) := add_ti rfl rfl (by omega) (by omega)
        exact ⟨_, rfl, ⟨h12, hG16, (show (0 : Int) ≤ (a0_' ||| (0 : Int32)).toInt by omega), (show (a0_' ||| (0 : Int32)).toInt ≤ (1 : Int) by omega), (show (0 : Int) ≤ (a1_' + (1 : Int32)).toInt by omega), (show (a1_' + (1 : Int32)).toInt ≤ (36 : Int) by omega)⟩, show (36 - (a1_' + (1 : Int32)).toInt).toNat < (36 - a1_'.toInt).toNat by omega⟩
      · have c22 := c
        have d23 : ¬ x2.1.toInt = (0 : Int) := neqi.mp c22
        have q24 : (1 : Int32).toInt = 1 := rfl
        have q25 := or01 (a := a0_') (b := (1 : Int32)) (by omega) (by omega) (by omega) (by omega)
        have q26 : (a1_' + (1 : Int32)).toInt = a1_'.toInt + (1 : Int) := add_ti rfl rfl (by omega) (by omega)
        exact ⟨_, rfl, ⟨h12, hG16, (show (0 : Int) ≤ (a0_' ||| (1 : Int32)).toInt by omega), (show (a0_' ||| (1 : Int32)).toInt ≤ (1 : Int) by omega), (show (0 : Int) ≤ (a1_' + (1 : Int32)).toInt by omega), (show (a1_' + (1 : Int32)).toInt ≤ (36 : Int) by omega)⟩, show (36 - (a1_' + (1 : Int32)).toInt).toNat < (36 - a1_'.toInt).toNat by omega⟩
theorem sl_Ways_bridged_11 (v2 : Nat) (v4 : Int32) (a0_ : Int32) (a1_ : Int32) (N_ : Mem) (B_ : Mem) (hk_v2 : kd v2 = 10 + 6) (hp_v4 : (0 : Int) ≤ v4.toInt ∧ v4.toInt ≤ (35 : Int)) (hN : J N_) (hG : Gc 0 B_ N_) (i2_ : (0 : Int) ≤ a0_.toInt) (i3_ : a0_.toInt ≤ (1 : Int)) (i4_ : (0 : Int) ≤ a1_.toInt) (i5_ : a1_.toInt ≤ (36 : Int)) : ∃ x, iter (lb_Ways_bridged_11 v2 v4) FU (a0_, a1_, N_) = some x ∧ (fun r : Mem => J r ∧ Gc 0 B_ r) x := by
  refine iter_r (fun s : Int32 × Int32 × Mem => J s.2.2 ∧ Gc 0 B_ s.2.2 ∧ (0 : Int) ≤ s.1.toInt ∧ s.1.toInt ≤ (1 : Int) ∧ (0 : Int) ≤ s.2.1.toInt ∧ s.2.1.toInt ≤ (36 : Int)) (fun s : Int32 × Int32 × Mem => (36 - s.2.1.toInt).toNat) (fun r : Mem => J r ∧ Gc 0 B_ r) ?_ FU (a0_, a1_, N_) ⟨hN, hG, i2_, i3_, i4_, i5_⟩ (by show (36 - a1_.toInt).toNat < FU; rw [FU_v]; omega)
  clear i5_ i4_ i3_ i2_ hG hN
  rintro ⟨a0_', a1_', N_'⟩ ⟨hN, hG, i2_, i3_, i4_, i5_⟩
  dsimp only at hN hG i2_ i3_ i4_ i5_
  unfold lb_Ways_bridged_11
  dsimp only
  refine if_i (fun c => ?_) (fun c => ?_)
  · have c1 := c
    have d2 : (36 : Int) ≤ a1_'.toInt := lei.mp c1
    exact ⟨_, rfl, hN, hG⟩
  · have c3 := c
    have d4 : a1_'.toInt < (36 : Int) := nlei.mp c3
    refine if_i (fun c => ?_) (fun c => ?_)
    · have c5 := c
      have d6 : a0_'.toInt = (0 : Int) := eqi.mp c5
      exact ⟨_, rfl, hN, hG⟩
    · have c7 := c
      have d8 : ¬ a0_'.toInt = (0 : Int) := neqi.mp c7
      refine bind_i (sl_Ways_bridged_29 v2 v4 a1_' (0 : Int32) (0 : Int32) N_' B_ hk_v2 (⟨show (0 : Int) ≤ v4.toInt by omega, show v4.toInt ≤ (35 : Int) by omega⟩) (⟨show (0 : Int) ≤ a1_'.toInt by omega, show a1_'.toInt ≤ (35 : Int) by omega⟩) hN hG (show (0 : Int) ≤ (0 : Int32).toInt by decide) (show (0 : Int32).toInt ≤ (1 : Int) by decide) (show (0 : Int) ≤ (0 : Int32).toInt by decide) (show (0 : Int32).toInt ≤ (36 : Int) by decide)) (fun x6 _ q => ?_)
      obtain ⟨h9, h10, h11, h12⟩ := q
      have q13 : (a1_' + (1 : Int32)).toInt = a1_'.toInt + (1 : Int) := add_ti rfl rfl (by omega) (by omega)
      exact ⟨_, rfl, ⟨h9, h10, (show (0 : Int) ≤ x6.1.toInt by omega), (show x6.1.toInt ≤ (1 : Int) by omega), (show (0 : Int) ≤ (a1_' + (1 : Int32)).toInt by omega), (show (a1_' + (1 : Int32)).toInt ≤ (36 : Int) by omega)⟩, show (36 - (a1_' + (1 : Int32)).toInt).toNat < (36 - a1_'.toInt).toNat by omega⟩
theorem sf_Ways_bridged (v2 : Nat) (v3 : Int32) (v4 : Int32) (M : Mem) (hk_v2 : kd v2 = 10 + 6) (hp_v3 : (0 : Int) ≤ v3.toInt ∧ v3.toInt ≤ (35 : Int)) (hp_v4 : (0 : Int) ≤ v4.toInt ∧ v4.toInt ≤ (35 : Int)) (hJ : J M) : ∃ r : Int32 × Mem, f_Ways_bridged v2 v3 v4 M = some r ∧ (J r.2 ∧ Gc 0 M r.2) := by
  unfold f_Ways_bridged
  refine c_i hk_v2 ?_
  refine bind_i (sf_Ways_begin v3 M (⟨show (0 : Int) ≤ v3.toInt by omega, show v3.toInt ≤ (71 : Int) by omega⟩) hJ) (fun x1 _ q => ?_)
  obtain ⟨h1, h2⟩ := q
  have hG3 : Gc 0 M x1 := Gc_t Gc_r h2
  refine bind_i (sl_Ways_bridged_11 v2 v4 (1 : Int32) (0 : Int32) x1 M hk_v2 (⟨show (0 : Int) ≤ v4.toInt by omega, show v4.toInt ≤ (35 : Int) by omega⟩) h1 hG3 (show (0 : Int) ≤ (1 : Int32).toInt by decide) (show (1 : Int32).toInt ≤ (1 : Int) by decide) (show (0 : Int) ≤ (0 : Int32).toInt by decide) (show (0 : Int32).toInt ≤ (36 : Int) by decide)) (fun x9 _ q => ?_)
  obtain ⟨h4, h5⟩ := q
  refine inb_i (by omega) (by omega) ?_
  exact ⟨((x9.1 158 v4.toNatClampNeg), x9), rfl, h4, h5⟩
theorem sf_Ways_toSide (v1 : Int32) (v2 : Int32) (M : Mem) (hJ : J M) : ∃ r : Int32, f_Ways_toSide v1 v2 M = some r ∧ (True) := by
  unfold f_Ways_toSide
  refine if_i (fun c => ?_) (fun c => ?_)
  · have c1 := c
    have d2 : v2.toInt = (4 : Int) := eqi.mp c1
    exact ⟨v1, rfl, trivial⟩
  · have c3 := c
    have d4 : ¬ v2.toInt = (4 : Int) := neqi.mp c3
    refine bind_i (sf_Ground_beside v1 v2 M hJ) (fun x1 _ q => ?_)
    obtain ⟨h5, h6, h7⟩ := q
    exact ⟨x1, rfl, trivial⟩
theorem sl_Ways_pairAfter_63 (v6 : Int32) (v7 : Int32) (M : Mem) (a0_ : Int32) (hp_v6 : (0 : Int) ≤ v6.toInt ∧ v6.toInt ≤ (35 : Int)) (hp_v7 : (0 : Int) ≤ v7.toInt ∧ v7.toInt ≤ (35 : Int)) (hJ_M : J M) (i0_ : (0 : Int) ≤ a0_.toInt) (i1_ : a0_.toInt ≤ (5 : Int)) : ∃ x, iter (lb_Ways_pairAfter_63 v6 v7 M) FU a0_ = some x ∧ (SQ (fun r : Unit => True) (fun r : Int32 => (0 : Int) ≤ r.toInt ∧ r.toInt ≤ (4 : Int))) x := by
  refine iter_r (fun s : Int32 => (0 : Int) ≤ s.toInt ∧ s.toInt ≤ (5 : Int)) (fun s : Int32 => (5 - s.toInt).toNat) (SQ (fun r : Unit => True) (fun r : Int32 => (0 : Int) ≤ r.toInt ∧ r.toInt ≤ (4 : Int))) ?_ FU a0_ ⟨i0_, i1_⟩ (by show (5 - a0_.toInt).toNat < FU; rw [FU_v]; omega)
  clear i1_ i0_
  rintro a0_' ⟨i0_, i1_⟩
  unfold lb_Ways_pairAfter_63
  refine if_i (fun c => ?_) (fun c => ?_)
  · have c1 := c
    have d2 : (5 : Int) ≤ a0_'.toInt := lei.mp c1
    exact ⟨_, rfl, trivial⟩
  · have c3 := c
    have d4 : a0_'.toInt < (5 : Int) := nlei.mp c3
    refine bind_i (sf_Ways_toSide v6 a0_' M hJ_M) (fun x6 _ q => ?_)
    refine if_i (fun c => ?_) (fun c => ?_)
    · have c5 := c
      have d6 : x6.toInt = v7.toInt := eqi.mp c5
      exact ⟨_, rfl, (show (0 : Int) ≤ a0_'.toInt by omega), (show a0_'.toInt ≤ (4 : Int) by omega)⟩
    · have c7 := c
      have d8 : ¬ x6.toInt = v7.toInt := neqi.mp c7
      have q9 : (a0_' + (1 : Int32)).toInt = a0_'.toInt + (1 : Int) := add_ti rfl rfl (by omega) (by omega)
      exact ⟨_, rfl, ⟨(show (0 : Int) ≤ (a0_' + (1 : Int32)).toInt by omega), (show (a0_' + (1 : Int32)).toInt ≤ (5 : Int) by omega)⟩, show (5 - (a0_' + (1 : Int32)).toInt).toNat < (5 - a0_'.toInt).toNat by omega⟩
end
section
/-! safety of the class, 13 -/
theorem sf_Ways_pairAfter (v2 : Int32) (v3 : Int32) (M : Mem) (hp_v2 : (0 : Int) ≤ v2.toInt ∧ v2.toInt ≤ (179 : Int)) (hp_v3 : (-1 : Int) ≤ v3.toInt ∧ v3.toInt ≤ (24 : Int)) (hJ : J M) : ∃ r : Int32, f_Ways_pairAfter v2 v3 M = some r ∧ ((-1 : Int) ≤ r.toInt ∧ r.toInt ≤ (179 : Int)) := by
  unfold f_Ways_pairAfter
  refine bind_i (sf_Ways_toSide (v2 / (5 : Int32)) (v2 - ((v2 / (5 : Int32)) * (5 : Int32))) M hJ) (fun x1 _ q => ?_)
  refine bind_i (sf_Ways_toSide (v2 / (5 : Int32)) (v3 / (5 : Int32)) M hJ) (fun x2 _ q => ?_)
  refine bind_i (sf_Ways_toSide x1 (v3 - ((v3 / (5 : Int32)) * (5 : Int32))) M hJ) (fun x3 _ q => ?_)
  refine bind_i (sf_Ground_holds (0 : Int32) x2 M hJ) (fun x4 _ q => ?_)
  obtain ⟨h1, h2, h3, h4⟩ := q
  clear h3
  refine if_i (fun c => ?_) (fun c => ?_)
  · have c5 := c
    have d6 : x4.toInt = (0 : Int) := eqi.mp c5
    exact ⟨(-1 : Int32), rfl, (show (-1 : Int) ≤ (-1 : Int32).toInt by decide), (show (-1 : Int32).toInt ≤ (179 : Int) by decide)⟩
  · have c7 := c
    have d8 : ¬ x4.toInt = (0 : Int) := neqi.mp c7
    refine bind_i (sf_Ground_holds (1 : Int32) x3 M hJ) (fun x5 _ q => ?_)
    obtain ⟨h9, h10, h11, h12⟩ := q
    clear h11
    refine if_i (fun c => ?_) (fun c => ?_)
    · have c13 := c
      have d14 : x5.toInt = (0 : Int) := eqi.mp c13
      exact ⟨(-1 : Int32), rfl, (show (-1 : Int) ≤ (-1 : Int32).toInt by decide), (show (-1 : Int32).toInt ≤ (179 : Int) by decide)⟩
    · have c15 := c
      have d16 : ¬ x5.toInt = (0 : Int) := neqi.mp c15
      refine bind_i (sl_Ways_pairAfter_63 x2 x3 M (0 : Int32) (⟨show (0 : Int) ≤ x2.toInt by omega, show x2.toInt ≤ (35 : Int) by omega⟩) (⟨show (0 : Int) ≤ x3.toInt by omega, show x3.toInt ≤ (35 : Int) by omega⟩) hJ (show (0 : Int) ≤ (0 : Int32).toInt by decide) (show (0 : Int32).toInt ≤ (5 : Int) by decide)) (fun x17 _ q => ?_)
      rcases x17 with y | y
      · have q9 : True := q
        dsimp only [Sum.elim_inl, Sum.elim_inr]
        exact ⟨(-1 : Int32), rfl, (show (-1 : Int) ≤ (-1 : Int32).toInt by decide), (show (-1 : Int32).toInt ≤ (179 : Int) by decide)⟩
      · have q9 : (0 : Int) ≤ y.toInt ∧ y.toInt ≤ (4 : Int) := q
        dsimp only [Sum.elim_inl, Sum.elim_inr]
        obtain ⟨h20, h21⟩ := q9
        have q22 : (x2 * (5 : Int32)).toInt = x2.toInt * (5 : Int) := mul_ti rfl rfl (by omega) (by omega)
        have q23 : ((x2 * (5 : Int32)) + y).toInt = (x2 * (5 : Int32)).toInt + y.toInt := add_ti rfl rfl (by omega) (by omega)
        exact ⟨((x2 * (5 : Int32)) + y), rfl, (show (-1 : Int) ≤ ((x2 * (5 : Int32)) + y).toInt by omega), (show ((x2 * (5 : Int32)) + y).toInt ≤ (179 : Int) by omega)⟩
theorem sl_Ways_measurePairs_2 (v2 : Int32) (a0_ : Int32) (N_ : Mem) (B_ : Mem) (hp_v2 : (0 : Int) ≤ v2.toInt ∧ v2.toInt ≤ (35 : Int)) (hN : J N_) (hG : Gc 0 B_ N_) (i2_ : (0 : Int) ≤ a0_.toInt) (i3_ : a0_.toInt ≤ (180 : Int)) : ∃ x, iter (lb_Ways_measurePairs_2 v2) FU (a0_, N_) = some x ∧ (fun r : Mem => J r ∧ Gc 0 B_ r) x := by
  refine iter_r (fun s : Int32 × Mem => J s.2 ∧ Gc 0 B_ s.2 ∧ (0 : Int) ≤ s.1.toInt ∧ s.1.toInt ≤ (180 : Int)) (fun s : Int32 × Mem => (180 - s.1.toInt).toNat) (fun r : Mem => J r ∧ Gc 0 B_ r) ?_ FU (a0_, N_) ⟨hN, hG, i2_, i3_⟩ (by show (180 - a0_.toInt).toNat < FU; rw [FU_v]; omega)
  clear i3_ i2_ hG hN
  rintro ⟨a0_', N_'⟩ ⟨hN, hG, i2_, i3_⟩
  dsimp only at hN hG i2_ i3_
  unfold lb_Ways_measurePairs_2
  dsimp only
  refine if_i (fun c => ?_) (fun c => ?_)
  · have c1 := c
    have d2 : (180 : Int) ≤ a0_'.toInt := lei.mp c1
    exact ⟨_, rfl, hN, hG⟩
  · have c3 := c
    have d4 : a0_'.toInt < (180 : Int) := nlei.mp c3
    refine inb_i (by omega) (by omega) ?_
    refine mem_i (fun M1 e6 => ?_)
    have hJ7 : J M1 := by rw [e6]; exact Jw_any ok_159 hN a0_'.toNatClampNeg (1000000 : Int32)
    have hG8 : Gc 0 B_ M1 := Gc_i hG e6 (by decide)
    clear e6
    have q9 : (a0_' + (1 : Int32)).toInt = a0_'.toInt + (1 : Int) := add_ti rfl rfl (by omega) (by omega)
    exact ⟨_, rfl, ⟨hJ7, hG8, (show (0 : Int) ≤ (a0_' + (1 : Int32)).toInt by omega), (show (a0_' + (1 : Int32)).toInt ≤ (180 : Int) by omega)⟩, show (180 - (a0_' + (1 : Int32)).toInt).toNat < (180 - a0_'.toInt).toNat by omega⟩
theorem sl_Ways_measurePairs_68 (v4 : Int32) (a0_ : Int32) (a1_ : Int32) (N_ : Mem) (B_ : Mem) (hp_v4 : (0 : Int) ≤ v4.toInt ∧ v4.toInt ≤ (179 : Int)) (hN : J N_) (hG : Gc 0 B_ N_) (i2_ : (1 : Int) ≤ a0_.toInt) (i3_ : a0_.toInt ≤ (180 : Int)) (i4_ : (0 : Int) ≤ a1_.toInt) (i5_ : a1_.toInt ≤ (25 : Int)) : ∃ x, iter (lb_Ways_measurePairs_68 v4) FU (a0_, a1_, N_) = some x ∧ (fun r : Int32 × Mem => J r.2 ∧ Gc 0 B_ r.2 ∧ (1 : Int) ≤ r.1.toInt ∧ r.1.toInt ≤ (180 : Int)) x := by
  refine iter_r (fun s : Int32 × Int32 × Mem => J s.2.2 ∧ Gc 0 B_ s.2.2 ∧ (1 : Int) ≤ s.1.toInt ∧ s.1.toInt ≤ (180 : Int) ∧ (0 : Int) ≤ s.2.1.toInt ∧ s.2.1.toInt ≤ (25 : Int)) (fun s : Int32 × Int32 × Mem => (25 - s.2.1.toInt).toNat) (fun r : Int32 × Mem => J r.2 ∧ Gc 0 B_ r.2 ∧ (1 : Int) ≤ r.1.toInt ∧ r.1.toInt ≤ (180 : Int)) ?_ FU (a0_, a1_, N_) ⟨hN, hG, i2_, i3_, i4_, i5_⟩ (by show (25 - a1_.toInt).toNat < FU; rw [FU_v]; omega)
  clear i5_ i4_ i3_ i2_ hG hN
  rintro ⟨a0_', a1_', N_'⟩ ⟨hN, hG, i2_, i3_, i4_, i5_⟩
  dsimp only at hN hG i2_ i3_ i4_ i5_
  unfold lb_Ways_measurePairs_68
  dsimp only
  refine if_i (fun c => ?_) (fun c => ?_)
  · have c1 := c
    have d2 : (25 : Int) ≤ a1_'.toInt := lei.mp c1
    exact ⟨_, rfl, hN, hG, (show (1 : Int) ≤ a0_'.toInt by omega), (show a0_'.toInt ≤ (180 : Int) by omega)⟩
  · have c3 := c
    have d4 : a1_'.toInt < (25 : Int) := nlei.mp c3
    refine inb_i (by omega) (by omega) ?_
    have r5 := Jr_160 hN v4.toNatClampNeg
    refine bind_i (sf_Ways_pairAfter (N_'.1 160 v4.toNatClampNeg) a1_' N_' (⟨show (0 : Int) ≤ (N_'.1 160 v4.toNatClampNeg).toInt by omega, show (N_'.1 160 v4.toNatClampNeg).toInt ≤ (179 : Int) by omega⟩) (⟨show (-1 : Int) ≤ a1_'.toInt by omega, show a1_'.toInt ≤ (24 : Int) by omega⟩) hN) (fun x6 _ q => ?_)
    obtain ⟨h6, h7⟩ := q
    refine if_i (fun c => ?_) (fun c => ?_)
    · have c8 := c
      have d9 : x6.toInt = (-1 : Int) := eqi.mp c8
      have q10 : (a1_' + (1 : Int32)).toInt = a1_'.toInt + (1 : Int) := add_ti rfl rfl (by omega) (by omega)
      exact ⟨_, rfl, ⟨hN, hG, (show (1 : Int) ≤ a0_'.toInt by omega), (show a0_'.toInt ≤ (180 : Int) by omega), (show (0 : Int) ≤ (a1_' + (1 : Int32)).toInt by omega), (show (a1_' + (1 : Int32)).toInt ≤ (25 : Int) by omega)⟩, show (25 - (a1_' + (1 : Int32)).toInt).toNat < (25 - a1_'.toInt).toNat by omega⟩
    · have c11 := c
      have d12 : ¬ x6.toInt = (-1 : Int) := neqi.mp c11
      refine inb_i (by omega) (by omega) ?_
      refine if_i (fun c => ?_) (fun c => ?_)
      · have c13 := c
        have d14 : (N_'.1 159 x6.toNatClampNeg).toInt < (1000000 : Int) := lti.mp c13
        have q15 : (a1_' + (1 : Int32)).toInt = a1_'.toInt + (1 : Int) := add_ti rfl rfl (by omega) (by omega)
        exact ⟨_, rfl, ⟨hN, hG, (show (1 : Int) ≤ a0_'.toInt by omega), (show a0_'.toInt ≤ (180 : Int) by omega), (show (0 : Int) ≤ (a1_' + (1 : Int32)).toInt by omega), (show (a1_' + (1 : Int32)).toInt ≤ (25 : Int) by omega)⟩, show (25 - (a1_' + (1 : Int32)).toInt).toNat < (25 - a1_'.toInt).toNat by omega⟩
      · have c16 := c
        have d17 : (1000000 : Int) ≤ (N_'.1 159 x6.toNatClampNeg).toInt := nlti.mp c16
        refine if_i (fun c => ?_) (fun c => ?_)
        · have c18 := c
          have d19 : (180 : Int) ≤ a0_'.toInt := lei.mp c18
          have q20 : (a1_' + (1 : Int32)).toInt = a1_'.toInt + (1 : Int) := add_ti rfl rfl (by omega) (by omega)
          exact ⟨_, rfl, ⟨hN, hG, (show (1 : Int) ≤ a0_'.toInt by omega), (show a0_'.toInt ≤ (180 : Int) by omega), (show (0 : Int) ≤ (a1_' + (1 : Int32)).toInt by omega), (show (a1_' + (1 : Int32)).toInt ≤ (25 : Int) by omega)⟩, show (25 - (a1_' + (1 : Int32)).toInt).toNat < (25 - a1_'.toInt).toNat by omega⟩
        · have c21 := c
          have d22 : a0_'.toInt < (180 : Int) := nlei.mp c21
          refine inb_i (by omega) (by omega) ?_
          refine inb_i (by omega) (by omega) ?_
          refine inb_i (by omega) (by omega) ?_
          refine mem_i (fun M7 e24 => ?_)
          have hJ25 : J M7 := by rw [e24]; exact Jw_any ok_159 hN x6.toNatClampNeg ((N_'.1 159 (N_'.1 160 v4.toNatClampNeg).toNatClampNeg) + (1 : Int32))
          have hG26 : Gc 0 B_ M7 := Gc_i hG e24 (by decide)
          have f27 : (M7.1 160 v4.toNatClampNeg).toInt = (N_'.1 160 v4.toNatClampNeg).toInt := by rw [e24]; rw [si_ne (by exact fun e => absurd e.1 (by decide))]
          clear e24
          refine inb_i (by omega) (by omega) ?_
          refine mem_i (fun M8 e29 => ?_)
          have hJ30 : J M8 := by rw [e29]; exact Jw_160 hJ25 a0_'.toNatClampNeg x6 (show (0 : Int) ≤ x6.toInt by omega) (show x6.toInt ≤ (179 : Int) by omega)
          have hG31 : Gc 0 B_ M8 := Gc_i hG26 e29 (by decide)
          clear e29
          have q32 : (a0_' + (1 : Int32)).toInt = a0_'.toInt + (1 : Int) := add_ti rfl rfl (by omega) (by omega)
          have q33 : (a1_' + (1 : Int32)).toInt = a1_'.toInt + (1 : Int) := add_ti rfl rfl (by omega) (by omega)
          exact ⟨_, rfl, ⟨hJ30, hG31, (show (1 : Int) ≤ (a0_' + (1 : Int32)).toInt by omega), (show (a0_' + (1 : Int32)).toInt ≤ (180 : Int) by omega), (show (0 : Int) ≤ (a1_' + (1 : Int32)).toInt by omega), (show (a1_' + (1 : Int32)).toInt ≤ (25 : Int) by omega)⟩, show (25 - (a1_' + (1 : Int32)).toInt).toNat < (25 - a1_'.toInt).toNat by omega⟩
theorem sl_Ways_measurePairs_51  (a0_ : Int32) (a1_ : Int32) (N_ : Mem) (B_ : Mem) (hN : J N_) (hG : Gc 0 B_ N_) (i2_ : (1 : Int) ≤ a0_.toInt) (i3_ : a0_.toInt ≤ (180 : Int)) (i4_ : (0 : Int) ≤ a1_.toInt) (i5_ : a1_.toInt ≤ (180 : Int)) : ∃ x, iter (lb_Ways_measurePairs_51) FU (a0_, a1_, N_) = some x ∧ (fun r : Mem => J r ∧ Gc 0 B_ r) x := by
  refine iter_r (fun s : Int32 × Int32 × Mem => J s.2.2 ∧ Gc 0 B_ s.2.2 ∧ (1 : Int) ≤ s.1.toInt ∧ s.1.toInt ≤ (180 : Int) ∧ (0 : Int) ≤ s.2.1.toInt ∧ s.2.1.toInt ≤ (180 : Int)) (fun s : Int32 × Int32 × Mem => (180 - s.2.1.toInt).toNat) (fun r : Mem => J r ∧ Gc 0 B_ r) ?_ FU (a0_, a1_, N_) ⟨hN, hG, i2_, i3_, i4_, i5_⟩ (by show (180 - a1_.toInt).toNat < FU; rw [FU_v]; omega)
  clear i5_ i4_ i3_ i2_ hG hN
  rintro ⟨a0_', a1_', N_'⟩ ⟨hN, hG, i2_, i3_, i4_, i5_⟩
  dsimp only at hN hG i2_ i3_ i4_ i5_
  unfold lb_Ways_measurePairs_51
  dsimp only
  refine if_i (fun c => ?_) (fun c => ?_)
  · have c1 := c
    have d2 : a0_'.toInt ≤ a1_'.toInt := lei.mp c1
    exact ⟨_, rfl, hN, hG⟩
  · have c3 := c
    have d4 : a1_'.toInt < a0_'.toInt := nlei.mp c3
    refine if_i (fun c => ?_) (fun c => ?_)
    · have c5 := c
      have d6 : (180 : Int) ≤ a1_'.toInt := lei.mp c5
      exfalso; omega
    · have c7 := c
      have d8 : a1_'.toInt < (180 : Int) := nlei.mp c7
      refine bind_i (sl_Ways_measurePairs_68 a1_' a0_' (0 : Int32) N_' B_ (⟨show (0 : Int) ≤ a1_'.toInt by omega, show a1_'.toInt ≤ (179 : Int) by omega⟩) hN hG (show (1 : Int) ≤ a0_'.toInt by omega) (show a0_'.toInt ≤ (180 : Int) by omega) (show (0 : Int) ≤ (0 : Int32).toInt by decide) (show (0 : Int32).toInt ≤ (25 : Int) by decide)) (fun x13 _ q => ?_)
      obtain ⟨h9, h10, h11, h12⟩ := q
      have q13 : (a1_' + (1 : Int32)).toInt = a1_'.toInt + (1 : Int) := add_ti rfl rfl (by omega) (by omega)
      exact ⟨_, rfl, ⟨h9, h10, (show (1 : Int) ≤ x13.1.toInt by omega), (show x13.1.toInt ≤ (180 : Int) by omega), (show (0 : Int) ≤ (a1_' + (1 : Int32)).toInt by omega), (show (a1_' + (1 : Int32)).toInt ≤ (180 : Int) by omega)⟩, show (180 - (a1_' + (1 : Int32)).toInt).toNat < (180 - a1_'.toInt).toNat by omega⟩
theorem sf_Ways_measurePairs (v2 : Int32) (M : Mem) (hp_v2 : (0 : Int) ≤ v2.toInt ∧ v2.toInt ≤ (35 : Int)) (hJ : J M) : ∃ r : Mem, f_Ways_measurePairs v2 M = some r ∧ (J r ∧ Gc 0 M r) := by
  unfold f_Ways_measurePairs
  refine bind_i (sl_Ways_measurePairs_2 v2 (0 : Int32) M M (⟨show (0 : Int) ≤ v2.toInt by omega, show v2.toInt ≤ (35 : Int) by omega⟩) hJ Gc_r (show (0 : Int) ≤ (0 : Int32).toInt by decide) (show (0 : Int32).toInt ≤ (180 : Int) by decide)) (fun x3 _ q => ?_)
  obtain ⟨h1, h2⟩ := q
  have q4 : (v2 * (5 : Int32)).toInt = v2.toInt * (5 : Int) := mul_ti rfl rfl (by omega) (by omega)
  have q5 : ((v2 * (5 : Int32)) + (4 : Int32)).toInt = (v2 * (5 : Int32)).toInt + (4 : Int) := add_ti rfl rfl (by omega) (by omega)
  refine mem_i (fun M4 e6 => ?_)
  have hJ7 : J M4 := by rw [e6]; exact Jw_160 h1 (0 : Int32).toNatClampNeg ((v2 * (5 : Int32)) + (4 : Int32)) (show (0 : Int) ≤ ((v2 * (5 : Int32)) + (4 : Int32)).toInt by omega) (show ((v2 * (5 : Int32)) + (4 : Int32)).toInt ≤ (179 : Int) by omega)
  have hG8 : Gc 0 M M4 := Gc_i h2 e6 (by decide)
  clear e6
  have r9 := Jr_160 hJ7 (0 : Int32).toNatClampNeg
  refine inb_i (by omega) (by omega) ?_
  refine mem_i (fun M5 e11 => ?_)
  have hJ12 : J M5 := by rw [e11]; exact Jw_any ok_159 hJ7 (M4.1 160 (0 : Int32).toNatClampNeg).toNatClampNeg (0 : Int32)
  have hG13 : Gc 0 M M5 := Gc_i hG8 e11 (by decide)
  have f14 : (M5.1 160 (0 : Int32).toNatClampNeg).toInt = (M4.1 160 (0 : Int32).toNatClampNeg).toInt := by rw [e11]; rw [si_ne (by exact fun e => absurd e.1 (by decide))]
  clear e11
  refine bind_i (sl_Ways_measurePairs_51  (1 : Int32) (0 : Int32) M5 M hJ12 hG13 (show (1 : Int) ≤ (1 : Int32).toInt by decide) (show (1 : Int32).toInt ≤ (180 : Int) by decide) (show (0 : Int) ≤ (0 : Int32).toInt by decide) (show (0 : Int32).toInt ≤ (180 : Int) by decide)) (fun x16 _ q => ?_)
  obtain ⟨h15, h16⟩ := q
  exact ⟨x16, rfl, h15, h16⟩
theorem sl_Ways_pairNearer_2 (v2 : Int32) (M : Mem) (a0_ : Int32) (hp_v2 : (0 : Int) ≤ v2.toInt ∧ v2.toInt ≤ (179 : Int)) (hJ_M : J M) (i0_ : (0 : Int) ≤ a0_.toInt) (i1_ : a0_.toInt ≤ (25 : Int)) : ∃ x, iter (lb_Ways_pairNearer_2 v2 M) FU a0_ = some x ∧ (SQ (fun r : Unit => True) (fun r : Int32 => (0 : Int) ≤ r.toInt ∧ r.toInt ≤ (24 : Int))) x := by
  refine iter_r (fun s : Int32 => (0 : Int) ≤ s.toInt ∧ s.toInt ≤ (25 : Int)) (fun s : Int32 => (25 - s.toInt).toNat) (SQ (fun r : Unit => True) (fun r : Int32 => (0 : Int) ≤ r.toInt ∧ r.toInt ≤ (24 : Int))) ?_ FU a0_ ⟨i0_, i1_⟩ (by show (25 - a0_.toInt).toNat < FU; rw [FU_v]; omega)
  clear i1_ i0_
  rintro a0_' ⟨i0_, i1_⟩
  unfold lb_Ways_pairNearer_2
  refine if_i (fun c => ?_) (fun c => ?_)
  · have c1 := c
    have d2 : (25 : Int) ≤ a0_'.toInt := lei.mp c1
    exact ⟨_, rfl, trivial⟩
  · have c3 := c
    have d4 : a0_'.toInt < (25 : Int) := nlei.mp c3
    refine bind_i (sf_Ways_pairAfter v2 a0_' M (⟨show (0 : Int) ≤ v2.toInt by omega, show v2.toInt ≤ (179 : Int) by omega⟩) (⟨show (-1 : Int) ≤ a0_'.toInt by omega, show a0_'.toInt ≤ (24 : Int) by omega⟩) hJ_M) (fun x1 _ q => ?_)
    obtain ⟨h5, h6⟩ := q
    refine if_i (fun c => ?_) (fun c => ?_)
    · have c7 := c
      have d8 : x1.toInt = (-1 : Int) := eqi.mp c7
      have q9 : (a0_' + (1 : Int32)).toInt = a0_'.toInt + (1 : Int) := add_ti rfl rfl (by omega) (by omega)
      exact ⟨_, rfl, ⟨(show (0 : Int) ≤ (a0_' + (1 : Int32)).toInt by omega), (show (a0_' + (1 : Int32)).toInt ≤ (25 : Int) by omega)⟩, show (25 - (a0_' + (1 : Int32)).toInt).toNat < (25 - a0_'.toInt).toNat by omega⟩
    · have c10 := c
      have d11 : ¬ x1.toInt = (-1 : Int) := neqi.mp c10
      refine inb_i (by omega) (by omega) ?_
      refine inb_i (by omega) (by omega) ?_
      refine if_i (fun c => ?_) (fun c => ?_)
      · have c12 := c
        have d13 : (M.1 159 v2.toNatClampNeg).toInt ≤ (M.1 159 x1.toNatClampNeg).toInt := lei.mp c12
        have q14 : (a0_' + (1 : Int32)).toInt = a0_'.toInt + (1 : Int) := add_ti rfl rfl (by omega) (by omega)
        exact ⟨_, rfl, ⟨(show (0 : Int) ≤ (a0_' + (1 : Int32)).toInt by omega), (show (a0_' + (1 : Int32)).toInt ≤ (25 : Int) by omega)⟩, show (25 - (a0_' + (1 : Int32)).toInt).toNat < (25 - a0_'.toInt).toNat by omega⟩
      · have c15 := c
        have d16 : (M.1 159 x1.toNatClampNeg).toInt < (M.1 159 v2.toNatClampNeg).toInt := nlei.mp c15
        exact ⟨_, rfl, (show (0 : Int) ≤ a0_'.toInt by omega), (show a0_'.toInt ≤ (24 : Int) by omega)⟩
theorem sf_Ways_pairNearer (v2 : Int32) (M : Mem) (hp_v2 : (0 : Int) ≤ v2.toInt ∧ v2.toInt ≤ (179 : Int)) (hJ : J M) : ∃ r : Int32, f_Ways_pairNearer v2 M = some r ∧ ((-1 : Int) ≤ r.toInt ∧ r.toInt ≤ (24 : Int)) := by
  unfold f_Ways_pairNearer
  refine bind_i (sl_Ways_pairNearer_2 v2 M (0 : Int32) (⟨show (0 : Int) ≤ v2.toInt by omega, show v2.toInt ≤ (179 : Int) by omega⟩) hJ (show (0 : Int) ≤ (0 : Int32).toInt by decide) (show (0 : Int32).toInt ≤ (25 : Int) by decide)) (fun x1 _ q => ?_)
  rcases x1 with y | y
  · have q9 : True := q
    dsimp only [Sum.elim_inl, Sum.elim_inr]
    exact ⟨(-1 : Int32), rfl, (show (-1 : Int) ≤ (-1 : Int32).toInt by decide), (show (-1 : Int32).toInt ≤ (24 : Int) by decide)⟩
  · have q9 : (0 : Int) ≤ y.toInt ∧ y.toInt ≤ (24 : Int) := q
    dsimp only [Sum.elim_inl, Sum.elim_inr]
    obtain ⟨h4, h5⟩ := q9
    exact ⟨y, rfl, (show (-1 : Int) ≤ y.toInt by omega), (show y.toInt ≤ (24 : Int) by omega)⟩
theorem sf_Thief_start (v1 : Int32) (v2 : Int32) (M : Mem) (hJ : J M) : ∃ r : Mem, f_Thief_start v1 v2 M = some r ∧ (J r ∧ Gc 0 M r) := by
  unfold f_Thief_start
  refine if_i (fun c => ?_) (fun c => ?_)
  · have c1 := c
    have d2 : v1.toInt = (0 : Int) := eqi.mp c1
    unfold j_Thief_start_12
    refine mem_i (fun M1 e4 => ?_)
    have hJ5 : J M1 := by rw [e4]; exact Jl hJ
    have hG6 : Gc 0 M M1 := Gc_l Gc_r e4
    clear e4
    refine if_i (fun c => ?_) (fun c => ?_)
    · have c7 := c
      have d8 : v1.toInt = (1 : Int) := eqi.mp c7
      exfalso; omega
    · have c9 := c
      have d10 : ¬ v1.toInt = (1 : Int) := neqi.mp c9
      refine mem_i (fun M2 e12 => ?_)
      have hJ13 : J M2 := by rw [e12]; exact Jl hJ5
      have hG14 : Gc 0 M M2 := Gc_l hG6 e12
      clear e12
      exact ⟨M2, rfl, hJ13, hG14⟩
  · have c15 := c
    have d16 : ¬ v1.toInt = (0 : Int) := neqi.mp c15
    unfold j_Thief_start_12
    refine mem_i (fun M1 e18 => ?_)
    have hJ19 : J M1 := by rw [e18]; exact Jl hJ
    have hG20 : Gc 0 M M1 := Gc_l Gc_r e18
    clear e18
    refine if_i (fun c => ?_) (fun c => ?_)
    · have c21 := c
      have d22 : v1.toInt = (1 : Int) := eqi.mp c21
      refine mem_i (fun M3 e24 => ?_)
      have hJ25 : J M3 := by rw [e24]; exact Jl hJ19
      have hG26 : Gc 0 M M3 := Gc_l hG20 e24
      clear e24
      exact ⟨M3, rfl, hJ25, hG26⟩
    · have c27 := c
      have d28 : ¬ v1.toInt = (1 : Int) := neqi.mp c27
      refine mem_i (fun M2 e30 => ?_)
      have hJ31 : J M2 := by rw [e30]; exact Jl hJ19
      have hG32 : Gc 0 M M2 := Gc_l hG20 e30
      clear e30
      exact ⟨M2, rfl, hJ31, hG32⟩
theorem sf_Thief_stir (v1 : Nat) (M : Mem) (hk_v1 : kd v1 = 10 + 6) (hJ : J M) : ∃ r : Mem, f_Thief_stir v1 M = some r ∧ (J r ∧ Gc 0 M r) := by
  unfold f_Thief_stir
  refine c_i hk_v1 ?_
  refine bind_i (sf_Nets_around v1 (0 : Int32) (M.2.1 151 2) M hk_v1 (⟨by decide, by decide⟩) hJ) (fun x1 _ q => ?_)
  refine bind_i (sf_Nets_stairs v1 M hk_v1 hJ) (fun x2 _ q => ?_)
  refine bind_i (sf_Nets_around v1 (1 : Int32) (M.2.1 151 3) M hk_v1 (⟨by decide, by decide⟩) hJ) (fun x3 _ q => ?_)
  refine bind_i (sf_Nets_stairs v1 M hk_v1 hJ) (fun x4 _ q => ?_)
  refine mem_i (fun M5 e2 => ?_)
  have hJ3 : J M5 := by rw [e2]; exact Jl hJ
  have hG4 : Gc 0 M M5 := Gc_l Gc_r e2
  clear e2
  refine mem_i (fun M6 e6 => ?_)
  have hJ7 : J M6 := by rw [e6]; exact Jl hJ3
  have hG8 : Gc 0 M M6 := Gc_l hG4 e6
  clear e6
  exact ⟨M6, rfl, hJ7, hG8⟩
theorem sf_Thief_record (v1 : Int32) (v2 : Int64) (v4 : Int64) (M : Mem) (hJ : J M) : ∃ r : Mem, f_Thief_record v1 v2 v4 M = some r ∧ (J r ∧ Gc 0 M r) := by
  unfold f_Thief_record
  refine if_i (fun c => ?_) (fun c => ?_)
  · have c1 := c
    have d2 : v1.toInt < (0 : Int) := lti.mp c1
    exact ⟨M, rfl, hJ, Gc_r⟩
  · have c3 := c
    have d4 : (0 : Int) ≤ v1.toInt := nlti.mp c3
    refine if_i (fun c => ?_) (fun c => ?_)
    · have c5 := c
      have d6 : (30 : Int) ≤ v1.toInt := lei.mp c5
      exact ⟨M, rfl, hJ, Gc_r⟩
    · have c7 := c
      have d8 : v1.toInt < (30 : Int) := nlei.mp c7
      refine inb_i (by omega) (by omega) ?_
      refine mem_i (fun M1 e10 => ?_)
      have hJ11 : J M1 := by rw [e10]; exact Jl hJ
      have hG12 : Gc 0 M M1 := Gc_l Gc_r e10
      clear e10
      refine inb_i (by omega) (by omega) ?_
      refine mem_i (fun M2 e14 => ?_)
      have hJ15 : J M2 := by rw [e14]; exact Jl hJ11
      have hG16 : Gc 0 M M2 := Gc_l hG12 e14
      clear e14
      exact ⟨M2, rfl, hJ15, hG16⟩
theorem sf_Thief_strike (v1 : Int32) (M : Mem) (hJ : J M) : ∃ r : Mem, f_Thief_strike v1 M = some r ∧ (J r ∧ Gc 0 M r) := by
  unfold f_Thief_strike
  refine if_i (fun c => ?_) (fun c => ?_)
  · have c1 := c
    have d2 : v1.toInt < (0 : Int) := lti.mp c1
    exact ⟨M, rfl, hJ, Gc_r⟩
  · have c3 := c
    have d4 : (0 : Int) ≤ v1.toInt := nlti.mp c3
    refine if_i (fun c => ?_) (fun c => ?_)
    · have c5 := c
      have d6 : (30 : Int) ≤ v1.toInt := lei.mp c5
      exact ⟨M, rfl, hJ, Gc_r⟩
    · have c7 := c
      have d8 : v1.toInt < (30 : Int) := nlei.mp c7
      refine inb_i (by omega) (by omega) ?_
      refine mem_i (fun M1 e10 => ?_)
      have hJ11 : J M1 := by rw [e10]; exact Jl hJ
      have hG12 : Gc 0 M M1 := Gc_l Gc_r e10
      clear e10
      refine inb_i (by omega) (by omega) ?_
      refine mem_i (fun M2 e14 => ?_)
      have hJ15 : J M2 := by rw [e14]; exact Jl hJ11
      have hG16 : Gc 0 M M2 := Gc_l hG12 e14
      clear e14
      exact ⟨M2, rfl, hJ15, hG16⟩
theorem sf_Thief_gone (M : Mem) (hJ : J M) : ∃ r : Int32, f_Thief_gone M = some r ∧ ((0 : Int) ≤ r.toInt ∧ r.toInt ≤ (1 : Int)) := by
  unfold f_Thief_gone
  refine if_i (fun c => ?_) (fun c => ?_)
  · have c1 := c
    have d2 : (lg_cmp ((M.2.1 151 2) ||| (M.2.1 151 3)) (0 : Int64)).toInt = (0 : Int) := eqi.mp c1
    exact ⟨(1 : Int32), rfl, (show (0 : Int) ≤ (1 : Int32).toInt by decide), (show (1 : Int32).toInt ≤ (1 : Int) by decide)⟩
  · have c3 := c
    have d4 : ¬ (lg_cmp ((M.2.1 151 2) ||| (M.2.1 151 3)) (0 : Int64)).toInt = (0 : Int) := neqi.mp c3
    exact ⟨(0 : Int32), rfl, (show (0 : Int) ≤ (0 : Int32).toInt by decide), (show (0 : Int32).toInt ≤ (1 : Int) by decide)⟩
theorem sl_Thief_roam_2 (v1 : Nat) (a0_ : Int32) (N_ : Mem) (B_ : Mem) (hk_v1 : kd v1 = 10 + 6) (hN : J N_) (hG : Gc 0 B_ N_) (i2_ : (0 : Int) ≤ a0_.toInt) (i3_ : a0_.toInt ≤ (72 : Int)) : ∃ x, iter (lb_Thief_roam_2 v1) FU (a0_, N_) = some x ∧ (SQ (fun r : Mem => J r ∧ Gc 0 B_ r) (fun r : Mem => J r ∧ Gc 0 B_ r)) x := by
  refine iter_r (fun s : Int32 × Mem => J s.2 ∧ Gc 0 B_ s.2 ∧ (0 : Int) ≤ s.1.toInt ∧ s.1.toInt ≤ (72 : Int)) (fun s : Int32 × Mem => (72 - s.1.toInt).toNat) (SQ (fun r : Mem => J r ∧ Gc 0 B_ r) (fun r : Mem => J r ∧ Gc 0 B_ r)) ?_ FU (a0_, N_) ⟨hN, hG, i2_, i3_⟩ (by show (72 - a0_.toInt).toNat < FU; rw [FU_v]; omega)
  clear i3_ i2_ hG hN
  rintro ⟨a0_', N_'⟩ ⟨hN, hG, i2_, i3_⟩
  dsimp only at hN hG i2_ i3_
  unfold lb_Thief_roam_2
  dsimp only
  refine if_i (fun c => ?_) (fun c => ?_)
  · have c1 := c
    have d2 : (72 : Int) ≤ a0_'.toInt := lei.mp c1
    exact ⟨_, rfl, hN, hG⟩
  · have c3 := c
    have d4 : a0_'.toInt < (72 : Int) := nlei.mp c3
    refine bind_i (sf_Thief_stir v1 N_' hk_v1 hN) (fun x1 _ q => ?_)
    obtain ⟨h5, h6⟩ := q
    have hG7 : Gc 0 B_ x1 := Gc_t hG h6
    refine mem_i (fun M2 e9 => ?_)
    have hJ10 : J M2 := by rw [e9]; exact Jl h5
    have hG11 : Gc 0 B_ M2 := Gc_l hG7 e9
    clear e9
    refine mem_i (fun M3 e13 => ?_)
    have hJ14 : J M3 := by rw [e13]; exact Jl hJ10
    have hG15 : Gc 0 B_ M3 := Gc_l hG11 e13
    clear e13
    refine if_i (fun c => ?_) (fun c => ?_)
    · have c16 := c
      have d17 : (lg_cmp (M3.2.1 151 2) (N_'.2.1 151 2)).toInt = (0 : Int) := eqi.mp c16
      refine if_i (fun c => ?_) (fun c => ?_)
      · have c18 := c
        have d19 : (lg_cmp (M3.2.1 151 3) (N_'.2.1 151 3)).toInt = (0 : Int) := eqi.mp c18
        exact ⟨_, rfl, hJ14, hG15⟩
      · have c20 := c
        have d21 : ¬ (lg_cmp (M3.2.1 151 3) (N_'.2.1 151 3)).toInt = (0 : Int) := neqi.mp c20
        have q22 : (a0_' + (1 : Int32)).toInt = a0_'.toInt + (1 : Int) := add_ti rfl rfl (by omega) (by omega)
        exact ⟨_, rfl, ⟨hJ14, hG15, (show (0 : Int) ≤ (a0_' + (1 : Int32)).toInt by omega), (show (a0_' + (1 : Int32)).toInt ≤ (72 : Int) by omega)⟩, show (72 - (a0_' + (1 : Int32)).toInt).toNat < (72 - a0_'.toInt).toNat by omega⟩
    · have c23 := c
      have d24 : ¬ (lg_cmp (M3.2.1 151 2) (N_'.2.1 151 2)).toInt = (0 : Int) := neqi.mp c23
      have q25 : (a0_' + (1 : Int32)).toInt = a0_'.toInt + (1 : Int) := add_ti rfl rfl (by omega) (by omega)
      exact ⟨_, rfl, ⟨hJ14, hG15, (show (0 : Int) ≤ (a0_' + (1 : Int32)).toInt by omega), (show (a0_' + (1 : Int32)).toInt ≤ (72 : Int) by omega)⟩, show (72 - (a0_' + (1 : Int32)).toInt).toNat < (72 - a0_'.toInt).toNat by omega⟩
theorem sf_Thief_roam (v1 : Nat) (M : Mem) (hk_v1 : kd v1 = 10 + 6) (hJ : J M) : ∃ r : Mem, f_Thief_roam v1 M = some r ∧ (J r ∧ Gc 0 M r) := by
  unfold f_Thief_roam
  refine c_i hk_v1 ?_
  refine bind_i (sl_Thief_roam_2 v1 (0 : Int32) M M hk_v1 hJ Gc_r (show (0 : Int) ≤ (0 : Int32).toInt by decide) (show (0 : Int32).toInt ≤ (72 : Int) by decide)) (fun x1 _ q => ?_)
  rcases x1 with y | y
  · have q9 : J y ∧ Gc 0 M y := q
    dsimp only [Sum.elim_inl, Sum.elim_inr]
    obtain ⟨h3, h4⟩ := q9
    exact ⟨y, rfl, h3, h4⟩
  · have q9 : J y ∧ Gc 0 M y := q
    dsimp only [Sum.elim_inl, Sum.elim_inr]
    obtain ⟨h6, h7⟩ := q9
    exact ⟨y, rfl, h6, h7⟩
theorem sf_Thief_isIn (v1 : Int32) (v2 : Int32) (M : Mem) (hJ : J M) : ∃ r : Int32, f_Thief_isIn v1 v2 M = some r ∧ ((0 : Int) ≤ r.toInt ∧ r.toInt ≤ (1 : Int)) := by
  unfold f_Thief_isIn
  refine if_i (fun c => ?_) (fun c => ?_)
  · have c1 := c
    have d2 : v1.toInt = (1 : Int) := eqi.mp c1
    unfold j_Thief_isIn_16
    refine if_i (fun c => ?_) (fun c => ?_)
    · have c3 := c
      have d4 : (lg_cmp (((M.2.1 151 3) >>> (v2.toInt64 &&& 63)) &&& (1 : Int64)) (0 : Int64)).toInt = (0 : Int) := eqi.mp c3
      exact ⟨(0 : Int32), rfl, (show (0 : Int) ≤ (0 : Int32).toInt by decide), (show (0 : Int32).toInt ≤ (1 : Int) by decide)⟩
    · have c5 := c
      have d6 : ¬ (lg_cmp (((M.2.1 151 3) >>> (v2.toInt64 &&& 63)) &&& (1 : Int64)) (0 : Int64)).toInt = (0 : Int) := neqi.mp c5
      exact ⟨(1 : Int32), rfl, (show (0 : Int) ≤ (1 : Int32).toInt by decide), (show (1 : Int32).toInt ≤ (1 : Int) by decide)⟩
  · have c7 := c
    have d8 : ¬ v1.toInt = (1 : Int) := neqi.mp c7
    unfold j_Thief_isIn_16
    refine if_i (fun c => ?_) (fun c => ?_)
    · have c9 := c
      have d10 : (lg_cmp (((M.2.1 151 2) >>> (v2.toInt64 &&& 63)) &&& (1 : Int64)) (0 : Int64)).toInt = (0 : Int) := eqi.mp c9
      exact ⟨(0 : Int32), rfl, (show (0 : Int) ≤ (0 : Int32).toInt by decide), (show (0 : Int32).toInt ≤ (1 : Int) by decide)⟩
    · have c11 := c
      have d12 : ¬ (lg_cmp (((M.2.1 151 2) >>> (v2.toInt64 &&& 63)) &&& (1 : Int64)) (0 : Int64)).toInt = (0 : Int) := neqi.mp c11
      exact ⟨(1 : Int32), rfl, (show (0 : Int) ≤ (1 : Int32).toInt by decide), (show (1 : Int32).toInt ≤ (1 : Int) by decide)⟩
theorem sf_Top_sign (v1 : Int32) (M : Mem) (hJ : J M) : ∃ r : Int32 × Mem, f_Top_sign v1 M = some r ∧ (J r.2 ∧ Gc 1 M r.2 ∧ (-1 : Int) ≤ r.1.toInt ∧ r.1.toInt ≤ (80 : Int)) := by
  unfold f_Top_sign
  refine bind_i (sf_Signs_add v1 M hJ) (fun x1 _ q => ?_)
  obtain ⟨h1, h2, h3, h4⟩ := q
  have hG5 : Gc 1 M x1.2 := Gc_t Gc_r h2
  refine if_i (fun c => ?_) (fun c => ?_)
  · have c6 := c
    have d7 : x1.1.toInt = (0 : Int) := eqi.mp c6
    exact ⟨((-1 : Int32), x1.2), rfl, h1, hG5, (show (-1 : Int) ≤ (-1 : Int32).toInt by decide), (show (-1 : Int32).toInt ≤ (80 : Int) by decide)⟩
  · have c8 := c
    have d9 : ¬ x1.1.toInt = (0 : Int) := neqi.mp c8
    have r10 := Jr_1_1 h1
    exact ⟨((x1.2.1 1 1), x1.2), rfl, h1, hG5, (show (-1 : Int) ≤ (x1.2.1 1 1).toInt by omega), (show (x1.2.1 1 1).toInt ≤ (80 : Int) by omega)⟩
end
section
/-! safety of the class, 14 -/
theorem sf_Top_end (v1 : Int32) (M : Mem) (hJ : J M) : ∃ r : Int32 × Mem, f_Top_end v1 M = some r ∧ (J r.2 ∧ Gc 1 M r.2 ∧ (0 : Int) ≤ r.1.toInt ∧ r.1.toInt ≤ (1 : Int)) := by
  unfold f_Top_end
  refine if_i (fun c => ?_) (fun c => ?_)
  · have c1 := c
    have d2 : v1.toInt < (0 : Int) := lti.mp c1
    exact ⟨((0 : Int32), M), rfl, hJ, Gc_r, (show (0 : Int) ≤ (0 : Int32).toInt by decide), (show (0 : Int32).toInt ≤ (1 : Int) by decide)⟩
  · have c3 := c
    have d4 : (0 : Int) ≤ v1.toInt := nlti.mp c3
    refine if_i (fun c => ?_) (fun c => ?_)
    · have c5 := c
      have r6 := Jr_1_1 hJ
      have d7 : v1.toInt ≤ (M.1 1 1).toInt := lei.mp c5
      refine mem_i (fun M1 e9 => ?_)
      have hJ10 : J M1 := by rw [e9]; exact Jw_1_1 hJ v1 (show (0 : Int) ≤ v1.toInt by omega) (show v1.toInt ≤ (80 : Int) by omega)
      have hG11 : Gc 1 M M1 := Gc_1 Gc_r e9 (by decide)
      have f12 : (M1.1 1 1).toInt = v1.toInt := by rw [e9, si_eq]
      clear e9
      exact ⟨((1 : Int32), M1), rfl, hJ10, hG11, (show (0 : Int) ≤ (1 : Int32).toInt by decide), (show (1 : Int32).toInt ≤ (1 : Int) by decide)⟩
    · have c13 := c
      have r14 := Jr_1_1 hJ
      have d15 : (M.1 1 1).toInt < v1.toInt := nlei.mp c13
      exact ⟨((0 : Int32), M), rfl, hJ, Gc_r, (show (0 : Int) ≤ (0 : Int32).toInt by decide), (show (0 : Int32).toInt ≤ (1 : Int) by decide)⟩
theorem sf_Top_town (M : Mem) (hJ : J M) : ∃ r : Int32 × Mem, f_Top_town M = some r ∧ (J r.2 ∧ Gc 1 M r.2 ∧ (-81 : Int) ≤ r.1.toInt ∧ r.1.toInt ≤ (36 : Int) ∧ (r.2.1 1 1).toInt = 0) := by
  unfold f_Top_town
  refine bind_i (sf_Ground_read M hJ) (fun x1 _ q => ?_)
  obtain ⟨h1, h2, h3, h4⟩ := q
  have hG5 : Gc 1 M x1.2 := Gc_t Gc_r (Gc_up h2)
  refine mem_i (fun M2 e7 => ?_)
  have hJ8 : J M2 := by rw [e7]; exact Jw_1_1 h1 (0 : Int32) (show (0 : Int) ≤ (0 : Int32).toInt by decide) (show (0 : Int32).toInt ≤ (80 : Int) by decide)
  have hG9 : Gc 1 M M2 := Gc_1 hG5 e7 (by decide)
  have f10 : (M2.1 1 1).toInt = (0 : Int) := by rw [e7, si_eq]; rfl
  clear e7
  refine if_i (fun c => ?_) (fun c => ?_)
  · have c11 := c
    have d12 : (0 : Int) ≤ x1.1.toInt := lei.mp c11
    refine bind_i (sf_Crowd_clear M2 hJ8) (fun x3 _ q => ?_)
    obtain ⟨h13, h14⟩ := q
    have f15 : (x3.1 1 1).toInt = (M2.1 1 1).toInt := congrArg Int32.toInt (h14 1 1 (.inr ⟨rfl, rfl, rfl⟩))
    have hG16 : Gc 1 M x3 := Gc_t hG9 (Gc_up h14)
    refine bind_i (sf_Scene_clear 11 x3 kd_11 h13) (fun x4 _ q => ?_)
    obtain ⟨h17, h18⟩ := q
    have f19 : (x4.1 1 1).toInt = (x3.1 1 1).toInt := congrArg Int32.toInt (h18 1 1 (.inr ⟨rfl, rfl, rfl⟩))
    have hG20 : Gc 1 M x4 := Gc_t hG16 (Gc_up h18)
    refine bind_i (sf_History_clear x4 h17) (fun x5 _ q => ?_)
    obtain ⟨h21, h22⟩ := q
    have f23 : (x5.1 1 1).toInt = (x4.1 1 1).toInt := congrArg Int32.toInt (h22 1 1 (.inr ⟨rfl, rfl, rfl⟩))
    have hG24 : Gc 1 M x5 := Gc_t hG20 (Gc_up h22)
    refine mem_i (fun M6 e26 => ?_)
    have hJ27 : J M6 := by rw [e26]; exact Jw_any ok_0 h21 16 (-1 : Int32)
    have hG28 : Gc 1 M M6 := Gc_i hG24 e26 (by decide)
    have f29 : (M6.1 1 1).toInt = (x5.1 1 1).toInt := by rw [e26]; rw [si_ne (by exact fun e => absurd e.1 (by decide))]
    have f30 : (M6.1 0 16).toInt = (-1 : Int) := by rw [e26, si_eq]; rfl
    clear e26
    refine bind_i (sf_Nets_lay 32 11 (-1 : Int32) M6 kd_32 kd_11 hJ27) (fun x7 _ q => ?_)
    obtain ⟨h31, h32⟩ := q
    have f33 : (x7.1 1 1).toInt = (M6.1 1 1).toInt := congrArg Int32.toInt (h32 1 1 (.inr ⟨rfl, rfl, rfl⟩))
    have hG34 : Gc 1 M x7 := Gc_t hG28 (Gc_up h32)
    exact ⟨(x1.1, x7), rfl, h31, hG34, (show (-81 : Int) ≤ x1.1.toInt by omega), (show x1.1.toInt ≤ (36 : Int) by omega), (show (x7.1 1 1).toInt = 0 by omega)⟩
  · have c35 := c
    have d36 : x1.1.toInt < (0 : Int) := nlei.mp c35
    exact ⟨(x1.1, M2), rfl, hJ8, hG9, (show (-81 : Int) ≤ x1.1.toInt by omega), (show x1.1.toInt ≤ (36 : Int) by omega), (show (M2.1 1 1).toInt = 0 by omega)⟩
theorem sl_Top_folk_48 (v1 : Int32) (a0_ : Int32) (N_ : Mem) (B_ : Mem) (hp_v1 : (1 : Int) ≤ v1.toInt ∧ v1.toInt ≤ (9 : Int)) (hN : J N_) (hG : Gc 0 B_ N_) (i2_ : (0 : Int) ≤ a0_.toInt) (i3_ : a0_.toInt ≤ (8 : Int)) : ∃ x, iter (lb_Top_folk_48 v1) FU (a0_, N_) = some x ∧ (fun r : Mem => J r ∧ Gc 0 B_ r) x := by
  refine iter_r (fun s : Int32 × Mem => J s.2 ∧ Gc 0 B_ s.2 ∧ (0 : Int) ≤ s.1.toInt ∧ s.1.toInt ≤ (8 : Int)) (fun s : Int32 × Mem => (8 - s.1.toInt).toNat) (fun r : Mem => J r ∧ Gc 0 B_ r) ?_ FU (a0_, N_) ⟨hN, hG, i2_, i3_⟩ (by show (8 - a0_.toInt).toNat < FU; rw [FU_v]; omega)
  clear i3_ i2_ hG hN
  rintro ⟨a0_', N_'⟩ ⟨hN, hG, i2_, i3_⟩
  dsimp only at hN hG i2_ i3_
  unfold lb_Top_folk_48
  dsimp only
  refine if_i (fun c => ?_) (fun c => ?_)
  · have c1 := c
    have r2 := Jr_6_4 hN
    have d3 : (N_'.1 6 4).toInt ≤ a0_'.toInt := lei.mp c1
    exact ⟨_, rfl, hN, hG⟩
  · have c4 := c
    have r5 := Jr_6_4 hN
    have d6 : a0_'.toInt < (N_'.1 6 4).toInt := nlei.mp c4
    refine inb_i (by omega) (by omega) ?_
    refine bind_i (sf_Crowd_woman a0_' N_' hN) (fun x4 _ q => ?_)
    obtain ⟨h7, h8⟩ := q
    refine if_i (fun c => ?_) (fun c => ?_)
    · have c9 := c
      have d10 : x4.toInt = (0 : Int) := eqi.mp c9
      unfold j_Top_folk_89_48
      have r11 := Jr_9 hN a0_'.toNatClampNeg
      refine bind_i (sf_Scene_put 11 a0_' (N_'.1 9 a0_'.toNatClampNeg) (0 : Int32) N_' kd_11 (⟨show (0 : Int) ≤ a0_'.toInt by omega, show a0_'.toInt ≤ (7 : Int) by omega⟩) (⟨show (0 : Int) ≤ (N_'.1 9 a0_'.toNatClampNeg).toInt by omega, show (N_'.1 9 a0_'.toNatClampNeg).toInt ≤ (35 : Int) by omega⟩) (⟨by decide, by decide⟩) hN) (fun x5 _ q => ?_)
      obtain ⟨h12, h13⟩ := q
      have hG14 : Gc 0 B_ x5 := Gc_t hG h13
      have q15 : (a0_' + (1 : Int32)).toInt = a0_'.toInt + (1 : Int) := add_ti rfl rfl (by omega) (by omega)
      exact ⟨_, rfl, ⟨h12, hG14, (show (0 : Int) ≤ (a0_' + (1 : Int32)).toInt by omega), (show (a0_' + (1 : Int32)).toInt ≤ (8 : Int) by omega)⟩, show (8 - (a0_' + (1 : Int32)).toInt).toNat < (8 - a0_'.toInt).toNat by omega⟩
    · have c16 := c
      have d17 : ¬ x4.toInt = (0 : Int) := neqi.mp c16
      unfold j_Top_folk_89_48
      have r18 := Jr_9 hN a0_'.toNatClampNeg
      refine bind_i (sf_Scene_put 11 a0_' (N_'.1 9 a0_'.toNatClampNeg) (1 : Int32) N_' kd_11 (⟨show (0 : Int) ≤ a0_'.toInt by omega, show a0_'.toInt ≤ (7 : Int) by omega⟩) (⟨show (0 : Int) ≤ (N_'.1 9 a0_'.toNatClampNeg).toInt by omega, show (N_'.1 9 a0_'.toNatClampNeg).toInt ≤ (35 : Int) by omega⟩) (⟨by decide, by decide⟩) hN) (fun x5 _ q => ?_)
      obtain ⟨h19, h20⟩ := q
      have hG21 : Gc 0 B_ x5 := Gc_t hG h20
      have q22 : (a0_' + (1 : Int32)).toInt = a0_'.toInt + (1 : Int) := add_ti rfl rfl (by omega) (by omega)
      exact ⟨_, rfl, ⟨h19, hG21, (show (0 : Int) ≤ (a0_' + (1 : Int32)).toInt by omega), (show (a0_' + (1 : Int32)).toInt ≤ (8 : Int) by omega)⟩, show (8 - (a0_' + (1 : Int32)).toInt).toNat < (8 - a0_'.toInt).toNat by omega⟩
theorem sf_Top_folk (M : Mem) (hJ : J M) : ∃ r : Int32 × Mem, f_Top_folk M = some r ∧ (J r.2 ∧ Gc 1 M r.2 ∧ (-84 : Int) ≤ r.1.toInt ∧ r.1.toInt ≤ (9 : Int) ∧ (r.2.1 1 1).toInt = 0) := by
  unfold f_Top_folk
  refine bind_i (sf_Crowd_read M hJ) (fun x1 _ q => ?_)
  obtain ⟨h1, h2, h3, h4, h5⟩ := q
  have hG6 : Gc 1 M x1.2 := Gc_t Gc_r (Gc_up h2)
  have r7 := Jr_6_4 h1
  refine mem_i (fun M2 e9 => ?_)
  have hJ10 : J M2 := by rw [e9]; exact Jw_1_1 h1 (0 : Int32) (show (0 : Int) ≤ (0 : Int32).toInt by decide) (show (0 : Int32).toInt ≤ (80 : Int) by decide)
  have hG11 : Gc 1 M M2 := Gc_1 hG6 e9 (by decide)
  have f12 : (M2.1 6 4).toInt = (x1.2.1 6 4).toInt := by rw [e9]; rw [si_ne (by exact fun e => absurd e.1 (by decide))]
  have f13 : (M2.1 1 1).toInt = (0 : Int) := by rw [e9, si_eq]; rfl
  clear e9
  refine if_i (fun c => ?_) (fun c => ?_)
  · have c14 := c
    have d15 : (0 : Int) < x1.1.toInt := lti.mp c14
    refine bind_i (sf_Crowd_letIn x1.1 M2 (⟨show (0 : Int) ≤ x1.1.toInt by omega, show x1.1.toInt ≤ (8 : Int) by omega⟩) hJ10 (show (M2.1 6 4).toInt + x1.1.toInt ≤ (8 : Int) by omega)) (fun x3 _ q => ?_)
    obtain ⟨h16, h17⟩ := q
    have f18 : (x3.1 1 1).toInt = (M2.1 1 1).toInt := congrArg Int32.toInt (h17 1 1 (.inr ⟨rfl, rfl, rfl⟩))
    have hG19 : Gc 1 M x3 := Gc_t hG11 (Gc_up h17)
    refine bind_i (sl_Top_folk_48 x1.1 (M2.1 6 4) x3 x3 (⟨show (1 : Int) ≤ x1.1.toInt by omega, show x1.1.toInt ≤ (9 : Int) by omega⟩) h16 Gc_r (show (0 : Int) ≤ (M2.1 6 4).toInt by omega) (show (M2.1 6 4).toInt ≤ (8 : Int) by omega)) (fun x8 _ q => ?_)
    obtain ⟨h20, h21⟩ := q
    have f22 : (x8.1 1 1).toInt = (x3.1 1 1).toInt := congrArg Int32.toInt (h21 1 1 (.inr ⟨rfl, rfl, rfl⟩))
    have hG23 : Gc 1 M x8 := Gc_t hG19 (Gc_up h21)
    refine bind_i (sf_History_forget x8 h20) (fun x9 _ q => ?_)
    obtain ⟨h24, h25⟩ := q
    have f26 : (x9.1 1 1).toInt = (x8.1 1 1).toInt := congrArg Int32.toInt (h25 1 1 (.inr ⟨rfl, rfl, rfl⟩))
    have hG27 : Gc 1 M x9 := Gc_t hG23 (Gc_up h25)
    refine bind_i (sf_History_spoil x9 h24) (fun x10 _ q => ?_)
    obtain ⟨h28, h29⟩ := q
    have f30 : (x10.1 1 1).toInt = (x9.1 1 1).toInt := congrArg Int32.toInt (h29 1 1 (.inr ⟨rfl, rfl, rfl⟩))
    have hG31 : Gc 1 M x10 := Gc_t hG27 (Gc_up h29)
    exact ⟨(x1.1, x10), rfl, h28, hG31, (show (-84 : Int) ≤ x1.1.toInt by omega), (show x1.1.toInt ≤ (9 : Int) by omega), (show (x10.1 1 1).toInt = 0 by omega)⟩
  · have c32 := c
    have d33 : x1.1.toInt ≤ (0 : Int) := nlti.mp c32
    exact ⟨(x1.1, M2), rfl, hJ10, hG11, (show (-84 : Int) ≤ x1.1.toInt by omega), (show x1.1.toInt ≤ (9 : Int) by omega), (show (M2.1 1 1).toInt = 0 by omega)⟩
theorem sf_Top_rule (M : Mem) (hJ : J M) : ∃ r : Int32 × Mem, f_Top_rule M = some r ∧ (J r.2 ∧ Gc 1 M r.2 ∧ (-83 : Int) ≤ r.1.toInt ∧ r.1.toInt ≤ (0 : Int) ∧ (r.2.1 1 1).toInt = 0) := by
  unfold f_Top_rule
  refine bind_i (sf_Law_read M hJ) (fun x1 _ q => ?_)
  obtain ⟨h1, h2, h3, h4⟩ := q
  have hG5 : Gc 1 M x1.2 := Gc_t Gc_r (Gc_up h2)
  refine mem_i (fun M2 e7 => ?_)
  have hJ8 : J M2 := by rw [e7]; exact Jw_1_1 h1 (0 : Int32) (show (0 : Int) ≤ (0 : Int32).toInt by decide) (show (0 : Int32).toInt ≤ (80 : Int) by decide)
  have hG9 : Gc 1 M M2 := Gc_1 hG5 e7 (by decide)
  have f10 : (M2.1 1 1).toInt = (0 : Int) := by rw [e7, si_eq]; rfl
  clear e7
  exact ⟨(x1.1, M2), rfl, hJ8, hG9, (show (-83 : Int) ≤ x1.1.toInt by omega), (show x1.1.toInt ≤ (0 : Int) by omega), (show (M2.1 1 1).toInt = 0 by omega)⟩
theorem sf_Top_route (v1 : Int32) (M : Mem) (hJ : J M) : ∃ r : Int32 × Mem, f_Top_route v1 M = some r ∧ (J r.2 ∧ Gc 1 M r.2 ∧ (-100 : Int) ≤ r.1.toInt ∧ r.1.toInt ≤ (9 : Int) ∧ (r.2.1 1 1).toInt = 0) := by
  unfold f_Top_route
  refine bind_i (sf_Crowd_has v1 M hJ) (fun x1 _ q => ?_)
  obtain ⟨h1, h2, h3⟩ := q
  refine if_i (fun c => ?_) (fun c => ?_)
  · have c4 := c
    have d5 : x1.toInt = (0 : Int) := eqi.mp c4
    unfold j_Top_route_28
    refine mem_i (fun M2 e7 => ?_)
    have hJ8 : J M2 := by rw [e7]; exact Jw_1_1 hJ (0 : Int32) (show (0 : Int) ≤ (0 : Int32).toInt by decide) (show (0 : Int32).toInt ≤ (80 : Int) by decide)
    have hG9 : Gc 1 M M2 := Gc_1 Gc_r e7 (by decide)
    have f10 : (M2.1 1 1).toInt = (0 : Int) := by rw [e7, si_eq]; rfl
    clear e7
    refine if_i (fun c => ?_) (fun c => ?_)
    · have c11 := c
      have d12 : (0 : Int) ≤ (-100 : Int) := lei.mp c11
      exfalso; omega
    · have c13 := c
      have d14 : (-100 : Int) < (0 : Int) := nlei.mp c13
      exact ⟨((-100 : Int32), M2), rfl, hJ8, hG9, (show (-100 : Int) ≤ (-100 : Int32).toInt by decide), (show (-100 : Int32).toInt ≤ (9 : Int) by decide), (show (M2.1 1 1).toInt = 0 by omega)⟩
  · have c15 := c
    have d16 : ¬ x1.toInt = (0 : Int) := neqi.mp c15
    refine bind_i (sf_Crowd_tellWay v1 M hJ) (fun x7 _ q => ?_)
    obtain ⟨h17, h18, h19, h20⟩ := q
    have hG21 : Gc 1 M x7.2 := Gc_t Gc_r (Gc_up h18)
    unfold j_Top_route_28
    refine mem_i (fun M2 e23 => ?_)
    have hJ24 : J M2 := by rw [e23]; exact Jw_1_1 h17 (0 : Int32) (show (0 : Int) ≤ (0 : Int32).toInt by decide) (show (0 : Int32).toInt ≤ (80 : Int) by decide)
    have hG25 : Gc 1 M M2 := Gc_1 hG21 e23 (by decide)
    have f26 : (M2.1 1 1).toInt = (0 : Int) := by rw [e23, si_eq]; rfl
    clear e23
    refine if_i (fun c => ?_) (fun c => ?_)
    · have c27 := c
      have d28 : (0 : Int) ≤ x7.1.toInt := lei.mp c27
      refine inb_i (by omega) (by omega) ?_
      refine mem_i (fun M3 e30 => ?_)
      have hJ31 : J M3 := by rw [e30]; exact Jw_any ok_14 hJ24 v1.toNatClampNeg (0 : Int32)
      have hG32 : Gc 1 M M3 := Gc_i hG25 e30 (by decide)
      have f33 : (M3.1 1 1).toInt = (M2.1 1 1).toInt := by rw [e30]; rw [si_ne (by exact fun e => absurd e.1 (by decide))]
      clear e30
      refine bind_i (sf_History_forget M3 hJ31) (fun x4 _ q => ?_)
      obtain ⟨h34, h35⟩ := q
      have f36 : (x4.1 1 1).toInt = (M3.1 1 1).toInt := congrArg Int32.toInt (h35 1 1 (.inr ⟨rfl, rfl, rfl⟩))
      have hG37 : Gc 1 M x4 := Gc_t hG32 (Gc_up h35)
      refine bind_i (sf_History_spoil x4 h34) (fun x5 _ q => ?_)
      obtain ⟨h38, h39⟩ := q
      have f40 : (x5.1 1 1).toInt = (x4.1 1 1).toInt := congrArg Int32.toInt (h39 1 1 (.inr ⟨rfl, rfl, rfl⟩))
      have hG41 : Gc 1 M x5 := Gc_t hG37 (Gc_up h39)
      exact ⟨(x7.1, x5), rfl, h38, hG41, (show (-100 : Int) ≤ x7.1.toInt by omega), (show x7.1.toInt ≤ (9 : Int) by omega), (show (x5.1 1 1).toInt = 0 by omega)⟩
    · have c42 := c
      have d43 : x7.1.toInt < (0 : Int) := nlei.mp c42
      exact ⟨(x7.1, M2), rfl, hJ24, hG25, (show (-100 : Int) ≤ x7.1.toInt by omega), (show x7.1.toInt ≤ (9 : Int) by omega), (show (M2.1 1 1).toInt = 0 by omega)⟩
theorem sl_Top_canBecome_2 (v1 : Int32) (v2 : Int32) (M : Mem) (a0_ : Int32) (hJ_M : J M) (i0_ : (0 : Int) ≤ a0_.toInt) (i1_ : a0_.toInt ≤ (2 : Int)) : ∃ x, iter (lb_Top_canBecome_2 v1 v2 M) FU a0_ = some x ∧ (SQ (fun r : Unit => True) (fun r : Unit => True)) x := by
  refine iter_r (fun s : Int32 => (0 : Int) ≤ s.toInt ∧ s.toInt ≤ (2 : Int)) (fun s : Int32 => (2 - s.toInt).toNat) (SQ (fun r : Unit => True) (fun r : Unit => True)) ?_ FU a0_ ⟨i0_, i1_⟩ (by show (2 - a0_.toInt).toNat < FU; rw [FU_v]; omega)
  clear i1_ i0_
  rintro a0_' ⟨i0_, i1_⟩
  unfold lb_Top_canBecome_2
  refine if_i (fun c => ?_) (fun c => ?_)
  · have c1 := c
    have d2 : (1 : Int) < a0_'.toInt := lti.mp c1
    exact ⟨_, rfl, trivial⟩
  · have c3 := c
    have d4 : a0_'.toInt ≤ (1 : Int) := nlti.mp c3
    refine if_i (fun c => ?_) (fun c => ?_)
    · have c5 := c
      have q6 : (0 : Int) ≤ ((v2 >>> (a0_' &&& 31)) &&& (1 : Int32)).toInt ∧ ((v2 >>> (a0_' &&& 31)) &&& (1 : Int32)).toInt ≤ 1 := and_rng (by decide)
      have d7 : ((v2 >>> (a0_' &&& 31)) &&& (1 : Int32)).toInt = (0 : Int) := eqi.mp c5
      unfold j_Top_canBecome_20_2
      refine if_i (fun c => ?_) (fun c => ?_)
      · have c8 := c
        have d9 : (1 : Int) = (0 : Int) := eqi.mp c8
        exfalso; omega
      · have c10 := c
        have d11 : ¬ (1 : Int) = (0 : Int) := neqi.mp c10
        have r12 := Jr_6_4 hJ_M
        refine bind_i (sf_Scene_standing 11 a0_' v1 (M.1 6 4) M kd_11 (⟨show (0 : Int) ≤ (M.1 6 4).toInt by omega, show (M.1 6 4).toInt ≤ (8 : Int) by omega⟩) hJ_M) (fun x1 _ q => ?_)
        refine if_i (fun c => ?_) (fun c => ?_)
        · have c13 := c
          have d14 : x1.toInt = (0 : Int) := eqi.mp c13
          have q15 : (a0_' + (1 : Int32)).toInt = a0_'.toInt + (1 : Int) := add_ti rfl rfl (by omega) (by omega)
          exact ⟨_, rfl, ⟨(show (0 : Int) ≤ (a0_' + (1 : Int32)).toInt by omega), (show (a0_' + (1 : Int32)).toInt ≤ (2 : Int) by omega)⟩, show (2 - (a0_' + (1 : Int32)).toInt).toNat < (2 - a0_'.toInt).toNat by omega⟩
        · have c16 := c
          have d17 : ¬ x1.toInt = (0 : Int) := neqi.mp c16
          exact ⟨_, rfl, trivial⟩
    · have c18 := c
      have q19 : (0 : Int) ≤ ((v2 >>> (a0_' &&& 31)) &&& (1 : Int32)).toInt ∧ ((v2 >>> (a0_' &&& 31)) &&& (1 : Int32)).toInt ≤ 1 := and_rng (by decide)
      have d20 : ¬ ((v2 >>> (a0_' &&& 31)) &&& (1 : Int32)).toInt = (0 : Int) := neqi.mp c18
      unfold j_Top_canBecome_20_2
      refine if_i (fun c => ?_) (fun c => ?_)
      · have c21 := c
        have d22 : (0 : Int) = (0 : Int) := eqi.mp c21
        have q23 : (a0_' + (1 : Int32)).toInt = a0_'.toInt + (1 : Int) := add_ti rfl rfl (by omega) (by omega)
        exact ⟨_, rfl, ⟨(show (0 : Int) ≤ (a0_' + (1 : Int32)).toInt by omega), (show (a0_' + (1 : Int32)).toInt ≤ (2 : Int) by omega)⟩, show (2 - (a0_' + (1 : Int32)).toInt).toNat < (2 - a0_'.toInt).toNat by omega⟩
      · have c24 := c
        have d25 : ¬ (0 : Int) = (0 : Int) := neqi.mp c24
        exfalso; omega
theorem sf_Top_canBecome (v1 : Int32) (v2 : Int32) (M : Mem) (hJ : J M) : ∃ r : Int32, f_Top_canBecome v1 v2 M = some r ∧ ((0 : Int) ≤ r.toInt ∧ r.toInt ≤ (1 : Int)) := by
  unfold f_Top_canBecome
  refine bind_i (sl_Top_canBecome_2 v1 v2 M (0 : Int32) hJ (show (0 : Int) ≤ (0 : Int32).toInt by decide) (show (0 : Int32).toInt ≤ (2 : Int) by decide)) (fun x1 _ q => ?_)
  rcases x1 with y | y
  · have q9 : True := q
    dsimp only [Sum.elim_inl, Sum.elim_inr]
    refine if_i (fun c => ?_) (fun c => ?_)
    · have c3 := c
      have q4 : (0 : Int) ≤ ((v2 >>> ((1 : Int32) &&& 31)) &&& (1 : Int32)).toInt ∧ ((v2 >>> ((1 : Int32) &&& 31)) &&& (1 : Int32)).toInt ≤ 1 := and_rng (by decide)
      have d5 : ((v2 >>> ((1 : Int32) &&& 31)) &&& (1 : Int32)).toInt = (0 : Int) := eqi.mp c3
      unfold j_Top_canBecome_67
      refine if_i (fun c => ?_) (fun c => ?_)
      · have c6 := c
        have d7 : (0 : Int) = (0 : Int) := eqi.mp c6
        refine bind_i (sf_Scene_planksAt 11 v1 M kd_11 hJ) (fun x8 _ q => ?_)
        refine if_i (fun c => ?_) (fun c => ?_)
        · have c8 := c
          have d9 : x8.toInt = (0 : Int) := eqi.mp c8
          exact ⟨(1 : Int32), rfl, (show (0 : Int) ≤ (1 : Int32).toInt by decide), (show (1 : Int32).toInt ≤ (1 : Int) by decide)⟩
        · have c10 := c
          have d11 : ¬ x8.toInt = (0 : Int) := neqi.mp c10
          exact ⟨(0 : Int32), rfl, (show (0 : Int) ≤ (0 : Int32).toInt by decide), (show (0 : Int32).toInt ≤ (1 : Int) by decide)⟩
      · have c12 := c
        have d13 : ¬ (0 : Int) = (0 : Int) := neqi.mp c12
        exfalso; omega
    · have c14 := c
      have q15 : (0 : Int) ≤ ((v2 >>> ((1 : Int32) &&& 31)) &&& (1 : Int32)).toInt ∧ ((v2 >>> ((1 : Int32) &&& 31)) &&& (1 : Int32)).toInt ≤ 1 := and_rng (by decide)
      have d16 : ¬ ((v2 >>> ((1 : Int32) &&& 31)) &&& (1 : Int32)).toInt = (0 : Int) := neqi.mp c14
      unfold j_Top_canBecome_67
      refine if_i (fun c => ?_) (fun c => ?_)
      · have c17 := c
        have d18 : (1 : Int) = (0 : Int) := eqi.mp c17
        exfalso; omega
      · have c19 := c
        have d20 : ¬ (1 : Int) = (0 : Int) := neqi.mp c19
        refine bind_i (sf_Scene_isUnderPlank 11 v1 M kd_11 hJ) (fun x10 _ q => ?_)
        obtain ⟨h21, h22⟩ := q
        refine if_i (fun c => ?_) (fun c => ?_)
        · have c23 := c
          have d24 : x10.toInt = (0 : Int) := eqi.mp c23
          exact ⟨(1 : Int32), rfl, (show (0 : Int) ≤ (1 : Int32).toInt by decide), (show (1 : Int32).toInt ≤ (1 : Int) by decide)⟩
        · have c25 := c
          have d26 : ¬ x10.toInt = (0 : Int) := neqi.mp c25
          exact ⟨(0 : Int32), rfl, (show (0 : Int) ≤ (0 : Int32).toInt by decide), (show (0 : Int32).toInt ≤ (1 : Int) by decide)⟩
  · have q9 : True := q
    dsimp only [Sum.elim_inl, Sum.elim_inr]
    exact ⟨(0 : Int32), rfl, (show (0 : Int) ≤ (0 : Int32).toInt by decide), (show (0 : Int32).toInt ≤ (1 : Int) by decide)⟩
theorem sf_Top_build (v1 : Int32) (v2 : Int32) (M : Mem) (hJ : J M) : ∃ r : Int32 × Mem, f_Top_build v1 v2 M = some r ∧ (J r.2 ∧ Gc 0 M r.2) := by
  unfold f_Top_build
  refine bind_i (sf_Ground_has v1 M hJ) (fun x1 _ q => ?_)
  obtain ⟨h1, h2, h3⟩ := q
  refine if_i (fun c => ?_) (fun c => ?_)
  · have c4 := c
    have d5 : x1.toInt = (0 : Int) := eqi.mp c4
    exact ⟨((-1 : Int32), M), rfl, hJ, Gc_r⟩
  · have c6 := c
    have d7 : ¬ x1.toInt = (0 : Int) := neqi.mp c6
    refine if_i (fun c => ?_) (fun c => ?_)
    · have c8 := c
      have d9 : v2.toInt < (0 : Int) := lti.mp c8
      exact ⟨((-1 : Int32), M), rfl, hJ, Gc_r⟩
    · have c10 := c
      have d11 : (0 : Int) ≤ v2.toInt := nlti.mp c10
      refine if_i (fun c => ?_) (fun c => ?_)
      · have c12 := c
        have d13 : (3 : Int) < v2.toInt := lti.mp c12
        exact ⟨((-1 : Int32), M), rfl, hJ, Gc_r⟩
      · have c14 := c
        have d15 : v2.toInt ≤ (3 : Int) := nlti.mp c14
        refine bind_i (sf_Top_canBecome v1 v2 M hJ) (fun x2 _ q => ?_)
        obtain ⟨h16, h17⟩ := q
        refine if_i (fun c => ?_) (fun c => ?_)
        · have c18 := c
          have d19 : x2.toInt = (0 : Int) := eqi.mp c18
          exact ⟨((-1 : Int32), M), rfl, hJ, Gc_r⟩
        · have c20 := c
          have d21 : ¬ x2.toInt = (0 : Int) := neqi.mp c20
          refine inb_i (by omega) (by omega) ?_
          refine inb_i (by omega) (by omega) ?_
          refine mem_i (fun M3 e23 => ?_)
          have hJ24 : J M3 := by rw [e23]; exact Jw_any ok_4 hJ v1.toNatClampNeg v2
          have hG25 : Gc 0 M M3 := Gc_i Gc_r e23 (by decide)
          clear e23
          refine bind_i (sf_History_forget M3 hJ24) (fun x4 _ q => ?_)
          obtain ⟨h26, h27⟩ := q
          have hG28 : Gc 0 M x4 := Gc_t hG25 h27
          refine bind_i (sf_History_spoil x4 h26) (fun x5 _ q => ?_)
          obtain ⟨h29, h30⟩ := q
          have hG31 : Gc 0 M x5 := Gc_t hG28 h30
          refine bind_i (sf_Nets_lay 32 11 (-1 : Int32) x5 kd_32 kd_11 h29) (fun x6 _ q => ?_)
          obtain ⟨h32, h33⟩ := q
          have hG34 : Gc 0 M x6 := Gc_t hG31 h33
          exact ⟨((M.1 4 v1.toNatClampNeg), x6), rfl, h32, hG34⟩
theorem sf_Top_lay (v1 : Int32) (v2 : Int32) (M : Mem) (hJ : J M) : ∃ r : Int32 × Mem, f_Top_lay v1 v2 M = some r ∧ (J r.2 ∧ Gc 0 M r.2) := by
  unfold f_Top_lay
  refine bind_i (sf_Ground_has v1 M hJ) (fun x1 _ q => ?_)
  obtain ⟨h1, h2, h3⟩ := q
  refine if_i (fun c => ?_) (fun c => ?_)
  · have c4 := c
    have d5 : x1.toInt = (0 : Int) := eqi.mp c4
    exact ⟨((-1 : Int32), M), rfl, hJ, Gc_r⟩
  · have c6 := c
    have d7 : ¬ x1.toInt = (0 : Int) := neqi.mp c6
    refine bind_i (sf_Ground_has v2 M hJ) (fun x2 _ q => ?_)
    obtain ⟨h8, h9, h10⟩ := q
    refine if_i (fun c => ?_) (fun c => ?_)
    · have c11 := c
      have d12 : x2.toInt = (0 : Int) := eqi.mp c11
      exact ⟨((-1 : Int32), M), rfl, hJ, Gc_r⟩
    · have c13 := c
      have d14 : ¬ x2.toInt = (0 : Int) := neqi.mp c13
      refine bind_i (sf_Ground_between v1 v2 M hJ) (fun x3 _ q => ?_)
      obtain ⟨h15, h16⟩ := q
      refine if_i (fun c => ?_) (fun c => ?_)
      · have c17 := c
        have d18 : x3.toInt = (-1 : Int) := eqi.mp c17
        exact ⟨((-2 : Int32), M), rfl, hJ, Gc_r⟩
      · have c19 := c
        have d20 : ¬ x3.toInt = (-1 : Int) := neqi.mp c19
        refine bind_i (sf_Ground_holds (1 : Int32) v1 M hJ) (fun x4 _ q => ?_)
        obtain ⟨h21, h22, h23, h24⟩ := q
        clear h23
        refine if_i (fun c => ?_) (fun c => ?_)
        · have c25 := c
          have d26 : x4.toInt = (0 : Int) := eqi.mp c25
          exact ⟨((-2 : Int32), M), rfl, hJ, Gc_r⟩
        · have c27 := c
          have d28 : ¬ x4.toInt = (0 : Int) := neqi.mp c27
          refine bind_i (sf_Ground_holds (1 : Int32) v2 M hJ) (fun x5 _ q => ?_)
          obtain ⟨h29, h30, h31, h32⟩ := q
          clear h31
          refine if_i (fun c => ?_) (fun c => ?_)
          · have c33 := c
            have d34 : x5.toInt = (0 : Int) := eqi.mp c33
            exact ⟨((-2 : Int32), M), rfl, hJ, Gc_r⟩
          · have c35 := c
            have d36 : ¬ x5.toInt = (0 : Int) := neqi.mp c35
            refine bind_i (sf_Ground_holds (1 : Int32) x3 M hJ) (fun x6 _ q => ?_)
            obtain ⟨h37, h38, h39, h40⟩ := q
            clear h39
            refine if_i (fun c => ?_) (fun c => ?_)
            · have c41 := c
              have d42 : x6.toInt = (0 : Int) := eqi.mp c41
              refine bind_i (sf_Scene_hasPlank 11 v1 v2 M kd_11 hJ) (fun x7 _ q => ?_)
              obtain ⟨h43, h44⟩ := q
              refine if_i (fun c => ?_) (fun c => ?_)
              · have c45 := c
                have d46 : x7.toInt = (0 : Int) := eqi.mp c45
                refine bind_i (sf_Scene_addPlank 11 v1 v2 M kd_11 (⟨show (0 : Int) ≤ v1.toInt by omega, show v1.toInt ≤ (35 : Int) by omega⟩) (⟨show (0 : Int) ≤ v2.toInt by omega, show v2.toInt ≤ (35 : Int) by omega⟩) hJ) (fun x8 _ q => ?_)
                obtain ⟨h47, h48, h49, h50⟩ := q
                have hG51 : Gc 0 M x8.2 := Gc_t Gc_r h48
                refine if_i (fun c => ?_) (fun c => ?_)
                · have c52 := c
                  have d53 : x8.1.toInt = (0 : Int) := eqi.mp c52
                  exact ⟨((-4 : Int32), x8.2), rfl, h47, hG51⟩
                · have c54 := c
                  have d55 : ¬ x8.1.toInt = (0 : Int) := neqi.mp c54
                  refine bind_i (sf_Nets_lay 32 11 (-1 : Int32) x8.2 kd_32 kd_11 h47) (fun x9 _ q => ?_)
                  obtain ⟨h56, h57⟩ := q
                  have hG58 : Gc 0 M x9 := Gc_t hG51 h57
                  exact ⟨(((x9.1 11 6) - (1 : Int32)), x9), rfl, h56, hG58⟩
              · have c59 := c
                have d60 : ¬ x7.toInt = (0 : Int) := neqi.mp c59
                exact ⟨((-3 : Int32), M), rfl, hJ, Gc_r⟩
            · have c61 := c
              have d62 : ¬ x6.toInt = (0 : Int) := neqi.mp c61
              exact ⟨((-2 : Int32), M), rfl, hJ, Gc_r⟩
theorem sf_Top_plank (v1 : Int32) (v2 : Int32) (M : Mem) (hJ : J M) : ∃ r : Int32 × Mem, f_Top_plank v1 v2 M = some r ∧ (J r.2 ∧ Gc 0 M r.2) := by
  unfold f_Top_plank
  refine bind_i (sf_Scene_copy 18 11 M kd_18 kd_11 hJ) (fun x1 _ q => ?_)
  obtain ⟨h1, h2, h3⟩ := q
  have hG4 : Gc 0 M x1 := Gc_t Gc_r h2
  refine bind_i (sf_Top_lay v1 v2 x1 h1) (fun x2 _ q => ?_)
  obtain ⟨h5, h6⟩ := q
  have hG7 : Gc 0 M x2.2 := Gc_t hG4 h6
  refine if_i (fun c => ?_) (fun c => ?_)
  · have c8 := c
    have d9 : x2.1.toInt < (0 : Int) := lti.mp c8
    exact ⟨(x2.1, x2.2), rfl, h5, hG7⟩
  · have c10 := c
    have d11 : (0 : Int) ≤ x2.1.toInt := nlti.mp c10
    refine bind_i (sf_History_add 18 x2.2 kd_18 h5) (fun x3 _ q => ?_)
    obtain ⟨h12, h13⟩ := q
    have hG14 : Gc 0 M x3 := Gc_t hG7 h13
    exact ⟨(x2.1, x3), rfl, h12, hG14⟩
theorem sf_Top_lift (M : Mem) (hJ : J M) : ∃ r : Int32 × Mem, f_Top_lift M = some r ∧ (J r.2 ∧ Gc 0 M r.2 ∧ (0 : Int) ≤ r.1.toInt ∧ r.1.toInt ≤ (1 : Int)) := by
  unfold f_Top_lift
  refine if_i (fun c => ?_) (fun c => ?_)
  · have c1 := c
    have d2 : (0 : Int) < (M.1 11 6).toInt := lti.mp c1
    refine mem_i (fun M1 e4 => ?_)
    have hJ5 : J M1 := by rw [e4]; exact Jw_any ok_11 hJ 6 ((M.1 11 6) - (1 : Int32))
    have hG6 : Gc 0 M M1 := Gc_i Gc_r e4 (by decide)
    have q7 := i32hi (M.1 11 6)
    have q8 : ((M.1 11 6) - (1 : Int32)).toInt = (M.1 11 6).toInt - (1 : Int) := sub_ti rfl rfl (by omega) (by omega)
    have f9 : (M1.1 11 6).toInt = ((M.1 11 6) - (1 : Int32)).toInt := by rw [e4, si_eq]
    clear e4
    refine bind_i (sf_Nets_lay 32 11 (-1 : Int32) M1 kd_32 kd_11 hJ5) (fun x2 _ q => ?_)
    obtain ⟨h10, h11⟩ := q
    have hG12 : Gc 0 M x2 := Gc_t hG6 h11
    exact ⟨((1 : Int32), x2), rfl, h10, hG12, (show (0 : Int) ≤ (1 : Int32).toInt by decide), (show (1 : Int32).toInt ≤ (1 : Int) by decide)⟩
  · have c13 := c
    have d14 : (M.1 11 6).toInt ≤ (0 : Int) := nlti.mp c13
    exact ⟨((0 : Int32), M), rfl, hJ, Gc_r, (show (0 : Int) ≤ (0 : Int32).toInt by decide), (show (0 : Int32).toInt ≤ (1 : Int) by decide)⟩
end
section
/-! safety of the class, 15 -/
theorem sf_Top_take (M : Mem) (hJ : J M) : ∃ r : Int32 × Mem, f_Top_take M = some r ∧ (J r.2 ∧ Gc 0 M r.2) := by
  unfold f_Top_take
  refine bind_i (sf_Scene_copy 18 11 M kd_18 kd_11 hJ) (fun x1 _ q => ?_)
  obtain ⟨h1, h2, h3⟩ := q
  have hG4 : Gc 0 M x1 := Gc_t Gc_r h2
  refine bind_i (sf_Top_lift x1 h1) (fun x2 _ q => ?_)
  obtain ⟨h5, h6, h7, h8⟩ := q
  have hG9 : Gc 0 M x2.2 := Gc_t hG4 h6
  refine if_i (fun c => ?_) (fun c => ?_)
  · have c10 := c
    have d11 : x2.1.toInt = (0 : Int) := eqi.mp c10
    exact ⟨((-1 : Int32), x2.2), rfl, h5, hG9⟩
  · have c12 := c
    have d13 : ¬ x2.1.toInt = (0 : Int) := neqi.mp c12
    refine bind_i (sf_History_add 18 x2.2 kd_18 h5) (fun x3 _ q => ?_)
    obtain ⟨h14, h15⟩ := q
    have hG16 : Gc 0 M x3 := Gc_t hG9 h15
    exact ⟨((x3.1 11 6), x3), rfl, h14, hG16⟩
theorem sf_Top_narrow (v0 : Int32) (v1 : Int32) : ∃ r : Int32, f_Top_narrow v0 v1 = some r ∧ (True) := by
  unfold f_Top_narrow
  refine if_i (fun c => ?_) (fun c => ?_)
  · have c1 := c
    have d2 : v0.toInt = (0 : Int) := eqi.mp c1
    exact ⟨v1.toInt8.toInt32, rfl, trivial⟩
  · have c3 := c
    have d4 : ¬ v0.toInt = (0 : Int) := neqi.mp c3
    refine if_i (fun c => ?_) (fun c => ?_)
    · have c5 := c
      have d6 : v0.toInt = (1 : Int) := eqi.mp c5
      exact ⟨v1.toInt16.toInt32, rfl, trivial⟩
    · have c7 := c
      have d8 : ¬ v0.toInt = (1 : Int) := neqi.mp c7
      exact ⟨v1, rfl, trivial⟩
theorem sl_Top_sheet_35 (v1 : Int32) (v2 : Int32) (v3 : Int32) (v4 : Int32) (a0_ : Int32) (a1_ : Int32) (N_ : Mem) (B_ : Mem) (hp_v1 : (0 : Int) ≤ v1.toInt ∧ v1.toInt ≤ (3 : Int)) (hp_v2 : v2.toInt ≤ (8 : Int)) (hN : J N_) (hG : Gc 0 B_ N_) (i2_ : (0 : Int) ≤ a1_.toInt) (i3_ : a1_.toInt ≤ (8 : Int)) : ∃ x, iter (lb_Top_sheet_35 v1 v2 v3 v4) FU (a0_, a1_, N_) = some x ∧ (fun r : Int32 × Mem => J r.2 ∧ Gc 0 B_ r.2) x := by
  refine iter_r (fun s : Int32 × Int32 × Mem => J s.2.2 ∧ Gc 0 B_ s.2.2 ∧ (0 : Int) ≤ s.2.1.toInt ∧ s.2.1.toInt ≤ (8 : Int)) (fun s : Int32 × Int32 × Mem => (8 - s.2.1.toInt).toNat) (fun r : Int32 × Mem => J r.2 ∧ Gc 0 B_ r.2) ?_ FU (a0_, a1_, N_) ⟨hN, hG, i2_, i3_⟩ (by show (8 - a1_.toInt).toNat < FU; rw [FU_v]; omega)
  clear i3_ i2_ hG hN
  rintro ⟨a0_', a1_', N_'⟩ ⟨hN, hG, i2_, i3_⟩
  dsimp only at hN hG i2_ i3_
  unfold lb_Top_sheet_35
  dsimp only
  refine if_i (fun c => ?_) (fun c => ?_)
  · have c1 := c
    have d2 : (8 : Int) ≤ a1_'.toInt := lei.mp c1
    exact ⟨_, rfl, hN, hG⟩
  · have c3 := c
    have d4 : a1_'.toInt < (8 : Int) := nlei.mp c3
    refine if_i (fun c => ?_) (fun c => ?_)
    · have c5 := c
      have d6 : v1.toInt = (3 : Int) := eqi.mp c5
      unfold j_Top_sheet_78_35
      refine inb_i (by omega) (by omega) ?_
      refine mem_i (fun M1 e8 => ?_)
      have hJ9 : J M1 := by rw [e8]; exact Jw_any ok_14 hN a1_'.toNatClampNeg (0 : Int32)
      have hG10 : Gc 0 B_ M1 := Gc_i hG e8 (by decide)
      clear e8
      have q11 : (a1_' + (1 : Int32)).toInt = a1_'.toInt + (1 : Int) := add_ti rfl rfl (by omega) (by omega)
      exact ⟨_, rfl, ⟨hJ9, hG10, (show (0 : Int) ≤ (a1_' + (1 : Int32)).toInt by omega), (show (a1_' + (1 : Int32)).toInt ≤ (8 : Int) by omega)⟩, show (8 - (a1_' + (1 : Int32)).toInt).toNat < (8 - a1_'.toInt).toNat by omega⟩
    · have c12 := c
      have d13 : ¬ v1.toInt = (3 : Int) := neqi.mp c12
      refine if_i (fun c => ?_) (fun c => ?_)
      · have c14 := c
        have d15 : v2.toInt ≤ a1_'.toInt := lei.mp c14
        unfold j_Top_sheet_78_35
        refine inb_i (by omega) (by omega) ?_
        refine mem_i (fun M1 e17 => ?_)
        have hJ18 : J M1 := by rw [e17]; exact Jw_any ok_14 hN a1_'.toNatClampNeg (0 : Int32)
        have hG19 : Gc 0 B_ M1 := Gc_i hG e17 (by decide)
        clear e17
        have q20 : (a1_' + (1 : Int32)).toInt = a1_'.toInt + (1 : Int) := add_ti rfl rfl (by omega) (by omega)
        exact ⟨_, rfl, ⟨hJ18, hG19, (show (0 : Int) ≤ (a1_' + (1 : Int32)).toInt by omega), (show (a1_' + (1 : Int32)).toInt ≤ (8 : Int) by omega)⟩, show (8 - (a1_' + (1 : Int32)).toInt).toNat < (8 - a1_'.toInt).toNat by omega⟩
      · have c21 := c
        have d22 : a1_'.toInt < v2.toInt := nlei.mp c21
        refine bind_i (sf_Top_narrow v1 (v3 + (a1_' * v4))) (fun x2 _ q => ?_)
        refine bind_i (sf_Crowd_within a1_' x2 N_' hN) (fun x3 _ q => ?_)
        have h23 := q
        unfold j_Top_sheet_78_35
        refine inb_i (by omega) (by omega) ?_
        refine mem_i (fun M1 e25 => ?_)
        have hJ26 : J M1 := by rw [e25]; exact Jw_any ok_14 hN a1_'.toNatClampNeg x3
        have hG27 : Gc 0 B_ M1 := Gc_i hG e25 (by decide)
        clear e25
        have q28 : (a1_' + (1 : Int32)).toInt = a1_'.toInt + (1 : Int) := add_ti rfl rfl (by omega) (by omega)
        exact ⟨_, rfl, ⟨hJ26, hG27, (show (0 : Int) ≤ (a1_' + (1 : Int32)).toInt by omega), (show (a1_' + (1 : Int32)).toInt ≤ (8 : Int) by omega)⟩, show (8 - (a1_' + (1 : Int32)).toInt).toNat < (8 - a1_'.toInt).toNat by omega⟩
theorem sf_Top_sheet (v1 : Int32) (v2 : Int32) (v3 : Int32) (v4 : Int32) (M : Mem) (hJ : J M) : ∃ r : Int32 × Mem, f_Top_sheet v1 v2 v3 v4 M = some r ∧ (J r.2 ∧ Gc 0 M r.2) := by
  unfold f_Top_sheet
  refine if_i (fun c => ?_) (fun c => ?_)
  · have c1 := c
    have d2 : v1.toInt < (0 : Int) := lti.mp c1
    exact ⟨((-1 : Int32), M), rfl, hJ, Gc_r⟩
  · have c3 := c
    have d4 : (0 : Int) ≤ v1.toInt := nlti.mp c3
    refine if_i (fun c => ?_) (fun c => ?_)
    · have c5 := c
      have d6 : (3 : Int) < v1.toInt := lti.mp c5
      exact ⟨((-1 : Int32), M), rfl, hJ, Gc_r⟩
    · have c7 := c
      have d8 : v1.toInt ≤ (3 : Int) := nlti.mp c7
      refine if_i (fun c => ?_) (fun c => ?_)
      · have c9 := c
        have d10 : v2.toInt ≤ (8 : Int) := lei.mp c9
        refine if_i (fun c => ?_) (fun c => ?_)
        · have c11 := c
          have d12 : v1.toInt = (3 : Int) := eqi.mp c11
          refine bind_i (sl_Top_sheet_35 v1 v2 v3 v4 (0 : Int32) (0 : Int32) M M (⟨show (0 : Int) ≤ v1.toInt by omega, show v1.toInt ≤ (3 : Int) by omega⟩) (show v2.toInt ≤ (8 : Int) by omega) hJ Gc_r (show (0 : Int) ≤ (0 : Int32).toInt by decide) (show (0 : Int32).toInt ≤ (8 : Int) by decide)) (fun x7 _ q => ?_)
          obtain ⟨h13, h14⟩ := q
          refine if_i (fun c => ?_) (fun c => ?_)
          · have c15 := c
            have d16 : v1.toInt = (3 : Int) := eqi.mp c15
            exact ⟨((-3 : Int32), x7.2), rfl, h13, h14⟩
          · have c17 := c
            have d18 : ¬ v1.toInt = (3 : Int) := neqi.mp c17
            exfalso; omega
        · have c19 := c
          have d20 : ¬ v1.toInt = (3 : Int) := neqi.mp c19
          refine if_i (fun c => ?_) (fun c => ?_)
          · have c21 := c
            have d22 : (0 : Int) ≤ v2.toInt := lei.mp c21
            refine bind_i (sl_Top_sheet_35 v1 v2 v3 v4 (0 : Int32) (0 : Int32) M M (⟨show (0 : Int) ≤ v1.toInt by omega, show v1.toInt ≤ (3 : Int) by omega⟩) (show v2.toInt ≤ (8 : Int) by omega) hJ Gc_r (show (0 : Int) ≤ (0 : Int32).toInt by decide) (show (0 : Int32).toInt ≤ (8 : Int) by decide)) (fun x9 _ q => ?_)
            obtain ⟨h23, h24⟩ := q
            refine if_i (fun c => ?_) (fun c => ?_)
            · have c25 := c
              have d26 : v1.toInt = (3 : Int) := eqi.mp c25
              exfalso; omega
            · have c27 := c
              have d28 : ¬ v1.toInt = (3 : Int) := neqi.mp c27
              exact ⟨(x9.1, x9.2), rfl, h23, h24⟩
          · have c29 := c
            have d30 : v2.toInt < (0 : Int) := nlei.mp c29
            exact ⟨((-2 : Int32), M), rfl, hJ, Gc_r⟩
      · have c31 := c
        have d32 : (8 : Int) < v2.toInt := nlei.mp c31
        exact ⟨((-1 : Int32), M), rfl, hJ, Gc_r⟩
theorem sf_Top_give (v1 : Int32) (M : Mem) (hJ : J M) : ∃ r : Int32 × Mem, f_Top_give v1 M = some r ∧ (J r.2 ∧ Gc 0 M r.2 ∧ (0 : Int) ≤ r.1.toInt ∧ r.1.toInt ≤ (1 : Int)) := by
  unfold f_Top_give
  refine bind_i (sf_Crowd_has v1 M hJ) (fun x1 _ q => ?_)
  obtain ⟨h1, h2, h3⟩ := q
  refine if_i (fun c => ?_) (fun c => ?_)
  · have c4 := c
    have d5 : x1.toInt = (0 : Int) := eqi.mp c4
    exact ⟨((0 : Int32), M), rfl, hJ, Gc_r, (show (0 : Int) ≤ (0 : Int32).toInt by decide), (show (0 : Int32).toInt ≤ (1 : Int) by decide)⟩
  · have c6 := c
    have d7 : ¬ x1.toInt = (0 : Int) := neqi.mp c6
    refine if_i (fun c => ?_) (fun c => ?_)
    · have c8 := c
      have q9 : (0 : Int) ≤ (((M.1 11 8) >>> (v1 &&& 31)) &&& (1 : Int32)).toInt ∧ (((M.1 11 8) >>> (v1 &&& 31)) &&& (1 : Int32)).toInt ≤ 1 := and_rng (by decide)
      have d10 : (((M.1 11 8) >>> (v1 &&& 31)) &&& (1 : Int32)).toInt = (0 : Int) := eqi.mp c8
      refine mem_i (fun M2 e12 => ?_)
      have hJ13 : J M2 := by rw [e12]; exact Jw_any ok_11 hJ 8 ((M.1 11 8) ||| ((1 : Int32) <<< (v1 &&& 31)))
      have hG14 : Gc 0 M M2 := Gc_i Gc_r e12 (by decide)
      clear e12
      exact ⟨((1 : Int32), M2), rfl, hJ13, hG14, (show (0 : Int) ≤ (1 : Int32).toInt by decide), (show (1 : Int32).toInt ≤ (1 : Int) by decide)⟩
    · have c15 := c
      have q16 : (0 : Int) ≤ (((M.1 11 8) >>> (v1 &&& 31)) &&& (1 : Int32)).toInt ∧ (((M.1 11 8) >>> (v1 &&& 31)) &&& (1 : Int32)).toInt ≤ 1 := and_rng (by decide)
      have d17 : ¬ (((M.1 11 8) >>> (v1 &&& 31)) &&& (1 : Int32)).toInt = (0 : Int) := neqi.mp c15
      exact ⟨((0 : Int32), M), rfl, hJ, Gc_r, (show (0 : Int) ≤ (0 : Int32).toInt by decide), (show (0 : Int32).toInt ≤ (1 : Int) by decide)⟩
theorem sf_Top_tell (v1 : Int32) (M : Mem) (hJ : J M) : ∃ r : Int32 × Mem, f_Top_tell v1 M = some r ∧ (J r.2 ∧ Gc 0 M r.2 ∧ (-1 : Int) ≤ r.1.toInt ∧ r.1.toInt ≤ (63 : Int)) := by
  unfold f_Top_tell
  refine bind_i (sf_Scene_copy 18 11 M kd_18 kd_11 hJ) (fun x1 _ q => ?_)
  obtain ⟨h1, h2, h3⟩ := q
  have hG4 : Gc 0 M x1 := Gc_t Gc_r h2
  refine bind_i (sf_Top_give v1 x1 h1) (fun x2 _ q => ?_)
  obtain ⟨h5, h6, h7, h8⟩ := q
  have hG9 : Gc 0 M x2.2 := Gc_t hG4 h6
  refine if_i (fun c => ?_) (fun c => ?_)
  · have c10 := c
    have d11 : x2.1.toInt = (0 : Int) := eqi.mp c10
    exact ⟨((-1 : Int32), x2.2), rfl, h5, hG9, (show (-1 : Int) ≤ (-1 : Int32).toInt by decide), (show (-1 : Int32).toInt ≤ (63 : Int) by decide)⟩
  · have c12 := c
    have d13 : ¬ x2.1.toInt = (0 : Int) := neqi.mp c12
    refine bind_i (sf_History_add 18 x2.2 kd_18 h5) (fun x3 _ q => ?_)
    obtain ⟨h14, h15⟩ := q
    have hG16 : Gc 0 M x3 := Gc_t hG9 h15
    refine bind_i (sf_JInteger_bitCount (x3.1 11 8)) (fun x4 _ q => ?_)
    obtain ⟨h17, h18⟩ := q
    exact ⟨(x4, x3), rfl, h14, hG16, (show (-1 : Int) ≤ x4.toInt by omega), (show x4.toInt ≤ (63 : Int) by omega)⟩
theorem sl_Top_womenAreAstray_2 (M : Mem) (a0_ : Int32) (hJ_M : J M) (i0_ : (0 : Int) ≤ a0_.toInt) (i1_ : a0_.toInt ≤ (8 : Int)) : ∃ x, iter (lb_Top_womenAreAstray_2 M) FU a0_ = some x ∧ (SQ (fun r : Unit => True) (fun r : Unit => True)) x := by
  refine iter_r (fun s : Int32 => (0 : Int) ≤ s.toInt ∧ s.toInt ≤ (8 : Int)) (fun s : Int32 => (8 - s.toInt).toNat) (SQ (fun r : Unit => True) (fun r : Unit => True)) ?_ FU a0_ ⟨i0_, i1_⟩ (by show (8 - a0_.toInt).toNat < FU; rw [FU_v]; omega)
  clear i1_ i0_
  rintro a0_' ⟨i0_, i1_⟩
  unfold lb_Top_womenAreAstray_2
  refine if_i (fun c => ?_) (fun c => ?_)
  · have c1 := c
    have r2 := Jr_6_4 hJ_M
    have d3 : (M.1 6 4).toInt ≤ a0_'.toInt := lei.mp c1
    exact ⟨_, rfl, trivial⟩
  · have c4 := c
    have r5 := Jr_6_4 hJ_M
    have d6 : a0_'.toInt < (M.1 6 4).toInt := nlei.mp c4
    refine bind_i (sf_Crowd_woman a0_' M hJ_M) (fun x1 _ q => ?_)
    obtain ⟨h7, h8⟩ := q
    refine if_i (fun c => ?_) (fun c => ?_)
    · have c9 := c
      have d10 : x1.toInt = (0 : Int) := eqi.mp c9
      have q11 : (a0_' + (1 : Int32)).toInt = a0_'.toInt + (1 : Int) := add_ti rfl rfl (by omega) (by omega)
      exact ⟨_, rfl, ⟨(show (0 : Int) ≤ (a0_' + (1 : Int32)).toInt by omega), (show (a0_' + (1 : Int32)).toInt ≤ (8 : Int) by omega)⟩, show (8 - (a0_' + (1 : Int32)).toInt).toNat < (8 - a0_'.toInt).toNat by omega⟩
    · have c12 := c
      have d13 : ¬ x1.toInt = (0 : Int) := neqi.mp c12
      refine inb_i (by omega) (by omega) ?_
      refine if_i (fun c => ?_) (fun c => ?_)
      · have c14 := c
        have r15 := Jr_13 hJ_M a0_'.toNatClampNeg
        have d16 : (M.1 13 a0_'.toNatClampNeg).toInt = (0 : Int) := eqi.mp c14
        refine inb_i (by omega) (by omega) ?_
        have r17 := Jr_12 hJ_M a0_'.toNatClampNeg
        refine bind_i (sf_Ground_isStair (M.1 12 a0_'.toNatClampNeg) M hJ_M) (fun x2 _ q => ?_)
        obtain ⟨h18, h19, h20⟩ := q
        refine if_i (fun c => ?_) (fun c => ?_)
        · have c21 := c
          have d22 : x2.toInt = (0 : Int) := eqi.mp c21
          exact ⟨_, rfl, trivial⟩
        · have c23 := c
          have d24 : ¬ x2.toInt = (0 : Int) := neqi.mp c23
          have q25 : (a0_' + (1 : Int32)).toInt = a0_'.toInt + (1 : Int) := add_ti rfl rfl (by omega) (by omega)
          exact ⟨_, rfl, ⟨(show (0 : Int) ≤ (a0_' + (1 : Int32)).toInt by omega), (show (a0_' + (1 : Int32)).toInt ≤ (8 : Int) by omega)⟩, show (8 - (a0_' + (1 : Int32)).toInt).toNat < (8 - a0_'.toInt).toNat by omega⟩
      · have c26 := c
        have r27 := Jr_13 hJ_M a0_'.toNatClampNeg
        have d28 : ¬ (M.1 13 a0_'.toNatClampNeg).toInt = (0 : Int) := neqi.mp c26
        have q29 : (a0_' + (1 : Int32)).toInt = a0_'.toInt + (1 : Int) := add_ti rfl rfl (by omega) (by omega)
        exact ⟨_, rfl, ⟨(show (0 : Int) ≤ (a0_' + (1 : Int32)).toInt by omega), (show (a0_' + (1 : Int32)).toInt ≤ (8 : Int) by omega)⟩, show (8 - (a0_' + (1 : Int32)).toInt).toNat < (8 - a0_'.toInt).toNat by omega⟩
theorem sf_Top_womenAreAstray (M : Mem) (hJ : J M) : ∃ r : Int32, f_Top_womenAreAstray M = some r ∧ ((0 : Int) ≤ r.toInt ∧ r.toInt ≤ (1 : Int)) := by
  unfold f_Top_womenAreAstray
  refine bind_i (sl_Top_womenAreAstray_2 M (0 : Int32) hJ (show (0 : Int) ≤ (0 : Int32).toInt by decide) (show (0 : Int32).toInt ≤ (8 : Int) by decide)) (fun x1 _ q => ?_)
  rcases x1 with y | y
  · have q9 : True := q
    dsimp only [Sum.elim_inl, Sum.elim_inr]
    exact ⟨(0 : Int32), rfl, (show (0 : Int) ≤ (0 : Int32).toInt by decide), (show (0 : Int32).toInt ≤ (1 : Int) by decide)⟩
  · have q9 : True := q
    dsimp only [Sum.elim_inl, Sum.elim_inr]
    exact ⟨(1 : Int32), rfl, (show (0 : Int) ≤ (1 : Int32).toInt by decide), (show (1 : Int32).toInt ≤ (1 : Int) by decide)⟩
theorem sl_Top_celebrate_34 (v1 : Int32) (a0_ : Int32) (N_ : Mem) (B_ : Mem) (hN : J N_) (hG : Gc 0 B_ N_) (i2_ : (0 : Int) ≤ a0_.toInt) (i3_ : a0_.toInt ≤ (8 : Int)) : ∃ x, iter (lb_Top_celebrate_34 v1) FU (a0_, N_) = some x ∧ (fun r : Mem => J r ∧ Gc 0 B_ r) x := by
  refine iter_r (fun s : Int32 × Mem => J s.2 ∧ Gc 0 B_ s.2 ∧ (0 : Int) ≤ s.1.toInt ∧ s.1.toInt ≤ (8 : Int)) (fun s : Int32 × Mem => (8 - s.1.toInt).toNat) (fun r : Mem => J r ∧ Gc 0 B_ r) ?_ FU (a0_, N_) ⟨hN, hG, i2_, i3_⟩ (by show (8 - a0_.toInt).toNat < FU; rw [FU_v]; omega)
  clear i3_ i2_ hG hN
  rintro ⟨a0_', N_'⟩ ⟨hN, hG, i2_, i3_⟩
  dsimp only at hN hG i2_ i3_
  unfold lb_Top_celebrate_34
  dsimp only
  refine if_i (fun c => ?_) (fun c => ?_)
  · have c1 := c
    have r2 := Jr_6_4 hN
    have d3 : (N_'.1 6 4).toInt ≤ a0_'.toInt := lei.mp c1
    exact ⟨_, rfl, hN, hG⟩
  · have c4 := c
    have r5 := Jr_6_4 hN
    have d6 : a0_'.toInt < (N_'.1 6 4).toInt := nlei.mp c4
    refine bind_i (sf_Crowd_woman a0_' N_' hN) (fun x2 _ q => ?_)
    obtain ⟨h7, h8⟩ := q
    refine if_i (fun c => ?_) (fun c => ?_)
    · have c9 := c
      have d10 : x2.toInt = (0 : Int) := eqi.mp c9
      have q11 : (a0_' + (1 : Int32)).toInt = a0_'.toInt + (1 : Int) := add_ti rfl rfl (by omega) (by omega)
      exact ⟨_, rfl, ⟨hN, hG, (show (0 : Int) ≤ (a0_' + (1 : Int32)).toInt by omega), (show (a0_' + (1 : Int32)).toInt ≤ (8 : Int) by omega)⟩, show (8 - (a0_' + (1 : Int32)).toInt).toNat < (8 - a0_'.toInt).toNat by omega⟩
    · have c12 := c
      have d13 : ¬ x2.toInt = (0 : Int) := neqi.mp c12
      refine inb_i (by omega) (by omega) ?_
      have r14 := Jr_12 hN a0_'.toNatClampNeg
      refine bind_i (sf_Ground_isStair (N_'.1 12 a0_'.toNatClampNeg) N_' hN) (fun x3 _ q => ?_)
      obtain ⟨h15, h16, h17⟩ := q
      refine if_i (fun c => ?_) (fun c => ?_)
      · have c18 := c
        have d19 : x3.toInt = (0 : Int) := eqi.mp c18
        have q20 : (a0_' + (1 : Int32)).toInt = a0_'.toInt + (1 : Int) := add_ti rfl rfl (by omega) (by omega)
        exact ⟨_, rfl, ⟨hN, hG, (show (0 : Int) ≤ (a0_' + (1 : Int32)).toInt by omega), (show (a0_' + (1 : Int32)).toInt ≤ (8 : Int) by omega)⟩, show (8 - (a0_' + (1 : Int32)).toInt).toNat < (8 - a0_'.toInt).toNat by omega⟩
      · have c21 := c
        have d22 : ¬ x3.toInt = (0 : Int) := neqi.mp c21
        refine if_i (fun c => ?_) (fun c => ?_)
        · have c23 := c
          have d24 : v1.toInt = (1 : Int) := eqi.mp c23
          refine inb_i (by omega) (by omega) ?_
          refine mem_i (fun M5 e26 => ?_)
          have hJ27 : J M5 := by rw [e26]; exact Jw_13 hN a0_'.toNatClampNeg (0 : Int32) (show (0 : Int) ≤ (0 : Int32).toInt by decide) (show (0 : Int32).toInt ≤ (1 : Int) by decide)
          have hG28 : Gc 0 B_ M5 := Gc_i hG e26 (by decide)
          have f29 : (M5.1 6 4).toInt = (N_'.1 6 4).toInt := by rw [e26]; rw [si_ne (by exact fun e => absurd e.1 (by decide))]
          have f30 : (M5.1 12 a0_'.toNatClampNeg).toInt = (N_'.1 12 a0_'.toNatClampNeg).toInt := by rw [e26]; rw [si_ne (by exact fun e => absurd e.1 (by decide))]
          clear e26
          have q31 : (a0_' + (1 : Int32)).toInt = a0_'.toInt + (1 : Int) := add_ti rfl rfl (by omega) (by omega)
          exact ⟨_, rfl, ⟨hJ27, hG28, (show (0 : Int) ≤ (a0_' + (1 : Int32)).toInt by omega), (show (a0_' + (1 : Int32)).toInt ≤ (8 : Int) by omega)⟩, show (8 - (a0_' + (1 : Int32)).toInt).toNat < (8 - a0_'.toInt).toNat by omega⟩
        · have c32 := c
          have d33 : ¬ v1.toInt = (1 : Int) := neqi.mp c32
          refine inb_i (by omega) (by omega) ?_
          refine mem_i (fun M4 e35 => ?_)
          have hJ36 : J M4 := by rw [e35]; exact Jw_13 hN a0_'.toNatClampNeg (1 : Int32) (show (0 : Int) ≤ (1 : Int32).toInt by decide) (show (1 : Int32).toInt ≤ (1 : Int) by decide)
          have hG37 : Gc 0 B_ M4 := Gc_i hG e35 (by decide)
          have f38 : (M4.1 6 4).toInt = (N_'.1 6 4).toInt := by rw [e35]; rw [si_ne (by exact fun e => absurd e.1 (by decide))]
          have f39 : (M4.1 12 a0_'.toNatClampNeg).toInt = (N_'.1 12 a0_'.toNatClampNeg).toInt := by rw [e35]; rw [si_ne (by exact fun e => absurd e.1 (by decide))]
          clear e35
          have q40 : (a0_' + (1 : Int32)).toInt = a0_'.toInt + (1 : Int) := add_ti rfl rfl (by omega) (by omega)
          exact ⟨_, rfl, ⟨hJ36, hG37, (show (0 : Int) ≤ (a0_' + (1 : Int32)).toInt by omega), (show (a0_' + (1 : Int32)).toInt ≤ (8 : Int) by omega)⟩, show (8 - (a0_' + (1 : Int32)).toInt).toNat < (8 - a0_'.toInt).toNat by omega⟩
theorem sf_Top_celebrate (v1 : Int32) (M : Mem) (hJ : J M) : ∃ r : Int32 × Mem, f_Top_celebrate v1 M = some r ∧ (J r.2 ∧ Gc 0 M r.2 ∧ (0 : Int) ≤ r.1.toInt ∧ r.1.toInt ≤ (1 : Int)) := by
  unfold f_Top_celebrate
  refine if_i (fun c => ?_) (fun c => ?_)
  · have c1 := c
    have d2 : (M.1 11 9).toInt = v1.toInt := eqi.mp c1
    exact ⟨((0 : Int32), M), rfl, hJ, Gc_r, (show (0 : Int) ≤ (0 : Int32).toInt by decide), (show (0 : Int32).toInt ≤ (1 : Int) by decide)⟩
  · have c3 := c
    have d4 : ¬ (M.1 11 9).toInt = v1.toInt := neqi.mp c3
    refine if_i (fun c => ?_) (fun c => ?_)
    · have c5 := c
      have d6 : v1.toInt = (0 : Int) := eqi.mp c5
      refine bind_i (sf_Top_womenAreAstray M hJ) (fun x11 _ q => ?_)
      obtain ⟨h7, h8⟩ := q
      refine if_i (fun c => ?_) (fun c => ?_)
      · have c9 := c
        have d10 : x11.toInt = (0 : Int) := eqi.mp c9
        refine mem_i (fun M12 e12 => ?_)
        have hJ13 : J M12 := by rw [e12]; exact Jw_any ok_11 hJ 9 v1
        have hG14 : Gc 0 M M12 := Gc_i Gc_r e12 (by decide)
        have f15 : (M12.1 11 9).toInt = v1.toInt := by rw [e12, si_eq]
        clear e12
        refine bind_i (sl_Top_celebrate_34 v1 (0 : Int32) M12 M hJ13 hG14 (show (0 : Int) ≤ (0 : Int32).toInt by decide) (show (0 : Int32).toInt ≤ (8 : Int) by decide)) (fun x13 _ q => ?_)
        obtain ⟨h16, h17⟩ := q
        exact ⟨((1 : Int32), x13), rfl, h16, h17, (show (0 : Int) ≤ (1 : Int32).toInt by decide), (show (1 : Int32).toInt ≤ (1 : Int) by decide)⟩
      · have c18 := c
        have d19 : ¬ x11.toInt = (0 : Int) := neqi.mp c18
        exact ⟨((0 : Int32), M), rfl, hJ, Gc_r, (show (0 : Int) ≤ (0 : Int32).toInt by decide), (show (0 : Int32).toInt ≤ (1 : Int) by decide)⟩
    · have c20 := c
      have d21 : ¬ v1.toInt = (0 : Int) := neqi.mp c20
      refine mem_i (fun M1 e23 => ?_)
      have hJ24 : J M1 := by rw [e23]; exact Jw_any ok_11 hJ 9 v1
      have hG25 : Gc 0 M M1 := Gc_i Gc_r e23 (by decide)
      clear e23
      refine bind_i (sl_Top_celebrate_34 v1 (0 : Int32) M1 M hJ24 hG25 (show (0 : Int) ≤ (0 : Int32).toInt by decide) (show (0 : Int32).toInt ≤ (8 : Int) by decide)) (fun x10 _ q => ?_)
      obtain ⟨h26, h27⟩ := q
      exact ⟨((1 : Int32), x10), rfl, h26, h27, (show (0 : Int) ≤ (1 : Int32).toInt by decide), (show (1 : Int32).toInt ≤ (1 : Int) by decide)⟩
theorem sl_Top_womenBelow_4 (M : Mem) (a0_ : Int32) (a1_ : Int32) (hJ_M : J M) (i0_ : (0 : Int) ≤ a1_.toInt) (i1_ : a1_.toInt ≤ (8 : Int)) : ∃ x, iter (lb_Top_womenBelow_4 M) FU (a0_, a1_) = some x ∧ (fun r : Int32 => True) x := by
  refine iter_r (fun s : Int32 × Int32 => (0 : Int) ≤ s.2.toInt ∧ s.2.toInt ≤ (8 : Int)) (fun s : Int32 × Int32 => (8 - s.2.toInt).toNat) (fun r : Int32 => True) ?_ FU (a0_, a1_) ⟨i0_, i1_⟩ (by show (8 - a1_.toInt).toNat < FU; rw [FU_v]; omega)
  clear i1_ i0_
  rintro ⟨a0_', a1_'⟩ ⟨i0_, i1_⟩
  dsimp only at i0_ i1_
  unfold lb_Top_womenBelow_4
  dsimp only
  refine if_i (fun c => ?_) (fun c => ?_)
  · have c1 := c
    have r2 := Jr_6_4 hJ_M
    have d3 : (M.1 6 4).toInt ≤ a1_'.toInt := lei.mp c1
    exact ⟨_, rfl, trivial⟩
  · have c4 := c
    have r5 := Jr_6_4 hJ_M
    have d6 : a1_'.toInt < (M.1 6 4).toInt := nlei.mp c4
    refine bind_i (sf_Crowd_woman a1_' M hJ_M) (fun x1 _ q => ?_)
    obtain ⟨h7, h8⟩ := q
    refine if_i (fun c => ?_) (fun c => ?_)
    · have c9 := c
      have d10 : x1.toInt = (0 : Int) := eqi.mp c9
      have q11 : (a1_' + (1 : Int32)).toInt = a1_'.toInt + (1 : Int) := add_ti rfl rfl (by omega) (by omega)
      exact ⟨_, rfl, ⟨(show (0 : Int) ≤ (a1_' + (1 : Int32)).toInt by omega), (show (a1_' + (1 : Int32)).toInt ≤ (8 : Int) by omega)⟩, show (8 - (a1_' + (1 : Int32)).toInt).toNat < (8 - a1_'.toInt).toNat by omega⟩
    · have c12 := c
      have d13 : ¬ x1.toInt = (0 : Int) := neqi.mp c12
      refine inb_i (by omega) (by omega) ?_
      refine if_i (fun c => ?_) (fun c => ?_)
      · have c14 := c
        have r15 := Jr_13 hJ_M a1_'.toNatClampNeg
        have d16 : (M.1 13 a1_'.toNatClampNeg).toInt = (0 : Int) := eqi.mp c14
        have q17 : (a1_' + (1 : Int32)).toInt = a1_'.toInt + (1 : Int) := add_ti rfl rfl (by omega) (by omega)
        exact ⟨_, rfl, ⟨(show (0 : Int) ≤ (a1_' + (1 : Int32)).toInt by omega), (show (a1_' + (1 : Int32)).toInt ≤ (8 : Int) by omega)⟩, show (8 - (a1_' + (1 : Int32)).toInt).toNat < (8 - a1_'.toInt).toNat by omega⟩
      · have c18 := c
        have r19 := Jr_13 hJ_M a1_'.toNatClampNeg
        have d20 : ¬ (M.1 13 a1_'.toNatClampNeg).toInt = (0 : Int) := neqi.mp c18
        have q21 : (a1_' + (1 : Int32)).toInt = a1_'.toInt + (1 : Int) := add_ti rfl rfl (by omega) (by omega)
        exact ⟨_, rfl, ⟨(show (0 : Int) ≤ (a1_' + (1 : Int32)).toInt by omega), (show (a1_' + (1 : Int32)).toInt ≤ (8 : Int) by omega)⟩, show (8 - (a1_' + (1 : Int32)).toInt).toNat < (8 - a1_'.toInt).toNat by omega⟩
theorem sf_Top_womenBelow (M : Mem) (hJ : J M) : ∃ r : Int32, f_Top_womenBelow M = some r ∧ (True) := by
  unfold f_Top_womenBelow
  refine bind_i (sl_Top_womenBelow_4 M (0 : Int32) (0 : Int32) hJ (show (0 : Int) ≤ (0 : Int32).toInt by decide) (show (0 : Int32).toInt ≤ (8 : Int) by decide)) (fun x5 _ q => ?_)
  exact ⟨x5, rfl, trivial⟩
theorem sf_Top_feast (v1 : Int32) (M : Mem) (hJ : J M) : ∃ r : Int32 × Mem, f_Top_feast v1 M = some r ∧ (J r.2 ∧ Gc 0 M r.2) := by
  unfold f_Top_feast
  refine bind_i (sf_Scene_copy 18 11 M kd_18 kd_11 hJ) (fun x1 _ q => ?_)
  obtain ⟨h1, h2, h3⟩ := q
  have hG4 : Gc 0 M x1 := Gc_t Gc_r h2
  refine if_i (fun c => ?_) (fun c => ?_)
  · have c5 := c
    have d6 : v1.toInt < (0 : Int) := lti.mp c5
    exact ⟨((-1 : Int32), x1), rfl, h1, hG4⟩
  · have c7 := c
    have d8 : (0 : Int) ≤ v1.toInt := nlti.mp c7
    refine if_i (fun c => ?_) (fun c => ?_)
    · have c9 := c
      have d10 : (1 : Int) < v1.toInt := lti.mp c9
      exact ⟨((-1 : Int32), x1), rfl, h1, hG4⟩
    · have c11 := c
      have d12 : v1.toInt ≤ (1 : Int) := nlti.mp c11
      refine bind_i (sf_Top_celebrate v1 x1 h1) (fun x2 _ q => ?_)
      obtain ⟨h13, h14, h15, h16⟩ := q
      have hG17 : Gc 0 M x2.2 := Gc_t hG4 h14
      refine if_i (fun c => ?_) (fun c => ?_)
      · have c18 := c
        have d19 : x2.1.toInt = (0 : Int) := eqi.mp c18
        exact ⟨((-1 : Int32), x2.2), rfl, h13, hG17⟩
      · have c20 := c
        have d21 : ¬ x2.1.toInt = (0 : Int) := neqi.mp c20
        refine bind_i (sf_History_add 18 x2.2 kd_18 h13) (fun x3 _ q => ?_)
        obtain ⟨h22, h23⟩ := q
        have hG24 : Gc 0 M x3 := Gc_t hG17 h23
        refine bind_i (sf_Top_womenBelow x3 h22) (fun x4 _ q => ?_)
        exact ⟨(x4, x3), rfl, h22, hG24⟩
theorem sf_Top_emptyRow (M : Mem) (hJ : J M) : ∃ r : Mem, f_Top_emptyRow M = some r ∧ (J r ∧ Gc 0 M r) := by
  unfold f_Top_emptyRow
  refine mem_i (fun M1 e2 => ?_)
  have hJ3 : J M1 := by rw [e2]; exact Jw_any ok_0 hJ 15 (0 : Int32)
  have hG4 : Gc 0 M M1 := Gc_i Gc_r e2 (by decide)
  have f5 : (M1.1 0 15).toInt = (0 : Int) := by rw [e2, si_eq]; rfl
  clear e2
  exact ⟨M1, rfl, hJ3, hG4⟩
theorem sf_Top_note (v1 : Int32) (M : Mem) (hJ : J M) : ∃ r : Mem, f_Top_note v1 M = some r ∧ (J r ∧ Gc 0 M r) := by
  unfold f_Top_note
  refine if_i (fun c => ?_) (fun c => ?_)
  · have c1 := c
    have d2 : (M.1 0 15).toInt < (0 : Int) := lti.mp c1
    exact ⟨M, rfl, hJ, Gc_r⟩
  · have c3 := c
    have d4 : (0 : Int) ≤ (M.1 0 15).toInt := nlti.mp c3
    refine if_i (fun c => ?_) (fun c => ?_)
    · have c5 := c
      have d6 : (10 : Int) ≤ (M.1 0 15).toInt := lei.mp c5
      exact ⟨M, rfl, hJ, Gc_r⟩
    · have c7 := c
      have d8 : (M.1 0 15).toInt < (10 : Int) := nlei.mp c7
      refine inb_i (by omega) (by omega) ?_
      refine mem_i (fun M1 e10 => ?_)
      have hJ11 : J M1 := by rw [e10]; exact Jw_any ok_161 hJ (M.1 0 15).toNatClampNeg v1
      have hG12 : Gc 0 M M1 := Gc_i Gc_r e10 (by decide)
      have f13 : (M1.1 0 15).toInt = (M.1 0 15).toInt := by rw [e10]; rw [si_ne (by exact fun e => absurd e.1 (by decide))]
      clear e10
      refine mem_i (fun M2 e15 => ?_)
      have hJ16 : J M2 := by rw [e15]; exact Jw_any ok_0 hJ11 15 ((M1.1 0 15) + (1 : Int32))
      have hG17 : Gc 0 M M2 := Gc_i hG12 e15 (by decide)
      have q18 : ((M1.1 0 15) + (1 : Int32)).toInt = (M1.1 0 15).toInt + (1 : Int) := add_ti rfl rfl (by omega) (by omega)
      have f19 : (M2.1 0 15).toInt = ((M1.1 0 15) + (1 : Int32)).toInt := by rw [e15, si_eq]
      clear e15
      exact ⟨M2, rfl, hJ16, hG17⟩
end
