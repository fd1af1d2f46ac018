/-! safety of the class, 11 -/
theorem sl_Clock_pass_54 (v1 : Nat) (a0_ : Int32) (N_ : Mem) (B_ : Mem) (hk_v1 : kd v1 = 10 + 7) (hN : J N_) (hG : Gc 0 B_ N_) (i2_ : (0 : Int) ≤ a0_.toInt) (i3_ : a0_.toInt ≤ (8 : Int)) : ∃ x, iter (lb_Clock_pass_54 v1) FU (a0_, N_) = some x ∧ (fun r : Mem => J r ∧ Gc 0 B_ r) x := by
  refine iter_r (fun s : Int32 × Mem => J s.2 ∧ Gc 0 B_ s.2 ∧ (0 : Int) ≤ s.1.toInt ∧ s.1.toInt ≤ (8 : Int)) (fun s : Int32 × Mem => (8 - s.1.toInt).toNat) (fun r : Mem => J r ∧ Gc 0 B_ r) ?_ FU (a0_, N_) ⟨hN, hG, i2_, i3_⟩ (by show (8 - a0_.toInt).toNat < FU; rw [FU_v]; omega)
  clear i3_ i2_ hG hN
  rintro ⟨a0_', N_'⟩ ⟨hN, hG, i2_, i3_⟩
  dsimp only at hN hG i2_ i3_
  unfold lb_Clock_pass_54
  dsimp only
  refine if_i (fun c => ?_) (fun c => ?_)
  · have c1 := c
    have r2 := Jr_6_4 hN
    have d3 : (N_'.1 6 4).toInt ≤ a0_'.toInt := lei.mp c1
    exact ⟨_, rfl, hN, hG⟩
  · have c4 := c
    have r5 := Jr_6_4 hN
    have d6 : a0_'.toInt < (N_'.1 6 4).toInt := nlei.mp c4
    refine bind_i (sf_Clock_greet a0_' v1 N_' (⟨show (0 : Int) ≤ a0_'.toInt by omega, show a0_'.toInt ≤ (7 : Int) by omega⟩) hk_v1 hN) (fun x8 _ q => ?_)
    obtain ⟨h7, h8⟩ := q
    have hG9 : Gc 0 B_ x8 := Gc_t hG h8
    have q10 : (a0_' + (1 : Int32)).toInt = a0_'.toInt + (1 : Int) := add_ti rfl rfl (by omega) (by omega)
    exact ⟨_, rfl, ⟨h7, hG9, (show (0 : Int) ≤ (a0_' + (1 : Int32)).toInt by omega), (show (a0_' + (1 : Int32)).toInt ≤ (8 : Int) by omega)⟩, show (8 - (a0_' + (1 : Int32)).toInt).toNat < (8 - a0_'.toInt).toNat by omega⟩
theorem sl_Clock_pass_87 (v1 : Nat) (v6 : Int32) (a0_ : Int32) (N_ : Mem) (B_ : Mem) (hk_v1 : kd v1 = 10 + 7) (hN : J N_) (hG : Gc 0 B_ N_) (i2_ : (0 : Int) ≤ a0_.toInt) (i3_ : a0_.toInt ≤ (8 : Int)) : ∃ x, iter (lb_Clock_pass_87 v1 v6) FU (a0_, N_) = some x ∧ (fun r : Mem => J r ∧ Gc 0 B_ r) x := by
  refine iter_r (fun s : Int32 × Mem => J s.2 ∧ Gc 0 B_ s.2 ∧ (0 : Int) ≤ s.1.toInt ∧ s.1.toInt ≤ (8 : Int)) (fun s : Int32 × Mem => (8 - s.1.toInt).toNat) (fun r : Mem => J r ∧ Gc 0 B_ r) ?_ FU (a0_, N_) ⟨hN, hG, i2_, i3_⟩ (by show (8 - a0_.toInt).toNat < FU; rw [FU_v]; omega)
  clear i3_ i2_ hG hN
  rintro ⟨a0_', N_'⟩ ⟨hN, hG, i2_, i3_⟩
  dsimp only at hN hG i2_ i3_
  unfold lb_Clock_pass_87
  dsimp only
  refine if_i (fun c => ?_) (fun c => ?_)
  · have c1 := c
    have r2 := Jr_6_4 hN
    have d3 : (N_'.1 6 4).toInt ≤ a0_'.toInt := lei.mp c1
    exact ⟨_, rfl, hN, hG⟩
  · have c4 := c
    have r5 := Jr_6_4 hN
    have d6 : a0_'.toInt < (N_'.1 6 4).toInt := nlei.mp c4
    refine if_i (fun c => ?_) (fun c => ?_)
    · have c7 := c
      have q8 : (0 : Int) ≤ ((v6 >>> (a0_' &&& 31)) &&& (1 : Int32)).toInt ∧ ((v6 >>> (a0_' &&& 31)) &&& (1 : Int32)).toInt ≤ 1 := and_rng (by decide)
      have d9 : ((v6 >>> (a0_' &&& 31)) &&& (1 : Int32)).toInt = (0 : Int) := eqi.mp c7
      have q10 : (a0_' + (1 : Int32)).toInt = a0_'.toInt + (1 : Int) := add_ti rfl rfl (by omega) (by omega)
      exact ⟨_, rfl, ⟨hN, hG, (show (0 : Int) ≤ (a0_' + (1 : Int32)).toInt by omega), (show (a0_' + (1 : Int32)).toInt ≤ (8 : Int) by omega)⟩, show (8 - (a0_' + (1 : Int32)).toInt).toNat < (8 - a0_'.toInt).toNat by omega⟩
    · have c11 := c
      have q12 : (0 : Int) ≤ ((v6 >>> (a0_' &&& 31)) &&& (1 : Int32)).toInt ∧ ((v6 >>> (a0_' &&& 31)) &&& (1 : Int32)).toInt ≤ 1 := and_rng (by decide)
      have d13 : ¬ ((v6 >>> (a0_' &&& 31)) &&& (1 : Int32)).toInt = (0 : Int) := neqi.mp c11
      refine bind_i (sf_Clock_hearers a0_' v1 N_' (⟨show (0 : Int) ≤ a0_'.toInt by omega, show a0_'.toInt ≤ (7 : Int) by omega⟩) hk_v1 hN) (fun x11 _ q => ?_)
      refine mem_i (fun M12 e15 => ?_)
      have hJ16 : J M12 := by rw [e15]; exact Jw_scene hN hk_v1 8 ((N_'.1 v1 8) ||| x11)
      have hG17 : Gc 0 B_ M12 := Gc_i hG e15 (cl_scene hk_v1)
      clear e15
      have q18 : (a0_' + (1 : Int32)).toInt = a0_'.toInt + (1 : Int) := add_ti rfl rfl (by omega) (by omega)
      exact ⟨_, rfl, ⟨hJ16, hG17, (show (0 : Int) ≤ (a0_' + (1 : Int32)).toInt by omega), (show (a0_' + (1 : Int32)).toInt ≤ (8 : Int) by omega)⟩, show (8 - (a0_' + (1 : Int32)).toInt).toNat < (8 - a0_'.toInt).toNat by omega⟩
theorem sf_Clock_pass (v1 : Nat) (v5 : Nat) (M : Mem) (hk_v1 : kd v1 = 10 + 7) (hk_v5 : kd v5 = 10 + 6) (hJ : J M) : ∃ r : Mem, f_Clock_pass v1 v5 M = some r ∧ (J r ∧ Gc 0 M r) := by
  unfold f_Clock_pass
  refine c_i hk_v1 ?_
  refine c_i hk_v5 ?_
  refine mem_i (fun M1 e2 => ?_)
  have hJ3 : J M1 := by rw [e2]; exact Jw_any ok_45 hJ 0 (0 : Int32)
  have hG4 : Gc 0 M M1 := Gc_i Gc_r e2 (by decide)
  have f5 : (M1.1 45 0).toInt = (0 : Int) := by rw [e2, si_eq]; rfl
  clear e2
  refine bind_i (sl_Clock_pass_8 v1 v5 (0 : Int32) M1 M hk_v1 hk_v5 hJ3 hG4 (show (0 : Int) ≤ (0 : Int32).toInt by decide) (show (0 : Int32).toInt ≤ (8 : Int) by decide)) (fun x6 _ q => ?_)
  obtain ⟨h6, h7⟩ := q
  refine mem_i (fun M7 e9 => ?_)
  have hJ10 : J M7 := by rw [e9]; exact Jw_any ok_45 h6 2 (0 : Int32)
  have hG11 : Gc 0 M M7 := Gc_i h7 e9 (by decide)
  have f12 : (M7.1 45 2).toInt = (0 : Int) := by rw [e9, si_eq]; rfl
  clear e9
  refine bind_i (sl_Clock_pass_54 v1 (0 : Int32) M7 M hk_v1 hJ10 hG11 (show (0 : Int) ≤ (0 : Int32).toInt by decide) (show (0 : Int32).toInt ≤ (8 : Int) by decide)) (fun x10 _ q => ?_)
  obtain ⟨h13, h14⟩ := q
  refine bind_i (sl_Clock_pass_87 v1 (x10.1 v1 8) (0 : Int32) x10 M hk_v1 h13 h14 (show (0 : Int) ≤ (0 : Int32).toInt by decide) (show (0 : Int32).toInt ≤ (8 : Int) by decide)) (fun x15 _ q => ?_)
  obtain ⟨h15, h16⟩ := q
  refine mem_i (fun M16 e18 => ?_)
  have hJ19 : J M16 := by rw [e18]; exact Jw_any ok_45 h15 1 ((x15.1 v1 8) &&& ((x10.1 v1 8) ^^^ (-1 : Int32)))
  have hG20 : Gc 0 M M16 := Gc_i h16 e18 (by decide)
  clear e18
  refine mem_i (fun M17 e22 => ?_)
  have hJ23 : J M17 := by rw [e22]; exact Jw_scene hJ19 hk_v1 7 ((M16.1 v1 7) + (1 : Int32))
  have hG24 : Gc 0 M M17 := Gc_i hG20 e22 (cl_scene hk_v1)
  clear e22
  refine bind_i (sf_JInteger_bitCount (M17.1 45 0)) (fun x18 _ q => ?_)
  obtain ⟨h25, h26⟩ := q
  refine mem_i (fun M19 e28 => ?_)
  have hJ29 : J M19 := by rw [e28]; exact Jw_any ok_45 hJ23 3 ((M17.1 45 3) + x18)
  have hG30 : Gc 0 M M19 := Gc_i hG24 e28 (by decide)
  clear e28
  refine mem_i (fun M20 e32 => ?_)
  have hJ33 : J M20 := by rw [e32]; exact Jw_any ok_45 hJ29 4 ((M19.1 45 4) + (M19.1 45 2))
  have hG34 : Gc 0 M M20 := Gc_i hG30 e32 (by decide)
  clear e32
  exact ⟨M20, rfl, hJ33, hG34⟩
theorem sf_Clock_reset (M : Mem) (hJ : J M) : ∃ r : Mem, f_Clock_reset M = some r ∧ (J r ∧ Gc 0 M r) := by
  unfold f_Clock_reset
  refine mem_i (fun M1 e2 => ?_)
  have hJ3 : J M1 := by rw [e2]; exact Jw_any ok_45 hJ 3 (0 : Int32)
  have hG4 : Gc 0 M M1 := Gc_i Gc_r e2 (by decide)
  have f5 : (M1.1 45 3).toInt = (0 : Int) := by rw [e2, si_eq]; rfl
  clear e2
  refine mem_i (fun M2 e7 => ?_)
  have hJ8 : J M2 := by rw [e7]; exact Jw_any ok_45 hJ3 4 (0 : Int32)
  have hG9 : Gc 0 M M2 := Gc_i hG4 e7 (by decide)
  have f10 : (M2.1 45 3).toInt = (M1.1 45 3).toInt := by rw [e7]; rw [si_ne (by exact fun e => absurd e.2 (by decide))]
  have f11 : (M2.1 45 4).toInt = (0 : Int) := by rw [e7, si_eq]; rfl
  clear e7
  exact ⟨M2, rfl, hJ8, hG9⟩
theorem sf_Acts_add (v1 : Int32) (v2 : Int32) (v3 : Int32) (M : Mem) (hJ : J M) : ∃ r : Mem, f_Acts_add v1 v2 v3 M = some r ∧ (J r ∧ Gc 0 M r) := by
  unfold f_Acts_add
  refine if_i (fun c => ?_) (fun c => ?_)
  · have c1 := c
    have r2 := Jr_147_3 hJ
    have d3 : (M.1 147 3).toInt < (0 : Int) := lti.mp c1
    exfalso; omega
  · have c4 := c
    have r5 := Jr_147_3 hJ
    have d6 : (0 : Int) ≤ (M.1 147 3).toInt := nlti.mp c4
    refine if_i (fun c => ?_) (fun c => ?_)
    · have c7 := c
      have d8 : (32 : Int) ≤ (M.1 147 3).toInt := lei.mp c7
      exact ⟨M, rfl, hJ, Gc_r⟩
    · have c9 := c
      have d10 : (M.1 147 3).toInt < (32 : Int) := nlei.mp c9
      refine inb_i (by omega) (by omega) ?_
      refine mem_i (fun M1 e12 => ?_)
      have hJ13 : J M1 := by rw [e12]; exact Jw_any ok_148 hJ (M.1 147 3).toNatClampNeg v1
      have hG14 : Gc 0 M M1 := Gc_i Gc_r e12 (by decide)
      have f15 : (M1.1 147 3).toInt = (M.1 147 3).toInt := by rw [e12]; rw [si_ne (by exact fun e => absurd e.1 (by decide))]
      clear e12
      refine inb_i (by omega) (by omega) ?_
      refine mem_i (fun M2 e17 => ?_)
      have hJ18 : J M2 := by rw [e17]; exact Jw_any ok_149 hJ13 (M1.1 147 3).toNatClampNeg v2
      have hG19 : Gc 0 M M2 := Gc_i hG14 e17 (by decide)
      have f20 : (M2.1 147 3).toInt = (M1.1 147 3).toInt := by rw [e17]; rw [si_ne (by exact fun e => absurd e.1 (by decide))]
      clear e17
      refine inb_i (by omega) (by omega) ?_
      refine mem_i (fun M3 e22 => ?_)
      have hJ23 : J M3 := by rw [e22]; exact Jw_any ok_150 hJ18 (M2.1 147 3).toNatClampNeg v3
      have hG24 : Gc 0 M M3 := Gc_i hG19 e22 (by decide)
      have f25 : (M3.1 147 3).toInt = (M2.1 147 3).toInt := by rw [e22]; rw [si_ne (by exact fun e => absurd e.1 (by decide))]
      clear e22
      have q27 : ((M3.1 147 3) + (1 : Int32)).toInt = (M3.1 147 3).toInt + (1 : Int) := add_ti rfl rfl (by omega) (by omega)
      refine mem_i (fun M4 e28 => ?_)
      have hJ29 : J M4 := by rw [e28]; exact Jw_147_3 hJ23 ((M3.1 147 3) + (1 : Int32)) (show (0 : Int) ≤ ((M3.1 147 3) + (1 : Int32)).toInt by omega) (show ((M3.1 147 3) + (1 : Int32)).toInt ≤ (32 : Int) by omega)
      have hG30 : Gc 0 M M4 := Gc_i hG24 e28 (by decide)
      have f31 : (M4.1 147 3).toInt = ((M3.1 147 3) + (1 : Int32)).toInt := by rw [e28, si_eq]
      clear e28
      exact ⟨M4, rfl, hJ29, hG30⟩
theorem sf_Acts_readLetter (v2 : Int32) (M : Mem) (hJ : J M) : ∃ r : Int32 × Mem, f_Acts_readLetter v2 M = some r ∧ (J r.2 ∧ Gc 0 M r.2) := by
  unfold f_Acts_readLetter
  refine bind_i (sf_Signs_at v2 (60 : Int32) M hJ) (fun x1 _ q => ?_)
  obtain ⟨h1, h2, h3⟩ := q
  refine if_i (fun c => ?_) (fun c => ?_)
  · have c4 := c
    have d5 : x1.toInt < (97 : Int) := lti.mp c4
    exact ⟨(((-1 : Int32) - v2), M), rfl, hJ, Gc_r⟩
  · have c6 := c
    have d7 : (97 : Int) ≤ x1.toInt := nlti.mp c6
    refine if_i (fun c => ?_) (fun c => ?_)
    · have c8 := c
      have d9 : x1.toInt ≤ (104 : Int) := lei.mp c8
      refine bind_i (sf_Acts_add (110 : Int32) (x1 - (97 : Int32)) (0 : Int32) M hJ) (fun x2 _ q => ?_)
      obtain ⟨h10, h11⟩ := q
      have hG12 : Gc 0 M x2 := Gc_t Gc_r h11
      exact ⟨((v2 + (1 : Int32)), x2), rfl, h10, hG12⟩
    · have c13 := c
      have d14 : (104 : Int) < x1.toInt := nlei.mp c13
      exact ⟨(((-1 : Int32) - v2), M), rfl, hJ, Gc_r⟩
theorem sf_Acts_readNumber (v2 : Int32) (M : Mem) (hJ : J M) : ∃ r : Int32 × Mem, f_Acts_readNumber v2 M = some r ∧ (J r.2 ∧ Gc 0 M r.2) := by
  unfold f_Acts_readNumber
  refine bind_i (sf_Signs_digits v2 (60 : Int32) (2 : Int32) M (⟨by decide, by decide⟩) hJ) (fun x1 _ q => ?_)
  obtain ⟨h1, h2, h3, h4, h5⟩ := q
  have hG6 : Gc 0 M x1.2 := Gc_t Gc_r h2
  refine if_i (fun c => ?_) (fun c => ?_)
  · have c7 := c
    have d8 : x1.1.toInt = (0 : Int) := eqi.mp c7
    exact ⟨(((-1 : Int32) - v2), x1.2), rfl, h1, hG6⟩
  · have c9 := c
    have d10 : ¬ x1.1.toInt = (0 : Int) := neqi.mp c9
    refine bind_i (sf_Acts_add (109 : Int32) (x1.2.1 1 2) (0 : Int32) x1.2 h1) (fun x2 _ q => ?_)
    obtain ⟨h11, h12⟩ := q
    have hG13 : Gc 0 M x2 := Gc_t hG6 h12
    exact ⟨((v2 + x1.1), x2), rfl, h11, hG13⟩
theorem sf_Acts_readPlank (v2 : Int32) (M : Mem) (hJ : J M) : ∃ r : Int32 × Mem, f_Acts_readPlank v2 M = some r ∧ (J r.2 ∧ Gc 0 M r.2) := by
  unfold f_Acts_readPlank
  refine bind_i (sf_Signs_digits v2 (60 : Int32) (2 : Int32) M (⟨by decide, by decide⟩) hJ) (fun x1 _ q => ?_)
  obtain ⟨h1, h2, h3, h4, h5⟩ := q
  have hG6 : Gc 0 M x1.2 := Gc_t Gc_r h2
  refine if_i (fun c => ?_) (fun c => ?_)
  · have c7 := c
    have d8 : x1.1.toInt = (0 : Int) := eqi.mp c7
    exact ⟨(((-1 : Int32) - (v2 + x1.1)), x1.2), rfl, h1, hG6⟩
  · have c9 := c
    have d10 : ¬ x1.1.toInt = (0 : Int) := neqi.mp c9
    refine bind_i (sf_Signs_at (v2 + x1.1) (60 : Int32) x1.2 h1) (fun x2 _ q => ?_)
    obtain ⟨h11, h12, h13⟩ := q
    refine if_i (fun c => ?_) (fun c => ?_)
    · have c14 := c
      have d15 : x2.toInt = (45 : Int) := eqi.mp c14
      refine bind_i (sf_Signs_digits ((v2 + x1.1) + (1 : Int32)) (60 : Int32) (2 : Int32) x1.2 (⟨by decide, by decide⟩) h1) (fun x3 _ q => ?_)
      obtain ⟨h16, h17, h18, h19, h20⟩ := q
      have hG21 : Gc 0 M x3.2 := Gc_t hG6 h17
      refine if_i (fun c => ?_) (fun c => ?_)
      · have c22 := c
        have d23 : x3.1.toInt = (0 : Int) := eqi.mp c22
        exact ⟨(((-2 : Int32) - (v2 + x1.1)), x3.2), rfl, h16, hG21⟩
      · have c24 := c
        have d25 : ¬ x3.1.toInt = (0 : Int) := neqi.mp c24
        refine bind_i (sf_Acts_add (112 : Int32) (x1.2.1 1 2) (x3.2.1 1 2) x3.2 h16) (fun x4 _ q => ?_)
        obtain ⟨h26, h27⟩ := q
        have hG28 : Gc 0 M x4 := Gc_t hG21 h27
        exact ⟨((((v2 + x1.1) + (1 : Int32)) + x3.1), x4), rfl, h26, hG28⟩
    · have c29 := c
      have d30 : ¬ x2.toInt = (45 : Int) := neqi.mp c29
      exact ⟨(((-1 : Int32) - (v2 + x1.1)), x1.2), rfl, h1, hG6⟩
theorem sf_Acts_readAct (v2 : Int32) (M : Mem) (hJ : J M) : ∃ r : Int32 × Mem, f_Acts_readAct v2 M = some r ∧ (J r.2 ∧ Gc 0 M r.2) := by
  unfold f_Acts_readAct
  refine bind_i (sf_Signs_at v2 (60 : Int32) M hJ) (fun x1 _ q => ?_)
  obtain ⟨h1, h2, h3⟩ := q
  refine if_i (fun c => ?_) (fun c => ?_)
  · have c4 := c
    have d5 : x1.toInt = (102 : Int) := eqi.mp c4
    refine bind_i (sf_Acts_add x1 (0 : Int32) (0 : Int32) M hJ) (fun x2 _ q => ?_)
    obtain ⟨h6, h7⟩ := q
    have hG8 : Gc 0 M x2 := Gc_t Gc_r h7
    exact ⟨((v2 + (1 : Int32)), x2), rfl, h6, hG8⟩
  · have c9 := c
    have d10 : ¬ x1.toInt = (102 : Int) := neqi.mp c9
    refine if_i (fun c => ?_) (fun c => ?_)
    · have c11 := c
      have d12 : x1.toInt = (120 : Int) := eqi.mp c11
      refine bind_i (sf_Acts_add x1 (0 : Int32) (0 : Int32) M hJ) (fun x2 _ q => ?_)
      obtain ⟨h13, h14⟩ := q
      have hG15 : Gc 0 M x2 := Gc_t Gc_r h14
      exact ⟨((v2 + (1 : Int32)), x2), rfl, h13, hG15⟩
    · have c16 := c
      have d17 : ¬ x1.toInt = (120 : Int) := neqi.mp c16
      refine if_i (fun c => ?_) (fun c => ?_)
      · have c18 := c
        have d19 : x1.toInt = (109 : Int) := eqi.mp c18
        refine bind_i (sf_Acts_readNumber (v2 + (1 : Int32)) M hJ) (fun x5 _ q => ?_)
        obtain ⟨h20, h21⟩ := q
        have hG22 : Gc 0 M x5.2 := Gc_t Gc_r h21
        exact ⟨(x5.1, x5.2), rfl, h20, hG22⟩
      · have c23 := c
        have d24 : ¬ x1.toInt = (109 : Int) := neqi.mp c23
        refine if_i (fun c => ?_) (fun c => ?_)
        · have c25 := c
          have d26 : x1.toInt = (110 : Int) := eqi.mp c25
          refine bind_i (sf_Acts_readLetter (v2 + (1 : Int32)) M hJ) (fun x7 _ q => ?_)
          obtain ⟨h27, h28⟩ := q
          have hG29 : Gc 0 M x7.2 := Gc_t Gc_r h28
          exact ⟨(x7.1, x7.2), rfl, h27, hG29⟩
        · have c30 := c
          have d31 : ¬ x1.toInt = (110 : Int) := neqi.mp c30
          refine if_i (fun c => ?_) (fun c => ?_)
          · have c32 := c
            have d33 : x1.toInt = (112 : Int) := eqi.mp c32
            refine bind_i (sf_Acts_readPlank (v2 + (1 : Int32)) M hJ) (fun x9 _ q => ?_)
            obtain ⟨h34, h35⟩ := q
            have hG36 : Gc 0 M x9.2 := Gc_t Gc_r h35
            exact ⟨(x9.1, x9.2), rfl, h34, hG36⟩
          · have c37 := c
            have d38 : ¬ x1.toInt = (112 : Int) := neqi.mp c37
            exact ⟨(((-1 : Int32) - v2), M), rfl, hJ, Gc_r⟩
theorem sl_Acts_read_18  (a0_ : Int32) (a1_ : Int32) (N_ : Mem) (B_ : Mem) (hN : J N_) (hG : Gc 0 B_ N_) (i2_ : (0 : Int) ≤ a0_.toInt) (i3_ : a0_.toInt ≤ (80 : Int)) (i4_ : (0 : Int) ≤ a1_.toInt) (i5_ : a1_.toInt ≤ (32 : Int)) : ∃ x, iter (lb_Acts_read_18) FU (a0_, a1_, N_) = some x ∧ (SQ (fun r : Int32 × Mem => J r.2 ∧ Gc 0 B_ r.2 ∧ (0 : Int) ≤ r.1.toInt ∧ r.1.toInt ≤ (80 : Int)) (SQ (fun r : Int32 × Mem => J r.2 ∧ Gc 0 B_ r.2 ∧ r.1.toInt ≤ (-1 : Int)) (SQ (fun r : Mem => J r ∧ Gc 0 B_ r) (fun r : Int32 × Mem => J r.2 ∧ Gc 0 B_ r.2 ∧ (0 : Int) ≤ r.1.toInt ∧ r.1.toInt ≤ (79 : Int))))) x := by
  refine iter_r (fun s : Int32 × Int32 × Mem => J s.2.2 ∧ Gc 0 B_ s.2.2 ∧ (0 : Int) ≤ s.1.toInt ∧ s.1.toInt ≤ (80 : Int) ∧ (0 : Int) ≤ s.2.1.toInt ∧ s.2.1.toInt ≤ (32 : Int)) (fun s : Int32 × Int32 × Mem => (32 - s.2.1.toInt).toNat) (SQ (fun r : Int32 × Mem => J r.2 ∧ Gc 0 B_ r.2 ∧ (0 : Int) ≤ r.1.toInt ∧ r.1.toInt ≤ (80 : Int)) (SQ (fun r : Int32 × Mem => J r.2 ∧ Gc 0 B_ r.2 ∧ r.1.toInt ≤ (-1 : Int)) (SQ (fun r : Mem => J r ∧ Gc 0 B_ r) (fun r : Int32 × Mem => J r.2 ∧ Gc 0 B_ r.2 ∧ (0 : Int) ≤ r.1.toInt ∧ r.1.toInt ≤ (79 : Int))))) ?_ FU (a0_, a1_, N_) ⟨hN, hG, i2_, i3_, i4_, i5_⟩ (by show (32 - a1_.toInt).toNat < FU; rw [FU_v]; omega)
  clear i5_ i4_ i3_ i2_ hG hN
  rintro ⟨a0_', a1_', N_'⟩ ⟨hN, hG, i2_, i3_, i4_, i5_⟩
  dsimp only at hN hG i2_ i3_ i4_ i5_
  unfold lb_Acts_read_18
  dsimp only
  refine if_i (fun c => ?_) (fun c => ?_)
  · have c1 := c
    have d2 : (32 : Int) ≤ a1_'.toInt := lei.mp c1
    exact ⟨_, rfl, hN, hG, (show (0 : Int) ≤ a0_'.toInt by omega), (show a0_'.toInt ≤ (80 : Int) by omega)⟩
  · have c3 := c
    have d4 : a1_'.toInt < (32 : Int) := nlei.mp c3
    refine bind_i (sf_Acts_readAct a0_' N_' hN) (fun x2 _ q => ?_)
    obtain ⟨h5, h6⟩ := q
    have hG7 : Gc 0 B_ x2.2 := Gc_t hG h6
    refine if_i (fun c => ?_) (fun c => ?_)
    · have c8 := c
      have d9 : (0 : Int) ≤ x2.1.toInt := lei.mp c8
      refine bind_i (sf_Signs_at x2.1 (60 : Int32) x2.2 h5) (fun x3 _ q => ?_)
      obtain ⟨h10, h11, h12⟩ := q
      refine if_i (fun c => ?_) (fun c => ?_)
      · have c13 := c
        have d14 : x3.toInt = (-1 : Int) := eqi.mp c13
        exact ⟨_, rfl, h5, hG7⟩
      · have c15 := c
        have d16 : ¬ x3.toInt = (-1 : Int) := neqi.mp c15
        refine if_i (fun c => ?_) (fun c => ?_)
        · have c17 := c
          have d18 : x3.toInt = (59 : Int) := eqi.mp c17
          have q19 : (x2.1 + (1 : Int32)).toInt = x2.1.toInt + (1 : Int) := add_ti rfl rfl (by omega) (by omega)
          have q20 : (a1_' + (1 : Int32)).toInt = a1_'.toInt + (1 : Int) := add_ti rfl rfl (by omega) (by omega)
          exact ⟨_, rfl, ⟨h5, hG7, (show (0 : Int) ≤ (x2.1 + (1 : Int32)).toInt by omega), (show (x2.1 + (1 : Int32)).toInt ≤ (80 : Int) by omega), (show (0 : Int) ≤ (a1_' + (1 : Int32)).toInt by omega), (show (a1_' + (1 : Int32)).toInt ≤ (32 : Int) by omega)⟩, show (32 - (a1_' + (1 : Int32)).toInt).toNat < (32 - a1_'.toInt).toNat by omega⟩
        · have c21 := c
          have d22 : ¬ x3.toInt = (59 : Int) := neqi.mp c21
          exact ⟨_, rfl, h5, hG7, (show (0 : Int) ≤ x2.1.toInt by omega), (show x2.1.toInt ≤ (79 : Int) by omega)⟩
    · have c23 := c
      have d24 : x2.1.toInt < (0 : Int) := nlei.mp c23
      exact ⟨_, rfl, h5, hG7, (show x2.1.toInt ≤ (-1 : Int) by omega)⟩
theorem sf_Acts_read (M : Mem) (hJ : J M) : ∃ r : Int32 × Mem, f_Acts_read M = some r ∧ (J r.2 ∧ Gc 0 M r.2 ∧ r.1.toInt ≤ (32 : Int)) := by
  unfold f_Acts_read
  refine mem_i (fun M1 e2 => ?_)
  have hJ3 : J M1 := by rw [e2]; exact Jw_147_3 hJ (0 : Int32) (show (0 : Int) ≤ (0 : Int32).toInt by decide) (show (0 : Int32).toInt ≤ (32 : Int) by decide)
  have hG4 : Gc 0 M M1 := Gc_i Gc_r e2 (by decide)
  have f5 : (M1.1 147 3).toInt = (0 : Int) := by rw [e2, si_eq]; rfl
  clear e2
  refine if_i (fun c => ?_) (fun c => ?_)
  · have c6 := c
    have r7 := Jr_1_1 hJ3
    have d8 : (M1.1 1 1).toInt = (0 : Int) := eqi.mp c6
    exact ⟨((0 : Int32), M1), rfl, hJ3, hG4, (show (0 : Int32).toInt ≤ (32 : Int) by decide)⟩
  · have c9 := c
    have r10 := Jr_1_1 hJ3
    have d11 : ¬ (M1.1 1 1).toInt = (0 : Int) := neqi.mp c9
    refine bind_i (sl_Acts_read_18  (0 : Int32) (0 : Int32) M1 M hJ3 hG4 (show (0 : Int) ≤ (0 : Int32).toInt by decide) (show (0 : Int32).toInt ≤ (80 : Int) by decide) (show (0 : Int) ≤ (0 : Int32).toInt by decide) (show (0 : Int32).toInt ≤ (32 : Int) by decide)) (fun x12 _ q => ?_)
    rcases x12 with y | y | y | y
    · have q9 : J y.2 ∧ Gc 0 M y.2 ∧ (0 : Int) ≤ y.1.toInt ∧ y.1.toInt ≤ (80 : Int) := q
      dsimp only [Sum.elim_inl, Sum.elim_inr]
      obtain ⟨h14, h15, h16, h17⟩ := q9
      have q18 : ((-1 : Int32) - y.1).toInt = (-1 : Int) - y.1.toInt := sub_ti rfl rfl (by omega) (by omega)
      exact ⟨(((-1 : Int32) - y.1), y.2), rfl, h14, h15, (show ((-1 : Int32) - y.1).toInt ≤ (32 : Int) by rw [q18]; clear q18; omega)⟩
    · have q9 : J y.2 ∧ Gc 0 M y.2 ∧ y.1.toInt ≤ (-1 : Int) := q
      dsimp only [Sum.elim_inl, Sum.elim_inr]
      obtain ⟨h20, h21, h22⟩ := q9
      exact ⟨(y.1, y.2), rfl, h20, h21, (show y.1.toInt ≤ (32 : Int) by omega)⟩
    · have q9 : J y ∧ Gc 0 M y := q
      dsimp only [Sum.elim_inl, Sum.elim_inr]
      obtain ⟨h24, h25⟩ := q9
      refine if_i (fun c => ?_) (fun c => ?_)
      · have c26 := c
        have r27 := Jr_1_1 h24
        have d28 : (y.1 1 1).toInt ≤ (60 : Int) := lei.mp c26
        have r29 := Jr_147_3 h24
        exact ⟨((y.1 147 3), y), rfl, h24, h25, (show (y.1 147 3).toInt ≤ (32 : Int) by omega)⟩
      · have c30 := c
        have r31 := Jr_1_1 h24
        have d32 : (60 : Int) < (y.1 1 1).toInt := nlei.mp c30
        exact ⟨((-61 : Int32), y), rfl, h24, h25, (show (-61 : Int32).toInt ≤ (32 : Int) by decide)⟩
    · have q9 : J y.2 ∧ Gc 0 M y.2 ∧ (0 : Int) ≤ y.1.toInt ∧ y.1.toInt ≤ (79 : Int) := q
      dsimp only [Sum.elim_inl, Sum.elim_inr]
      obtain ⟨h34, h35, h36, h37⟩ := q9
      have q38 : ((-1 : Int32) - y.1).toInt = (-1 : Int) - y.1.toInt := sub_ti rfl rfl (by omega) (by omega)
      exact ⟨(((-1 : Int32) - y.1), y.2), rfl, h34, h35, (show ((-1 : Int32) - y.1).toInt ≤ (32 : Int) by rw [q38]; clear q38; omega)⟩
theorem sl_Ways_begin_2 (v1 : Int32) (a0_ : Int32) (N_ : Mem) (B_ : Mem) (hp_v1 : (0 : Int) ≤ v1.toInt ∧ v1.toInt ≤ (71 : Int)) (hN : J N_) (hG : Gc 0 B_ N_) (i2_ : (0 : Int) ≤ a0_.toInt) (i3_ : a0_.toInt ≤ (72 : Int)) : ∃ x, iter (lb_Ways_begin_2 v1) FU (a0_, N_) = some x ∧ (fun r : Mem => J r ∧ Gc 0 B_ r) x := by
  refine iter_r (fun s : Int32 × Mem => J s.2 ∧ Gc 0 B_ s.2 ∧ (0 : Int) ≤ s.1.toInt ∧ s.1.toInt ≤ (72 : Int)) (fun s : Int32 × Mem => (72 - s.1.toInt).toNat) (fun r : Mem => J r ∧ Gc 0 B_ r) ?_ FU (a0_, N_) ⟨hN, hG, i2_, i3_⟩ (by show (72 - a0_.toInt).toNat < FU; rw [FU_v]; omega)
  clear i3_ i2_ hG hN
  rintro ⟨a0_', N_'⟩ ⟨hN, hG, i2_, i3_⟩
  dsimp only at hN hG i2_ i3_
  unfold lb_Ways_begin_2
  dsimp only
  refine if_i (fun c => ?_) (fun c => ?_)
  · have c1 := c
    have d2 : (72 : Int) ≤ a0_'.toInt := lei.mp c1
    exact ⟨_, rfl, hN, hG⟩
  · have c3 := c
    have d4 : a0_'.toInt < (72 : Int) := nlei.mp c3
    refine inb_i (by omega) (by omega) ?_
    refine mem_i (fun M1 e6 => ?_)
    have hJ7 : J M1 := by rw [e6]; exact Jw_any ok_158 hN a0_'.toNatClampNeg (1000000 : Int32)
    have hG8 : Gc 0 B_ M1 := Gc_i hG e6 (by decide)
    clear e6
    have q9 : (a0_' + (1 : Int32)).toInt = a0_'.toInt + (1 : Int) := add_ti rfl rfl (by omega) (by omega)
    exact ⟨_, rfl, ⟨hJ7, hG8, (show (0 : Int) ≤ (a0_' + (1 : Int32)).toInt by omega), (show (a0_' + (1 : Int32)).toInt ≤ (72 : Int) by omega)⟩, show (72 - (a0_' + (1 : Int32)).toInt).toNat < (72 - a0_'.toInt).toNat by omega⟩
theorem sf_Ways_begin (v1 : Int32) (M : Mem) (hp_v1 : (0 : Int) ≤ v1.toInt ∧ v1.toInt ≤ (71 : Int)) (hJ : J M) : ∃ r : Mem, f_Ways_begin v1 M = some r ∧ (J r ∧ Gc 0 M r) := by
  unfold f_Ways_begin
  refine bind_i (sl_Ways_begin_2 v1 (0 : Int32) M M (⟨show (0 : Int) ≤ v1.toInt by omega, show v1.toInt ≤ (71 : Int) by omega⟩) hJ Gc_r (show (0 : Int) ≤ (0 : Int32).toInt by decide) (show (0 : Int32).toInt ≤ (72 : Int) by decide)) (fun x3 _ q => ?_)
  obtain ⟨h1, h2⟩ := q
  refine inb_i (by omega) (by omega) ?_
  refine mem_i (fun M4 e4 => ?_)
  have hJ5 : J M4 := by rw [e4]; exact Jw_any ok_158 h1 v1.toNatClampNeg (0 : Int32)
  have hG6 : Gc 0 M M4 := Gc_i h2 e4 (by decide)
  clear e4
  exact ⟨M4, rfl, hJ5, hG6⟩
theorem sf_Ways_lower (v1 : Int32) (v2 : Int32) (M : Mem) (hp_v1 : (0 : Int) ≤ v1.toInt ∧ v1.toInt ≤ (71 : Int)) (hJ : J M) : ∃ r : Int32 × Mem, f_Ways_lower v1 v2 M = some r ∧ (J r.2 ∧ Gc 0 M r.2 ∧ (0 : Int) ≤ r.1.toInt ∧ r.1.toInt ≤ (1 : Int)) := by
  unfold f_Ways_lower
  refine inb_i (by omega) (by omega) ?_
  refine if_i (fun c => ?_) (fun c => ?_)
  · have c1 := c
    have d2 : v2.toInt < (M.1 158 v1.toNatClampNeg).toInt := lti.mp c1
    refine inb_i (by omega) (by omega) ?_
    refine mem_i (fun M1 e4 => ?_)
    have hJ5 : J M1 := by rw [e4]; exact Jw_any ok_158 hJ v1.toNatClampNeg v2
    have hG6 : Gc 0 M M1 := Gc_i Gc_r e4 (by decide)
    clear e4
    exact ⟨((1 : Int32), M1), rfl, hJ5, hG6, (show (0 : Int) ≤ (1 : Int32).toInt by decide), (show (1 : Int32).toInt ≤ (1 : Int) by decide)⟩
  · have c7 := c
    have d8 : (M.1 158 v1.toNatClampNeg).toInt ≤ v2.toInt := nlti.mp c7
    exact ⟨((0 : Int32), M), rfl, hJ, Gc_r, (show (0 : Int) ≤ (0 : Int32).toInt by decide), (show (0 : Int32).toInt ≤ (1 : Int) by decide)⟩
