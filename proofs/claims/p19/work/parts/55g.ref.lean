/-! safety of the reference, 7 -/
theorem sl_Mod_goThief_126  (a0_ : Int32) (a1_ : Int32) (N_ : Mem) (B_ : Mem) (hN : J N_) (hG : Gd 1000 B_ N_) (i2_ : (0 : Int) ≤ a0_.toInt) (i3_ : a0_.toInt ≤ (1 : Int)) (i4_ : (0 : Int) ≤ a1_.toInt) (i5_ : a1_.toInt ≤ (72 : Int)) : ∃ x, iter (lb_Mod_goThief_126) FU (a0_, a1_, N_) = some x ∧ (fun r : Int32 × Mem => J r.2 ∧ Gd 1000 B_ r.2 ∧ (0 : Int) ≤ r.1.toInt ∧ r.1.toInt ≤ (1 : Int)) x := by
  refine iter_r (fun s : Int32 × Int32 × Mem => J s.2.2 ∧ Gd 1000 B_ s.2.2 ∧ (0 : Int) ≤ s.1.toInt ∧ s.1.toInt ≤ (1 : Int) ∧ (0 : Int) ≤ s.2.1.toInt ∧ s.2.1.toInt ≤ (72 : Int)) (fun s : Int32 × Int32 × Mem => (72 - s.2.1.toInt).toNat) (fun r : Int32 × Mem => J r.2 ∧ Gd 1000 B_ r.2 ∧ (0 : Int) ≤ r.1.toInt ∧ r.1.toInt ≤ (1 : Int)) ?_ FU (a0_, a1_, N_) ⟨hN, hG, i2_, i3_, i4_, i5_⟩ (by show (72 - a1_.toInt).toNat < FU; rw [FU_v]; omega)
  clear i5_ i4_ i3_ i2_ hG hN
  rintro ⟨a0_', a1_', N_'⟩ ⟨hN, hG, i2_, i3_, i4_, i5_⟩
  dsimp only at hN hG i2_ i3_ i4_ i5_
  unfold lb_Mod_goThief_126
  dsimp only
  refine if_i (fun c => ?_) (fun c => ?_)
  · have c1 := c
    have d2 : (72 : Int) ≤ a1_'.toInt := lei.mp c1
    exact ⟨_, rfl, hN, hG, (show (0 : Int) ≤ a0_'.toInt by omega), (show a0_'.toInt ≤ (1 : Int) by omega)⟩
  · have c3 := c
    have d4 : a1_'.toInt < (72 : Int) := nlei.mp c3
    refine inb_i (by omega) (by omega) ?_
    refine if_i (fun c => ?_) (fun c => ?_)
    · have c5 := c
      have r6 := Jr_187 hN a1_'.toNatClampNeg
      have d7 : (N_'.1 187 a1_'.toNatClampNeg).toInt = (0 : Int) := eqi.mp c5
      unfold j_Mod_goThief_163_126
      refine inb_i (by omega) (by omega) ?_
      have q9 := nar01 (0 : Int32)
      refine mem_i (fun M19 e10 => ?_)
      have hJ11 : J M19 := by rw [e10]; exact Jw_186 hN a1_'.toNatClampNeg (vp_nar .boolean (0 : Int32)) (show (0 : Int) ≤ (vp_nar .boolean (0 : Int32)).toInt by omega) (show (vp_nar .boolean (0 : Int32)).toInt ≤ (1 : Int) by omega)
      have hG12 : Gd 1000 B_ M19 := Gd_any hG e10 (by decide)
      have f13 : (M19.1 187 a1_'.toNatClampNeg).toInt = (N_'.1 187 a1_'.toNatClampNeg).toInt := by rw [e10]; rw [si_ne (by exact fun e => absurd e.1 (by decide))]
      clear e10
      refine inb_i (by omega) (by omega) ?_
      have r14 := Jr_186 hJ11 a1_'.toNatClampNeg
      have q15 := or01 (a := a0_') (b := (M19.1 186 a1_'.toNatClampNeg)) (by omega) (by omega) (by omega) (by omega)
      have q16 : (a1_' + (1 : Int32)).toInt = a1_'.toInt + (1 : Int) := add_ti rfl rfl (by omega) (by omega)
      exact ⟨_, rfl, ⟨hJ11, hG12, (show (0 : Int) ≤ (a0_' ||| (M19.1 186 a1_'.toNatClampNeg)).toInt by omega), (show (a0_' ||| (M19.1 186 a1_'.toNatClampNeg)).toInt ≤ (1 : Int) by omega), (show (0 : Int) ≤ (a1_' + (1 : Int32)).toInt by omega), (show (a1_' + (1 : Int32)).toInt ≤ (72 : Int) by omega)⟩, show (72 - (a1_' + (1 : Int32)).toInt).toNat < (72 - a1_'.toInt).toNat by omega⟩
    · have c17 := c
      have r18 := Jr_187 hN a1_'.toNatClampNeg
      have d19 : ¬ (N_'.1 187 a1_'.toNatClampNeg).toInt = (0 : Int) := neqi.mp c17
      refine bind_i (sf_Mod_onPlace 176 a1_' N_' St_176 hN) (fun x20 e_x20 q => ?_)
      refine if_i (fun c => ?_) (fun c => ?_)
      · have c20 := c
        have d21 : x20.toInt = (0 : Int) := eqi.mp c20
        unfold j_Mod_goThief_163_126
        refine inb_i (by omega) (by omega) ?_
        have q23 := nar01 (1 : Int32)
        refine mem_i (fun M19 e24 => ?_)
        have hJ25 : J M19 := by rw [e24]; exact Jw_186 hN a1_'.toNatClampNeg (vp_nar .boolean (1 : Int32)) (show (0 : Int) ≤ (vp_nar .boolean (1 : Int32)).toInt by omega) (show (vp_nar .boolean (1 : Int32)).toInt ≤ (1 : Int) by omega)
        have hG26 : Gd 1000 B_ M19 := Gd_any hG e24 (by decide)
        have f27 : (M19.1 187 a1_'.toNatClampNeg).toInt = (N_'.1 187 a1_'.toNatClampNeg).toInt := by rw [e24]; rw [si_ne (by exact fun e => absurd e.1 (by decide))]
        clear e24
        refine inb_i (by omega) (by omega) ?_
        have r28 := Jr_186 hJ25 a1_'.toNatClampNeg
        have q29 := or01 (a := a0_') (b := (M19.1 186 a1_'.toNatClampNeg)) (by omega) (by omega) (by omega) (by omega)
        have q30 : (a1_' + (1 : Int32)).toInt = a1_'.toInt + (1 : Int) := add_ti rfl rfl (by omega) (by omega)
        exact ⟨_, rfl, ⟨hJ25, hG26, (show (0 : Int) ≤ (a0_' ||| (M19.1 186 a1_'.toNatClampNeg)).toInt by omega), (show (a0_' ||| (M19.1 186 a1_'.toNatClampNeg)).toInt ≤ (1 : Int) by omega), (show (0 : Int) ≤ (a1_' + (1 : Int32)).toInt by omega), (show (a1_' + (1 : Int32)).toInt ≤ (72 : Int) by omega)⟩, show (72 - (a1_' + (1 : Int32)).toInt).toNat < (72 - a1_'.toInt).toNat by omega⟩
      · have c31 := c
        have d32 : ¬ x20.toInt = (0 : Int) := neqi.mp c31
        unfold j_Mod_goThief_163_126
        refine inb_i (by omega) (by omega) ?_
        have q34 := nar01 (0 : Int32)
        refine mem_i (fun M19 e35 => ?_)
        have hJ36 : J M19 := by rw [e35]; exact Jw_186 hN a1_'.toNatClampNeg (vp_nar .boolean (0 : Int32)) (show (0 : Int) ≤ (vp_nar .boolean (0 : Int32)).toInt by omega) (show (vp_nar .boolean (0 : Int32)).toInt ≤ (1 : Int) by omega)
        have hG37 : Gd 1000 B_ M19 := Gd_any hG e35 (by decide)
        have f38 : (M19.1 187 a1_'.toNatClampNeg).toInt = (N_'.1 187 a1_'.toNatClampNeg).toInt := by rw [e35]; rw [si_ne (by exact fun e => absurd e.1 (by decide))]
        clear e35
        refine inb_i (by omega) (by omega) ?_
        have r39 := Jr_186 hJ36 a1_'.toNatClampNeg
        have q40 := or01 (a := a0_') (b := (M19.1 186 a1_'.toNatClampNeg)) (by omega) (by omega) (by omega) (by omega)
        have q41 : (a1_' + (1 : Int32)).toInt = a1_'.toInt + (1 : Int) := add_ti rfl rfl (by omega) (by omega)
        exact ⟨_, rfl, ⟨hJ36, hG37, (show (0 : Int) ≤ (a0_' ||| (M19.1 186 a1_'.toNatClampNeg)).toInt by omega), (show (a0_' ||| (M19.1 186 a1_'.toNatClampNeg)).toInt ≤ (1 : Int) by omega), (show (0 : Int) ≤ (a1_' + (1 : Int32)).toInt by omega), (show (a1_' + (1 : Int32)).toInt ≤ (72 : Int) by omega)⟩, show (72 - (a1_' + (1 : Int32)).toInt).toNat < (72 - a1_'.toInt).toNat by omega⟩
theorem sf_Mod_goThief (M : Mem) (hJ : J M) : ∃ r : Int32 × Mem, f_Mod_goThief M = some r ∧ (J r.2 ∧ Gd 1000 M r.2 ∧ (0 : Int) ≤ r.1.toInt ∧ r.1.toInt ≤ (1 : Int)) := by
  unfold f_Mod_goThief
  refine bind_i (sl_Mod_goThief_2  (0 : Int32) M M hJ Gd_r (show (0 : Int) ≤ (0 : Int32).toInt by decide) (show (0 : Int32).toInt ≤ (72 : Int) by decide)) (fun x3 _ q => ?_)
  obtain ⟨h1, h2⟩ := q
  refine bind_i (sl_Mod_goThief_23  (0 : Int32) x3 M h1 h2 (show (0 : Int) ≤ (0 : Int32).toInt by decide) (show (0 : Int32).toInt ≤ (72 : Int) by decide)) (fun x18 _ q => ?_)
  obtain ⟨h3, h4⟩ := q
  refine bind_i (sl_Mod_goThief_126  (0 : Int32) (0 : Int32) x18 M h3 h4 (show (0 : Int) ≤ (0 : Int32).toInt by decide) (show (0 : Int32).toInt ≤ (1 : Int) by decide) (show (0 : Int) ≤ (0 : Int32).toInt by decide) (show (0 : Int32).toInt ≤ (72 : Int) by decide)) (fun x24 _ q => ?_)
  obtain ⟨h5, h6, h7, h8⟩ := q
  refine c_i (bool_of (by omega) (by omega)) ?_
  exact ⟨(x24.1, x24.2), rfl, h5, h6, (show (0 : Int) ≤ x24.1.toInt by omega), (show x24.1.toInt ≤ (1 : Int) by omega)⟩
theorem sl_Mod_thiefIn_14 (v1 : Int32) (v2 : Int32) (a0_ : Int32) (N_ : Mem) (B_ : Mem) (hp_v1 : (0 : Int) ≤ v1.toInt ∧ v1.toInt ≤ (71 : Int)) (hp_v2 : (1 : Int) ≤ v2.toInt ∧ v2.toInt ≤ (30 : Int)) (hN : J N_) (hG : Gd 1000 B_ N_) (i2_ : (0 : Int) ≤ a0_.toInt) (i3_ : a0_.toInt ≤ (72 : Int)) : ∃ x, iter (lb_Mod_thiefIn_14 v1 v2) FU (a0_, N_) = some x ∧ (fun r : Mem => J r ∧ Gd 1000 B_ r) x := by
  refine iter_r (fun s : Int32 × Mem => J s.2 ∧ Gd 1000 B_ s.2 ∧ (0 : Int) ≤ s.1.toInt ∧ s.1.toInt ≤ (72 : Int)) (fun s : Int32 × Mem => (72 - s.1.toInt).toNat) (fun r : Mem => J r ∧ Gd 1000 B_ r) ?_ FU (a0_, N_) ⟨hN, hG, i2_, i3_⟩ (by show (72 - a0_.toInt).toNat < FU; rw [FU_v]; omega)
  clear i3_ i2_ hG hN
  rintro ⟨a0_', N_'⟩ ⟨hN, hG, i2_, i3_⟩
  dsimp only at hN hG i2_ i3_
  unfold lb_Mod_thiefIn_14
  dsimp only
  refine if_i (fun c => ?_) (fun c => ?_)
  · have c1 := c
    have d2 : (72 : Int) ≤ a0_'.toInt := lei.mp c1
    exact ⟨_, rfl, hN, hG⟩
  · have c3 := c
    have d4 : a0_'.toInt < (72 : Int) := nlei.mp c3
    refine if_i (fun c => ?_) (fun c => ?_)
    · have c5 := c
      have d6 : a0_'.toInt = v1.toInt := eqi.mp c5
      refine inb_i (by omega) (by omega) ?_
      have q8 := nar01 (1 : Int32)
      refine mem_i (fun M3 e9 => ?_)
      have hJ10 : J M3 := by rw [e9]; exact Jw_186 hN a0_'.toNatClampNeg (vp_nar .boolean (1 : Int32)) (show (0 : Int) ≤ (vp_nar .boolean (1 : Int32)).toInt by omega) (show (vp_nar .boolean (1 : Int32)).toInt ≤ (1 : Int) by omega)
      have hG11 : Gd 1000 B_ M3 := Gd_any hG e9 (by decide)
      clear e9
      have q12 : (a0_' + (1 : Int32)).toInt = a0_'.toInt + (1 : Int) := add_ti rfl rfl (by omega) (by omega)
      exact ⟨_, rfl, ⟨hJ10, hG11, (show (0 : Int) ≤ (a0_' + (1 : Int32)).toInt by omega), (show (a0_' + (1 : Int32)).toInt ≤ (72 : Int) by omega)⟩, show (72 - (a0_' + (1 : Int32)).toInt).toNat < (72 - a0_'.toInt).toNat by omega⟩
    · have c13 := c
      have d14 : ¬ a0_'.toInt = v1.toInt := neqi.mp c13
      refine inb_i (by omega) (by omega) ?_
      have q16 := nar01 (0 : Int32)
      refine mem_i (fun M2 e17 => ?_)
      have hJ18 : J M2 := by rw [e17]; exact Jw_186 hN a0_'.toNatClampNeg (vp_nar .boolean (0 : Int32)) (show (0 : Int) ≤ (vp_nar .boolean (0 : Int32)).toInt by omega) (show (vp_nar .boolean (0 : Int32)).toInt ≤ (1 : Int) by omega)
      have hG19 : Gd 1000 B_ M2 := Gd_any hG e17 (by decide)
      clear e17
      have q20 : (a0_' + (1 : Int32)).toInt = a0_'.toInt + (1 : Int) := add_ti rfl rfl (by omega) (by omega)
      exact ⟨_, rfl, ⟨hJ18, hG19, (show (0 : Int) ≤ (a0_' + (1 : Int32)).toInt by omega), (show (a0_' + (1 : Int32)).toInt ≤ (72 : Int) by omega)⟩, show (72 - (a0_' + (1 : Int32)).toInt).toNat < (72 - a0_'.toInt).toNat by omega⟩
theorem sl_Mod_thiefIn_44 (v2 : Int32) (a0_ : Int32) (N_ : Mem) (B_ : Mem) (hp_v2 : (1 : Int) ≤ v2.toInt ∧ v2.toInt ≤ (30 : Int)) (hN : J N_) (hG : Gd 1000 B_ N_) (i2_ : (1 : Int) ≤ a0_.toInt) (i3_ : a0_.toInt ≤ (31 : Int)) : ∃ x, iter (lb_Mod_thiefIn_44 v2) FU (a0_, N_) = some x ∧ (SQ (fun r : Mem => J r ∧ Gd 1000 B_ r) (fun r : Int32 × Mem => J r.2 ∧ Gd 1000 B_ r.2 ∧ (1 : Int) ≤ r.1.toInt ∧ r.1.toInt ≤ (30 : Int))) x := by
  refine iter_r (fun s : Int32 × Mem => J s.2 ∧ Gd 1000 B_ s.2 ∧ (1 : Int) ≤ s.1.toInt ∧ s.1.toInt ≤ (31 : Int)) (fun s : Int32 × Mem => (31 - s.1.toInt).toNat) (SQ (fun r : Mem => J r ∧ Gd 1000 B_ r) (fun r : Int32 × Mem => J r.2 ∧ Gd 1000 B_ r.2 ∧ (1 : Int) ≤ r.1.toInt ∧ r.1.toInt ≤ (30 : Int))) ?_ FU (a0_, N_) ⟨hN, hG, i2_, i3_⟩ (by show (31 - a0_.toInt).toNat < FU; rw [FU_v]; omega)
  clear i3_ i2_ hG hN
  rintro ⟨a0_', N_'⟩ ⟨hN, hG, i2_, i3_⟩
  dsimp only at hN hG i2_ i3_
  unfold lb_Mod_thiefIn_44
  dsimp only
  refine if_i (fun c => ?_) (fun c => ?_)
  · have c1 := c
    have d2 : v2.toInt < a0_'.toInt := lti.mp c1
    exact ⟨_, rfl, hN, hG⟩
  · have c3 := c
    have d4 : a0_'.toInt ≤ v2.toInt := nlti.mp c3
    refine bind_i (sf_Mod_goMinute 176 N_' St_176 hN) (fun x7 _ q => ?_)
    obtain ⟨h5, h6⟩ := q
    have hG7 : Gd 1000 B_ x7 := Gd_t hG (Gd_up (by decide) h6)
    refine bind_i (sf_Mod_goThief x7 h5) (fun x8 _ q => ?_)
    obtain ⟨h8, h9, h10, h11⟩ := q
    have hG12 : Gd 1000 B_ x8.2 := Gd_t hG7 h9
    refine if_i (fun c => ?_) (fun c => ?_)
    · have c13 := c
      have d14 : x8.1.toInt = (0 : Int) := eqi.mp c13
      exact ⟨_, rfl, h8, hG12, (show (1 : Int) ≤ a0_'.toInt by omega), (show a0_'.toInt ≤ (30 : Int) by omega)⟩
    · have c15 := c
      have d16 : ¬ x8.1.toInt = (0 : Int) := neqi.mp c15
      have q17 : (a0_' + (1 : Int32)).toInt = a0_'.toInt + (1 : Int) := add_ti rfl rfl (by omega) (by omega)
      exact ⟨_, rfl, ⟨h8, hG12, (show (1 : Int) ≤ (a0_' + (1 : Int32)).toInt by omega), (show (a0_' + (1 : Int32)).toInt ≤ (31 : Int) by omega)⟩, show (31 - (a0_' + (1 : Int32)).toInt).toNat < (31 - a0_'.toInt).toNat by omega⟩
theorem sf_Mod_thiefIn (v1 : Int32) (v2 : Int32) (M : Mem) (hp_v1 : (0 : Int) ≤ v1.toInt ∧ v1.toInt ≤ (71 : Int)) (hp_v2 : (1 : Int) ≤ v2.toInt ∧ v2.toInt ≤ (30 : Int)) (hJ : J M) : ∃ r : Int32 × Mem, f_Mod_thiefIn v1 v2 M = some r ∧ (J r.2 ∧ Gd 1000 M r.2 ∧ (1 : Int) ≤ r.1.toInt ∧ r.1.toInt ≤ (1000000 : Int)) := by
  unfold f_Mod_thiefIn
  refine bind_i (sf_Mod_lay 163 176 (0 : Int32) M St_163 Sx_176 (⟨by decide, by decide⟩) hJ) (fun x1 _ q => ?_)
  obtain ⟨h1, h2⟩ := q
  have hG3 : Gd 1000 M x1 := Gd_t Gd_r h2
  refine bind_i (sl_Mod_thiefIn_14 v1 v2 (0 : Int32) x1 M (⟨show (0 : Int) ≤ v1.toInt by omega, show v1.toInt ≤ (71 : Int) by omega⟩) (⟨show (1 : Int) ≤ v2.toInt by omega, show v2.toInt ≤ (30 : Int) by omega⟩) h1 hG3 (show (0 : Int) ≤ (0 : Int32).toInt by decide) (show (0 : Int32).toInt ≤ (72 : Int) by decide)) (fun x6 _ q => ?_)
  obtain ⟨h4, h5⟩ := q
  refine bind_i (sl_Mod_thiefIn_44 v2 (1 : Int32) x6 M (⟨show (1 : Int) ≤ v2.toInt by omega, show v2.toInt ≤ (30 : Int) by omega⟩) h4 h5 (show (1 : Int) ≤ (1 : Int32).toInt by decide) (show (1 : Int32).toInt ≤ (31 : Int) by decide)) (fun x6 _ q => ?_)
  rcases x6 with y | y
  · have q9 : J y ∧ Gd 1000 M y := q
    dsimp only [Sum.elim_inl, Sum.elim_inr]
    obtain ⟨h8, h9⟩ := q9
    exact ⟨((1000000 : Int32), y), rfl, h8, h9, (show (1 : Int) ≤ (1000000 : Int32).toInt by decide), (show (1000000 : Int32).toInt ≤ (1000000 : Int) by decide)⟩
  · have q9 : J y.2 ∧ Gd 1000 M y.2 ∧ (1 : Int) ≤ y.1.toInt ∧ y.1.toInt ≤ (30 : Int) := q
    dsimp only [Sum.elim_inl, Sum.elim_inr]
    obtain ⟨h11, h12, h13, h14⟩ := q9
    exact ⟨(y.1, y.2), rfl, h11, h12, (show (1 : Int) ≤ y.1.toInt by omega), (show y.1.toInt ≤ (1000000 : Int) by omega)⟩
theorem MA_a {k : Nat} (h : MA k) : kd k = 3 ∧ ln k = 72 := by rcases h with rfl | rfl <;> decide +kernel
theorem sl_putMay23 (v1 : Nat) (v2 : Int32) {M : Mem} (h : J M) (h1 : MA v1) (h2 : 0 ≤ v2.toInt ∧ v2.toInt ≤ 1) : ∃ x, iter (lb_Mod_putMay_23 v1 v2) FU ((0 : Int32), M) = some x ∧ (J x ∧ Fr (fun k _ => k = 178) M x ∧ x.2 = M.2) := by
  have l1 := (MA_a h1).2
  refine cnt_r _ (fun _ N => J N ∧ Fr (fun k _ => k = 178) M N ∧ N.2 = M.2) 36 (by decide) ?_ M ⟨h, Fr.r, rfl⟩ (by decide)
  intro k N k0 k1 hI
  have c36 : (36 : Int32).toInt = 36 := rfl
  unfold lb_Mod_putMay_23 f_Mod_placeOf
  dsimp only
  refine if_i (fun c => ⟨_, rfl, .inl ⟨_, rfl, hI⟩⟩) (fun c => ?_)
  have d := nlei.mp c
  have m1 : ((36 : Int32) * v2).toInt = 36 * v2.toInt := mul_ti rfl rfl (by omega) (by omega)
  have m2 : (((36 : Int32) * v2) + k).toInt = 36 * v2.toInt + k.toInt := add_ti m1 rfl (by omega) (by omega)
  have dv : (k / (18 : Int32)).toInt = k.toInt / 18 := div_ti rfl rfl k0 (by decide)
  rw [Option.bind_some]
  refine inb_i (by omega) (by omega) (if_i (fun _ => ⟨_, rfl, .inr ⟨by omega, N, rfl, hI⟩⟩) (fun _ => inb_i (by omega) (by omega) (inb_i (by omega) (by omega) ?_)))
  refine mem_i (fun m e => ⟨_, rfl, .inr ⟨by omega, m, rfl, ?_⟩⟩)
  rw [e]
  exact ⟨Jw_any ok_178 hI.1 _ _, hI.2.1.i rfl, hI.2.2⟩
theorem sf_Mod_putMay (v1 : Nat) (M : Mem) (hk_v1 : MA v1) (hJ : J M) (hx0 : (M.1 162 12).toInt ≤ (12 : Int)) : ∃ r : Mem, f_Mod_putMay v1 M = some r ∧ (J r ∧ Gd 1000 M r) := by
  have hl : ∃ x, iter (lb_Mod_putMay_2 v1) FU ((0 : Int32), M) = some x ∧ (J x ∧ Gd 1000 M x) := by
    refine cnt_r _ (fun i N => (J N ∧ Gd 1000 M N) ∧ (N.1 162 12).toInt ≤ 12 + 2 * i) 2 (by decide) ?_ M ⟨⟨hJ, Gd_r⟩, by omega⟩ (by decide)
    intro k N k0 k1 hI
    have c2 : (2 : Int32).toInt = 2 := rfl
    unfold lb_Mod_putMay_2
    dsimp only
    refine if_i (fun c => ⟨_, rfl, .inl ⟨_, rfl, hI.1⟩⟩) (fun c => ?_)
    have d := nlei.mp c
    refine mem_i (fun M1 e1 => mem_i (fun M2 e2 => ?_))
    have j2 : J M2 := by rw [e2]; refine Jw_any ok_178 ?_ _ _; rw [e1]; exact Jw_any ok_178 hI.1.1 _ _
    have t2 : M2.1 162 12 = N.1 162 12 := by rw [e2, si_ne (by intro e; exact absurd e.1 (by decide)), e1, si_ne (by intro e; exact absurd e.1 (by decide))]
    refine bind_i (sl_putMay23 v1 k j2 hk_v1 (by omega)) (fun x7 _ q => ?_)
    have t7 : x7.1 162 12 = N.1 162 12 := (q.2.1 162 12 (by decide)).trans t2
    refine bind_i (sf_Mod_put _ x7 q.1 (by rw [t7]; omega)) (fun x8 _ q8 => ?_)
    rw [t7] at q8
    refine bind_i (sf_Mod_put _ x8 q8.1 (by omega)) (fun x9 _ q9 => ⟨_, rfl, .inr ⟨by omega, x9, rfl, ⟨q9.1, ?_⟩, by omega⟩⟩)
    exact Gd_t (Gd_t (Gd_t (Gd_any (Gd_any hI.1.2 e1 (by decide)) e2 (by decide)) (Gd_1 (c := 178) (by decide) q.2.1)) q8.2.1) q9.2.1
  unfold f_Mod_putMay
  exact c_i (MA_a hk_v1).1 (bind_i hl (fun x _ q => ⟨_, rfl, q⟩))
theorem sf_Mod_flees (v1 : Int32) (v2 : Int32) (v3 : Int32) (M : Mem) (hJ : J M) : ∃ r : Int32 × Mem, f_Mod_flees v1 v2 v3 M = some r ∧ (J r.2 ∧ Gd 1000 M r.2 ∧ (-1 : Int) ≤ r.1.toInt ∧ r.1.toInt ≤ (1 : Int)) := by
  unfold f_Mod_flees
  refine mem_i (fun M1 e2 => ?_)
  have hJ3 : J M1 := by rw [e2]; exact Jw_fld okf_162_13 hJ (0 : Int32)
  have hG4 : Gd 1000 M M1 := Gd_i Gd_r e2 (by decide)
  have f5 : (M1.1 162 13).toInt = (0 : Int) := by rw [e2, si_eq]; rfl
  clear e2
  refine bind_i (sf_Mod_isPlaceOf v2 v1 M1 hJ3) (fun x2 e_x2 q => ?_)
  obtain ⟨h6, h7, h8, h9⟩ := q
  refine if_i (fun c => ?_) (fun c => ?_)
  · have c10 := c
    have d11 : x2.toInt = (0 : Int) := eqi.mp c10
    exact ⟨((-1 : Int32), M1), rfl, hJ3, hG4, (show (-1 : Int) ≤ (-1 : Int32).toInt by decide), (show (-1 : Int32).toInt ≤ (1 : Int) by decide)⟩
  · have c12 := c
    have d13 : ¬ x2.toInt = (0 : Int) := neqi.mp c12
    refine bind_i (sf_Mod_in v3 (1 : Int32) (30 : Int32)) (fun x3 _ q => ?_)
    obtain ⟨h14, h15, h16⟩ := q
    replace h16 : ¬ x3.toInt = 0 → (1 : Int) ≤ v3.toInt ∧ v3.toInt ≤ (30 : Int) := h16
    refine if_i (fun c => ?_) (fun c => ?_)
    · have c17 := c
      have d18 : x3.toInt = (0 : Int) := eqi.mp c17
      exact ⟨((-1 : Int32), M1), rfl, hJ3, hG4, (show (-1 : Int) ≤ (-1 : Int32).toInt by decide), (show (-1 : Int32).toInt ≤ (1 : Int) by decide)⟩
    · have c19 := c
      have d20 : ¬ x3.toInt = (0 : Int) := neqi.mp c19
      refine bind_e (show (f_Mod_placeOf v2 v1) = some (((36 : Int32) * v2) + v1) from rfl) ?_
      have q21 : ((36 : Int32) * v2).toInt = (36 : Int) * v2.toInt := mul_ti rfl rfl (by omega) (by omega)
      have q22 : (((36 : Int32) * v2) + v1).toInt = ((36 : Int32) * v2).toInt + v1.toInt := add_ti rfl rfl (by omega) (by omega)
      refine bind_i (sf_Mod_thiefIn (((36 : Int32) * v2) + v1) v3 M1 (⟨show (0 : Int) ≤ (((36 : Int32) * v2) + v1).toInt by omega, show (((36 : Int32) * v2) + v1).toInt ≤ (71 : Int) by omega⟩) (⟨show (1 : Int) ≤ v3.toInt by omega, show v3.toInt ≤ (30 : Int) by omega⟩) hJ3) (fun x5 _ q => ?_)
      obtain ⟨h23, h24, h25, h26⟩ := q
      have hG27 : Gd 1000 M x5.2 := Gd_t hG4 h24
      refine if_i (fun c => ?_) (fun c => ?_)
      · have c28 := c
        have d29 : x5.1.toInt = (1000000 : Int) := eqi.mp c28
        unfold j_Mod_flees_47
        refine mem_i (fun M6 e31 => ?_)
        have hJ32 : J M6 := by rw [e31]; exact Jw_162_12 h23 (0 : Int32) (show (0 : Int) ≤ (0 : Int32).toInt by decide) (show (0 : Int32).toInt ≤ (16 : Int) by decide)
        have hG33 : Gd 1000 M M6 := Gd_i hG27 e31 (by decide)
        have f34 : (M6.1 162 12).toInt = (0 : Int) := by rw [e31, si_eq]; rfl
        clear e31
        refine bind_i (sf_Mod_putMay 186 M6 MA_186 hJ32 (show (M6.1 162 12).toInt ≤ (12 : Int) by omega)) (fun x7 _ q => ?_)
        obtain ⟨h35, h36⟩ := q
        have hG37 : Gd 1000 M x7 := Gd_t hG33 h36
        refine if_i (fun c => ?_) (fun c => ?_)
        · have c38 := c
          have d39 : (1 : Int) = (0 : Int) := eqi.mp c38
          exfalso; omega
        · have c40 := c
          have d41 : ¬ (1 : Int) = (0 : Int) := neqi.mp c40
          exact ⟨((1 : Int32), x7), rfl, h35, hG37, (show (-1 : Int) ≤ (1 : Int32).toInt by decide), (show (1 : Int32).toInt ≤ (1 : Int) by decide)⟩
      · have c42 := c
        have d43 : ¬ x5.1.toInt = (1000000 : Int) := neqi.mp c42
        unfold j_Mod_flees_47
        refine mem_i (fun M6 e45 => ?_)
        have hJ46 : J M6 := by rw [e45]; exact Jw_162_12 h23 (0 : Int32) (show (0 : Int) ≤ (0 : Int32).toInt by decide) (show (0 : Int32).toInt ≤ (16 : Int) by decide)
        have hG47 : Gd 1000 M M6 := Gd_i hG27 e45 (by decide)
        have f48 : (M6.1 162 12).toInt = (0 : Int) := by rw [e45, si_eq]; rfl
        clear e45
        refine bind_i (sf_Mod_putMay 186 M6 MA_186 hJ46 (show (M6.1 162 12).toInt ≤ (12 : Int) by omega)) (fun x7 _ q => ?_)
        obtain ⟨h49, h50⟩ := q
        have hG51 : Gd 1000 M x7 := Gd_t hG47 h50
        refine if_i (fun c => ?_) (fun c => ?_)
        · have c52 := c
          have d53 : (0 : Int) = (0 : Int) := eqi.mp c52
          exact ⟨((0 : Int32), x7), rfl, h49, hG51, (show (-1 : Int) ≤ (0 : Int32).toInt by decide), (show (0 : Int32).toInt ≤ (1 : Int) by decide)⟩
        · have c54 := c
          have d55 : ¬ (0 : Int) = (0 : Int) := neqi.mp c54
          exfalso; omega
theorem sl_Mod_lairs_21 (v1 : Int32) (a0_ : Int32) (a1_ : Int32) (N_ : Mem) (B_ : Mem) (hp_v1 : (1 : Int) ≤ v1.toInt ∧ v1.toInt ≤ (30 : Int)) (hN : J N_) (hG : Gd 1000 B_ N_) (i2_ : (0 : Int) ≤ a1_.toInt) (i3_ : a1_.toInt ≤ (72 : Int)) : ∃ x, iter (lb_Mod_lairs_21 v1) FU (a0_, a1_, N_) = some x ∧ (fun r : Int32 × Mem => J r.2 ∧ Gd 1000 B_ r.2) x := by
  refine iter_r (fun s : Int32 × Int32 × Mem => J s.2.2 ∧ Gd 1000 B_ s.2.2 ∧ (0 : Int) ≤ s.2.1.toInt ∧ s.2.1.toInt ≤ (72 : Int)) (fun s : Int32 × Int32 × Mem => (72 - s.2.1.toInt).toNat) (fun r : Int32 × Mem => J r.2 ∧ Gd 1000 B_ r.2) ?_ FU (a0_, a1_, N_) ⟨hN, hG, i2_, i3_⟩ (by show (72 - a1_.toInt).toNat < FU; rw [FU_v]; omega)
  clear i3_ i2_ hG hN
  rintro ⟨a0_', a1_', N_'⟩ ⟨hN, hG, i2_, i3_⟩
  dsimp only at hN hG i2_ i3_
  unfold lb_Mod_lairs_21
  dsimp only
  refine if_i (fun c => ?_) (fun c => ?_)
  · have c1 := c
    have d2 : (72 : Int) ≤ a1_'.toInt := lei.mp c1
    exact ⟨_, rfl, hN, hG⟩
  · have c3 := c
    have d4 : a1_'.toInt < (72 : Int) := nlei.mp c3
    refine bind_e (show (f_Mod_levelOf a1_') = some (a1_' / (36 : Int32)) from rfl) ?_
    refine bind_e (show (f_Mod_cellOf a1_') = some (a1_' - ((a1_' / (36 : Int32)) * (36 : Int32))) from rfl) ?_
    have q5 : (a1_' - ((a1_' / (36 : Int32)) * (36 : Int32))).toInt = a1_'.toInt % (36 : Int) := rem_ti rfl rfl (by omega) (by omega)
    refine bind_i (sf_Mod_isOf (a1_' / (36 : Int32)) (a1_' - ((a1_' / (36 : Int32)) * (36 : Int32))) N_' hN) (fun x5 e_x5 q => ?_)
    obtain ⟨h6, h7, h8⟩ := q
    refine if_i (fun c => ?_) (fun c => ?_)
    · have c9 := c
      have d10 : x5.toInt = (0 : Int) := eqi.mp c9
      unfold j_Mod_lairs_64_21
      refine inb_i (by omega) (by omega) ?_
      have q12 := nar01 (0 : Int32)
      refine mem_i (fun M6 e13 => ?_)
      have hJ14 : J M6 := by rw [e13]; exact Jw_188 hN a1_'.toNatClampNeg (vp_nar .boolean (0 : Int32)) (show (0 : Int) ≤ (vp_nar .boolean (0 : Int32)).toInt by omega) (show (vp_nar .boolean (0 : Int32)).toInt ≤ (1 : Int) by omega)
      have hG15 : Gd 1000 B_ M6 := Gd_any hG e13 (by decide)
      clear e13
      refine inb_i (by omega) (by omega) ?_
      refine if_i (fun c => ?_) (fun c => ?_)
      · have c16 := c
        have r17 := Jr_188 hJ14 a1_'.toNatClampNeg
        have d18 : (M6.1 188 a1_'.toNatClampNeg).toInt = (0 : Int) := eqi.mp c16
        have q19 : (a1_' + (1 : Int32)).toInt = a1_'.toInt + (1 : Int) := add_ti rfl rfl (by omega) (by omega)
        exact ⟨_, rfl, ⟨hJ14, hG15, (show (0 : Int) ≤ (a1_' + (1 : Int32)).toInt by omega), (show (a1_' + (1 : Int32)).toInt ≤ (72 : Int) by omega)⟩, show (72 - (a1_' + (1 : Int32)).toInt).toNat < (72 - a1_'.toInt).toNat by omega⟩
      · have c20 := c
        have r21 := Jr_188 hJ14 a1_'.toNatClampNeg
        have d22 : ¬ (M6.1 188 a1_'.toNatClampNeg).toInt = (0 : Int) := neqi.mp c20
        have q23 : (a1_' + (1 : Int32)).toInt = a1_'.toInt + (1 : Int) := add_ti rfl rfl (by omega) (by omega)
        exact ⟨_, rfl, ⟨hJ14, hG15, (show (0 : Int) ≤ (a1_' + (1 : Int32)).toInt by omega), (show (a1_' + (1 : Int32)).toInt ≤ (72 : Int) by omega)⟩, show (72 - (a1_' + (1 : Int32)).toInt).toNat < (72 - a1_'.toInt).toNat by omega⟩
    · have c24 := c
      have d25 : ¬ x5.toInt = (0 : Int) := neqi.mp c24
      refine bind_i (sf_Mod_thiefIn a1_' v1 N_' (⟨show (0 : Int) ≤ a1_'.toInt by omega, show a1_'.toInt ≤ (71 : Int) by omega⟩) (⟨show (1 : Int) ≤ v1.toInt by omega, show v1.toInt ≤ (30 : Int) by omega⟩) hN) (fun x8 _ q => ?_)
      obtain ⟨h26, h27, h28, h29⟩ := q
      have hG30 : Gd 1000 B_ x8.2 := Gd_t hG h27
      refine if_i (fun c => ?_) (fun c => ?_)
      · have c31 := c
        have d32 : x8.1.toInt = (1000000 : Int) := eqi.mp c31
        unfold j_Mod_lairs_64_21
        refine inb_i (by omega) (by omega) ?_
        have q34 := nar01 (1 : Int32)
        refine mem_i (fun M6 e35 => ?_)
        have hJ36 : J M6 := by rw [e35]; exact Jw_188 h26 a1_'.toNatClampNeg (vp_nar .boolean (1 : Int32)) (show (0 : Int) ≤ (vp_nar .boolean (1 : Int32)).toInt by omega) (show (vp_nar .boolean (1 : Int32)).toInt ≤ (1 : Int) by omega)
        have hG37 : Gd 1000 B_ M6 := Gd_any hG30 e35 (by decide)
        clear e35
        refine inb_i (by omega) (by omega) ?_
        refine if_i (fun c => ?_) (fun c => ?_)
        · have c38 := c
          have r39 := Jr_188 hJ36 a1_'.toNatClampNeg
          have d40 : (M6.1 188 a1_'.toNatClampNeg).toInt = (0 : Int) := eqi.mp c38
          have q41 : (a1_' + (1 : Int32)).toInt = a1_'.toInt + (1 : Int) := add_ti rfl rfl (by omega) (by omega)
          exact ⟨_, rfl, ⟨hJ36, hG37, (show (0 : Int) ≤ (a1_' + (1 : Int32)).toInt by omega), (show (a1_' + (1 : Int32)).toInt ≤ (72 : Int) by omega)⟩, show (72 - (a1_' + (1 : Int32)).toInt).toNat < (72 - a1_'.toInt).toNat by omega⟩
        · have c42 := c
          have r43 := Jr_188 hJ36 a1_'.toNatClampNeg
          have d44 : ¬ (M6.1 188 a1_'.toNatClampNeg).toInt = (0 : Int) := neqi.mp c42
          have q45 : (a1_' + (1 : Int32)).toInt = a1_'.toInt + (1 : Int) := add_ti rfl rfl (by omega) (by omega)
          exact ⟨_, rfl, ⟨hJ36, hG37, (show (0 : Int) ≤ (a1_' + (1 : Int32)).toInt by omega), (show (a1_' + (1 : Int32)).toInt ≤ (72 : Int) by omega)⟩, show (72 - (a1_' + (1 : Int32)).toInt).toNat < (72 - a1_'.toInt).toNat by omega⟩
      · have c46 := c
        have d47 : ¬ x8.1.toInt = (1000000 : Int) := neqi.mp c46
        unfold j_Mod_lairs_64_21
        refine inb_i (by omega) (by omega) ?_
        have q49 := nar01 (0 : Int32)
        refine mem_i (fun M6 e50 => ?_)
        have hJ51 : J M6 := by rw [e50]; exact Jw_188 h26 a1_'.toNatClampNeg (vp_nar .boolean (0 : Int32)) (show (0 : Int) ≤ (vp_nar .boolean (0 : Int32)).toInt by omega) (show (vp_nar .boolean (0 : Int32)).toInt ≤ (1 : Int) by omega)
        have hG52 : Gd 1000 B_ M6 := Gd_any hG30 e50 (by decide)
        clear e50
        refine inb_i (by omega) (by omega) ?_
        refine if_i (fun c => ?_) (fun c => ?_)
        · have c53 := c
          have r54 := Jr_188 hJ51 a1_'.toNatClampNeg
          have d55 : (M6.1 188 a1_'.toNatClampNeg).toInt = (0 : Int) := eqi.mp c53
          have q56 : (a1_' + (1 : Int32)).toInt = a1_'.toInt + (1 : Int) := add_ti rfl rfl (by omega) (by omega)
          exact ⟨_, rfl, ⟨hJ51, hG52, (show (0 : Int) ≤ (a1_' + (1 : Int32)).toInt by omega), (show (a1_' + (1 : Int32)).toInt ≤ (72 : Int) by omega)⟩, show (72 - (a1_' + (1 : Int32)).toInt).toNat < (72 - a1_'.toInt).toNat by omega⟩
        · have c57 := c
          have r58 := Jr_188 hJ51 a1_'.toNatClampNeg
          have d59 : ¬ (M6.1 188 a1_'.toNatClampNeg).toInt = (0 : Int) := neqi.mp c57
          have q60 : (a1_' + (1 : Int32)).toInt = a1_'.toInt + (1 : Int) := add_ti rfl rfl (by omega) (by omega)
          exact ⟨_, rfl, ⟨hJ51, hG52, (show (0 : Int) ≤ (a1_' + (1 : Int32)).toInt by omega), (show (a1_' + (1 : Int32)).toInt ≤ (72 : Int) by omega)⟩, show (72 - (a1_' + (1 : Int32)).toInt).toNat < (72 - a1_'.toInt).toNat by omega⟩
theorem sf_Mod_lairs (v1 : Int32) (M : Mem) (hJ : J M) : ∃ r : Int32 × Mem, f_Mod_lairs v1 M = some r ∧ (J r.2 ∧ Gd 1000 M r.2) := by
  unfold f_Mod_lairs
  refine mem_i (fun M1 e2 => ?_)
  have hJ3 : J M1 := by rw [e2]; exact Jw_fld okf_162_13 hJ (0 : Int32)
  have hG4 : Gd 1000 M M1 := Gd_i Gd_r e2 (by decide)
  have f5 : (M1.1 162 13).toInt = (0 : Int) := by rw [e2, si_eq]; rfl
  clear e2
  refine bind_i (sf_Mod_in v1 (1 : Int32) (30 : Int32)) (fun x2 _ q => ?_)
  obtain ⟨h6, h7, h8⟩ := q
  replace h8 : ¬ x2.toInt = 0 → (1 : Int) ≤ v1.toInt ∧ v1.toInt ≤ (30 : Int) := h8
  refine if_i (fun c => ?_) (fun c => ?_)
  · have c9 := c
    have d10 : x2.toInt = (0 : Int) := eqi.mp c9
    exact ⟨((-1 : Int32), M1), rfl, hJ3, hG4⟩
  · have c11 := c
    have d12 : ¬ x2.toInt = (0 : Int) := neqi.mp c11
    refine bind_i (sl_Mod_lairs_21 v1 (0 : Int32) (0 : Int32) M1 M (⟨show (1 : Int) ≤ v1.toInt by omega, show v1.toInt ≤ (30 : Int) by omega⟩) hJ3 hG4 (show (0 : Int) ≤ (0 : Int32).toInt by decide) (show (0 : Int32).toInt ≤ (72 : Int) by decide)) (fun x12 _ q => ?_)
    obtain ⟨h13, h14⟩ := q
    refine mem_i (fun M13 e16 => ?_)
    have hJ17 : J M13 := by rw [e16]; exact Jw_162_12 h13 (0 : Int32) (show (0 : Int) ≤ (0 : Int32).toInt by decide) (show (0 : Int32).toInt ≤ (16 : Int) by decide)
    have hG18 : Gd 1000 M M13 := Gd_i h14 e16 (by decide)
    have f19 : (M13.1 162 12).toInt = (0 : Int) := by rw [e16, si_eq]; rfl
    clear e16
    refine bind_i (sf_Mod_putMay 188 M13 MA_188 hJ17 (show (M13.1 162 12).toInt ≤ (12 : Int) by omega)) (fun x14 _ q => ?_)
    obtain ⟨h20, h21⟩ := q
    have hG22 : Gd 1000 M x14 := Gd_t hG18 h21
    exact ⟨(x12.1, x14), rfl, h20, hG22⟩
theorem sf_Mod_caught (v1 : Int32) (v2 : Int32) (M : Mem) (hJ : J M) : ∃ r : Int32 × Mem, f_Mod_caught v1 v2 M = some r ∧ (J r.2 ∧ Gd 1000 M r.2 ∧ (-2 : Int) ≤ r.1.toInt ∧ r.1.toInt ≤ (999999 : Int)) := by
  unfold f_Mod_caught
  refine mem_i (fun M1 e2 => ?_)
  have hJ3 : J M1 := by rw [e2]; exact Jw_fld okf_162_13 hJ (0 : Int32)
  have hG4 : Gd 1000 M M1 := Gd_i Gd_r e2 (by decide)
  have f5 : (M1.1 162 13).toInt = (0 : Int) := by rw [e2, si_eq]; rfl
  clear e2
  refine bind_i (sf_Mod_isPlaceOf v2 v1 M1 hJ3) (fun x2 e_x2 q => ?_)
  obtain ⟨h6, h7, h8, h9⟩ := q
  refine if_i (fun c => ?_) (fun c => ?_)
  · have c10 := c
    have d11 : x2.toInt = (0 : Int) := eqi.mp c10
    exact ⟨((-1 : Int32), M1), rfl, hJ3, hG4, (show (-2 : Int) ≤ (-1 : Int32).toInt by decide), (show (-1 : Int32).toInt ≤ (999999 : Int) by decide)⟩
  · have c12 := c
    have d13 : ¬ x2.toInt = (0 : Int) := neqi.mp c12
    refine bind_e (show (f_Mod_placeOf v2 v1) = some (((36 : Int32) * v2) + v1) from rfl) ?_
    have q14 : ((36 : Int32) * v2).toInt = (36 : Int) * v2.toInt := mul_ti rfl rfl (by omega) (by omega)
    have q15 : (((36 : Int32) * v2) + v1).toInt = ((36 : Int32) * v2).toInt + v1.toInt := add_ti rfl rfl (by omega) (by omega)
    refine bind_i (sf_Mod_thiefIn (((36 : Int32) * v2) + v1) (30 : Int32) M1 (⟨show (0 : Int) ≤ (((36 : Int32) * v2) + v1).toInt by omega, show (((36 : Int32) * v2) + v1).toInt ≤ (71 : Int) by omega⟩) (⟨by decide, by decide⟩) hJ3) (fun x4 _ q => ?_)
    obtain ⟨h16, h17, h18, h19⟩ := q
    have hG20 : Gd 1000 M x4.2 := Gd_t hG4 h17
    refine if_i (fun c => ?_) (fun c => ?_)
    · have c21 := c
      have d22 : x4.1.toInt = (1000000 : Int) := eqi.mp c21
      exact ⟨((-2 : Int32), x4.2), rfl, h16, hG20, (show (-2 : Int) ≤ (-2 : Int32).toInt by decide), (show (-2 : Int32).toInt ≤ (999999 : Int) by decide)⟩
    · have c23 := c
      have d24 : ¬ x4.1.toInt = (1000000 : Int) := neqi.mp c23
      exact ⟨(x4.1, x4.2), rfl, h16, hG20, (show (-2 : Int) ≤ x4.1.toInt by omega), (show x4.1.toInt ≤ (999999 : Int) by omega)⟩
theorem sf_Mod_enter (v1 : Int32) (v2 : Int32) (M : Mem) (hp_v1 : (-1 : Int) ≤ v1.toInt ∧ v1.toInt ≤ (71 : Int)) (hJ : J M) : ∃ r : Int32 × Mem, f_Mod_enter v1 v2 M = some r ∧ (J r.2 ∧ Gd 1000 M r.2 ∧ (0 : Int) ≤ r.1.toInt ∧ r.1.toInt ≤ (1 : Int)) := by
  unfold f_Mod_enter
  refine if_i (fun c => ?_) (fun c => ?_)
  · have c1 := c
    have d2 : v1.toInt = (-1 : Int) := eqi.mp c1
    exact ⟨((0 : Int32), M), rfl, hJ, Gd_r, (show (0 : Int) ≤ (0 : Int32).toInt by decide), (show (0 : Int32).toInt ≤ (1 : Int) by decide)⟩
  · have c3 := c
    have d4 : ¬ v1.toInt = (-1 : Int) := neqi.mp c3
    refine inb_i (by omega) (by omega) ?_
    refine if_i (fun c => ?_) (fun c => ?_)
    · have c5 := c
      have r6 := Jr_186 hJ v1.toNatClampNeg
      have d7 : (M.1 186 v1.toNatClampNeg).toInt = (0 : Int) := eqi.mp c5
      refine bind_i (sf_Mod_onPlace 163 v1 M St_163 hJ) (fun x1 e_x1 q => ?_)
      refine if_i (fun c => ?_) (fun c => ?_)
      · have c8 := c
        have d9 : (x1 &&& v2).toInt = (0 : Int) := eqi.mp c8
        refine inb_i (by omega) (by omega) ?_
        have q11 := nar01 (1 : Int32)
        refine mem_i (fun M2 e12 => ?_)
        have hJ13 : J M2 := by rw [e12]; exact Jw_186 hJ v1.toNatClampNeg (vp_nar .boolean (1 : Int32)) (show (0 : Int) ≤ (vp_nar .boolean (1 : Int32)).toInt by omega) (show (vp_nar .boolean (1 : Int32)).toInt ≤ (1 : Int) by omega)
        have hG14 : Gd 1000 M M2 := Gd_any Gd_r e12 (by decide)
        clear e12
        exact ⟨((1 : Int32), M2), rfl, hJ13, hG14, (show (0 : Int) ≤ (1 : Int32).toInt by decide), (show (1 : Int32).toInt ≤ (1 : Int) by decide)⟩
      · have c15 := c
        have d16 : ¬ (x1 &&& v2).toInt = (0 : Int) := neqi.mp c15
        exact ⟨((0 : Int32), M), rfl, hJ, Gd_r, (show (0 : Int) ≤ (0 : Int32).toInt by decide), (show (0 : Int32).toInt ≤ (1 : Int) by decide)⟩
    · have c17 := c
      have r18 := Jr_186 hJ v1.toNatClampNeg
      have d19 : ¬ (M.1 186 v1.toNatClampNeg).toInt = (0 : Int) := neqi.mp c17
      exact ⟨((0 : Int32), M), rfl, hJ, Gd_r, (show (0 : Int) ≤ (0 : Int32).toInt by decide), (show (0 : Int32).toInt ≤ (1 : Int) by decide)⟩
def um (M : Mem) : Nat → Int := fun i => if (M.1 186 i).toInt = 0 then 1 else 0
def mu (M : Mem) : Int := sm (um M) 72
theorem mu_bd (M : Mem) : 0 ≤ mu M ∧ mu M ≤ 72 := by
  have := sm_bd (f := um M) (b := 1) (fun i => by unfold um; split <;> omega) 72
  unfold mu; omega
theorem mu_dec {M : Mem} {i : Nat} {v : Int32} (hi : i < 72) (hv : v.toInt ≠ 0) (hd : (M.1 186 i).toInt = 0) : mu (s_i M 186 i v) = mu M - 1 := by
  unfold mu
  rw [sm_upd (f := um M) hi (fun j hj => by unfold um; rw [si_ne (fun e => hj e.2)])]
  have e1 : um M i = 1 := by unfold um; rw [if_pos hd]
  have e2 : um (s_i M 186 i v) i = 0 := by unfold um; rw [si_eq, if_neg hv]
  rw [e1, e2]; omega
/-- what a stretch of enterings leaves -/
def SE (acc0 : Int32) (M0_ : Mem) (acc : Int32) (M : Mem) : Prop := J M ∧ Gd 1000 M0_ M ∧ (acc = 0 ∨ acc = 1) ∧ mu M ≤ mu M0_ ∧ (acc ≠ 0 → acc0 ≠ 0 ∨ mu M < mu M0_)
theorem SE_r {a : Int32} {M : Mem} (h : J M) (ha : a = 0 ∨ a = 1) : SE a M a M := ⟨h, Gd_r, ha, Int.le_refl _, fun e => .inl e⟩
theorem SE_t {a0 a1 a2 : Int32} {M0_ M1 M2 : Mem} (h : SE a0 M0_ a1 M1) (g : SE a1 M1 a2 M2) : SE a0 M0_ a2 M2 := by
  obtain ⟨h1, h2, h3, h4, h5⟩ := h
  obtain ⟨g1, g2, g3, g4, g5⟩ := g
  refine ⟨g1, Gd_t h2 g2, g3, by omega, fun e => ?_⟩
  rcases g5 e with w | w
  · rcases h5 w with u | u
    · exact .inl u
    · right; omega
  · right; omega
theorem sp_enter {M : Mem} (h : J M) (v1 v2 : Int32) (h1 : -1 ≤ v1.toInt ∧ v1.toInt ≤ 71) (a : Int32) (ha : a = 0 ∨ a = 1) : ∃ r, f_Mod_enter v1 v2 M = some r ∧ SE a M (a ||| r.1) r.2 := by
  have n1 : (-1 : Int32).toInt = -1 := rfl
  have z : a ||| 0 = a := by rcases ha with rfl | rfl <;> decide
  have no : SE a M (a ||| 0) M := by rw [z]; exact SE_r h ha
  unfold f_Mod_enter
  refine if_i (fun e => ⟨_, rfl, no⟩) (fun e => ?_)
  have d := neqi.mp e
  refine inb_i (by omega) (by omega) (if_i (fun e0 => ?_) (fun _ => ⟨_, rfl, no⟩))
  refine bind_i (sf_Mod_onPlace 163 v1 M St_163 h) (fun x1 _ _ => if_i (fun _ => inb_i (by omega) (by omega) (mem_i (fun m em => ⟨_, rfl, ?_⟩))) (fun _ => ⟨_, rfl, no⟩))
  have dm := mu_dec (M := M) (i := v1.toNatClampNeg) (v := vp_nar .boolean 1) (by rw [tcn']; omega) (by rw [narb1]; decide) (eqi.mp e0)
  rw [← em] at dm
  refine ⟨by show J m; rw [em]; exact Jw_186 h _ _ (nar01 _).1 (nar01 _).2, Gd_any Gd_r em (by decide), ?_, ?_, fun _ => .inr ?_⟩
  · show a ||| 1 = 0 ∨ a ||| 1 = 1
    rcases ha with rfl | rfl <;> decide
  · show mu m ≤ mu M; omega
  · show mu m < mu M; omega
theorem sl_gets71 (v2 v3 v5 : Int32) (h5 : 0 ≤ v5.toInt ∧ v5.toInt ≤ 71) {M : Mem} (h : J M) (acc : Int32) (ha : acc = 0 ∨ acc = 1) : ∃ x, iter (lb_Mod_gets_71 v2 v3 v5) FU (acc, (0 : Int32), M) = some x ∧ SE acc M x.1 x.2 := by
  refine iter_r (fun s : Int32 × Int32 × Mem => SE acc M s.1 s.2.2 ∧ (0 ≤ s.2.1.toInt ∧ s.2.1.toInt ≤ 4)) (fun s : Int32 × Int32 × Mem => (4 - s.2.1.toInt).toNat) _ ?_ FU _ ⟨SE_r h ha, (by show (0 : Int) ≤ (0 : Int32).toInt ∧ (0 : Int32).toInt ≤ 4; decide)⟩ (by show (4 - (0 : Int)).toNat < FU; rw [FU_v]; decide)
  rintro ⟨a, k, N⟩ ⟨i1, i2⟩
  dsimp only at i1 i2
  have c4 : (4 : Int32).toInt = 4 := rfl
  unfold lb_Mod_gets_71
  dsimp only
  refine if_i (fun c => ⟨_, rfl, i1⟩) (fun c => ?_)
  have d := nlei.mp c
  have ek : (k + (1 : Int32)).toInt = k.toInt + 1 := add_ti rfl rfl (by omega) (by omega)
  refine bind_i (sf_Mod_go 163 v5 k N St_163 h5 i1.1) (fun x6 _ q6 => bind_i (sp_enter i1.1 x6 v3 q6 a i1.2.2.1) (fun x7 _ q7 => ⟨_, rfl, ⟨SE_t i1 q7, ?_⟩, ?_⟩))
  · show 0 ≤ (k + (1 : Int32)).toInt ∧ (k + (1 : Int32)).toInt ≤ 4; omega
  · show (4 - (k + (1 : Int32)).toInt).toNat < (4 - k.toInt).toNat; omega
theorem sl_gets48 (v2 v3 : Int32) {M : Mem} (h : J M) : ∃ x, iter (lb_Mod_gets_48 v2 v3) FU ((0 : Int32), (0 : Int32), M) = some x ∧ SE 0 M x.1 x.2 := by
  refine iter_r (fun s : Int32 × Int32 × Mem => SE 0 M s.1 s.2.2 ∧ (0 ≤ s.2.1.toInt ∧ s.2.1.toInt ≤ 72)) (fun s : Int32 × Int32 × Mem => (72 - s.2.1.toInt).toNat) _ ?_ FU _ ⟨SE_r h (.inl rfl), (by show (0 : Int) ≤ (0 : Int32).toInt ∧ (0 : Int32).toInt ≤ 72; decide)⟩ (by show (72 - (0 : Int)).toNat < FU; rw [FU_v]; decide)
  rintro ⟨a, k, N⟩ ⟨i1, i2⟩
  dsimp only at i1 i2
  have c72 : (72 : Int32).toInt = 72 := rfl
  unfold lb_Mod_gets_48 f_Mod_cellOf f_Mod_levelOf f_Mod_placeOf
  dsimp only
  refine if_i (fun c => ⟨_, rfl, i1⟩) (fun c => ?_)
  have d := nlei.mp c
  have ek : (k + (1 : Int32)).toInt = k.toInt + 1 := add_ti rfl rfl (by omega) (by omega)
  have rm : (k - k / (36 : Int32) * (36 : Int32)).toInt = k.toInt % 36 := rem_ti rfl rfl i2.1 (by decide)
  have dv : (k / (36 : Int32)).toInt = k.toInt / 36 := div_ti rfl rfl i2.1 (by decide)
  have s1 : ((1 : Int32) - k / (36 : Int32)).toInt = 1 - k.toInt / 36 := sub_ti rfl dv (by omega) (by omega)
  have m1 : ((36 : Int32) * ((1 : Int32) - k / (36 : Int32))).toInt = 36 * (1 - k.toInt / 36) := mul_ti rfl s1 (by omega) (by omega)
  have m2 : (((36 : Int32) * ((1 : Int32) - k / (36 : Int32))) + (k - k / (36 : Int32) * (36 : Int32))).toInt = 36 * (1 - k.toInt / 36) + k.toInt % 36 := add_ti m1 rm (by omega) (by omega)
  have on : ∀ (b : Int32) (K : Mem), SE 0 M b K → LPq (fun s : Int32 × Int32 × Mem => SE 0 M s.1 s.2.2 ∧ (0 ≤ s.2.1.toInt ∧ s.2.1.toInt ≤ 72)) (fun s : Int32 × Int32 × Mem => (72 - s.2.1.toInt).toNat) (fun x : Int32 × Mem => SE 0 M x.1 x.2) (72 - k.toInt).toNat (.inl (b, k + (1 : Int32), K)) := by
    intro b K hK
    refine ⟨⟨hK, ?_⟩, ?_⟩
    · show 0 ≤ (k + (1 : Int32)).toInt ∧ (k + (1 : Int32)).toInt ≤ 72; omega
    · show (72 - (k + (1 : Int32)).toInt).toNat < (72 - k.toInt).toNat; omega
  refine inb_i i2.1 (by omega) (if_i (fun _ => ⟨_, rfl, on a N i1⟩) (fun _ => ?_))
  refine bind_i (sl_gets71 v2 v3 k ⟨i2.1, by omega⟩ i1.1 a i1.2.2.1) (fun x9 _ q9 => ?_)
  have S9 := SE_t i1 q9
  rw [Option.bind_some]
  refine inb_i (by omega) (by omega) (if_i (fun _ => ?_) (fun _ => ⟨_, rfl, on _ _ S9⟩))
  rw [Option.bind_some, Option.bind_some, Option.bind_some]
  exact bind_i (sp_enter S9.1 _ v3 (by omega) x9.1 S9.2.2.1) (fun x14 _ q14 => ⟨_, rfl, on _ _ (SE_t S9 q14)⟩)
theorem sl_gets3 (v1 v2 v3 : Int32) {M : Mem} (h : J M) : ∃ x, iter (lb_Mod_gets_3 v1 v2 v3) FU ((0 : Int32), M) = some x ∧ (J x ∧ Gd 1000 M x) := by
  refine cnt_r _ (fun _ N => J N ∧ Gd 1000 M N) 72 (by decide) ?_ M ⟨h, Gd_r⟩ (by decide)
  intro k N k0 k1 hI
  have c72 : (72 : Int32).toInt = 72 := rfl
  unfold lb_Mod_gets_3
  dsimp only
  refine if_i (fun c => ⟨_, rfl, .inl ⟨_, rfl, hI⟩⟩) (fun c => ?_)
  have d := nlei.mp c
  refine if_i (fun _ => inb_i k0 (by omega) (mem_i (fun m e => ⟨_, rfl, .inr ⟨by omega, m, rfl, ?_, Gd_any hI.2 e (by decide)⟩⟩))) (fun _ => inb_i k0 (by omega) (mem_i (fun m e => ⟨_, rfl, .inr ⟨by omega, m, rfl, ?_, Gd_any hI.2 e (by decide)⟩⟩)))
  all_goals (rw [e]; exact Jw_186 hI.1 _ _ (nar01 _).1 (nar01 _).2)
theorem sf_Mod_gets (v1 : Int32) (v2 : Int32) (v3 : Int32) (M : Mem) (hp_v1 : (0 : Int) ≤ v1.toInt ∧ v1.toInt ≤ (71 : Int)) (hp_v2 : (0 : Int) ≤ v2.toInt ∧ v2.toInt ≤ (71 : Int)) (hJ : J M) : ∃ r : Int32 × Mem, f_Mod_gets v1 v2 v3 M = some r ∧ (J r.2 ∧ Gd 1000 M r.2 ∧ (0 : Int) ≤ r.1.toInt ∧ r.1.toInt ≤ (1 : Int)) := by
  have hl : ∀ N : Mem, J N → ∃ x, iter (lb_Mod_gets_37 v2 v3) FU ((1 : Int32), N) = some x ∧ (J x ∧ Gd 1000 N x) := by
    intro N hN
    have b := mu_bd N
    refine iter_r (fun s : Int32 × Mem => J s.2 ∧ Gd 1000 N s.2) (fun s : Int32 × Mem => (2 * mu s.2 + (if s.1 = 0 then 0 else 1)).toNat) _ ?_ FU _ ⟨hN, Gd_r⟩ (by show (2 * mu N + (if (1 : Int32) = 0 then 0 else 1)).toNat < FU; rw [FU_v, if_neg (by decide)]; omega)
    rintro ⟨a, K⟩ ⟨i1, i2⟩
    dsimp only at i1 i2
    unfold lb_Mod_gets_37
    dsimp only
    refine if_i (fun c => ⟨_, rfl, i1, i2⟩) (fun c => ?_)
    have b := mu_bd K
    refine bind_i (sl_gets48 v2 v3 i1) (fun x _ q => ⟨_, rfl, ⟨q.1, Gd_t i2 q.2.1⟩, ?_⟩)
    obtain ⟨-, -, -, s4, s5⟩ := q
    have b2 := mu_bd x.2
    show (2 * mu x.2 + (if x.1 = 0 then 0 else 1)).toNat < (2 * mu K + (if a = 0 then 0 else 1)).toNat
    rw [if_neg c]
    by_cases e : x.1 = 0
    · rw [if_pos e]; omega
    · rw [if_neg e]
      rcases s5 e with u | u
      · exact absurd rfl u
      · omega
  unfold f_Mod_gets
  refine bind_i (sl_gets3 v1 v2 v3 hJ) (fun x5 _ q5 => bind_i (hl x5 q5.1) (fun x20 _ q => inb_i hp_v2.1 (by omega) ?_))
  have r := Jr_186 q.1 v2.toNatClampNeg
  exact c_i (bool_of r.1 r.2) ⟨_, rfl, q.1, Gd_t q5.2 q.2, r.1, r.2⟩
theorem sl_Mod_watch_32 (v1 : Int32) (v2 : Int32) (v3 : Int32) (v4 : Int32) (a0_ : Int32) (a1_ : Int32) (N_ : Mem) (B_ : Mem) (hp_v1 : (0 : Int) ≤ v1.toInt ∧ v1.toInt ≤ (35 : Int)) (hp_v2 : (0 : Int) ≤ v2.toInt ∧ v2.toInt ≤ (1 : Int)) (hp_v3 : (0 : Int) ≤ v3.toInt ∧ v3.toInt ≤ (35 : Int)) (hp_v4 : (0 : Int) ≤ v4.toInt ∧ v4.toInt ≤ (1 : Int)) (hN : J N_) (hG : Gd 1000 B_ N_) (i2_ : (-1 : Int) ≤ a0_.toInt) (i3_ : a0_.toInt ≤ (255 : Int)) (i4_ : (0 : Int) ≤ a1_.toInt) (i5_ : a1_.toInt ≤ (256 : Int)) : ∃ x, iter (lb_Mod_watch_32 v1 v2 v3 v4) FU (a0_, a1_, N_) = some x ∧ (fun r : Int32 × Mem => J r.2 ∧ Gd 1000 B_ r.2 ∧ (-1 : Int) ≤ r.1.toInt ∧ r.1.toInt ≤ (255 : Int)) x := by
  refine iter_r (fun s : Int32 × Int32 × Mem => J s.2.2 ∧ Gd 1000 B_ s.2.2 ∧ (-1 : Int) ≤ s.1.toInt ∧ s.1.toInt ≤ (255 : Int) ∧ (0 : Int) ≤ s.2.1.toInt ∧ s.2.1.toInt ≤ (256 : Int)) (fun s : Int32 × Int32 × Mem => (256 - s.2.1.toInt).toNat) (fun r : Int32 × Mem => J r.2 ∧ Gd 1000 B_ r.2 ∧ (-1 : Int) ≤ r.1.toInt ∧ r.1.toInt ≤ (255 : Int)) ?_ FU (a0_, a1_, N_) ⟨hN, hG, i2_, i3_, i4_, i5_⟩ (by show (256 - a1_.toInt).toNat < FU; rw [FU_v]; omega)
  clear i5_ i4_ i3_ i2_ hG hN
  rintro ⟨a0_', a1_', N_'⟩ ⟨hN, hG, i2_, i3_, i4_, i5_⟩
  dsimp only at hN hG i2_ i3_ i4_ i5_
  unfold lb_Mod_watch_32
  dsimp only
  refine if_i (fun c => ?_) (fun c => ?_)
  · have c1 := c
    have r2 := Jr_162_4 hN
    have q3 := shl8 (s := (N_'.1 162 4)) (by omega) (by omega)
    have d4 : ((1 : Int32) <<< ((N_'.1 162 4) &&& 31)).toInt ≤ a1_'.toInt := lei.mp c1
    exact ⟨_, rfl, hN, hG, (show (-1 : Int) ≤ a0_'.toInt by omega), (show a0_'.toInt ≤ (255 : Int) by omega)⟩
  · have c5 := c
    have r6 := Jr_162_4 hN
    have q7 := shl8 (s := (N_'.1 162 4)) (by omega) (by omega)
    have d8 : a1_'.toInt < ((1 : Int32) <<< ((N_'.1 162 4) &&& 31)).toInt := nlei.mp c5
    refine if_i (fun c => ?_) (fun c => ?_)
    · have c9 := c
      have d10 : a0_'.toInt = (-1 : Int) := eqi.mp c9
      unfold j_Mod_watch_65_32
      refine bind_e (show (f_Mod_placeOf v2 v1) = some (((36 : Int32) * v2) + v1) from rfl) ?_
      refine bind_e (show (f_Mod_placeOf v4 v3) = some (((36 : Int32) * v4) + v3) from rfl) ?_
      have q11 : ((36 : Int32) * v2).toInt = (36 : Int) * v2.toInt := mul_ti rfl rfl (by omega) (by omega)
      have q12 : (((36 : Int32) * v2) + v1).toInt = ((36 : Int32) * v2).toInt + v1.toInt := add_ti rfl rfl (by omega) (by omega)
      have q13 : ((36 : Int32) * v4).toInt = (36 : Int) * v4.toInt := mul_ti rfl rfl (by omega) (by omega)
      have q14 : (((36 : Int32) * v4) + v3).toInt = ((36 : Int32) * v4).toInt + v3.toInt := add_ti rfl rfl (by omega) (by omega)
      refine bind_i (sf_Mod_gets (((36 : Int32) * v2) + v1) (((36 : Int32) * v4) + v3) a1_' N_' (⟨show (0 : Int) ≤ (((36 : Int32) * v2) + v1).toInt by omega, show (((36 : Int32) * v2) + v1).toInt ≤ (71 : Int) by omega⟩) (⟨show (0 : Int) ≤ (((36 : Int32) * v4) + v3).toInt by omega, show (((36 : Int32) * v4) + v3).toInt ≤ (71 : Int) by omega⟩) hN) (fun x6 _ q => ?_)
      obtain ⟨h15, h16, h17, h18⟩ := q
      have hG19 : Gd 1000 B_ x6.2 := Gd_t hG h16
      refine if_i (fun c => ?_) (fun c => ?_)
      · have c20 := c
        have d21 : x6.1.toInt = (0 : Int) := eqi.mp c20
        have q22 : (a1_' + (1 : Int32)).toInt = a1_'.toInt + (1 : Int) := add_ti rfl rfl (by omega) (by omega)
        exact ⟨_, rfl, ⟨h15, hG19, (show (-1 : Int) ≤ a1_'.toInt by omega), (show a1_'.toInt ≤ (255 : Int) by omega), (show (0 : Int) ≤ (a1_' + (1 : Int32)).toInt by omega), (show (a1_' + (1 : Int32)).toInt ≤ (256 : Int) by omega)⟩, show (256 - (a1_' + (1 : Int32)).toInt).toNat < (256 - a1_'.toInt).toNat by omega⟩
      · have c23 := c
        have d24 : ¬ x6.1.toInt = (0 : Int) := neqi.mp c23
        have q25 : (a1_' + (1 : Int32)).toInt = a1_'.toInt + (1 : Int) := add_ti rfl rfl (by omega) (by omega)
        exact ⟨_, rfl, ⟨h15, hG19, (show (-1 : Int) ≤ a0_'.toInt by omega), (show a0_'.toInt ≤ (255 : Int) by omega), (show (0 : Int) ≤ (a1_' + (1 : Int32)).toInt by omega), (show (a1_' + (1 : Int32)).toInt ≤ (256 : Int) by omega)⟩, show (256 - (a1_' + (1 : Int32)).toInt).toNat < (256 - a1_'.toInt).toNat by omega⟩
    · have c26 := c
      have d27 : ¬ a0_'.toInt = (-1 : Int) := neqi.mp c26
      refine bind_i (sf_JInteger_bitCount a1_') (fun x8 _ q => ?_)
      obtain ⟨h28, h29⟩ := q
      refine bind_i (sf_JInteger_bitCount a0_') (fun x9 _ q => ?_)
      obtain ⟨h30, h31⟩ := q
      refine if_i (fun c => ?_) (fun c => ?_)
      · have c32 := c
        have d33 : x8.toInt < x9.toInt := lti.mp c32
        unfold j_Mod_watch_65_32
        refine bind_e (show (f_Mod_placeOf v2 v1) = some (((36 : Int32) * v2) + v1) from rfl) ?_
        refine bind_e (show (f_Mod_placeOf v4 v3) = some (((36 : Int32) * v4) + v3) from rfl) ?_
        have q34 : ((36 : Int32) * v2).toInt = (36 : Int) * v2.toInt := mul_ti rfl rfl (by omega) (by omega)
        have q35 : (((36 : Int32) * v2) + v1).toInt = ((36 : Int32) * v2).toInt + v1.toInt := add_ti rfl rfl (by omega) (by omega)
        have q36 : ((36 : Int32) * v4).toInt = (36 : Int) * v4.toInt := mul_ti rfl rfl (by omega) (by omega)
        have q37 : (((36 : Int32) * v4) + v3).toInt = ((36 : Int32) * v4).toInt + v3.toInt := add_ti rfl rfl (by omega) (by omega)
        refine bind_i (sf_Mod_gets (((36 : Int32) * v2) + v1) (((36 : Int32) * v4) + v3) a1_' N_' (⟨show (0 : Int) ≤ (((36 : Int32) * v2) + v1).toInt by omega, show (((36 : Int32) * v2) + v1).toInt ≤ (71 : Int) by omega⟩) (⟨show (0 : Int) ≤ (((36 : Int32) * v4) + v3).toInt by omega, show (((36 : Int32) * v4) + v3).toInt ≤ (71 : Int) by omega⟩) hN) (fun x6 _ q => ?_)
        obtain ⟨h38, h39, h40, h41⟩ := q
        have hG42 : Gd 1000 B_ x6.2 := Gd_t hG h39
        refine if_i (fun c => ?_) (fun c => ?_)
        · have c43 := c
          have d44 : x6.1.toInt = (0 : Int) := eqi.mp c43
          have q45 : (a1_' + (1 : Int32)).toInt = a1_'.toInt + (1 : Int) := add_ti rfl rfl (by omega) (by omega)
          exact ⟨_, rfl, ⟨h38, hG42, (show (-1 : Int) ≤ a1_'.toInt by omega), (show a1_'.toInt ≤ (255 : Int) by omega), (show (0 : Int) ≤ (a1_' + (1 : Int32)).toInt by omega), (show (a1_' + (1 : Int32)).toInt ≤ (256 : Int) by omega)⟩, show (256 - (a1_' + (1 : Int32)).toInt).toNat < (256 - a1_'.toInt).toNat by omega⟩
        · have c46 := c
          have d47 : ¬ x6.1.toInt = (0 : Int) := neqi.mp c46
          have q48 : (a1_' + (1 : Int32)).toInt = a1_'.toInt + (1 : Int) := add_ti rfl rfl (by omega) (by omega)
          exact ⟨_, rfl, ⟨h38, hG42, (show (-1 : Int) ≤ a0_'.toInt by omega), (show a0_'.toInt ≤ (255 : Int) by omega), (show (0 : Int) ≤ (a1_' + (1 : Int32)).toInt by omega), (show (a1_' + (1 : Int32)).toInt ≤ (256 : Int) by omega)⟩, show (256 - (a1_' + (1 : Int32)).toInt).toNat < (256 - a1_'.toInt).toNat by omega⟩
      · have c49 := c
        have d50 : x9.toInt ≤ x8.toInt := nlti.mp c49
        have q51 : (a1_' + (1 : Int32)).toInt = a1_'.toInt + (1 : Int) := add_ti rfl rfl (by omega) (by omega)
        exact ⟨_, rfl, ⟨hN, hG, (show (-1 : Int) ≤ a0_'.toInt by omega), (show a0_'.toInt ≤ (255 : Int) by omega), (show (0 : Int) ≤ (a1_' + (1 : Int32)).toInt by omega), (show (a1_' + (1 : Int32)).toInt ≤ (256 : Int) by omega)⟩, show (256 - (a1_' + (1 : Int32)).toInt).toNat < (256 - a1_'.toInt).toNat by omega⟩
theorem sf_Mod_watch (v1 : Int32) (v2 : Int32) (v3 : Int32) (v4 : Int32) (M : Mem) (hJ : J M) : ∃ r : Int32 × Mem, f_Mod_watch v1 v2 v3 v4 M = some r ∧ (J r.2 ∧ Gd 1000 M r.2 ∧ (-2 : Int) ≤ r.1.toInt ∧ r.1.toInt ≤ (63 : Int)) := by
  unfold f_Mod_watch
  refine mem_i (fun M1 e2 => ?_)
  have hJ3 : J M1 := by rw [e2]; exact Jw_fld okf_162_13 hJ (0 : Int32)
  have hG4 : Gd 1000 M M1 := Gd_i Gd_r e2 (by decide)
  have f5 : (M1.1 162 13).toInt = (0 : Int) := by rw [e2, si_eq]; rfl
  clear e2
  refine bind_i (sf_Mod_isPlaceOf v2 v1 M1 hJ3) (fun x2 e_x2 q => ?_)
  obtain ⟨h6, h7, h8, h9⟩ := q
  refine if_i (fun c => ?_) (fun c => ?_)
  · have c10 := c
    have d11 : x2.toInt = (0 : Int) := eqi.mp c10
    exact ⟨((-1 : Int32), M1), rfl, hJ3, hG4, (show (-2 : Int) ≤ (-1 : Int32).toInt by decide), (show (-1 : Int32).toInt ≤ (63 : Int) by decide)⟩
  · have c12 := c
    have d13 : ¬ x2.toInt = (0 : Int) := neqi.mp c12
    refine bind_i (sf_Mod_isPlaceOf v4 v3 M1 hJ3) (fun x3 e_x3 q => ?_)
    obtain ⟨h14, h15, h16, h17⟩ := q
    refine if_i (fun c => ?_) (fun c => ?_)
    · have c18 := c
      have d19 : x3.toInt = (0 : Int) := eqi.mp c18
      exact ⟨((-1 : Int32), M1), rfl, hJ3, hG4, (show (-2 : Int) ≤ (-1 : Int32).toInt by decide), (show (-1 : Int32).toInt ≤ (63 : Int) by decide)⟩
    · have c20 := c
      have d21 : ¬ x3.toInt = (0 : Int) := neqi.mp c20
      refine bind_i (sl_Mod_watch_32 v1 v2 v3 v4 (-1 : Int32) (0 : Int32) M1 M (⟨show (0 : Int) ≤ v1.toInt by omega, show v1.toInt ≤ (35 : Int) by omega⟩) (⟨show (0 : Int) ≤ v2.toInt by omega, show v2.toInt ≤ (1 : Int) by omega⟩) (⟨show (0 : Int) ≤ v3.toInt by omega, show v3.toInt ≤ (35 : Int) by omega⟩) (⟨show (0 : Int) ≤ v4.toInt by omega, show v4.toInt ≤ (1 : Int) by omega⟩) hJ3 hG4 (show (-1 : Int) ≤ (-1 : Int32).toInt by decide) (show (-1 : Int32).toInt ≤ (255 : Int) by decide) (show (0 : Int) ≤ (0 : Int32).toInt by decide) (show (0 : Int32).toInt ≤ (256 : Int) by decide)) (fun x13 _ q => ?_)
      obtain ⟨h22, h23, h24, h25⟩ := q
      refine if_i (fun c => ?_) (fun c => ?_)
      · have c26 := c
        have d27 : x13.1.toInt = (-1 : Int) := eqi.mp c26
        exact ⟨((-2 : Int32), x13.2), rfl, h22, h23, (show (-2 : Int) ≤ (-2 : Int32).toInt by decide), (show (-2 : Int32).toInt ≤ (63 : Int) by decide)⟩
      · have c28 := c
        have d29 : ¬ x13.1.toInt = (-1 : Int) := neqi.mp c28
        refine mem_i (fun M14 e31 => ?_)
        have hJ32 : J M14 := by rw [e31]; exact Jw_162_12 h22 (0 : Int32) (show (0 : Int) ≤ (0 : Int32).toInt by decide) (show (0 : Int32).toInt ≤ (16 : Int) by decide)
        have hG33 : Gd 1000 M M14 := Gd_i h23 e31 (by decide)
        have f34 : (M14.1 162 12).toInt = (0 : Int) := by rw [e31, si_eq]; rfl
        clear e31
        refine bind_i (sf_Mod_put x13.1 M14 hJ32 (show (M14.1 162 12).toInt ≤ (15 : Int) by omega)) (fun x15 _ q => ?_)
        obtain ⟨h35, h36, h37⟩ := q
        have hG38 : Gd 1000 M x15 := Gd_t hG33 h36
        refine bind_i (sf_JInteger_bitCount x13.1) (fun x16 _ q => ?_)
        obtain ⟨h39, h40⟩ := q
        exact ⟨(x16, x15), rfl, h35, hG38, (show (-2 : Int) ≤ x16.toInt by omega), (show x16.toInt ≤ (63 : Int) by omega)⟩
theorem sl_Mod_count_130 (M : Mem) (a0_ : Int32) (a1_ : Int32) (hJ_M : J M) (i0_ : (0 : Int) ≤ a1_.toInt) (i1_ : a1_.toInt ≤ (8 : Int)) : ∃ x, iter (lb_Mod_count_130 M) FU (a0_, a1_) = some x ∧ (fun r : Int32 => True) x := by
  refine iter_r (fun s : Int32 × Int32 => (0 : Int) ≤ s.2.toInt ∧ s.2.toInt ≤ (8 : Int)) (fun s : Int32 × Int32 => (8 - s.2.toInt).toNat) (fun r : Int32 => True) ?_ FU (a0_, a1_) ⟨i0_, i1_⟩ (by show (8 - a1_.toInt).toNat < FU; rw [FU_v]; omega)
  clear i1_ i0_
  rintro ⟨a0_', a1_'⟩ ⟨i0_, i1_⟩
  dsimp only at i0_ i1_
  unfold lb_Mod_count_130
  dsimp only
  refine if_i (fun c => ?_) (fun c => ?_)
  · have c1 := c
    have r2 := Jr_162_4 hJ_M
    have d3 : (M.1 162 4).toInt ≤ a1_'.toInt := lei.mp c1
    exact ⟨_, rfl, trivial⟩
  · have c4 := c
    have r5 := Jr_162_4 hJ_M
    have d6 : a1_'.toInt < (M.1 162 4).toInt := nlei.mp c4
    refine bind_i (sf_Mod_meetingsOf a1_' M (⟨show (0 : Int) ≤ a1_'.toInt by omega, show a1_'.toInt ≤ (7 : Int) by omega⟩) hJ_M) (fun x11 e_x11 q => ?_)
    have q7 : (a1_' + (1 : Int32)).toInt = a1_'.toInt + (1 : Int) := add_ti rfl rfl (by omega) (by omega)
    exact ⟨_, rfl, ⟨(show (0 : Int) ≤ (a1_' + (1 : Int32)).toInt by omega), (show (a1_' + (1 : Int32)).toInt ≤ (8 : Int) by omega)⟩, show (8 - (a1_' + (1 : Int32)).toInt).toNat < (8 - a1_'.toInt).toNat by omega⟩
theorem sf_Mod_count (v1 : Int32) (M : Mem) (hJ : J M) : ∃ r : Int32 × Mem, f_Mod_count v1 M = some r ∧ (J r.2 ∧ Gd 1000 M r.2) := by
  unfold f_Mod_count
  refine mem_i (fun M1 e2 => ?_)
  have hJ3 : J M1 := by rw [e2]; exact Jw_fld okf_162_13 hJ (0 : Int32)
  have hG4 : Gd 1000 M M1 := Gd_i Gd_r e2 (by decide)
  have f5 : (M1.1 162 13).toInt = (0 : Int) := by rw [e2, si_eq]; rfl
  clear e2
  refine if_i (fun c => ?_) (fun c => ?_)
  · have c6 := c
    have d7 : v1.toInt = (0 : Int) := eqi.mp c6
    refine bind_e (show (f_Mod_cells M1) = some ((M1.1 162 2) * (M1.1 162 3)) from rfl) ?_
    exact ⟨(((M1.1 162 2) * (M1.1 162 3)), M1), rfl, hJ3, hG4⟩
  · have c8 := c
    have d9 : ¬ v1.toInt = (0 : Int) := neqi.mp c8
    refine if_i (fun c => ?_) (fun c => ?_)
    · have c10 := c
      have d11 : v1.toInt = (1 : Int) := eqi.mp c10
      exact ⟨((M1.1 162 2), M1), rfl, hJ3, hG4⟩
    · have c12 := c
      have d13 : ¬ v1.toInt = (1 : Int) := neqi.mp c12
      refine if_i (fun c => ?_) (fun c => ?_)
      · have c14 := c
        have d15 : v1.toInt = (2 : Int) := eqi.mp c14
        exact ⟨((M1.1 162 4), M1), rfl, hJ3, hG4⟩
      · have c16 := c
        have d17 : ¬ v1.toInt = (2 : Int) := neqi.mp c16
        refine if_i (fun c => ?_) (fun c => ?_)
        · have c18 := c
          have d19 : v1.toInt = (3 : Int) := eqi.mp c18
          exact ⟨((M1.1 163 (95 : Int32).toNatClampNeg), M1), rfl, hJ3, hG4⟩
        · have c20 := c
          have d21 : ¬ v1.toInt = (3 : Int) := neqi.mp c20
          refine if_i (fun c => ?_) (fun c => ?_)
          · have c22 := c
            have d23 : v1.toInt = (4 : Int) := eqi.mp c22
            exact ⟨((M1.1 163 (92 : Int32).toNatClampNeg), M1), rfl, hJ3, hG4⟩
          · have c24 := c
            have d25 : ¬ v1.toInt = (4 : Int) := neqi.mp c24
            refine if_i (fun c => ?_) (fun c => ?_)
            · have c26 := c
              have d27 : v1.toInt = (5 : Int) := eqi.mp c26
              exact ⟨((M1.1 162 5), M1), rfl, hJ3, hG4⟩
            · have c28 := c
              have d29 : ¬ v1.toInt = (5 : Int) := neqi.mp c28
              refine if_i (fun c => ?_) (fun c => ?_)
              · have c30 := c
                have d31 : v1.toInt = (6 : Int) := eqi.mp c30
                exact ⟨((M1.1 163 (93 : Int32).toNatClampNeg), M1), rfl, hJ3, hG4⟩
              · have c32 := c
                have d33 : ¬ v1.toInt = (6 : Int) := neqi.mp c32
                refine if_i (fun c => ?_) (fun c => ?_)
                · have c34 := c
                  have d35 : v1.toInt = (7 : Int) := eqi.mp c34
                  exact ⟨((M1.1 163 (94 : Int32).toNatClampNeg), M1), rfl, hJ3, hG4⟩
                · have c36 := c
                  have d37 : ¬ v1.toInt = (7 : Int) := neqi.mp c36
                  refine if_i (fun c => ?_) (fun c => ?_)
                  · have c38 := c
                    have d39 : v1.toInt = (8 : Int) := eqi.mp c38
                    refine bind_i (sl_Mod_count_130 M1 (0 : Int32) (0 : Int32) hJ3 (show (0 : Int) ≤ (0 : Int32).toInt by decide) (show (0 : Int32).toInt ≤ (8 : Int) by decide)) (fun x13 _ q => ?_)
                    exact ⟨((x13 / (2 : Int32)), M1), rfl, hJ3, hG4⟩
                  · have c40 := c
                    have d41 : ¬ v1.toInt = (8 : Int) := neqi.mp c40
                    refine if_i (fun c => ?_) (fun c => ?_)
                    · have c42 := c
                      have d43 : v1.toInt = (9 : Int) := eqi.mp c42
                      exact ⟨((M1.1 162 8), M1), rfl, hJ3, hG4⟩
                    · have c44 := c
                      have d45 : ¬ v1.toInt = (9 : Int) := neqi.mp c44
                      refine if_i (fun c => ?_) (fun c => ?_)
                      · have c46 := c
                        have d47 : v1.toInt = (10 : Int) := eqi.mp c46
                        exact ⟨((M1.1 162 27), M1), rfl, hJ3, hG4⟩
                      · have c48 := c
                        have d49 : ¬ v1.toInt = (10 : Int) := neqi.mp c48
                        refine if_i (fun c => ?_) (fun c => ?_)
                        · have c50 := c
                          have d51 : v1.toInt = (11 : Int) := eqi.mp c50
                          exact ⟨((M1.1 162 12), M1), rfl, hJ3, hG4⟩
                        · have c52 := c
                          have d53 : ¬ v1.toInt = (11 : Int) := neqi.mp c52
                          refine if_i (fun c => ?_) (fun c => ?_)
                          · have c54 := c
                            have d55 : v1.toInt = (12 : Int) := eqi.mp c54
                            exact ⟨((M1.1 162 10), M1), rfl, hJ3, hG4⟩
                          · have c56 := c
                            have d57 : ¬ v1.toInt = (12 : Int) := neqi.mp c56
                            exact ⟨((-100 : Int32), M1), rfl, hJ3, hG4⟩
theorem sf_Mod_row (v1 : Int32) (M : Mem) (hJ : J M) : ∃ r : Int32 × Mem, f_Mod_row v1 M = some r ∧ (J r.2 ∧ Gd 1000 M r.2) := by
  unfold f_Mod_row
  refine mem_i (fun M1 e2 => ?_)
  have hJ3 : J M1 := by rw [e2]; exact Jw_fld okf_162_13 hJ (0 : Int32)
  have hG4 : Gd 1000 M M1 := Gd_i Gd_r e2 (by decide)
  have f5 : (M1.1 162 13).toInt = (0 : Int) := by rw [e2, si_eq]; rfl
  clear e2
  have r6 := Jr_162_12 hJ3
  have q7 : ((M1.1 162 12) - (1 : Int32)).toInt = (M1.1 162 12).toInt - (1 : Int) := sub_ti rfl rfl (by omega) (by omega)
  refine bind_i (sf_Mod_in v1 (0 : Int32) ((M1.1 162 12) - (1 : Int32))) (fun x2 _ q => ?_)
  obtain ⟨h8, h9, h10⟩ := q
  replace h10 : ¬ x2.toInt = 0 → (0 : Int) ≤ v1.toInt ∧ v1.toInt ≤ ((M1.1 162 12) - (1 : Int32)).toInt := h10
  refine if_i (fun c => ?_) (fun c => ?_)
  · have c11 := c
    have d12 : x2.toInt = (0 : Int) := eqi.mp c11
    refine bind_i (sf_Mod_lost M1 hJ3) (fun x3 _ q => ?_)
    obtain ⟨h13, h14, h15, h16⟩ := q
    have hG17 : Gd 1000 M x3.2 := Gd_t hG4 h14
    exact ⟨(x3.1, x3.2), rfl, h13, hG17⟩
  · have c18 := c
    have d19 : ¬ x2.toInt = (0 : Int) := neqi.mp c18
    refine inb_i (by omega) (by omega) ?_
    exact ⟨((M1.1 168 v1.toNatClampNeg), M1), rfl, hJ3, hG4⟩
