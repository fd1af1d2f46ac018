section
/-! safety of the reference, 7 -/
theorem sl_Mod_goThief_126  (a0_ : Int32) (a1_ : Int32) (N_ : Mem) (B_ : Mem) (hN : J N_) (hG : Gd 1000 B_ N_) (i2_ : (0 : Int) ≤ a0_.toInt) (i3_ : a0_.toInt ≤ (1 : Int)) (i4_ : (0 : Int) ≤ a1_.toInt) (i5_ : a1_.toInt ≤ (72 : Int)) : ∃ x, iter (lb_Mod_goThief_126) FU (a0_, a1_, N_) = some x ∧ (fun r : Int32 × Mem => J r.2 ∧ Gd 1000 B_ r.2 ∧ (0 : Int) ≤ r.1.toInt ∧ r.1.toInt ≤ (1 : Int)) x := by
  refine iter_r (fun s : Int32 × Int32 × Mem => J s.2.2 ∧ Gd 1000 B_ s.2.2 ∧ (0 : Int) ≤ s.1.toInt ∧ s.1.toInt ≤ (1 : Int) ∧ (0 : Int) ≤ s.2.1.toInt ∧ s.2.1.toInt ≤ (72 : Int)) (fun s : Int32 × Int32 × Mem => (72 - s.2.1.toInt).toNat) (fun r : Int32 × Mem => J r.2 ∧ Gd 1000 B_ r.2 ∧ (0 : Int) ≤ r.1.toInt ∧ r.1.toInt ≤ (1 : Int)) ?_ FU (a0_, a1_, N_) ⟨hN, hG, i2_, i3_, i4_, i5_⟩ (by show (72 - a1_.toInt).toNat < FU; rw [FU_v]; omega)
  clear i5_ i4_ i3_ i2_ hG hN
  rintro ⟨a0_', a1_', N_'⟩ ⟨hN, hG, i2_, i3_, i4_, i5_⟩
  dsimp only at hN hG i2_ i3_ i4_ i5_
  unfold lb_Mod_goThief_126
  dsimp only
  refine if_i (fun c => ?_) (fun c => ?_)
  · have c1 := c
    have d2 : (72 : Int) ≤ a1_'.toInt := lei.mp c1
    exact ⟨_, rfl, hN, hG, (show (0 : Int) ≤ a0_'.toInt by omega), (show a0_'.toInt ≤ (1 : Int) by omega)⟩
  · have c3 := c
    have d4 : a1_'.toInt < (72 : Int) := nlei.mp c3
    refine inb_i (by omega) (by omega) ?_
    refine if_i (fun c => ?_) (fun c => ?_)
    · have c5 := c
      have r6 := Jr_187 hN a1_'.toNatClampNeg
      have d7 : (N_'.1 187 a1_'.toNatClampNeg).toInt = (0 : Int) := eqi.mp c5
      unfold j_Mod_goThief_163_126
      refine inb_i (by omega) (by omega) ?_
      have q9 := nar01 (0 : Int32)
      refine mem_i (fun M19 e10 => ?_)
      have hJ11 : J M19 := by rw [e10]; exact Jw_186 hN a1_'.toNatClampNeg (vp_nar .boolean (0 : Int32)) (show (0 : Int) ≤ (vp_nar .boolean (0 : Int32)).toInt by omega) (show (vp_nar .boolean (0 : Int32)).toInt ≤ (1 : Int) by omega)
      have hG12 : Gd 1000 B_ M19 := Gd_any hG e10 (by decide)
      have f13 : (M19.1 187 a1_'.toNatClampNeg).toInt = (N_'.1 187 a1_'.toNatClampNeg).toInt := by rw [e10]; rw [si_ne (by exact fun e => absurd e.1 (by decide))]
      clear e10
      refine inb_i (by omega) (by omega) ?_
      have r14 := Jr_186 hJ11 a1_'.toNatClampNeg
      have q15 := or01 (a := a0_') (b := (M19.1 186 a1_'.toNatClampNeg)) (by omega) (by omega) (by omega) (by omega)
      have q16 : (a1_' + (1 : Int32)).toInt = a1_'.toInt + (1 : Int) := add_ti rfl rfl (by omega) (by omega)
      exact ⟨_, rfl, ⟨hJ11, hG12, (show (0 : Int) ≤ (a0_' ||| (M19.1 186 a1_'.toNatClampNeg)).toInt by omega), (show (a0_' ||| (M19.1 186 a1_'.toNatClampNeg)).toInt ≤ (1 : Int) by omega), (show (0 : Int) ≤ (a1_' + (1 : Int32)).toInt by omega), (show (a1_' + (1 : Int32)).toInt ≤ (72 : Int) by omega)⟩, show (72 - (a1_' + (1 : Int32)).toInt).toNat < (72 - a1_'.toInt).toNat by omega⟩
    · have c17 := c
      have r18 := Jr_187 hN a1_'.toNatClampNeg
      have d19 : ¬ (N_'.1 187 a1_'.toNatClampNeg).toInt = (0 : Int) := neqi.mp c17
      refine bind_i (sf_Mod_onPlace 176 a1_' N_' St_176 hN) (fun x20 e_x20 q => ?_)
      refine if_i (fun c => ?_) (fun c => ?_)
      · have c20 := c
        have d21 : x20.toInt = (0 : Int) := eqi.mp c20
        unfold j_Mod_goThief_163_126
        refine inb_i (by omega) (by omega) ?_
        have q23 := nar01 (1 : Int32)
        refine mem_i (fun M19 e24 => ?_)
        have hJ25 : J M19 := by rw [e24]; exact Jw_186 hN a1_'.toNatClampNeg (vp_nar .boolean (1 : Int32)) (show (0 : Int) ≤ (vp_nar .boolean (1 : Int32)).toInt by omega) (show (vp_nar .boolean (1 : Int32)).toInt ≤ (1 : Int) by omega)
        have hG26 : Gd 1000 B_ M19 := Gd_any hG e24 (by decide)
        have f27 : (M19.1 187 a1_'.toNatClampNeg).toInt = (N_'.1 187 a1_'.toNatClampNeg).toInt := by rw [e24]; rw [si_ne (by exact fun e => absurd e.1 (by decide))]
        clear e24
        refine inb_i (by omega) (by omega) ?_
        have r28 := Jr_186 hJ25 a1_'.toNatClampNeg
        have q29 := or01 (a := a0_') (b := (M19.1 186 a1_'.toNatClampNeg)) (by omega) (by omega) (by omega) (by omega)
        have q30 : (a1_' + (1 : Int32)).toInt = a1_'.toInt + (1 : Int) := add_ti rfl rfl (by omega) (by omega)
        exact ⟨_, rfl, ⟨hJ25, hG26, (show (0 : Int) ≤ (a0_' ||| (M19.1 186 a1_'.toNatClampNeg)).toInt by omega), (show (a0_' ||| (M19.1 186 a1_'.toNatClampNeg)).toInt ≤ (1 : Int) by omega), (show (0 : Int) ≤ (a1_' + (1 : Int32)).toInt by omega), (show (a1_' + (1 : Int32)).toInt ≤ (72 : Int) by omega)⟩, show (72 - (a1_' + (1 : Int32)).toInt).toNat < (72 - a1_'.toInt).toNat by omega⟩
      · have c31 := c
        have d32 : ¬ x20.toInt = (0 : Int) := neqi.mp c31
        unfold j_Mod_goThief_163_126
        refine inb_i (by omega) (by omega) ?_
        have q34 := nar01 (0 : Int32)
        refine mem_i (fun M19 e35 => ?_)
        have hJ36 : J M19 := by rw [e35]; exact Jw_186 hN a1_'.toNatClampNeg (vp_nar .boolean (0 : Int32)) (show (0 : Int) ≤ (vp_nar .boolean (0 : Int32)).toInt by omega) (show (vp_nar .boolean (0 : Int32)).toInt ≤ (1 : Int) by omega)
        have hG37 : Gd 1000 B_ M19 := Gd_any hG e35 (by decide)
        have f38 : (M19.1 187 a1_'.toNatClampNeg).toInt = (N_'.1 187 a1_'.toNatClampNeg).toInt := by rw [e35]; rw [si_ne (by exact fun e => absurd e.1 (by decide))]
        clear e35
        refine inb_i (by omega) (by omega) ?_
        have r39 := Jr_186 hJ36 a1_'.toNatClampNeg
        have q40 := or01 (a := a0_') (b := (M19.1 186 a1_'.toNatClampNeg)) (by omega) (by omega) (by omega) (by omega)
        have q41 : (a1_' + (1 : Int32)).toInt = a1_'.toInt + (1 : Int) := add_ti rfl rfl (by omega) (by omega)
        exact ⟨_, rfl, ⟨hJ36, hG37, (show (0 : Int) ≤ (a0_' ||| (M19.1 186 a1_'.toNatClampNeg)).toInt by omega), (show (a0_' ||| (M19.1 186 a1_'.toNatClampNeg)).toInt ≤ (1 : Int) by omega), (show (0 : Int) ≤ (a1_' + (1 : Int32)).toInt by omega), (show (a1_' + (1 : Int32)).toInt ≤ (72 : Int) by omega)⟩, show (72 - (a1_' + (1 : Int32)).toInt).toNat < (72 - a1_'.toInt).toNat by omega⟩
theorem sf_Mod_goThief (M : Mem) (hJ : J M) : ∃ r : Int32 × Mem, f_Mod_goThief M = some r ∧ (J r.2 ∧ Gd 1000 M r.2 ∧ (0 : Int) ≤ r.1.toInt ∧ r.1.toInt ≤ (1 : Int)) := by
  unfold f_Mod_goThief
  refine bind_i (sl_Mod_goThief_2  (0 : Int32) M M hJ Gd_r (show (0 : Int) ≤ (0 : Int32).toInt by decide) (show (0 : Int32).toInt ≤ (72 : Int) by decide)) (fun x3 _ q => ?_)
  obtain ⟨h1, h2⟩ := q
  refine bind_i (sl_Mod_goThief_23  (0 : Int32) x3 M h1 h2 (show (0 : Int) ≤ (0 : Int32).toInt by decide) (show (0 : Int32).toInt ≤ (72 : Int) by decide)) (fun x18 _ q => ?_)
  obtain ⟨h3, h4⟩ := q
  refine bind_i (sl_Mod_goThief_126  (0 : Int32) (0 : Int32) x18 M h3 h4 (show (0 : Int) ≤ (0 : Int32).toInt by decide) (show (0 : Int32).toInt ≤ (1 : Int) by decide) (show (0 : Int) ≤ (0 : Int32).toInt by decide) (show (0 : Int32).toInt ≤ (72 : Int) by decide)) (fun x24 _ q => ?_)
  obtain ⟨h5, h6, h7, h8⟩ := q
  refine c_i (bool_of (by omega) (by omega)) ?_
  exact ⟨(x24.1, x24.2), rfl, h5, h6, (show (0 : Int) ≤ x24.1.toInt by omega), (show x24.1.toInt ≤ (1 : Int) by omega)⟩
theorem sl_Mod_thiefIn_14 (v1 : Int32) (v2 : Int32) (a0_ : Int32) (N_ : Mem) (B_ : Mem) (hp_v1 : (0 : Int) ≤ v1.toInt ∧ v1.toInt ≤ (71 : Int)) (hp_v2 : (1 : Int) ≤ v2.toInt ∧ v2.toInt ≤ (30 : Int)) (hN : J N_) (hG : Gd 1000 B_ N_) (i2_ : (0 : Int) ≤ a0_.toInt) (i3_ : a0_.toInt ≤ (72 : Int)) : ∃ x, iter (lb_Mod_thiefIn_14 v1 v2) FU (a0_, N_) = some x ∧ (fun r : Mem => J r ∧ Gd 1000 B_ r) x := by
  refine iter_r (fun s : Int32 × Mem => J s.2 ∧ Gd 1000 B_ s.2 ∧ (0 : Int) ≤ s.1.toInt ∧ s.1.toInt ≤ (72 : Int)) (fun s : Int32 × Mem => (72 - s.1.toInt).toNat) (fun r : Mem => J r ∧ Gd 1000 B_ r) ?_ FU (a0_, N_) ⟨hN, hG, i2_, i3_⟩ (by show (72 - a0_.toInt).toNat < FU; rw [FU_v]; omega)
  clear i3_ i2_ hG hN
  rintro ⟨a0_', N_'⟩ ⟨hN, hG, i2_, i3_⟩
  dsimp only at hN hG i2_ i3_
  unfold lb_Mod_thiefIn_14
  dsimp only
  refine if_i (fun c => ?_) (fun c => ?_)
  · have c1 := c
    have d2 : (72 : Int) ≤ a0_'.toInt := lei.mp c1
    exact ⟨_, rfl, hN, hG⟩
  · have c3 := c
    have d4 : a0_'.toInt < (72 : Int) := nlei.mp c3
    refine if_i (fun c => ?_) (fun c => ?_)
    · have c5 := c
      have d6 : a0_'.toInt = v1.toInt := eqi.mp c5
      refine inb_i (by omega) (by omega) ?_
      have q8 := nar01 (1 : Int32)
      refine mem_i (fun M3 e9 => ?_)
      have hJ10 : J M3 := by rw [e9]; exact Jw_186 hN a0_'.toNatClampNeg (vp_nar .boolean (1 : Int32)) (show (0 : Int) ≤ (vp_nar .boolean (1 : Int32)).toInt by omega) (show (vp_nar .boolean (1 : Int32)).toInt ≤ (1 : Int) by omega)
      have hG11 : Gd 1000 B_ M3 := Gd_any hG e9 (by decide)
      clear e9
      have q12 : (a0_' + (1 : Int32)).toInt = a0_'.toInt + (1 : Int) := add_ti rfl rfl (by omega) (by omega)
      exact ⟨_, rfl, ⟨hJ10, hG11, (show (0 : Int) ≤ (a0_' + (1 : Int32)).toInt by omega), (show (a0_' + (1 : Int32)).toInt ≤ (72 : Int) by omega)⟩, show (72 - (a0_' + (1 : Int32)).toInt).toNat < (72 - a0_'.toInt).toNat by omega⟩
    · have c13 := c
      have d14 : ¬ a0_'.toInt = v1.toInt := neqi.mp c13
      refine inb_i (by omega) (by omega) ?_
      have q16 := nar01 (0 : Int32)
      refine mem_i (fun M2 e17 => ?_)
      have hJ18 : J M2 := by rw [e17]; exact Jw_186 hN a0_'.toNatClampNeg (vp_nar .boolean (0 : Int32)) (show (0 : Int) ≤ (vp_nar .boolean (0 : Int32)).toInt by omega) (show (vp_nar .boolean (0 : Int32)).toInt ≤ (1 : Int) by omega)
      have hG19 : Gd 1000 B_ M2 := Gd_any hG e17 (by decide)
      clear e17
      have q20 : (a0_' + (1 : Int32)).toInt = a0_'.toInt + (1 : Int) := add_ti rfl rfl (by omega) (by omega)
      exact ⟨_, rfl, ⟨hJ18, hG19, (show (0 : Int) ≤ (a0_' + (1 : Int32)).toInt by omega), (show (a0_' + (1 : Int32)).toInt ≤ (72 : Int) by omega)⟩, show (72 - (a0_' + (1 : Int32)).toInt).toNat < (72 - a0_'.toInt).toNat by omega⟩
theorem sl_Mod_thiefIn_44 (v2 : Int32) (a0_ : Int32) (N_ : Mem) (B_ : Mem) (hp_v2 : (1 : Int) ≤ v2.toInt ∧ v2.toInt ≤ (30 : Int)) (hN : J N_) (hG : Gd 1000 B_ N_) (i2_ : (1 : Int) ≤ a0_.toInt) (i3_ : a0_.toInt ≤ (31 : Int)) : ∃ x, iter (lb_Mod_thiefIn_44 v2) FU (a0_, N_) = some x ∧ (SQ (fun r : Mem => J r ∧ Gd 1000 B_ r) (fun r : Int32 × Mem => J r.2 ∧ Gd 1000 B_ r.2 ∧ (1 : Int) ≤ r.1.toInt ∧ r.1.toInt ≤ (30 : Int))) x := by
  refine iter_r (fun s : Int32 × Mem => J s.2 ∧ Gd 1000 B_ s.2 ∧ (1 : Int) ≤ s.1.toInt ∧ s.1.toInt ≤ (31 : Int)) (fun s : Int32 × Mem => (31 - s.1.toInt).toNat) (SQ (fun r : Mem => J r ∧ Gd 1000 B_ r) (fun r : Int32 × Mem => J r.2 ∧ Gd 1000 B_ r.2 ∧ (1 : Int) ≤ r.1.toInt ∧ r.1.toInt ≤ (30 : Int))) ?_ FU (a0_, N_) ⟨hN, hG, i2_, i3_⟩ (by show (31 - a0_.toInt).toNat < FU; rw [FU_v]; omega)
  clear i3_ i2_ hG hN
  rintro ⟨a0_', N_'⟩ ⟨hN, hG, i2_, i3_⟩
  dsimp only at hN hG i2_ i3_
  unfold lb_Mod_thiefIn_44
  dsimp only
  refine if_i (fun c => ?_) (fun c => ?_)
  · have c1 := c
    have d2 : v2.toInt < a0_'.toInt := lti.mp c1
    exact ⟨_, rfl, hN, hG⟩
  · have c3 := c
    have d4 : a0_'.toInt ≤ v2.toInt := nlti.mp c3
    refine bind_i (sf_Mod_goMinute 176 N_' St_176 hN) (fun x7 _ q => ?_)
    obtain ⟨h5, h6⟩ := q
    have hG7 : Gd 1000 B_ x7 := Gd_t hG (Gd_up (by decide) h6)
    refine bind_i (sf_Mod_goThief x7 h5) (fun x8 _ q => ?_)
    obtain ⟨h8, h9, h10, h11⟩ := q
    have hG12 : Gd 1000 B_ x8.2 := Gd_t hG7 h9
    refine if_i (fun c => ?_) (fun c => ?_)
    · have c13 := c
      have d14 : x8.1.toInt = (0 : Int) := eqi.mp c13
      exact ⟨_, rfl, h8, hG12, (show (1 : Int) ≤ a0_'.toInt by omega), (show a0_'.toInt ≤ (30 : Int) by omega)⟩
    · have c15 := c
      have d16 : ¬ x8.1.toInt = (0 : Int) := neqi.mp c15
      have q17 : (a0_' + (1 : Int32)).toInt = a0_'.toInt + (1 : Int) := add_ti rfl rfl (by omega) (by omega)
      exact ⟨_, rfl, ⟨h8, hG12, (show (1 : Int) ≤ (a0_' + (1 : Int32)).toInt by omega), (show (a0_' + (1 : Int32)).toInt ≤ (31 : Int) by omega)⟩, show (31 - (a0_' + (1 : Int32)).toInt).toNat < (31 - a0_'.toInt).toNat by omega⟩
theorem sf_Mod_thiefIn (v1 : Int32) (v2 : Int32) (M : Mem) (hp_v1 : (0 : Int) ≤ v1.toInt ∧ v1.toInt ≤ (71 : Int)) (hp_v2 : (1 : Int) ≤ v2.toInt ∧ v2.toInt ≤ (30 : Int)) (hJ : J M) : ∃ r : Int32 × Mem, f_Mod_thiefIn v1 v2 M = some r ∧ (J r.2 ∧ Gd 1000 M r.2 ∧ (1 : Int) ≤ r.1.toInt ∧ r.1.toInt ≤ (1000000 : Int)) := by
  unfold f_Mod_thiefIn
  refine bind_i (sf_Mod_lay 163 176 (0 : Int32) M St_163 Sx_176 (⟨by decide, by decide⟩) hJ) (fun x1 _ q => ?_)
  obtain ⟨h1, h2⟩ := q
  have hG3 : Gd 1000 M x1 := Gd_t Gd_r h2
  refine bind_i (sl_Mod_thiefIn_14 v1 v2 (0 : Int32) x1 M (⟨show (0 : Int) ≤ v1.toInt by omega, show v1.toInt ≤ (71 : Int) by omega⟩) (⟨show (1 : Int) ≤ v2.toInt by omega, show v2.toInt ≤ (30 : Int) by omega⟩) h1 hG3 (show (0 : Int) ≤ (0 : Int32).toInt by decide) (show (0 : Int32).toInt ≤ (72 : Int) by decide)) (fun x6 _ q => ?_)
  obtain ⟨h4, h5⟩ := q
  refine bind_i (sl_Mod_thiefIn_44 v2 (1 : Int32) x6 M (⟨show (1 : Int) ≤ v2.toInt by omega, show v2.toInt ≤ (30 : Int) by omega⟩) h4 h5 (show (1 : Int) ≤ (1 : Int32).toInt by decide) (show (1 : Int32).toInt ≤ (31 : Int) by decide)) (fun x6 _ q => ?_)
  rcases x6 with y | y
  · have q9 : J y ∧ Gd 1000 M y := q
    dsimp only [Sum.elim_inl, Sum.elim_inr]
    obtain ⟨h8, h9⟩ := q9
    exact ⟨((1000000 : Int32), y), rfl, h8, h9, (show (1 : Int) ≤ (1000000 : Int32).toInt by decide), (show (1000000 : Int32).toInt ≤ (1000000 : Int) by decide)⟩
  · have q9 : J y.2 ∧ Gd 1000 M y.2 ∧ (1 : Int) ≤ y.1.toInt ∧ y.1.toInt ≤ (30 : Int) := q
    dsimp only [Sum.elim_inl, Sum.elim_inr]
    obtain ⟨h11, h12, h13, h14⟩ := q9
    exact ⟨(y.1, y.2), rfl, h11, h12, (show (1 : Int) ≤ y.1.toInt by omega), (show y.1.toInt ≤ (1000000 : Int) by omega)⟩
theorem MA_a {k : Nat} (h : MA k) : kd k = 3 ∧ ln k = 72 := by rcases h with rfl | rfl <;> decide +kernel
theorem sl_putMay23 (v1 : Nat) (v2 : Int32) {M : Mem} (h : J M) (h1 : MA v1) (h2 : 0 ≤ v2.toInt ∧ v2.toInt ≤ 1) : ∃ x, iter (lb_Mod_putMay_23 v1 v2) FU ((0 : Int32), M) = some x ∧ (J x ∧ Fr (fun k _ => k = 178) M x ∧ x.2 = M.2) := by
  have l1 := (MA_a h1).2
  refine cnt_r _ (fun _ N => J N ∧ Fr (fun k _ => k = 178) M N ∧ N.2 = M.2) 36 (by decide) ?_ M ⟨h, Fr.r, rfl⟩ (by decide)
  intro k N k0 k1 hI
  have c36 : (36 : Int32).toInt = 36 := rfl
  unfold lb_Mod_putMay_23 f_Mod_placeOf
  dsimp only
  refine if_i (fun c => ⟨_, rfl, .inl ⟨_, rfl, hI⟩⟩) (fun c => ?_)
  have d := nlei.mp c
  have m1 : ((36 : Int32) * v2).toInt = 36 * v2.toInt := mul_ti rfl rfl (by omega) (by omega)
  have m2 : (((36 : Int32) * v2) + k).toInt = 36 * v2.toInt + k.toInt := add_ti m1 rfl (by omega) (by omega)
  have dv : (k / (18 : Int32)).toInt = k.toInt / 18 := div_ti rfl rfl k0 (by decide)
  rw [Option.bind_some]
  refine inb_i (by omega) (by omega) (if_i (fun _ => ⟨_, rfl, .inr ⟨by omega, N, rfl, hI⟩⟩) (fun _ => inb_i (by omega) (by omega) (inb_i (by omega) (by omega) ?_)))
  refine mem_i (fun m e => ⟨_, rfl, .inr ⟨by omega, m, rfl, ?_⟩⟩)
  rw [e]
  exact ⟨Jw_any ok_178 hI.1 _ _, hI.2.1.i rfl, hI.2.2⟩
theorem sf_Mod_putMay (v1 : Nat) (M : Mem) (hk_v1 : MA v1) (hJ : J M) (hx0 : (M.1 162 12).toInt ≤ (12 : Int)) : ∃ r : Mem, f_Mod_putMay v1 M = some r ∧ (J r ∧ Gd 1000 M r) := by
  have hl : ∃ x, iter (lb_Mod_putMay_2 v1) FU ((0 : Int32), M) = some x ∧ (J x ∧ Gd 1000 M x) := by
    refine cnt_r _ (fun i N => (J N ∧ Gd 1000 M N) ∧ (N.1 162 12).toInt ≤ 12 + 2 * i) 2 (by decide) ?_ M ⟨⟨hJ, Gd_r⟩, by omega⟩ (by decide)
    intro k N k0 k1 hI
    have c2 : (2 : Int32).toInt = 2 := rfl
    unfold lb_Mod_putMay_2
    dsimp only
    refine if_i (fun c => ⟨_, rfl, .inl ⟨_, rfl, hI.1⟩⟩) (fun c => ?_)
    have d := nlei.mp c
    refine mem_i (fun M1 e1 => mem_i (fun M2 e2 => ?_))
    have j2 : J M2 := by rw [e2]; refine Jw_any ok_178 ?_ _ _; rw [e1]; exact Jw_any ok_178 hI.1.1 _ _
    have t2 : M2.1 162 12 = N.1 162 12 := by rw [e2, si_ne (by intro e; exact absurd e.1 (by decide)), e1, si_ne (by intro e; exact absurd e.1 (by decide))]
    refine bind_i (sl_putMay23 v1 k j2 hk_v1 (by omega)) (fun x7 _ q => ?_)
    have t7 : x7.1 162 12 = N.1 162 12 := (q.2.1 162 12 (by decide)).trans t2
    refine bind_i (sf_Mod_put _ x7 q.1 (by rw [t7]; omega)) (fun x8 _ q8 => ?_)
    rw [t7] at q8
    refine bind_i (sf_Mod_put _ x8 q8.1 (by omega)) (fun x9 _ q9 => ⟨_, rfl, .inr ⟨by omega, x9, rfl, ⟨q9.1, ?_⟩, by omega⟩⟩)
    exact Gd_t (Gd_t (Gd_t (Gd_any (Gd_any hI.1.2 e1 (by decide)) e2 (by decide)) (Gd_1 (c := 178) (by decide) q.2.1)) q8.2.1) q9.2.1
  unfold f_Mod_putMay
  exact c_i (MA_a hk_v1).1 (bind_i hl (fun x _ q => ⟨_, rfl, q⟩))
theorem sf_Mod_flees (v1 : Int32) (v2 : Int32) (v3 : Int32) (M : Mem) (hJ : J M) : ∃ r : Int32 × Mem, f_Mod_flees v1 v2 v3 M = some r ∧ (J r.2 ∧ Gd 1000 M r.2 ∧ (-1 : Int) ≤ r.1.toInt ∧ r.1.toInt ≤ (1 : Int)) := by
  unfold f_Mod_flees
  refine mem_i (fun M1 e2 => ?_)
  have hJ3 : J M1 := by rw [e2]; exact Jw_fld okf_162_13 hJ (0 : Int32)
  have hG4 : Gd 1000 M M1 := Gd_i Gd_r e2 (by decide)
  have f5 : (M1.1 162 13).toInt = (0 : Int) := by rw [e2, si_eq]; rfl
  clear e2
  refine bind_i (sf_Mod_isPlaceOf v2 v1 M1 hJ3) (fun x2 e_x2 q => ?_)
  obtain ⟨h6, h7, h8, h9⟩ := q
  refine if_i (fun c => ?_) (fun c => ?_)
  · have c10 := c
    have d11 : x2.toInt = (0 : Int) := eqi.mp c10
    exact ⟨((-1 : Int32), M1), rfl, hJ3, hG4, (show (-1 : Int) ≤ (-1 : Int32).toInt by decide), (show (-1 : Int32).toInt ≤ (1 : Int) by decide)⟩
  · have c12 := c
    have d13 : ¬ x2.toInt = (0 : Int) := neqi.mp c12
    refine bind_i (sf_Mod_in v3 (1 : Int32) (30 : Int32)) (fun x3 _ q => ?_)
    obtain ⟨h14, h15, h16⟩ := q
    replace h16 : ¬ x3.toInt = 0 → (1 : Int) ≤ v3.toInt ∧ v3.toInt ≤ (30 : Int) := h16
    refine if_i (fun c => ?_) (fun c => ?_)
    · have c17 := c
      have d18 : x3.toInt = (0 : Int) := eqi.mp c17
      exact ⟨((-1 : Int32), M1), rfl, hJ3, hG4, (show (-1 : Int) ≤ (-1 : Int32).toInt by decide), (show (-1 : Int32).toInt ≤ (1 : Int) by decide)⟩
    · have c19 := c
      have d20 : ¬ x3.toInt = (0 : Int) := neqi.mp c19
      refine bind_e (show (f_Mod_placeOf v2 v1) = some (((36 : Int32) * v2) + v1) from rfl) ?_
      have q21 : ((36 : Int32) * v2).toInt = (36 : Int) * v2.toInt := mul_ti rfl rfl (by omega) (by omega)
      have q22 : (((36 : Int32) * v2) + v1).toInt = ((36 : Int32) * v2).toInt + v1.toInt := add_ti rfl rfl (by omega) (by omega)
      refine bind_i (sf_Mod_thiefIn (((36 : Int32) * v2) + v1) v3 M1 (⟨show (0 : Int) ≤ (((36 : Int32) * v2) + v1).toInt by omega, show (((36 : Int32) * v2) + v1).toInt ≤ (71 : Int) by omega⟩) (⟨show (1 : Int) ≤ v3.toInt by omega, show v3.toInt ≤ (30 : Int) by omega⟩) hJ3) (fun x5 _ q => ?_)
      obtain ⟨h23, h24, h25, h26⟩ := q
      have hG27 : Gd 1000 M x5.2 := Gd_t hG4 h24
      refine if_i (fun c => ?_) (fun c => ?_)
      · have c28 := c
        have d29 : x5.1.toInt = (1000000 : Int) := eqi.mp c28
        unfold j_Mod_flees_47
        refine mem_i (fun M6 e31 => ?_)
        have hJ32 : J M6 := by rw [e31]; exact Jw_162_12 h23 (0 : Int32) (show (0 : Int) ≤ (0 : Int32).toInt by decide) (show (0 : Int32).toInt ≤ (16 : Int) by decide)
        have hG33 : Gd 1000 M M6 := Gd_i hG27 e31 (by decide)
        have f34 : (M6.1 162 12).toInt = (0 : Int) := by rw [e31, si_eq]; rfl
        clear e31
        refine bind_i (sf_Mod_putMay 186 M6 MA_186 hJ32 (show (M6.1 162 12).toInt ≤ (12 : Int) by omega)) (fun x7 _ q => ?_)
        obtain ⟨h35, h36⟩ := q
        have hG37 : Gd 1000 M x7 := Gd_t hG33 h36
        refine if_i (fun c => ?_) (fun c => ?_)
        · have c38 := c
          have d39 : (1 : Int) = (0 : Int) := eqi.mp c38
          exfalso; omega
        · have c40 := c
          have d41 : ¬ (1 : Int) = (0 : Int) := neqi.mp c40
          exact ⟨((1 : Int32), x7), rfl, h35, hG37, (show (-1 : Int) ≤ (1 : Int32).toInt by decide), (show (1 : Int32).toInt ≤ (1 : Int) by decide)⟩
      · have c42 := c
        have d43 : ¬ x5.1.toInt = (1000000 : Int) := neqi.mp c42
        unfold j_Mod_flees_47
        refine mem_i (fun M6 e45 => ?_)
        have hJ46 : J M6 := by rw [e45]; exact Jw_162_12 h23 (0 : Int32) (show (0 : Int) ≤ (0 : Int32).toInt by decide) (show (0 : Int32).toInt ≤ (16 : Int) by decide)
        have hG47 : Gd 1000 M M6 := Gd_i hG27 e45 (by decide)
        have f48 : (M6.1 162 12).toInt = (0 : Int) := by rw [e45, si_eq]; rfl
        clear e45
        refine bind_i (sf_Mod_putMay 186 M6 MA_186 hJ46 (show (M6.1 162 12).toInt ≤ (12 : Int) by omega)) (fun x7 _ q => ?_)
        obtain ⟨h49, h50⟩ := q
        have hG51 : Gd 1000 M x7 := Gd_t hG47 h50
        refine if_i (fun c => ?_) (fun c => ?_)
        · have c52 := c
          have d53 : (0 : Int) = (0 : Int) := eqi.mp c52
          exact ⟨((0 : Int32), x7), rfl, h49, hG51, (show (-1 : Int) ≤ (0 : Int32).toInt by decide), (show (0 : Int32).toInt ≤ (1 : Int) by decide)⟩
        · have c54 := c
          have d55 : ¬ (0 : Int) = (0 : Int) := neqi.mp c54
          exfalso; omega
theorem sl_Mod_lairs_21 (v1 : Int32) (a0_ : Int32) (a1_ : Int32) (N_ : Mem) (B_ : Mem) (hp_v1 : (1 : Int) ≤ v1.toInt ∧ v1.toInt ≤ (30 : Int)) (hN : J N_) (hG : Gd 1000 B_ N_) (i2_ : (0 : Int) ≤ a1_.toInt) (i3_ : a1_.toInt ≤ (72 : Int)) : ∃ x, iter (lb_Mod_lairs_21 v1) FU (a0_, a1_, N_) = some x ∧ (fun r : Int32 × Mem => J r.2 ∧ Gd 1000 B_ r.2) x := by
  refine iter_r (fun s : Int32 × Int32 × Mem => J s.2.2 ∧ Gd 1000 B_ s.2.2 ∧ (0 : Int) ≤ s.2.1.toInt ∧ s.2.1.toInt ≤ (72 : Int)) (fun s : Int32 × Int32 × Mem => (72 - s.2.1.toInt).toNat) (fun r : Int32 × Mem => J r.2 ∧ Gd 1000 B_ r.2) ?_ FU (a0_, a1_, N_) ⟨hN, hG, i2_, i3_⟩ (by show (72 - a1_.toInt).toNat < FU; rw [FU_v]; omega)
  clear i3_ i2_ hG hN
  rintro ⟨a0_', a1_', N_'⟩ ⟨hN, hG, i2_, i3_⟩
  dsimp only at hN hG i2_ i3_
  unfold lb_Mod_lairs_21
  dsimp only
  refine if_i (fun c => ?_) (fun c => ?_)
  · have c1 := c
    have d2 : (72 : Int) ≤ a1_'.toInt := lei.mp c1
    exact ⟨_, rfl, hN, hG⟩
  · have c3 := c
    have d4 : a1_'.toInt < (72 : Int) := nlei.mp c3
    refine bind_e (show (f_Mod_levelOf a1_') = some (a1_' / (36 : Int32)) from rfl) ?_
    refine bind_e (show (f_Mod_cellOf a1_') = some (a1_' - ((a1_' / (36 : Int32)) * (36 : Int32))) from rfl) ?_
    have q5 : (a1_' - ((a1_' / (36 : Int32)) * (36 : Int32))).toInt = a1_'.toInt % (36 : Int) := rem_ti rfl rfl (by omega) (by omega)
    refine bind_i (sf_Mod_isOf (a1_' / (36 : Int32)) (a1_' - ((a1_' / (36 : Int32)) * (36 : Int32))) N_' hN) (fun x5 e_x5 q => ?_)
    obtain ⟨h6, h7, h8⟩ := q
    refine if_i (fun c => ?_) (fun c => ?_)
    · have c9 := c
      have d10 : x5.toInt = (0 : Int) := eqi.mp c9
      unfold j_Mod_lairs_64_21
      refine inb_i (by omega) (by omega) ?_
      have q12 := nar01 (0 : Int32)
      refine mem_i (fun M6 e13 => ?_)
      have hJ14 : J M6 := by rw [e13]; exact Jw_188 hN a1_'.toNatClampNeg (vp_nar .boolean (0 : Int32)) (show (0 : Int) ≤ (vp_nar .boolean (0 : Int32)).toInt by omega) (show (vp_nar .boolean (0 : Int32)).toInt ≤ (1 : Int) by omega)
      have hG15 : Gd 1000 B_ M6 := Gd_any hG e13 (by decide)
      clear e13
      refine inb_i (by omega) (by omega) ?_
      refine if_i (fun c => ?_) (fun c => ?_)
      · have c16 := c
        have r17 := Jr_188 hJ14 a1_'.toNatClampNeg
        have d18 : (M6.1 188 a1_'.toNatClampNeg).toInt = (0 : Int) := eqi.mp c16
        have q19 : (a1_' + (1 : Int32)).toInt = a1_'.toInt + (1 : Int) := add_ti rfl rfl (by omega) (by omega)
        exact ⟨_, rfl, ⟨hJ14, hG15, (show (0 : Int) ≤ (a1_' + (1 : Int32)).toInt by omega), (show (a1_' + (1 : Int32)).toInt ≤ (72 : Int) by omega)⟩, show (72 - (a1_' + (1 : Int32)).toInt).toNat < (72 - a1_'.toInt).toNat by omega⟩
      · have c20 := c
        have r21 := Jr_188 hJ14 a1_'.toNatClampNeg
        have d22 : ¬ (M6.1 188 a1_'.toNatClampNeg).toInt = (0 : Int) := neqi.mp c20
        have q23 : (a1_' + (1 : Int32)).toInt = a1_'.toInt + (1 : Int) := add_ti rfl rfl (by omega) (by omega)
        exact ⟨_, rfl, ⟨hJ14, hG15, (show (0 : Int) ≤ (a1_' + (1 : Int32)).toInt by omega), (show (a1_' + (1 : Int32)).toInt ≤ (72 : Int) by omega)⟩, show (72 - (a1_' + (1 : Int32)).toInt).toNat < (72 - a1_'.toInt).toNat by omega⟩
    · have c24 := c
      have d25 : ¬ x5.toInt = (0 : Int) := neqi.mp c24
      refine bind_i (sf_Mod_thiefIn a1_' v1 N_' (⟨show (0 : Int) ≤ a1_'.toInt by omega, show a1_'.toInt ≤ (71 : Int) by omega⟩) (⟨show (1 : Int) ≤ v1.toInt by omega, show v1.toInt ≤ (30 : Int) by omega⟩) hN) (fun x8 _ q => ?_)
      obtain ⟨h26, h27, h28, h29⟩ := q
      have hG30 : Gd 1000 B_ x8.2 := Gd_t hG h27
      refine if_i (fun c => ?_) (fun c => ?_)
      · have c31 := c
        have d32 : x8.1.toInt = (1000000 : Int) := eqi.mp c31
        unfold j_Mod_lairs_64_21
        refine inb_i (by omega) (by omega) ?_
        have q34 := nar01 (1 : Int32)
        refine mem_i (fun M6 e35 => ?_)
        have hJ36 : J M6 := by rw [e35]; exact Jw_188 h26 a1_'.toNatClampNeg (vp_nar .boolean (1 : Int32)) (show (0 : Int) ≤ (vp_nar .boolean (1 : Int32)).toInt by omega) (show (vp_nar .boolean (1 : Int32)).toInt ≤ (1 : Int) by omega)
        have hG37 : Gd 1000 B_ M6 := Gd_any hG30 e35 (by decide)
        clear e35
        refine inb_i (by omega) (by omega) ?_
        refine if_i (fun c => ?_) (fun c => ?_)
        · have c38 := c
          have r39 := Jr_188 hJ36 a1_'.toNatClampNeg
          have d40 : (M6.1 188 a1_'.toNatClampNeg).toInt = (0 : Int) := eqi.mp c38
          have q41 : (a1_' + (1 : Int32)).toInt = a1_'.toInt + (1 : Int) := add_ti rfl rfl (by omega) (by omega)
          exact ⟨_, rfl, ⟨hJ36, hG37, (show (0 : Int) ≤ (a1_' + (1 : Int32)).toInt by omega), (show (a1_' + (1 : Int32)).toInt ≤ (72 : Int) by omega)⟩, show (72 - (a1_' + (1 : Int32)).toInt).toNat < (72 - a1_'.toInt).toNat by omega⟩
        · have c42 := c
          have r43 := Jr_188 hJ36 a1_'.toNatClampNeg
          have d44 : ¬ (M6.1 188 a1_'.toNatClampNeg).toInt = (0 : Int) := neqi.mp c42
          have q45 : (a1_' + (1 : Int32)).toInt = a1_'.toInt + (1 : Int) := add_ti rfl rfl (by omega) (by omega)
          exact ⟨_, rfl, ⟨hJ36, hG37, (show (0 : Int) ≤ (a1_' + (1 : Int32)).toInt by omega), (show (a1_' + (1 : Int32)).toInt ≤ (72 : Int) by omega)⟩, show (72 - (a1_' + (1 : Int32)).toInt).toNat < (72 - a1_'.toInt).toNat by omega⟩
      · have c46 := c
        have d47 : ¬ x8.1.toInt = (1000000 : Int) := neqi.mp c46
        unfold j_Mod_lairs_64_21
        refine inb_i (by omega) (by omega) ?_
        have q49 := nar01 (0 : Int32)
        refine mem_i (fun M6 e50 => ?_)
        have hJ51 : J M6 := by rw [e50]; exact Jw_188 h26 a1_'.toNatClampNeg (vp_nar .boolean (0 : Int32)) (show (0 : Int) ≤ (vp_nar .boolean (0 : Int32)).toInt by omega) (show (vp_nar .boolean (0 : Int32)).toInt ≤ (1 : Int) by omega)
        have hG52 : Gd 1000 B_ M6 := Gd_any hG30 e50 (by decide)
        clear e50
        refine inb_i (by omega) (by omega) ?_
        refine if_i (fun c => ?_) (fun c => ?_)
        · have c53 := c
          have r54 := Jr_188 hJ51 a1_'.toNatClampNeg
          have d55 : (M6.1 188 a1_'.toNatClampNeg).toInt = (0 : Int) := eqi.mp c53
          have q56 : (a1_' + (1 : Int32)).toInt = a1_'.toInt + (1 : Int) := add_ti rfl rfl (by omega) (by omega)
          exact ⟨_, rfl, ⟨hJ51, hG52, (show (0 : Int) ≤ (a1_' + (1 : Int32)).toInt by omega), (show (a1_' + (1 : Int32)).toInt ≤ (72 : Int) by omega)⟩, show (72 - (a1_' + (1 : Int32)).toInt).toNat < (72 - a1_'.toInt).toNat by omega⟩
        · have c57 := c
          have r58 := Jr_188 hJ51 a1_'.toNatClampNeg
          have d59 : ¬ (M6.1 188 a1_'.toNatClampNeg).toInt = (0 : Int) := neqi.mp c57
          have q60 : (a1_' + (1 : Int32)).toInt = a1_'.toInt + (1 : Int) := add_ti rfl rfl (by omega) (by omega)
          exact ⟨_, rfl, ⟨hJ51, hG52, (show (0 : Int) ≤ (a1_' + (1 : Int32)).toInt by omega), (show (a1_' + (1 : Int32)).toInt ≤ (72 : Int) by omega)⟩, show (72 - (a1_' + (1 : Int32)).toInt).toNat < (72 - a1_'.toInt).toNat by omega⟩
theorem sf_Mod_lairs (v1 : Int32) (M : Mem) (hJ : J M) : ∃ r : Int32 × Mem, f_Mod_lairs v1 M = some r ∧ (J r.2 ∧ Gd 1000 M r.2) := by
  unfold f_Mod_lairs
  refine mem_i (fun M1 e2 => ?_)
  have hJ3 : J M1 := by rw [e2]; exact Jw_fld okf_162_13 hJ (0 : Int32)
  have hG4 : Gd 1000 M M1 := Gd_i Gd_r e2 (by decide)
  have f5 : (M1.1 162 13).toInt = (0 : Int) := by rw [e2, si_eq]; rfl
  clear e2
  refine bind_i (sf_Mod_in v1 (1 : Int32) (30 : Int32)) (fun x2 _ q => ?_)
  obtain ⟨h6, h7, h8⟩ := q
  replace h8 : ¬ x2.toInt = 0 → (1 : Int) ≤ v1.toInt ∧ v1.toInt ≤ (30 : Int) := h8
  refine if_i (fun c => ?_) (fun c => ?_)
  · have c9 := c
    have d10 : x2.toInt = (0 : Int) := eqi.mp c9
    exact ⟨((-1 : Int32), M1), rfl, hJ3, hG4⟩
  · have c11 := c
    have d12 : ¬ x2.toInt = (0 : Int) := neqi.mp c11
    refine bind_i (sl_Mod_lairs_21 v1 (0 : Int32) (0 : Int32) M1 M (⟨show (1 : Int) ≤ v1.toInt by omega, show v1.toInt ≤ (30 : Int) by omega⟩) hJ3 hG4 (show (0 : Int) ≤ (0 : Int32).toInt by decide) (show (0 : Int32).toInt ≤ (72 : Int) by decide)) (fun x12 _ q => ?_)
    obtain ⟨h13, h14⟩ := q
    refine mem_i (fun M13 e16 => ?_)
    have hJ17 : J M13 := by rw [e16]; exact Jw_162_12 h13 (0 : Int32) (show (0 : Int) ≤ (0 : Int32).toInt by decide) (show (0 : Int32).toInt ≤ (16 : Int) by decide)
    have hG18 : Gd 1000 M M13 := Gd_i h14 e16 (by decide)
    have f19 : (M13.1 162 12).toInt = (0 : Int) := by rw [e16, si_eq]; rfl
    clear e16
    refine bind_i (sf_Mod_putMay 188 M13 MA_188 hJ17 (show (M13.1 162 12).toInt ≤ (12 : Int) by omega)) (fun x14 _ q => ?_)
    obtain ⟨h20, h21⟩ := q
    have hG22 : Gd 1000 M x14 := Gd_t hG18 h21
    exact ⟨(x12.1, x14), rfl, h20, hG22⟩
theorem sf_Mod_caught (v1 : Int32) (v2 : Int32) (M : Mem) (hJ : J M) : ∃ r : Int32 × Mem, f_Mod_caught v1 v2 M = some r ∧ (J r.2 ∧ Gd 1000 M r.2 ∧ (-2 : Int) ≤ r.1.toInt ∧ r.1.toInt ≤ (999999 : Int)) := by
  unfold f_Mod_caught
  refine mem_i (fun M1 e2 => ?_)
  have hJ3 : J M1 := by rw [e2]; exact Jw_fld okf_162_13 hJ (0 : Int32)
  have hG4 : Gd 1000 M M1 := Gd_i Gd_r e2 (by decide)
  have f5 : (M1.1 162 13).toInt = (0 : Int) := by rw [e2, si_eq]; rfl
  clear e2
  refine bind_i (sf_Mod_isPlaceOf v2 v1 M1 hJ3) (fun x2 e_x2 q => ?_)
  obtain ⟨h6, h7, h8, h9⟩ := q
  refine if_i (fun c => ?_) (fun c => ?_)
  · have c10 := c
    have d11 : x2.toInt = (0 : Int) := eqi.mp c10
    exact ⟨((-1 : Int32), M1), rfl, hJ3, hG4, (show (-2 : Int) ≤ (-1 : Int32).toInt by decide), (show (-1 : Int32).toInt ≤ (999999 : Int) by decide)⟩
  · have c12 := c
    have d13 : ¬ x2.toInt = (0 : Int) := neqi.mp c12
    refine bind_e (show (f_Mod_placeOf v2 v1) = some (((36 : Int32) * v2) + v1) from rfl) ?_
    have q14 : ((36 : Int32) * v2).toInt = (36 : Int) * v2.toInt := mul_ti rfl rfl (by omega) (by omega)
    have q15 : (((36 : Int32) * v2) + v1).toInt = ((36 : Int32) * v2).toInt + v1.toInt := add_ti rfl rfl (by omega) (by omega)
    refine bind_i (sf_Mod_thiefIn (((36 : Int32) * v2) + v1) (30 : Int32) M1 (⟨show (0 : Int) ≤ (((36 : Int32) * v2) + v1).toInt by omega, show (((36 : Int32) * v2) + v1).toInt ≤ (71 : Int) by omega⟩) (⟨by decide, by decide⟩) hJ3) (fun x4 _ q => ?_)
    obtain ⟨h16, h17, h18, h19⟩ := q
    have hG20 : Gd 1000 M x4.2 := Gd_t hG4 h17
    refine if_i (fun c => ?_) (fun c => ?_)
    · have c21 := c
      have d22 : x4.1.toInt = (1000000 : Int) := eqi.mp c21
      exact ⟨((-2 : Int32), x4.2), rfl, h16, hG20, (show (-2 : Int) ≤ (-2 : Int32).toInt by decide), (show (-2 : Int32).toInt ≤ (999999 : Int) by decide)⟩
    · have c23 := c
      have d24 : ¬ x4.1.toInt = (1000000 : Int) := neqi.mp c23
      exact ⟨(x4.1, x4.2), rfl, h16, hG20, (show (-2 : Int) ≤ x4.1.toInt by omega), (show x4.1.toInt ≤ (999999 : Int) by omega)⟩
theorem sf_Mod_enter (v1 : Int32) (v2 : Int32) (M : Mem) (hp_v1 : (-1 : Int) ≤ v1.toInt ∧ v1.toInt ≤ (71 : Int)) (hJ : J M) : ∃ r : Int32 × Mem, f_Mod_enter v1 v2 M = some r ∧ (J r.2 ∧ Gd 1000 M r.2 ∧ (0 : Int) ≤ r.1.toInt ∧ r.1.toInt ≤ (1 : Int)) := by
  unfold f_Mod_enter
  refine if_i (fun c => ?_) (fun c => ?_)
  · have c1 := c
    have d2 : v1.toInt = (-1 : Int) := eqi.mp c1
    exact ⟨((0 : Int32), M), rfl, hJ, Gd_r, (show (0 : Int) ≤ (0 : Int32).toInt by decide), (show (0 : Int32).toInt ≤ (1 : Int) by decide)⟩
  · have c3 := c
    have d4 : ¬ v1.toInt = (-1 : Int) := neqi.mp c3
    refine inb_i (by omega) (by omega) ?_
    refine if_i (fun c => ?_) (fun c => ?_)
    · have c5 := c
      have r6 := Jr_186 hJ v1.toNatClampNeg
      have d7 : (M.1 186 v1.toNatClampNeg).toInt = (0 : Int) := eqi.mp c5
      refine bind_i (sf_Mod_onPlace 163 v1 M St_163 hJ) (fun x1 e_x1 q => ?_)
      refine if_i (fun c => ?_) (fun c => ?_)
      · have c8 := c
        have d9 : (x1 &&& v2).toInt = (0 : Int) := eqi.mp c8
        refine inb_i (by omega) (by omega) ?_
        have q11 := nar01 (1 : Int32)
        refine mem_i (fun M2 e12 => ?_)
        have hJ13 : J M2 := by rw [e12]; exact Jw_186 hJ v1.toNatClampNeg (vp_nar .boolean (1 : Int32)) (show (0 : Int) ≤ (vp_nar .boolean (1 : Int32)).toInt by omega) (show (vp_nar .boolean (1 : Int32)).toInt ≤ (1 : Int) by omega)
        have hG14 : Gd 1000 M M2 := Gd_any Gd_r e12 (by decide)
        clear e12
        exact ⟨((1 : Int32), M2), rfl, hJ13, hG14, (show (0 : Int) ≤ (1 : Int32).toInt by decide), (show (1 : Int32).toInt ≤ (1 : Int) by decide)⟩
      · have c15 := c
        have d16 : ¬ (x1 &&& v2).toInt = (0 : Int) := neqi.mp c15
        exact ⟨((0 : Int32), M), rfl, hJ, Gd_r, (show (0 : Int) ≤ (0 : Int32).toInt by decide), (show (0 : Int32).toInt ≤ (1 : Int) by decide)⟩
    · have c17 := c
      have r18 := Jr_186 hJ v1.toNatClampNeg
      have d19 : ¬ (M.1 186 v1.toNatClampNeg).toInt = (0 : Int) := neqi.mp c17
      exact ⟨((0 : Int32), M), rfl, hJ, Gd_r, (show (0 : Int) ≤ (0 : Int32).toInt by decide), (show (0 : Int32).toInt ≤ (1 : Int) by decide)⟩
def um (M : Mem) : Nat → Int := fun i => if (M.1 186 i).toInt = 0 then 1 else 0
def mu (M : Mem) : Int := sm (um M) 72
theorem mu_bd (M : Mem) : 0 ≤ mu M ∧ mu M ≤ 72 := by
  have := sm_bd (f := um M) (b := 1) (fun i => by unfold um; split <;> omega) 72
  unfold mu; omega
theorem mu_dec {M : Mem} {i : Nat} {v : Int32} (hi : i < 72) (hv : v.toInt ≠ 0) (hd : (M.1 186 i).toInt = 0) : mu (s_i M 186 i v) = mu M - 1 := by
  unfold mu
  rw [sm_upd (f := um M) hi (fun j hj => by unfold um; rw [si_ne (fun e => hj e.2)])]
  have e1 : um M i = 1 := by unfold um; rw [if_pos hd]
  have e2 : um (s_i M 186 i v) i = 0 := by unfold um; rw [si_eq, if_neg hv]
  rw [e1, e2]; omega
/-- what a stretch of enterings leaves -/
def SE (acc0 : Int32) (M0_ : Mem) (acc : Int32) (M : Mem) : Prop := J M ∧ Gd 1000 M0_ M ∧ (acc = 0 ∨ acc = 1) ∧ mu M ≤ mu M0_ ∧ (acc ≠ 0 → acc0 ≠ 0 ∨ mu M < mu M0_)
theorem SE_r {a : Int32} {M : Mem} (h : J M) (ha : a = 0 ∨ a = 1) : SE a M a M := ⟨h, Gd_r, ha, Int.le_refl _, fun e => .inl e⟩
theorem SE_t {a0 a1 a2 : Int32} {M0_ M1 M2 : Mem} (h : SE a0 M0_ a1 M1) (g : SE a1 M1 a2 M2) : SE a0 M0_ a2 M2 := by
  obtain ⟨h1, h2, h3, h4, h5⟩ := h
  obtain ⟨g1, g2, g3, g4, g5⟩ := g
  refine ⟨g1, Gd_t h2 g2, g3, by omega, fun e => ?_⟩
  rcases g5 e with w | w
  · rcases h5 w with u | u
    · exact .inl u
    · right; omega
  · right; omega
theorem sp_enter {M : Mem} (h : J M) (v1 v2 : Int32) (h1 : -1 ≤ v1.toInt ∧ v1.toInt ≤ 71) (a : Int32) (ha : a = 0 ∨ a = 1) : ∃ r, f_Mod_enter v1 v2 M = some r ∧ SE a M (a ||| r.1) r.2 := by
  have n1 : (-1 : Int32).toInt = -1 := rfl
  have z : a ||| 0 = a := by rcases ha with rfl | rfl <;> decide
  have no : SE a M (a ||| 0) M := by rw [z]; exact SE_r h ha
  unfold f_Mod_enter
  refine if_i (fun e => ⟨_, rfl, no⟩) (fun e => ?_)
  have d := neqi.mp e
  refine inb_i (by omega) (by omega) (if_i (fun e0 => ?_) (fun _ => ⟨_, rfl, no⟩))
  refine bind_i (sf_Mod_onPlace 163 v1 M St_163 h) (fun x1 _ _ => if_i (fun _ => inb_i (by omega) (by omega) (mem_i (fun m em => ⟨_, rfl, ?_⟩))) (fun _ => ⟨_, rfl, no⟩))
  have dm := mu_dec (M := M) (i := v1.toNatClampNeg) (v := vp_nar .boolean 1) (by rw [tcn']; omega) (by rw [narb1]; decide) (eqi.mp e0)
  rw [← em] at dm
  refine ⟨by show J m; rw [em]; exact Jw_186 h _ _ (nar01 _).1 (nar01 _).2, Gd_any Gd_r em (by decide), ?_, ?_, fun _ => .inr ?_⟩
  · show a ||| 1 = 0 ∨ a ||| 1 = 1
    rcases ha with rfl | rfl <;> decide
  · show mu m ≤ mu M; omega
  · show mu m < mu M; omega
theorem sl_gets71 (v2 v3 v5 : Int32) (h5 : 0 ≤ v5.toInt ∧ v5.toInt ≤ 71) {M : Mem} (h : J M) (acc : Int32) (ha : acc = 0 ∨ acc = 1) : ∃ x, iter (lb_Mod_gets_71 v2 v3 v5) FU (acc, (0 : Int32), M) = some x ∧ SE acc M x.1 x.2 := by
  refine iter_r (fun s : Int32 × Int32 × Mem => SE acc M s.1 s.2.2 ∧ (0 ≤ s.2.1.toInt ∧ s.2.1.toInt ≤ 4)) (fun s : Int32 × Int32 × Mem => (4 - s.2.1.toInt).toNat) _ ?_ FU _ ⟨SE_r h ha, (by show (0 : Int) ≤ (0 : Int32).toInt ∧ (0 : Int32).toInt ≤ 4; decide)⟩ (by show (4 - (0 : Int)).toNat < FU; rw [FU_v]; decide)
  rintro ⟨a, k, N⟩ ⟨i1, i2⟩
  dsimp only at i1 i2
  have c4 : (4 : Int32).toInt = 4 := rfl
  unfold lb_Mod_gets_71
  dsimp only
  refine if_i (fun c => ⟨_, rfl, i1⟩) (fun c => ?_)
  have d := nlei.mp c
  have ek : (k + (1 : Int32)).toInt = k.toInt + 1 := add_ti rfl rfl (by omega) (by omega)
  refine bind_i (sf_Mod_go 163 v5 k N St_163 h5 i1.1) (fun x6 _ q6 => bind_i (sp_enter i1.1 x6 v3 q6 a i1.2.2.1) (fun x7 _ q7 => ⟨_, rfl, ⟨SE_t i1 q7, ?_⟩, ?_⟩))
  · show 0 ≤ (k + (1 : Int32)).toInt ∧ (k + (1 : Int32)).toInt ≤ 4; omega
  · show (4 - (k + (1 : Int32)).toInt).toNat < (4 - k.toInt).toNat; omega
theorem sl_gets48 (v2 v3 : Int32) {M : Mem} (h : J M) : ∃ x, iter (lb_Mod_gets_48 v2 v3) FU ((0 : Int32), (0 : Int32), M) = some x ∧ SE 0 M x.1 x.2 := by
  refine iter_r (fun s : Int32 × Int32 × Mem => SE 0 M s.1 s.2.2 ∧ (0 ≤ s.2.1.toInt ∧ s.2.1.toInt ≤ 72)) (fun s : Int32 × Int32 × Mem => (72 - s.2.1.toInt).toNat) _ ?_ FU _ ⟨SE_r h (.inl rfl), (by show (0 : Int) ≤ (0 : Int32).toInt ∧ (0 : Int32).toInt ≤ 72; decide)⟩ (by show (72 - (0 : Int)).toNat < FU; rw [FU_v]; decide)
  rintro ⟨a, k, N⟩ ⟨i1, i2⟩
  dsimp only at i1 i2
  have c72 : (72 : Int32).toInt = 72 := rfl
  unfold lb_Mod_gets_48 f_Mod_cellOf f_Mod_levelOf f_Mod_placeOf
  dsimp only
  refine if_i (fun c => ⟨_, rfl, i1⟩) (fun c => ?_)
  have d := nlei.mp c
  have ek : (k + (1 : Int32)).toInt = k.toInt + 1 := add_ti rfl rfl (by omega) (by omega)
  have rm : (k - k / (36 : Int32) * (36 : Int32)).toInt = k.toInt % 36 := rem_ti rfl rfl i2.1 (by decide)
  have dv : (k / (36 : Int32)).toInt = k.toInt / 36 := div_ti rfl rfl i2.1 (by decide)
  have s1 : ((1 : Int32) - k / (36 : Int32)).toInt = 1 - k.toInt / 36 := sub_ti rfl dv (by omega) (by omega)
  have m1 : ((36 : Int32) * ((1 : Int32) - k / (36 : Int32))).toInt = 36 * (1 - k.toInt / 36) := mul_ti rfl s1 (by omega) (by omega)
  have m2 : (((36 : Int32) * ((1 : Int32) - k / (36 : Int32))) + (k - k / (36 : Int32) * (36 : Int32))).toInt = 36 * (1 - k.toInt / 36) + k.toInt % 36 := add_ti m1 rm (by omega) (by omega)
  have on : ∀ (b : Int32) (K : Mem), SE 0 M b K → LPq (fun s : Int32 × Int32 × Mem => SE 0 M s.1 s.2.2 ∧ (0 ≤ s.2.1.toInt ∧ s.2.1.toInt ≤ 72)) (fun s : Int32 × Int32 × Mem => (72 - s.2.1.toInt).toNat) (fun x : Int32 × Mem => SE 0 M x.1 x.2) (72 - k.toInt).toNat (.inl (b, k + (1 : Int32), K)) := by
    intro b K hK
    refine ⟨⟨hK, ?_⟩, ?_⟩
    · show 0 ≤ (k + (1 : Int32)).toInt ∧ (k + (1 : Int32)).toInt ≤ 72; omega
    · show (72 - (k + (1 : Int32)).toInt).toNat < (72 - k.toInt).toNat; omega
  refine inb_i i2.1 (by omega) (if_i (fun _ => ⟨_, rfl, on a N i1⟩) (fun _ => ?_))
  refine bind_i (sl_gets71 v2 v3 k ⟨i2.1, by omega⟩ i1.1 a i1.2.2.1) (fun x9 _ q9 => ?_)
  have S9 := SE_t i1 q9
  rw [Option.bind_some]
  refine inb_i (by omega) (by omega) (if_i (fun _ => ?_) (fun _ => ⟨_, rfl, on _ _ S9⟩))
  rw [Option.bind_some, Option.bind_some, Option.bind_some]
  exact bind_i (sp_enter S9.1 _ v3 (by omega) x9.1 S9.2.2.1) (fun x14 _ q14 => ⟨_, rfl, on _ _ (SE_t S9 q14)⟩)
theorem sl_gets3 (v1 v2 v3 : Int32) {M : Mem} (h : J M) : ∃ x, iter (lb_Mod_gets_3 v1 v2 v3) FU ((0 : Int32), M) = some x ∧ (J x ∧ Gd 1000 M x) := by
  refine cnt_r _ (fun _ N => J N ∧ Gd 1000 M N) 72 (by decide) ?_ M ⟨h, Gd_r⟩ (by decide)
  intro k N k0 k1 hI
  have c72 : (72 : Int32).toInt = 72 := rfl
  unfold lb_Mod_gets_3
  dsimp only
  refine if_i (fun c => ⟨_, rfl, .inl ⟨_, rfl, hI⟩⟩) (fun c => ?_)
  have d := nlei.mp c
  refine if_i (fun _ => inb_i k0 (by omega) (mem_i (fun m e => ⟨_, rfl, .inr ⟨by omega, m, rfl, ?_, Gd_any hI.2 e (by decide)⟩⟩))) (fun _ => inb_i k0 (by omega) (mem_i (fun m e => ⟨_, rfl, .inr ⟨by omega, m, rfl, ?_, Gd_any hI.2 e (by decide)⟩⟩)))
  all_goals (rw [e]; exact Jw_186 hI.1 _ _ (nar01 _).1 (nar01 _).2)
theorem sf_Mod_gets (v1 : Int32) (v2 : Int32) (v3 : Int32) (M : Mem) (hp_v1 : (0 : Int) ≤ v1.toInt ∧ v1.toInt ≤ (71 : Int)) (hp_v2 : (0 : Int) ≤ v2.toInt ∧ v2.toInt ≤ (71 : Int)) (hJ : J M) : ∃ r : Int32 × Mem, f_Mod_gets v1 v2 v3 M = some r ∧ (J r.2 ∧ Gd 1000 M r.2 ∧ (0 : Int) ≤ r.1.toInt ∧ r.1.toInt ≤ (1 : Int)) := by
  have hl : ∀ N : Mem, J N → ∃ x, iter (lb_Mod_gets_37 v2 v3) FU ((1 : Int32), N) = some x ∧ (J x ∧ Gd 1000 N x) := by
    intro N hN
    have b := mu_bd N
    refine iter_r (fun s : Int32 × Mem => J s.2 ∧ Gd 1000 N s.2) (fun s : Int32 × Mem => (2 * mu s.2 + (if s.1 = 0 then 0 else 1)).toNat) _ ?_ FU _ ⟨hN, Gd_r⟩ (by show (2 * mu N + (if (1 : Int32) = 0 then 0 else 1)).toNat < FU; rw [FU_v, if_neg (by decide)]; omega)
    rintro ⟨a, K⟩ ⟨i1, i2⟩
    dsimp only at i1 i2
    unfold lb_Mod_gets_37
    dsimp only
    refine if_i (fun c => ⟨_, rfl, i1, i2⟩) (fun c => ?_)
    have b := mu_bd K
    refine bind_i (sl_gets48 v2 v3 i1) (fun x _ q => ⟨_, rfl, ⟨q.1, Gd_t i2 q.2.1⟩, ?_⟩)
    obtain ⟨-, -, -, s4, s5⟩ := q
    have b2 := mu_bd x.2
    show (2 * mu x.2 + (if x.1 = 0 then 0 else 1)).toNat < (2 * mu K + (if a = 0 then 0 else 1)).toNat
    rw [if_neg c]
    by_cases e : x.1 = 0
    · rw [if_pos e]; omega
    · rw [if_neg e]
      rcases s5 e with u | u
      · exact absurd rfl u
      · omega
  unfold f_Mod_gets
  refine bind_i (sl_gets3 v1 v2 v3 hJ) (fun x5 _ q5 => bind_i (hl x5 q5.1) (fun x20 _ q => inb_i hp_v2.1 (by omega) ?_))
  have r := Jr_186 q.1 v2.toNatClampNeg
  exact c_i (bool_of r.1 r.2) ⟨_, rfl, q.1, Gd_t q5.2 q.2, r.1, r.2⟩
theorem sl_Mod_watch_32 (v1 : Int32) (v2 : Int32) (v3 : Int32) (v4 : Int32) (a0_ : Int32) (a1_ : Int32) (N_ : Mem) (B_ : Mem) (hp_v1 : (0 : Int) ≤ v1.toInt ∧ v1.toInt ≤ (35 : Int)) (hp_v2 : (0 : Int) ≤ v2.toInt ∧ v2.toInt ≤ (1 : Int)) (hp_v3 : (0 : Int) ≤ v3.toInt ∧ v3.toInt ≤ (35 : Int)) (hp_v4 : (0 : Int) ≤ v4.toInt ∧ v4.toInt ≤ (1 : Int)) (hN : J N_) (hG : Gd 1000 B_ N_) (i2_ : (-1 : Int) ≤ a0_.toInt) (i3_ : a0_.toInt ≤ (255 : Int)) (i4_ : (0 : Int) ≤ a1_.toInt) (i5_ : a1_.toInt ≤ (256 : Int)) : ∃ x, iter (lb_Mod_watch_32 v1 v2 v3 v4) FU (a0_, a1_, N_) = some x ∧ (fun r : Int32 × Mem => J r.2 ∧ Gd 1000 B_ r.2 ∧ (-1 : Int) ≤ r.1.toInt ∧ r.1.toInt ≤ (255 : Int)) x := by
  refine iter_r (fun s : Int32 × Int32 × Mem => J s.2.2 ∧ Gd 1000 B_ s.2.2 ∧ (-1 : Int) ≤ s.1.toInt ∧ s.1.toInt ≤ (255 : Int) ∧ (0 : Int) ≤ s.2.1.toInt ∧ s.2.1.toInt ≤ (256 : Int)) (fun s : Int32 × Int32 × Mem => (256 - s.2.1.toInt).toNat) (fun r : Int32 × Mem => J r.2 ∧ Gd 1000 B_ r.2 ∧ (-1 : Int) ≤ r.1.toInt ∧ r.1.toInt ≤ (255 : Int)) ?_ FU (a0_, a1_, N_) ⟨hN, hG, i2_, i3_, i4_, i5_⟩ (by show (256 - a1_.toInt).toNat < FU; rw [FU_v]; omega)
  clear i5_ i4_ i3_ i2_ hG hN
  rintro ⟨a0_', a1_', N_'⟩ ⟨hN, hG, i2_, i3_, i4_, i5_⟩
  dsimp only at hN hG i2_ i3_ i4_ i5_
  unfold lb_Mod_watch_32
  dsimp only
  refine if_i (fun c => ?_) (fun c => ?_)
  · have c1 := c
    have r2 := Jr_162_4 hN
    have q3 := shl8 (s := (N_'.1 162 4)) (by omega) (by omega)
    have d4 : ((1 : Int32) <<< ((N_'.1 162 4) &&& 31)).toInt ≤ a1_'.toInt := lei.mp c1
    exact ⟨_, rfl, hN, hG, (show (-1 : Int) ≤ a0_'.toInt by omega), (show a0_'.toInt ≤ (255 : Int) by omega)⟩
  · have c5 := c
    have r6 := Jr_162_4 hN
    have q7 := shl8 (s := (N_'.1 162 4)) (by omega) (by omega)
    have d8 : a1_'.toInt < ((1 : Int32) <<< ((N_'.1 162 4) &&& 31)).toInt := nlei.mp c5
    refine if_i (fun c => ?_) (fun c => ?_)
    · have c9 := c
      have d10 : a0_'.toInt = (-1 : Int) := eqi.mp c9
      unfold j_Mod_watch_65_32
      refine bind_e (show (f_Mod_placeOf v2 v1) = some (((36 : Int32) * v2) + v1) from rfl) ?_
      refine bind_e (show (f_Mod_placeOf v4 v3) = some (((36 : Int32) * v4) + v3) from rfl) ?_
      have q11 : ((36 : Int32) * v2).toInt = (36 : Int) * v2.toInt := mul_ti rfl rfl (by omega) (by omega)
      have q12 : (((36 : Int32) * v2) + v1).toInt = ((36 : Int32) * v2).toInt + v1.toInt := add_ti rfl rfl (by omega) (by omega)
      have q13 : ((36 : Int32) * v4).toInt = (36 : Int) * v4.toInt := mul_ti rfl rfl (by omega) (by omega)
      have q14 : (((36 : Int32) * v4) + v3).toInt = ((36 : Int32) * v4).toInt + v3.toInt := add_ti rfl rfl (by omega) (by omega)
      refine bind_i (sf_Mod_gets (((36 : Int32) * v2) + v1) (((36 : Int32) * v4) + v3) a1_' N_' (⟨show (0 : Int) ≤ (((36 : Int32) * v2) + v1).toInt by omega, show (((36 : Int32) * v2) + v1).toInt ≤ (71 : Int) by omega⟩) (⟨show (0 : Int) ≤ (((36 : Int32) * v4) + v3).toInt by omega, show (((36 : Int32) * v4) + v3).toInt ≤ (71 : Int) by omega⟩) hN) (fun x6 _ q => ?_)
      obtain ⟨h15, h16, h17, h18⟩ := q
      have hG19 : Gd 1000 B_ x6.2 := Gd_t hG h16
      refine if_i (fun c => ?_) (fun c => ?_)
      · have c20 := c
        have d21 : x6.1.toInt = (0 : Int) := eqi.mp c20
        have q22 : (a1_' + (1 : Int32)).toInt = a1_'.toInt + (1 : Int) := add_ti rfl rfl (by omega) (by omega)
        exact ⟨_, rfl, ⟨h15, hG19, (show (-1 : Int) ≤ a1_'.toInt by omega), (show a1_'.toInt ≤ (255 : Int) by omega), (show (0 : Int) ≤ (a1_' + (1 : Int32)).toInt by omega), (show (a1_' + (1 : Int32)).toInt ≤ (256 : Int) by omega)⟩, show (256 - (a1_' + (1 : Int32)).toInt).toNat < (256 - a1_'.toInt).toNat by omega⟩
      · have c23 := c
        have d24 : ¬ x6.1.toInt = (0 : Int) := neqi.mp c23
        have q25 : (a1_' + (1 : Int32)).toInt = a1_'.toInt + (1 : Int) := add_ti rfl rfl (by omega) (by omega)
        exact ⟨_, rfl, ⟨h15, hG19, (show (-1 : Int) ≤ a0_'.toInt by omega), (show a0_'.toInt ≤ (255 : Int) by omega), (show (0 : Int) ≤ (a1_' + (1 : Int32)).toInt by omega), (show (a1_' + (1 : Int32)).toInt ≤ (256 : Int) by omega)⟩, show (256 - (a1_' + (1 : Int32)).toInt).toNat < (256 - a1_'.toInt).toNat by omega⟩
    · have c26 := c
      have d27 : ¬ a0_'.toInt = (-1 : Int) := neqi.mp c26
      refine bind_i (sf_JInteger_bitCount a1_') (fun x8 _ q => ?_)
      obtain ⟨h28, h29⟩ := q
      refine bind_i (sf_JInteger_bitCount a0_') (fun x9 _ q => ?_)
      obtain ⟨h30, h31⟩ := q
      refine if_i (fun c => ?_) (fun c => ?_)
      · have c32 := c
        have d33 : x8.toInt < x9.toInt := lti.mp c32
        unfold j_Mod_watch_65_32
        refine bind_e (show (f_Mod_placeOf v2 v1) = some (((36 : Int32) * v2) + v1) from rfl) ?_
        refine bind_e (show (f_Mod_placeOf v4 v3) = some (((36 : Int32) * v4) + v3) from rfl) ?_
        have q34 : ((36 : Int32) * v2).toInt = (36 : Int) * v2.toInt := mul_ti rfl rfl (by omega) (by omega)
        have q35 : (((36 : Int32) * v2) + v1).toInt = ((36 : Int32) * v2).toInt + v1.toInt := add_ti rfl rfl (by omega) (by omega)
        have q36 : ((36 : Int32) * v4).toInt = (36 : Int) * v4.toInt := mul_ti rfl rfl (by omega) (by omega)
        have q37 : (((36 : Int32) * v4) + v3).toInt = ((36 : Int32) * v4).toInt + v3.toInt := add_ti rfl rfl (by omega) (by omega)
        refine bind_i (sf_Mod_gets (((36 : Int32) * v2) + v1) (((36 : Int32) * v4) + v3) a1_' N_' (⟨show (0 : Int) ≤ (((36 : Int32) * v2) + v1).toInt by omega, show (((36 : Int32) * v2) + v1).toInt ≤ (71 : Int) by omega⟩) (⟨show (0 : Int) ≤ (((36 : Int32) * v4) + v3).toInt by omega, show (((36 : Int32) * v4) + v3).toInt ≤ (71 : Int) by omega⟩) hN) (fun x6 _ q => ?_)
        obtain ⟨h38, h39, h40, h41⟩ := q
        have hG42 : Gd 1000 B_ x6.2 := Gd_t hG h39
        refine if_i (fun c => ?_) (fun c => ?_)
        · have c43 := c
          have d44 : x6.1.toInt = (0 : Int) := eqi.mp c43
          have q45 : (a1_' + (1 : Int32)).toInt = a1_'.toInt + (1 : Int) := add_ti rfl rfl (by omega) (by omega)
          exact ⟨_, rfl, ⟨h38, hG42, (show (-1 : Int) ≤ a1_'.toInt by omega), (show a1_'.toInt ≤ (255 : Int) by omega), (show (0 : Int) ≤ (a1_' + (1 : Int32)).toInt by omega), (show (a1_' + (1 : Int32)).toInt ≤ (256 : Int) by omega)⟩, show (256 - (a1_' + (1 : Int32)).toInt).toNat < (256 - a1_'.toInt).toNat by omega⟩
        · have c46 := c
          have d47 : ¬ x6.1.toInt = (0 : Int) := neqi.mp c46
          have q48 : (a1_' + (1 : Int32)).toInt = a1_'.toInt + (1 : Int) := add_ti rfl rfl (by omega) (by omega)
          exact ⟨_, rfl, ⟨h38, hG42, (show (-1 : Int) ≤ a0_'.toInt by omega), (show a0_'.toInt ≤ (255 : Int) by omega), (show (0 : Int) ≤ (a1_' + (1 : Int32)).toInt by omega), (show (a1_' + (1 : Int32)).toInt ≤ (256 : Int) by omega)⟩, show (256 - (a1_' + (1 : Int32)).toInt).toNat < (256 - a1_'.toInt).toNat by omega⟩
      · have c49 := c
        have d50 : x9.toInt ≤ x8.toInt := nlti.mp c49
        have q51 : (a1_' + (1 : Int32)).toInt = a1_'.toInt + (1 : Int) := add_ti rfl rfl (by omega) (by omega)
        exact ⟨_, rfl, ⟨hN, hG, (show (-1 : Int) ≤ a0_'.toInt by omega), (show a0_'.toInt ≤ (255 : Int) by omega), (show (0 : Int) ≤ (a1_' + (1 : Int32)).toInt by omega), (show (a1_' + (1 : Int32)).toInt ≤ (256 : Int) by omega)⟩, show (256 - (a1_' + (1 : Int32)).toInt).toNat < (256 - a1_'.toInt).toNat by omega⟩
theorem sf_Mod_watch (v1 : Int32) (v2 : Int32) (v3 : Int32) (v4 : Int32) (M : Mem) (hJ : J M) : ∃ r : Int32 × Mem, f_Mod_watch v1 v2 v3 v4 M = some r ∧ (J r.2 ∧ Gd 1000 M r.2 ∧ (-2 : Int) ≤ r.1.toInt ∧ r.1.toInt ≤ (63 : Int)) := by
  unfold f_Mod_watch
  refine mem_i (fun M1 e2 => ?_)
  have hJ3 : J M1 := by rw [e2]; exact Jw_fld okf_162_13 hJ (0 : Int32)
  have hG4 : Gd 1000 M M1 := Gd_i Gd_r e2 (by decide)
  have f5 : (M1.1 162 13).toInt = (0 : Int) := by rw [e2, si_eq]; rfl
  clear e2
  refine bind_i (sf_Mod_isPlaceOf v2 v1 M1 hJ3) (fun x2 e_x2 q => ?_)
  obtain ⟨h6, h7, h8, h9⟩ := q
  refine if_i (fun c => ?_) (fun c => ?_)
  · have c10 := c
    have d11 : x2.toInt = (0 : Int) := eqi.mp c10
    exact ⟨((-1 : Int32), M1), rfl, hJ3, hG4, (show (-2 : Int) ≤ (-1 : Int32).toInt by decide), (show (-1 : Int32).toInt ≤ (63 : Int) by decide)⟩
  · have c12 := c
    have d13 : ¬ x2.toInt = (0 : Int) := neqi.mp c12
    refine bind_i (sf_Mod_isPlaceOf v4 v3 M1 hJ3) (fun x3 e_x3 q => ?_)
    obtain ⟨h14, h15, h16, h17⟩ := q
    refine if_i (fun c => ?_) (fun c => ?_)
    · have c18 := c
      have d19 : x3.toInt = (0 : Int) := eqi.mp c18
      exact ⟨((-1 : Int32), M1), rfl, hJ3, hG4, (show (-2 : Int) ≤ (-1 : Int32).toInt by decide), (show (-1 : Int32).toInt ≤ (63 : Int) by decide)⟩
    · have c20 := c
      have d21 : ¬ x3.toInt = (0 : Int) := neqi.mp c20
      refine bind_i (sl_Mod_watch_32 v1 v2 v3 v4 (-1 : Int32) (0 : Int32) M1 M (⟨show (0 : Int) ≤ v1.toInt by omega, show v1.toInt ≤ (35 : Int) by omega⟩) (⟨show (0 : Int) ≤ v2.toInt by omega, show v2.toInt ≤ (1 : Int) by omega⟩) (⟨show (0 : Int) ≤ v3.toInt by omega, show v3.toInt ≤ (35 : Int) by omega⟩) (⟨show (0 : Int) ≤ v4.toInt by omega, show v4.toInt ≤ (1 : Int) by omega⟩) hJ3 hG4 (show (-1 : Int) ≤ (-1 : Int32).toInt by decide) (show (-1 : Int32).toInt ≤ (255 : Int) by decide) (show (0 : Int) ≤ (0 : Int32).toInt by decide) (show (0 : Int32).toInt ≤ (256 : Int) by decide)) (fun x13 _ q => ?_)
      obtain ⟨h22, h23, h24, h25⟩ := q
      refine if_i (fun c => ?_) (fun c => ?_)
      · have c26 := c
        have d27 : x13.1.toInt = (-1 : Int) := eqi.mp c26
        exact ⟨((-2 : Int32), x13.2), rfl, h22, h23, (show (-2 : Int) ≤ (-2 : Int32).toInt by decide), (show (-2 : Int32).toInt ≤ (63 : Int) by decide)⟩
      · have c28 := c
        have d29 : ¬ x13.1.toInt = (-1 : Int) := neqi.mp c28
        refine mem_i (fun M14 e31 => ?_)
        have hJ32 : J M14 := by rw [e31]; exact Jw_162_12 h22 (0 : Int32) (show (0 : Int) ≤ (0 : Int32).toInt by decide) (show (0 : Int32).toInt ≤ (16 : Int) by decide)
        have hG33 : Gd 1000 M M14 := Gd_i h23 e31 (by decide)
        have f34 : (M14.1 162 12).toInt = (0 : Int) := by rw [e31, si_eq]; rfl
        clear e31
        refine bind_i (sf_Mod_put x13.1 M14 hJ32 (show (M14.1 162 12).toInt ≤ (15 : Int) by omega)) (fun x15 _ q => ?_)
        obtain ⟨h35, h36, h37⟩ := q
        have hG38 : Gd 1000 M x15 := Gd_t hG33 h36
        refine bind_i (sf_JInteger_bitCount x13.1) (fun x16 _ q => ?_)
        obtain ⟨h39, h40⟩ := q
        exact ⟨(x16, x15), rfl, h35, hG38, (show (-2 : Int) ≤ x16.toInt by omega), (show x16.toInt ≤ (63 : Int) by omega)⟩
theorem sl_Mod_count_130 (M : Mem) (a0_ : Int32) (a1_ : Int32) (hJ_M : J M) (i0_ : (0 : Int) ≤ a1_.toInt) (i1_ : a1_.toInt ≤ (8 : Int)) : ∃ x, iter (lb_Mod_count_130 M) FU (a0_, a1_) = some x ∧ (fun r : Int32 => True) x := by
  refine iter_r (fun s : Int32 × Int32 => (0 : Int) ≤ s.2.toInt ∧ s.2.toInt ≤ (8 : Int)) (fun s : Int32 × Int32 => (8 - s.2.toInt).toNat) (fun r : Int32 => True) ?_ FU (a0_, a1_) ⟨i0_, i1_⟩ (by show (8 - a1_.toInt).toNat < FU; rw [FU_v]; omega)
  clear i1_ i0_
  rintro ⟨a0_', a1_'⟩ ⟨i0_, i1_⟩
  dsimp only at i0_ i1_
  unfold lb_Mod_count_130
  dsimp only
  refine if_i (fun c => ?_) (fun c => ?_)
  · have c1 := c
    have r2 := Jr_162_4 hJ_M
    have d3 : (M.1 162 4).toInt ≤ a1_'.toInt := lei.mp c1
    exact ⟨_, rfl, trivial⟩
  · have c4 := c
    have r5 := Jr_162_4 hJ_M
    have d6 : a1_'.toInt < (M.1 162 4).toInt := nlei.mp c4
    refine bind_i (sf_Mod_meetingsOf a1_' M (⟨show (0 : Int) ≤ a1_'.toInt by omega, show a1_'.toInt ≤ (7 : Int) by omega⟩) hJ_M) (fun x11 e_x11 q => ?_)
    have q7 : (a1_' + (1 : Int32)).toInt = a1_'.toInt + (1 : Int) := add_ti rfl rfl (by omega) (by omega)
    exact ⟨_, rfl, ⟨(show (0 : Int) ≤ (a1_' + (1 : Int32)).toInt by omega), (show (a1_' + (1 : Int32)).toInt ≤ (8 : Int) by omega)⟩, show (8 - (a1_' + (1 : Int32)).toInt).toNat < (8 - a1_'.toInt).toNat by omega⟩
theorem sf_Mod_count (v1 : Int32) (M : Mem) (hJ : J M) : ∃ r : Int32 × Mem, f_Mod_count v1 M = some r ∧ (J r.2 ∧ Gd 1000 M r.2) := by
  unfold f_Mod_count
  refine mem_i (fun M1 e2 => ?_)
  have hJ3 : J M1 := by rw [e2]; exact Jw_fld okf_162_13 hJ (0 : Int32)
  have hG4 : Gd 1000 M M1 := Gd_i Gd_r e2 (by decide)
  have f5 : (M1.1 162 13).toInt = (0 : Int) := by rw [e2, si_eq]; rfl
  clear e2
  refine if_i (fun c => ?_) (fun c => ?_)
  · have c6 := c
    have d7 : v1.toInt = (0 : Int) := eqi.mp c6
    refine bind_e (show (f_Mod_cells M1) = some ((M1.1 162 2) * (M1.1 162 3)) from rfl) ?_
    exact ⟨(((M1.1 162 2) * (M1.1 162 3)), M1), rfl, hJ3, hG4⟩
  · have c8 := c
    have d9 : ¬ v1.toInt = (0 : Int) := neqi.mp c8
    refine if_i (fun c => ?_) (fun c => ?_)
    · have c10 := c
      have d11 : v1.toInt = (1 : Int) := eqi.mp c10
      exact ⟨((M1.1 162 2), M1), rfl, hJ3, hG4⟩
    · have c12 := c
      have d13 : ¬ v1.toInt = (1 : Int) := neqi.mp c12
      refine if_i (fun c => ?_) (fun c => ?_)
      · have c14 := c
        have d15 : v1.toInt = (2 : Int) := eqi.mp c14
        exact ⟨((M1.1 162 4), M1), rfl, hJ3, hG4⟩
      · have c16 := c
        have d17 : ¬ v1.toInt = (2 : Int) := neqi.mp c16
        refine if_i (fun c => ?_) (fun c => ?_)
        · have c18 := c
          have d19 : v1.toInt = (3 : Int) := eqi.mp c18
          exact ⟨((M1.1 163 (95 : Int32).toNatClampNeg), M1), rfl, hJ3, hG4⟩
        · have c20 := c
          have d21 : ¬ v1.toInt = (3 : Int) := neqi.mp c20
          refine if_i (fun c => ?_) (fun c => ?_)
          · have c22 := c
            have d23 : v1.toInt = (4 : Int) := eqi.mp c22
            exact ⟨((M1.1 163 (92 : Int32).toNatClampNeg), M1), rfl, hJ3, hG4⟩
          · have c24 := c
            have d25 : ¬ v1.toInt = (4 : Int) := neqi.mp c24
            refine if_i (fun c => ?_) (fun c => ?_)
            · have c26 := c
              have d27 : v1.toInt = (5 : Int) := eqi.mp c26
              exact ⟨((M1.1 162 5), M1), rfl, hJ3, hG4⟩
            · have c28 := c
              have d29 : ¬ v1.toInt = (5 : Int) := neqi.mp c28
              refine if_i (fun c => ?_) (fun c => ?_)
              · have c30 := c
                have d31 : v1.toInt = (6 : Int) := eqi.mp c30
                exact ⟨((M1.1 163 (93 : Int32).toNatClampNeg), M1), rfl, hJ3, hG4⟩
              · have c32 := c
                have d33 : ¬ v1.toInt = (6 : Int) := neqi.mp c32
                refine if_i (fun c => ?_) (fun c => ?_)
                · have c34 := c
                  have d35 : v1.toInt = (7 : Int) := eqi.mp c34
                  exact ⟨((M1.1 163 (94 : Int32).toNatClampNeg), M1), rfl, hJ3, hG4⟩
                · have c36 := c
                  have d37 : ¬ v1.toInt = (7 : Int) := neqi.mp c36
                  refine if_i (fun c => ?_) (fun c => ?_)
                  · have c38 := c
                    have d39 : v1.toInt = (8 : Int) := eqi.mp c38
                    refine bind_i (sl_Mod_count_130 M1 (0 : Int32) (0 : Int32) hJ3 (show (0 : Int) ≤ (0 : Int32).toInt by decide) (show (0 : Int32).toInt ≤ (8 : Int) by decide)) (fun x13 _ q => ?_)
                    exact ⟨((x13 / (2 : Int32)), M1), rfl, hJ3, hG4⟩
                  · have c40 := c
                    have d41 : ¬ v1.toInt = (8 : Int) := neqi.mp c40
                    refine if_i (fun c => ?_) (fun c => ?_)
                    · have c42 := c
                      have d43 : v1.toInt = (9 : Int) := eqi.mp c42
                      exact ⟨((M1.1 162 8), M1), rfl, hJ3, hG4⟩
                    · have c44 := c
                      have d45 : ¬ v1.toInt = (9 : Int) := neqi.mp c44
                      refine if_i (fun c => ?_) (fun c => ?_)
                      · have c46 := c
                        have d47 : v1.toInt = (10 : Int) := eqi.mp c46
                        exact ⟨((M1.1 162 27), M1), rfl, hJ3, hG4⟩
                      · have c48 := c
                        have d49 : ¬ v1.toInt = (10 : Int) := neqi.mp c48
                        refine if_i (fun c => ?_) (fun c => ?_)
                        · have c50 := c
                          have d51 : v1.toInt = (11 : Int) := eqi.mp c50
                          exact ⟨((M1.1 162 12), M1), rfl, hJ3, hG4⟩
                        · have c52 := c
                          have d53 : ¬ v1.toInt = (11 : Int) := neqi.mp c52
                          refine if_i (fun c => ?_) (fun c => ?_)
                          · have c54 := c
                            have d55 : v1.toInt = (12 : Int) := eqi.mp c54
                            exact ⟨((M1.1 162 10), M1), rfl, hJ3, hG4⟩
                          · have c56 := c
                            have d57 : ¬ v1.toInt = (12 : Int) := neqi.mp c56
                            exact ⟨((-100 : Int32), M1), rfl, hJ3, hG4⟩
theorem sf_Mod_row (v1 : Int32) (M : Mem) (hJ : J M) : ∃ r : Int32 × Mem, f_Mod_row v1 M = some r ∧ (J r.2 ∧ Gd 1000 M r.2) := by
  unfold f_Mod_row
  refine mem_i (fun M1 e2 => ?_)
  have hJ3 : J M1 := by rw [e2]; exact Jw_fld okf_162_13 hJ (0 : Int32)
  have hG4 : Gd 1000 M M1 := Gd_i Gd_r e2 (by decide)
  have f5 : (M1.1 162 13).toInt = (0 : Int) := by rw [e2, si_eq]; rfl
  clear e2
  have r6 := Jr_162_12 hJ3
  have q7 : ((M1.1 162 12) - (1 : Int32)).toInt = (M1.1 162 12).toInt - (1 : Int) := sub_ti rfl rfl (by omega) (by omega)
  refine bind_i (sf_Mod_in v1 (0 : Int32) ((M1.1 162 12) - (1 : Int32))) (fun x2 _ q => ?_)
  obtain ⟨h8, h9, h10⟩ := q
  replace h10 : ¬ x2.toInt = 0 → (0 : Int) ≤ v1.toInt ∧ v1.toInt ≤ ((M1.1 162 12) - (1 : Int32)).toInt := h10
  refine if_i (fun c => ?_) (fun c => ?_)
  · have c11 := c
    have d12 : x2.toInt = (0 : Int) := eqi.mp c11
    refine bind_i (sf_Mod_lost M1 hJ3) (fun x3 _ q => ?_)
    obtain ⟨h13, h14, h15, h16⟩ := q
    have hG17 : Gd 1000 M x3.2 := Gd_t hG4 h14
    exact ⟨(x3.1, x3.2), rfl, h13, hG17⟩
  · have c18 := c
    have d19 : ¬ x2.toInt = (0 : Int) := neqi.mp c18
    refine inb_i (by omega) (by omega) ?_
    exact ⟨((M1.1 168 v1.toNatClampNeg), M1), rfl, hJ3, hG4⟩
end
section
abbrev WM (k i : Nat) : Prop := k = 173 ∨ (k = 162 ∧ i = 27)
/-! PLANKS end on roofs, in now, in what can be undone, in what is kept -/
theorem KP_c {M N : Mem} {k k' o o' : Nat} (hm : MapEq N M) (h6 : (M.1 k (o + 92)).toInt ≤ 6) (hc : ∀ i, 80 ≤ i → i ≤ 92 → N.1 k' (o' + i) = M.1 k (o + i)) (h : KP M k o) : KP N k' o' := by
  intro j hj
  rw [hc 92 (by omega) (by omega)] at hj
  have := h j hj
  have e1 : N.1 k' (o' + 80 + 2 * j) = M.1 k (o + 80 + 2 * j) := by rw [Nat.add_assoc, Nat.add_assoc]; exact hc _ (by omega) (by omega)
  have e2 : N.1 k' (o' + 81 + 2 * j) = M.1 k (o + 81 + 2 * j) := by rw [Nat.add_assoc, Nat.add_assoc]; exact hc _ (by omega) (by omega)
  rw [e1, e2]
  exact ⟨(onN_c hm).mpr this.1, (onN_c hm).mpr this.2⟩
theorem J92 {M : Mem} (h : J M) {k : Nat} (hs : stb k = true) (u : Nat) : (0 : Int) ≤ (M.1 k (96 * u + 92)).toInt ∧ (M.1 k (96 * u + 92)).toInt ≤ 6 := by
  have := Jreg h hs (96 * u + 92)
  have e : (96 * u + 92) % 96 = 92 := by omega
  rw [e] at this
  exact this
def KK (M : Mem) : Prop := KP M 163 0 ∧ (∀ u : Nat, (u : Int) < (M.1 162 27).toInt → KP M 173 (96 * u)) ∧ (∀ t : Nat, t < 2 → (0 ≤ (M.1 191 t).toInt ∧ (M.1 191 t).toInt ≤ (M.1 162 48).toInt) ∧ ((M.1 190 t).toInt ≠ 0 → M.1 191 t = M.1 162 48 → KP M 189 (96 * t)))
theorem j92_163 {M : Mem} (h : J M) : (M.1 163 (0 + 92)).toInt ≤ 6 := (J92 h (k := 163) (by decide) 0).2
/-- what KK looks at is as it was -/
def Gk (M N : Mem) : Prop := MapEq N M ∧ N.1 162 27 = M.1 162 27 ∧ N.1 162 48 = M.1 162 48 ∧ (∀ i, 80 ≤ i → i ≤ 92 → N.1 163 i = M.1 163 i) ∧ (∀ i, N.1 173 i = M.1 173 i) ∧ (∀ i, N.1 189 i = M.1 189 i) ∧ (∀ i, N.1 190 i = M.1 190 i) ∧ (∀ i, N.1 191 i = M.1 191 i)
theorem KK_c {M N : Mem} (h : J M) (g : Gk M N) (hk : KK M) : KK N := by
  obtain ⟨g1, g2, g3, g4, g5, g6, g7, g8⟩ := g
  obtain ⟨k1, k2, k3⟩ := hk
  refine ⟨KP_c g1 (j92_163 h) (fun i h1 h2 => by rw [Nat.zero_add]; exact g4 i h1 h2) k1, fun u hu => ?_, fun t ht => ?_⟩
  · rw [g2] at hu
    exact KP_c g1 (J92 h (by decide) u).2 (fun i _ _ => g5 _) (k2 u hu)
  · obtain ⟨a, b⟩ := k3 t ht
    rw [g8, g3, g7]
    exact ⟨a, fun e1 e2 => KP_c g1 (J92 h (by decide) t).2 (fun i _ _ => g6 _) (b e1 e2)⟩
theorem Gk_Gd {v : Nat} (hv : v = 1000 ∨ v = 163) {M N : Mem} (h : Gd v M N) : Gk M N := by
  have a : ∀ k i, pq k i = true → k ≠ 163 → N.1 k i = M.1 k i := fun k i h1 h2 => by
    refine h k i (.inl ⟨h1, ?_⟩)
    rcases hv with rfl | rfl
    · rintro rfl; exact absurd h1 (by
        have : pq 1000 i = false := rfl
        rw [this]; decide)
    · exact h2
  exact ⟨⟨a 162 2 (by decide) (by decide), a 162 3 (by decide) (by decide), fun i => a 164 i rfl (by decide)⟩, a 162 27 (by decide) (by decide), a 162 48 (by decide) (by decide), fun i h1 h2 => h 163 i (.inr ⟨rfl, h1, h2⟩), fun i => a 173 i rfl (by decide), fun i => a 189 i rfl (by decide), fun i => a 190 i rfl (by decide), fun i => a 191 i rfl (by decide)⟩
/-- the reference between two calls; n: how many there were -/
def RI (n : Int) (M : Mem) : Prop := J M ∧ KK M ∧ 0 ≤ (M.1 162 48).toInt ∧ (M.1 162 48).toInt ≤ n
/-- what a call of the reference leaves: the class's cells; THE TEXT's length becomes t -/
def RO (n : Int) (M : Mem) (t : Int32) (N : Mem) : Prop := RI (n + 1) N ∧ (∀ k i, k < 162 → N.1 k i = M.1 k i) ∧ N.1 162 10 = t
theorem RO_Gd {n : Int} {M N : Mem} (h : RI n M) (j : J N) (g : Gd 1000 M N) : RO n M (M.1 162 10) N := by
  have a : ∀ k i, pq k i = true → N.1 k i = M.1 k i := fun k i h1 => g k i (.inl ⟨h1, by
    rintro rfl; exact absurd h1 (by
      have : pq 1000 i = false := rfl
      rw [this]; decide)⟩)
  refine ⟨⟨j, KK_c h.1 (Gk_Gd (.inl rfl) g) h.2.1, ?_, ?_⟩, fun k i hk => a k i ?_, a 162 10 (by decide)⟩
  · rw [a 162 48 (by decide)]; exact h.2.2.1
  · rw [a 162 48 (by decide)]; have := h.2.2.2; omega
  · have : decide (k < 162) = true := decide_eq_true hk
    unfold pq pqc
    rw [this]; rfl
/-- a row of 96 laid into another row -/
theorem fs_lay (v0 v1 : Nat) (v2 : Int32) {M : Mem} (h : J M) (hs0 : St v0) (hs1 : stb v1 = true) (hk1 : kd v1 = 1) (hne : v0 ≠ v1) (h2 : 0 ≤ v2.toInt) (hl : v2.toInt + 96 ≤ ln v1) (hl2 : ln v1 ≤ 2000) (hm : v2.toInt % 96 = 0) : ∃ r : Mem, f_Mod_lay v0 v1 v2 M = some r ∧ (J r ∧ (∀ i, i < 96 → r.1 v1 (v2.toInt.toNat + i) = M.1 v0 i) ∧ (∀ k i, ¬ (k = v1 ∧ v2.toInt.toNat ≤ i ∧ i < v2.toInt.toNat + 96) → r.1 k i = M.1 k i)) := by
  have l0 := St_ln hs0
  have hL : ∃ x, iter (lb_Mod_lay_2 v0 v1 v2) FU ((0 : Int32), M) = some x ∧ (J x ∧ (∀ i, i < 96 → x.1 v1 (v2.toInt.toNat + i) = M.1 v0 i) ∧ (∀ k i, ¬ (k = v1 ∧ v2.toInt.toNat ≤ i ∧ i < v2.toInt.toNat + 96) → x.1 k i = M.1 k i)) := by
    refine cnt_r _ (fun c N => J N ∧ (∀ i : Nat, (i : Int) < c → N.1 v1 (v2.toInt.toNat + i) = M.1 v0 i) ∧ (∀ k i, ¬ (k = v1 ∧ v2.toInt.toNat ≤ i ∧ i < v2.toInt.toNat + 96) → N.1 k i = M.1 k i)) 96 (by decide) ?_ M ⟨h, fun i hi => absurd hi (by omega), fun _ _ _ => rfl⟩ (by decide)
    intro k N k0 k1 hI
    obtain ⟨i1, i2, i3⟩ := hI
    have c36 : (96 : Int32).toInt = 96 := rfl
    unfold lb_Mod_lay_2
    dsimp only
    refine if_i (fun c => ⟨_, rfl, .inl ⟨_, rfl, i1, fun i hi => i2 i (by have := lei.mp c; omega), i3⟩⟩) (fun c => ?_)
    have d := nlei.mp c
    have es : (v2 + k).toInt = v2.toInt + k.toInt := add_ti rfl rfl (by omega) (by omega)
    have ts : (v2 + k).toNatClampNeg = v2.toInt.toNat + k.toInt.toNat := by rw [tcn', es]; omega
    refine inb_i k0 (by omega) (inb_i (by omega) (by omega) ?_)
    refine mem_i (fun m e => ⟨_, rfl, .inr ⟨by omega, m, rfl, ?_, fun i hi => ?_, fun a b hn => ?_⟩⟩)
    · rw [e]
      refine Jwcopy i1 hs1 (St_b hs0) _ _ ?_
      rw [ts, tcn']; omega
    · rw [e, ts]
      by_cases w : i = k.toInt.toNat
      · rw [w, si_eq]; exact i3 v0 _ (fun z => hne z.1)
      · rw [si_ne (fun z => by omega)]
        exact i2 i (by omega)
    · rw [e, ts, si_ne (fun z => hn ⟨z.1, by omega, by omega⟩)]
      exact i3 a b hn
  unfold f_Mod_lay
  exact c_i (St_kd hs0) (c_i hk1 (bind_i hL (fun x _ q => ⟨_, rfl, q⟩)))
theorem fs_shift (v1 : Nat) {M : Mem} (h : J M) : ∃ x, iter (lb_Mod_remember_11 v1) FU ((0 : Int32), M) = some x ∧ (J x ∧ (∀ i, i < 1056 → x.1 173 i = M.1 173 (i + 96)) ∧ (∀ k i, k ≠ 173 → x.1 k i = M.1 k i)) := by
  refine cnt_r _ (fun c N => J N ∧ (∀ i : Nat, (i : Int) < c → N.1 173 i = M.1 173 (i + 96)) ∧ (∀ i : Nat, c ≤ (i : Int) → N.1 173 i = M.1 173 i) ∧ (∀ k i, k ≠ 173 → N.1 k i = M.1 k i)) 1056 (by decide) ?_ M ⟨h, fun i hi => absurd hi (by omega), fun _ _ => rfl, fun _ _ _ => rfl⟩ (by decide)
  intro k N k0 k1 hI
  obtain ⟨i1, i2, i3, i4⟩ := hI
  have c36 : (1056 : Int32).toInt = 1056 := rfl
  unfold lb_Mod_remember_11
  dsimp only
  refine if_i (fun c => ⟨_, rfl, .inl ⟨_, rfl, i1, fun i hi => i2 i (by have := lei.mp c; omega), i4⟩⟩) (fun c => ?_)
  have d := nlei.mp c
  have es : (k + (96 : Int32)).toInt = k.toInt + 96 := add_ti rfl rfl (by omega) (by omega)
  have ts : (k + (96 : Int32)).toNatClampNeg = k.toInt.toNat + 96 := by rw [tcn', es]; omega
  refine inb_i (by omega) (by omega) (inb_i k0 (by omega) ?_)
  refine mem_i (fun m e => ⟨_, rfl, .inr ⟨by omega, m, rfl, ?_, fun i hi => ?_, fun i hi => ?_, fun a b hn => ?_⟩⟩)
  · rw [e]
    refine Jwcopy i1 (by decide) (by decide) _ _ ?_
    rw [ts, tcn']; omega
  · rw [e, ts]
    by_cases w : i = k.toInt.toNat
    · rw [w]; show (s_i N 173 k.toInt.toNat _).1 173 k.toInt.toNat = _; rw [si_eq]; exact i3 _ (by omega)
    · show (s_i N 173 k.toInt.toNat _).1 173 i = _; rw [si_ne (fun z => w z.2)]; exact i2 i (by omega)
  · rw [e]; show (s_i N 173 k.toInt.toNat _).1 173 i = _; rw [si_ne (fun z => by omega)]; exact i3 i (by omega)
  · rw [e, si_ne (fun z => hn z.1)]; exact i4 a b hn
/-- remember: KK stands, if the state that is laid has its PLANKS on roofs -/
theorem fs_remember (v : Nat) {M : Mem} (h : J M) (hk : KK M) (hs : St v) (hv : KP M v 0) : ∃ r : Mem, f_Mod_remember v M = some r ∧ (J r ∧ KK r ∧ Fr WM M r) := by
  have z := Jr_162_27 h
  have hne : v ≠ 173 := by rcases hs with rfl | rfl | rfl <;> decide
  have k49 : ∀ N : Mem, J N → (N.1 162 27).toInt ≤ 11 → (∀ u : Nat, (u : Int) < (N.1 162 27).toInt → KP N 173 (96 * u)) → Fr WM M N → ∃ r : Mem, j_Mod_remember_49 v N = some r ∧ (J r ∧ KK r ∧ Fr WM M r) := by
    intro N hN hn hu f
    have zN := Jr_162_27 hN
    have l : ln 173 = 1152 := by decide +kernel
    have m1 : ((96 : Int32) * (N.1 162 27)).toInt = 96 * (N.1 162 27).toInt := mul_ti rfl rfl (by omega) (by omega)
    have mN : MapEq N M := ⟨f 162 2 (by decide), f 162 3 (by decide), fun i => f 164 i (by omega)⟩
    have tt : ((96 : Int32) * (N.1 162 27)).toInt.toNat = 96 * (N.1 162 27).toInt.toNat := by rw [m1]; omega
    unfold j_Mod_remember_49
    refine bind_i (fs_lay v 173 _ hN hs (by decide) (by decide +kernel) hne (by omega) (by omega) (by omega) (by omega)) (fun x1 _ p => mem_i (fun M2 e2 => ⟨_, rfl, ?_⟩))
    obtain ⟨p1, p2, p3⟩ := p
    rw [tt] at p2 p3
    have e27 : x1.1 162 27 = N.1 162 27 := p3 162 27 (by omega)
    have ea : ((x1.1 162 27) + (1 : Int32)).toInt = (N.1 162 27).toInt + 1 := add_ti (by rw [e27]) rfl (by omega) (by omega)
    have o2 : ∀ k i, ¬ (k = 162 ∧ i = 27) → M2.1 k i = x1.1 k i := fun k i hh => by rw [e2, si_ne hh]
    have oN : ∀ k i, k ≠ 173 → ¬ (k = 162 ∧ i = 27) → M2.1 k i = N.1 k i := fun k i a b => (o2 k i b).trans (p3 k i (by omega))
    have F2 : Fr WM M M2 := fun k i w => (oN k i (by omega) (by omega)).trans (f k i w)
    have mp2 : MapEq M2 M := ⟨F2 162 2 (by decide), F2 162 3 (by decide), fun i => F2 164 i (by omega)⟩
    have u27 : (M2.1 162 27).toInt = (N.1 162 27).toInt + 1 := by rw [e2, si_eq]; exact ea
    refine ⟨by rw [e2]; exact Jw_162_27 p1 _ (by omega) (by omega), ⟨?_, fun u hu2 => ?_, fun t ht => ?_⟩, F2⟩
    · exact KP_c mp2 (j92_163 h) (fun i _ _ => F2 163 _ (by omega)) hk.1
    · rw [u27] at hu2
      by_cases w : (u : Int) < (N.1 162 27).toInt
      · refine KP_c (M := N) ⟨oN 162 2 (by decide) (by decide), oN 162 3 (by decide) (by decide), fun i => oN 164 i (by decide) (by omega)⟩ (J92 hN (by decide) u).2 (fun i h1 h2 => ?_) (hu u w)
        rw [o2 173 _ (by omega), p3 173 _ (by omega)]
      · have eu : u = (N.1 162 27).toInt.toNat := by omega
        subst eu
        refine KP_c (M := M) (k := v) (o := 0) mp2 (by rw [Nat.zero_add]; exact (Jst92 h hs).2) (fun i h1 h2 => ?_) hv
        rw [o2 173 _ (by omega), p2 i (by omega), Nat.zero_add]
        refine f v i ?_
        rcases hs with rfl | rfl | rfl <;> omega
    · obtain ⟨a, b⟩ := hk.2.2 t ht
      rw [F2 191 t (by omega), F2 162 48 (by omega), F2 190 t (by omega)]
      exact ⟨a, fun e1 e3 => KP_c mp2 (J92 h (by decide) t).2 (fun i _ _ => F2 189 _ (by omega)) (b e1 e3)⟩
  have c12 : (12 : Int32).toInt = 12 := rfl
  unfold f_Mod_remember
  refine c_i (St_kd hs) (if_i (fun c => ?_) (fun c => k49 M h (by have := neqi.mp c; omega) hk.2.1 Fr.r))
  refine bind_i (fs_shift v h) (fun x5 _ p => mem_i (fun M6 e6 => ?_))
  obtain ⟨p1, p2, p3⟩ := p
  have e27 : x5.1 162 27 = M.1 162 27 := p3 162 27 (by decide)
  have d : (M.1 162 27).toInt = 12 := eqi.mp c
  have ea : ((x5.1 162 27) - (1 : Int32)).toInt = 12 - 1 := sub_ti (by rw [e27]; exact d) rfl (by omega) (by omega)
  have o6 : ∀ k i, ¬ (k = 162 ∧ i = 27) → M6.1 k i = x5.1 k i := fun k i hh => by rw [e6, si_ne hh]
  have F6 : Fr WM M M6 := fun k i w => (o6 k i (by omega)).trans (p3 k i (by omega))
  have u27 : (M6.1 162 27).toInt = 11 := by rw [e6, si_eq]; exact ea
  refine k49 M6 (by rw [e6]; exact Jw_162_27 p1 _ (by omega) (by omega)) (by omega) (fun u hu => ?_) F6
  rw [u27] at hu
  refine KP_c (M := M) (o := 96 * (u + 1)) ⟨F6 162 2 (by decide), F6 162 3 (by decide), fun i => F6 164 i (by omega)⟩ (J92 h (by decide) (u + 1)).2 (fun i h1 h2 => ?_) (hk.2.1 (u + 1) (by omega))
  rw [o6 173 _ (by omega), p2 _ (by omega)]
  have : 96 * u + i + 96 = 96 * (u + 1) + i := by omega
  rw [this]
end
section
/-! the reference's calls: each returns and keeps RI -/
def Rx (M N : Mem) : Prop := J N ∧ KK N ∧ (∀ k i, k < 162 → N.1 k i = M.1 k i) ∧ N.1 162 10 = M.1 162 10 ∧ N.1 162 48 = M.1 162 48
theorem Rx_r {M : Mem} (h : J M) (k : KK M) : Rx M M := ⟨h, k, fun _ _ _ => rfl, rfl, rfl⟩
theorem pq_lt {k i : Nat} (hk : k < 162) : pq k i = true := by
  have : decide (k < 162) = true := decide_eq_true hk
  unfold pq pqc
  rw [this]; rfl
theorem Rx_g {v : Nat} (hv : v = 1000 ∨ v = 163) {M A B : Mem} (h : Rx M A) (j : J B) (g : Gd v A B) : Rx M B := by
  have a : ∀ k i, pq k i = true → k ≠ 163 → B.1 k i = A.1 k i := fun k i h1 h2 => by
    refine g k i (.inl ⟨h1, ?_⟩)
    rcases hv with rfl | rfl
    · rintro rfl; exact absurd h1 (by
        have : pq 1000 i = false := rfl
        rw [this]; decide)
    · exact h2
  obtain ⟨h1, h2, h3, h4, h5⟩ := h
  exact ⟨j, KK_c h1 (Gk_Gd hv g) h2, fun k i hk => (a k i (pq_lt hk) (by omega)).trans (h3 k i hk), (a 162 10 (by decide) (by decide)).trans h4, (a 162 48 (by decide) (by decide)).trans h5⟩
theorem Rx_RO {n : Int} {M N : Mem} (h : RI n M) (r : Rx M N) : RO n M (M.1 162 10) N := by
  obtain ⟨r1, r2, r3, r4, r5⟩ := r
  exact ⟨⟨r1, r2, by rw [r5]; exact h.2.2.1, by rw [r5]; have := h.2.2.2; omega⟩, r3, r4⟩
/-- every call begins so -/
theorem Rx_13 {M M1 : Mem} (h : J M) (k : KK M) (e : M1 = s_i M 162 13 (0 : Int32)) : Rx M M1 := Rx_g (v := 1000) (.inl rfl) (Rx_r h k) (by rw [e]; exact Jw_fld okf_162_13 h _) (Gd_i Gd_r e (by decide))
theorem Rx_rem {M A : Mem} (h : Rx M A) (v : Nat) (hs : St v) (hv : KP A v 0) : ∃ r, f_Mod_remember v A = some r ∧ (Rx M r ∧ Fr WM A r) := by
  obtain ⟨h1, h2, h3, h4, h5⟩ := h
  obtain ⟨r, e, r1, r2, r3⟩ := fs_remember v h1 h2 hs hv
  exact ⟨r, e, ⟨r1, r2, fun k i hk => (r3 k i (by omega)).trans (h3 k i hk), (r3 162 10 (by decide)).trans h4, (r3 162 48 (by decide)).trans h5⟩, r3⟩
theorem Rx_put {M A : Mem} (h : Rx M A) (v : Int32) (hr : (A.1 162 12).toInt ≤ 15) : ∃ r, f_Mod_put v A = some r ∧ (Rx M r ∧ (r.1 162 12).toInt = (A.1 162 12).toInt + 1) := by
  obtain ⟨r, e, r1, r2, r3⟩ := sf_Mod_put v A h.1 hr
  exact ⟨r, e, Rx_g (.inl rfl) h r1 r2, r3⟩
theorem Rx_row0 {M A B : Mem} (h : Rx M A) (e : B = s_i A 162 12 (0 : Int32)) : Rx M B ∧ (B.1 162 12).toInt = 0 := ⟨Rx_g (v := 1000) (.inl rfl) h (by rw [e]; exact Jw_162_12 h.1 _ (by decide) (by decide)) (Gd_i Gd_r e (by decide)), by rw [e, si_eq]; rfl⟩
theorem mr_tell {n : Int} {M : Mem} (h : RI n M) (v1 : Int32) : ∃ r, f_Mod_tell v1 M = some r ∧ RO n M (M.1 162 10) r.2 := by
  unfold f_Mod_tell
  refine mem_i (fun M1 e1 => ?_)
  have x1 := Rx_13 h.1 h.2.1 e1
  refine bind_i (sf_Mod_canTell v1 M1 x1.1) (fun x2 _ _ => if_i (fun _ => ⟨_, rfl, Rx_RO h x1⟩) (fun _ => ?_))
  refine bind_i (Rx_rem x1 163 St_163 x1.2.1.1) (fun x3 _ q => mem_i (fun M4 e4 => ?_))
  have x4 : Rx M M4 := Rx_g (v := 163) (.inr rfl) q.1 (by rw [e4]; exact Jws93 q.1.1 St_163 _) (Gd_st Gd_r e4 (by decide))
  exact bind_i (sf_JInteger_bitCount _) (fun x5 _ _ => ⟨_, rfl, Rx_RO h x4⟩)
theorem mr_feast {n : Int} {M : Mem} (h : RI n M) (v1 : Int32) : ∃ r, f_Mod_feast v1 M = some r ∧ RO n M (M.1 162 10) r.2 := by
  unfold f_Mod_feast
  refine mem_i (fun M1 e1 => ?_)
  have x1 := Rx_13 h.1 h.2.1 e1
  refine bind_i (sf_Mod_canFeast v1 M1 x1.1) (fun x2 _ q2 => if_i (fun _ => ⟨_, rfl, Rx_RO h x1⟩) (fun c => ?_))
  refine bind_i (Rx_rem x1 163 St_163 x1.2.1.1) (fun x3 _ q => bind_i (sf_Mod_goFeast v1 x3 (q2.2.2 (neqi.mp c)) q.1.1) (fun x4 _ q4 => ?_))
  have x4' : Rx M x4 := Rx_g (v := 163) (.inr rfl) q.1 q4.1 q4.2
  exact bind_i (sf_Mod_womenBelow x4 q4.1) (fun x5 _ _ => ⟨_, rfl, Rx_RO h x4'⟩)
theorem mr_minute {n : Int} {M : Mem} (h : RI n M) : ∃ r, f_Mod_minute M = some r ∧ RO n M (M.1 162 10) r.2 := by
  unfold f_Mod_minute
  refine mem_i (fun M1 e1 => ?_)
  have x1 := Rx_13 h.1 h.2.1 e1
  refine bind_i (Rx_rem x1 163 St_163 x1.2.1.1) (fun x2 _ q => bind_i (sf_Mod_goMinute 163 x2 St_163 q.1.1) (fun x3 _ q3 => mem_i (fun M4 e4 => ?_)))
  have x3' : Rx M x3 := Rx_g (v := 163) (.inr rfl) q.1 q3.1 q3.2
  obtain ⟨x4, z4⟩ := Rx_row0 x3' e4
  exact bind_i (Rx_put x4 _ (by omega)) (fun x5 _ q5 => bind_i (Rx_put q5.1 _ (by omega)) (fun x6 _ q6 => ⟨_, rfl, Rx_RO h q6.1⟩))
theorem mr_minutes {n : Int} {M : Mem} (h : RI n M) (v1 : Int32) : ∃ r, f_Mod_minutes v1 M = some r ∧ RO n M (M.1 162 10) r.2 := by
  unfold f_Mod_minutes
  refine mem_i (fun M1 e1 => ?_)
  have x1 := Rx_13 h.1 h.2.1 e1
  have lp : ∀ A : Mem, Rx M A → v1.toInt ≤ 60 → ∃ x, iter (lb_Mod_minutes_36 v1) FU ((0 : Int32), (0 : Int32), (0 : Int32), A) = some x ∧ Rx M x.2.2 := by
    intro A hA hv
    refine iter_r (fun s : Int32 × Int32 × Int32 × Mem => Rx M s.2.2.2 ∧ 0 ≤ s.2.2.1.toInt ∧ s.2.2.1.toInt ≤ 60) (fun s : Int32 × Int32 × Int32 × Mem => (60 - s.2.2.1.toInt).toNat) _ ?_ FU _ ⟨hA, (by show (0 : Int) ≤ (0 : Int32).toInt; decide), (by show (0 : Int32).toInt ≤ 60; decide)⟩ (by show (60 - (0 : Int)).toNat < FU; rw [FU_v]; decide)
    rintro ⟨a, b, k, N⟩ ⟨i1, i2, i3⟩
    dsimp only at i1 i2 i3
    unfold lb_Mod_minutes_36
    dsimp only
    refine if_i (fun c => ⟨_, rfl, i1⟩) (fun c => ?_)
    have d := nlei.mp c
    have ek : (k + (1 : Int32)).toInt = k.toInt + 1 := add_ti rfl rfl (by omega) (by omega)
    refine bind_i (sf_Mod_goMinute 163 N St_163 i1.1) (fun x3 _ q3 => bind_i (sf_JInteger_bitCount _) (fun x4 _ _ => ⟨_, rfl, ⟨Rx_g (.inr rfl) i1 q3.1 q3.2, ?_, ?_⟩, ?_⟩))
    · show 0 ≤ (k + (1 : Int32)).toInt; omega
    · show (k + (1 : Int32)).toInt ≤ 60; omega
    · show (60 - (k + (1 : Int32)).toInt).toNat < (60 - k.toInt).toNat; omega
  refine bind_i (sp_in v1 0 60) (fun x2 _ q2 => ?_)
  have c60 : (60 : Int32).toInt = 60 := rfl
  rcases q2 with ⟨rfl, a1, a2⟩ | ⟨rfl, -⟩
  · refine if_i (fun c => absurd c (by decide)) (fun _ => if_i (fun _ => ?_) (fun _ => ?_))
    · refine bind_i (lp M1 x1 (by omega)) (fun x6 _ q6 => mem_i (fun M7 e7 => ?_))
      obtain ⟨x7, z7⟩ := Rx_row0 q6 e7
      exact bind_i (Rx_put x7 _ (by omega)) (fun x8 _ q8 => bind_i (Rx_put q8.1 _ (by omega)) (fun x9 _ q9 => ⟨_, rfl, Rx_RO h q9.1⟩))
    · refine bind_i (Rx_rem x1 163 St_163 x1.2.1.1) (fun x10 _ q10 => bind_i (lp x10 q10.1 (by omega)) (fun x6 _ q6 => mem_i (fun M7 e7 => ?_)))
      obtain ⟨x7, z7⟩ := Rx_row0 q6 e7
      exact bind_i (Rx_put x7 _ (by omega)) (fun x8 _ q8 => bind_i (Rx_put q8.1 _ (by omega)) (fun x9 _ q9 => ⟨_, rfl, Rx_RO h q9.1⟩))
  · exact if_i (fun _ => ⟨_, rfl, Rx_RO h x1⟩) (fun c => absurd rfl c)
theorem mr_sheet {n : Int} {M : Mem} (h : RI n M) (v1 v2 v3 v4 : Int32) : ∃ r, f_Mod_sheet v1 v2 v3 v4 M = some r ∧ RO n M (M.1 162 10) r.2 := by
  obtain ⟨r, e, r1, r2⟩ := sf_Mod_sheet v1 v2 v3 v4 M h.1
  exact ⟨r, e, Rx_RO h (Rx_g (.inr rfl) (Rx_r h.1 h.2.1) r1 r2)⟩
/-- a PLANK more, on roofs -/
theorem fs_layPlank (v1 v2 : Int32) {M : Mem} (h : J M) (h1 : 0 ≤ v1.toInt ∧ v1.toInt ≤ 35) (h2 : 0 ≤ v2.toInt ∧ v2.toInt ≤ 35) (hm : (M.1 163 92).toInt ≤ 5) (hk : KP M 163 0) (o1 : onN M 1 v1.toInt) (o2 : onN M 1 v2.toInt) : ∃ r : Mem, f_Mod_layPlank v1 v2 M = some r ∧ (J r ∧ KP r 163 0 ∧ ∀ k i, k ≠ 163 → r.1 k i = M.1 k i) := by
  have t92 : (92 : Int32).toNatClampNeg = 92 := rfl
  have p : (0 : Int) ≤ (M.1 163 92).toInt ∧ (M.1 163 92).toInt ≤ 6 := Jst92 h St_163
  have m1 : ((2 : Int32) * (M.1 163 92)).toInt = 2 * (M.1 163 92).toInt := mul_ti rfl rfl (by omega) (by omega)
  have m2 : ((80 : Int32) + ((2 : Int32) * (M.1 163 92))).toInt = 80 + 2 * (M.1 163 92).toInt := add_ti rfl m1 (by omega) (by omega)
  have m3 : (((80 : Int32) + ((2 : Int32) * (M.1 163 92))) + (1 : Int32)).toInt = 80 + 2 * (M.1 163 92).toInt + 1 := add_ti m2 rfl (by omega) (by omega)
  have i2 : ((80 : Int32) + ((2 : Int32) * (M.1 163 92))).toNatClampNeg = 80 + 2 * (M.1 163 92).toInt.toNat := by rw [tcn', m2]; omega
  have i3 : (((80 : Int32) + ((2 : Int32) * (M.1 163 92))) + (1 : Int32)).toNatClampNeg = 81 + 2 * (M.1 163 92).toInt.toNat := by rw [tcn', m3]; omega
  unfold f_Mod_layPlank
  rw [t92]
  refine inb_i (by omega) (by omega) (mem_i (fun M1 e1 => inb_i (by omega) (by omega) (mem_i (fun M2 e2 => mem_i (fun M3 e3 => ⟨_, rfl, ?_⟩)))))
  have j1 : J M1 := by rw [e1]; exact Jws80 h St_163 (by omega) (by omega) _ h1.1 h1.2
  have j2 : J M2 := by rw [e2]; exact Jws80 j1 St_163 (by omega) (by omega) _ h2.1 h2.2
  rw [i2] at e1
  rw [i3] at e2
  have k2 : M2.1 163 92 = M.1 163 92 := by rw [e2, si_ne (by omega), e1, si_ne (by omega)]
  have e5 : ((M2.1 163 92) + (1 : Int32)).toInt = (M.1 163 92).toInt + 1 := add_ti (by rw [k2]) rfl (by omega) (by omega)
  have fr : ∀ k i, k ≠ 163 → M3.1 k i = M.1 k i := fun k i hh => by rw [e3, si_ne (fun z => hh z.1), e2, si_ne (fun z => hh z.1), e1, si_ne (fun z => hh z.1)]
  have mp : MapEq M3 M := ⟨fr 162 2 (by decide), fr 162 3 (by decide), fun i => fr 164 i (by decide)⟩
  refine ⟨by rw [e3]; exact Jws92 j2 St_163 _ (by omega) (by omega), ?_, fr⟩
  intro j hj
  have v92 : (M3.1 163 (0 + 92)).toInt = (M.1 163 92).toInt + 1 := by rw [e3]; show ((s_i M2 163 92 _).1 163 92).toInt = _; rw [si_eq]; exact e5
  rw [v92] at hj
  by_cases w : (j : Int) < (M.1 163 92).toInt
  · have := hk j (by rw [Nat.zero_add]; exact w)
    have a1 : M3.1 163 (0 + 80 + 2 * j) = M.1 163 (0 + 80 + 2 * j) := by rw [e3, si_ne (by omega), e2, si_ne (by omega), e1, si_ne (by omega)]
    have a2 : M3.1 163 (0 + 81 + 2 * j) = M.1 163 (0 + 81 + 2 * j) := by rw [e3, si_ne (by omega), e2, si_ne (by omega), e1, si_ne (by omega)]
    rw [a1, a2]
    exact ⟨(onN_c mp).mpr this.1, (onN_c mp).mpr this.2⟩
  · have ej : j = (M.1 163 92).toInt.toNat := by omega
    have a1 : M3.1 163 (0 + 80 + 2 * j) = v1 := by
      rw [e3, si_ne (by omega), e2, si_ne (by omega), e1]
      have : 0 + 80 + 2 * j = 80 + 2 * (M.1 163 92).toInt.toNat := by omega
      rw [this, si_eq]
    have a2 : M3.1 163 (0 + 81 + 2 * j) = v2 := by
      rw [e3, si_ne (by omega), e2]
      have : 0 + 81 + 2 * j = 81 + 2 * (M.1 163 92).toInt.toNat := by omega
      rw [this, si_eq]
    rw [a1, a2]
    exact ⟨(onN_c mp).mpr o1, (onN_c mp).mpr o2⟩
theorem fs_plankRefusal (v1 v2 : Int32) {M : Mem} (hJ : J M) : ∃ r : Int32, f_Mod_plankRefusal v1 v2 M = some r ∧ (0 ≤ r.toInt → (0 ≤ v1.toInt ∧ v1.toInt ≤ 35) ∧ (0 ≤ v2.toInt ∧ v2.toInt ≤ 35) ∧ (M.1 163 92).toInt ≤ 5 ∧ onN M 1 v1.toInt ∧ onN M 1 v2.toInt) := by
  have bad : ∀ b : Int32, b.toInt < 0 → (0 ≤ b.toInt → (0 ≤ v1.toInt ∧ v1.toInt ≤ 35) ∧ (0 ≤ v2.toInt ∧ v2.toInt ≤ 35) ∧ (M.1 163 92).toInt ≤ 5 ∧ onN M 1 v1.toInt ∧ onN M 1 v2.toInt) := fun b hb h => absurd h (by omega)
  have p : (0 : Int) ≤ (M.1 163 92).toInt ∧ (M.1 163 92).toInt ≤ 6 := Jst92 hJ St_163
  have cb : ∀ a b : Int32, (0 ≤ a.toInt ∧ a.toInt ≤ 35) → (0 ≤ b.toInt ∧ b.toInt ≤ 35) → ∃ r, f_Mod_canBridge a b M = some r ∧ (r ≠ 0 → onN M 1 a.toInt ∧ onN M 1 b.toInt) := by
    intro a b ha hb
    have o1 : (1 : Int32).toInt = 1 := rfl
    unfold f_Mod_canBridge
    refine bind_i (sf_Mod_between a b M ha hb hJ) (fun x1 _ _ => if_i (fun _ => ⟨_, rfl, fun w => absurd rfl w⟩) (fun _ => ?_))
    refine bind_i (fs_isOf hJ 1 a) (fun x2 _ q2 => ?_)
    rcases q2 with ⟨rfl, q2⟩ | ⟨rfl, q2⟩
    · refine if_i (fun c => absurd c (by decide)) (fun _ => bind_i (fs_isOf hJ 1 b) (fun x3 _ q3 => ?_))
      rcases q3 with ⟨rfl, q3⟩ | ⟨rfl, q3⟩
      · exact if_i (fun c => absurd c (by decide)) (fun _ => bind_i (fs_isOf hJ 1 x1) (fun x4 _ _ => if_i (fun _ => ⟨_, rfl, fun _ => ⟨q2, q3⟩⟩) (fun _ => ⟨_, rfl, fun w => absurd rfl w⟩)))
      · exact if_i (fun _ => ⟨_, rfl, fun w => absurd rfl w⟩) (fun c => absurd rfl c)
    · exact if_i (fun _ => ⟨_, rfl, fun w => absurd rfl w⟩) (fun c => absurd rfl c)
  unfold f_Mod_plankRefusal
  refine bind_i (sp_isCell hJ v1) (fun x1 _ q => ?_)
  rcases q with ⟨rfl, q1, q2, -⟩ | ⟨rfl, -⟩
  · refine if_i (fun c => absurd c (by decide)) (fun _ => ?_)
    refine bind_i (sp_isCell hJ v2) (fun x2 _ q => ?_)
    rcases q with ⟨rfl, q3, q4, -⟩ | ⟨rfl, -⟩
    · refine if_i (fun c => absurd c (by decide)) (fun _ => ?_)
      refine bind_i (cb v1 v2 ⟨q1, q2⟩ ⟨q3, q4⟩) (fun x3 _ q5 => ?_)
      refine if_i (fun _ => ⟨_, rfl, bad _ (by decide)⟩) (fun c3 => ?_)
      refine bind_i (sf_Mod_isPlank 163 v1 v2 M St_163 hJ) (fun x4 _ _ => ?_)
      refine if_i (fun _ => ?_) (fun _ => ⟨_, rfl, bad _ (by decide)⟩)
      refine if_i (fun _ => ⟨_, rfl, bad _ (by decide)⟩) (fun c => ⟨_, rfl, fun _ => ⟨⟨q1, q2⟩, ⟨q3, q4⟩, ?_, q5 c3⟩⟩)
      have : ¬ (M.1 163 92).toInt = (6 : Int32).toInt := neqi.mp c
      have c6 : (6 : Int32).toInt = 6 := rfl
      omega
    · exact if_i (fun _ => ⟨_, rfl, bad _ (by decide)⟩) (fun c => absurd rfl c)
  · exact if_i (fun _ => ⟨_, rfl, bad _ (by decide)⟩) (fun c => absurd rfl c)
/-- 163 changes, its PLANKS end on roofs -/
theorem Rx_163 {M A B : Mem} (h : Rx M A) (j : J B) (k : KP B 163 0) (f : ∀ y i, y ≠ 163 → B.1 y i = A.1 y i) : Rx M B := by
  obtain ⟨h1, h2, h3, h4, h5⟩ := h
  have mp : MapEq B A := ⟨f 162 2 (by decide), f 162 3 (by decide), fun i => f 164 i (by decide)⟩
  refine ⟨j, ⟨k, fun u hu => ?_, fun t ht => ?_⟩, fun y i hy => (f y i (by omega)).trans (h3 y i hy), (f 162 10 (by decide)).trans h4, (f 162 48 (by decide)).trans h5⟩
  · rw [f 162 27 (by decide)] at hu
    exact KP_c mp (J92 h1 (by decide) u).2 (fun i _ _ => f 173 _ (by decide)) (h2.2.1 u hu)
  · obtain ⟨a, b⟩ := h2.2.2 t ht
    rw [f 191 t (by decide), f 162 48 (by decide), f 190 t (by decide)]
    exact ⟨a, fun e1 e2 => KP_c mp (J92 h1 (by decide) t).2 (fun i _ _ => f 189 _ (by decide)) (b e1 e2)⟩
theorem mr_plank {n : Int} {M : Mem} (h : RI n M) (v1 v2 : Int32) : ∃ r, f_Mod_plank v1 v2 M = some r ∧ RO n M (M.1 162 10) r.2 := by
  unfold f_Mod_plank
  refine mem_i (fun M1 e1 => ?_)
  have x1 := Rx_13 h.1 h.2.1 e1
  refine bind_i (fs_plankRefusal v1 v2 x1.1) (fun x2 _ q => if_i (fun c => ?_) (fun _ => ⟨_, rfl, Rx_RO h x1⟩))
  obtain ⟨q1, q2, q3, q4, q5⟩ := q (lei.mp c)
  refine bind_i (Rx_rem x1 163 St_163 x1.2.1.1) (fun x3 _ p => ?_)
  obtain ⟨p1, p2⟩ := p
  have mp : MapEq x3 M1 := ⟨p2 162 2 (by decide), p2 162 3 (by decide), fun i => p2 164 i (by omega)⟩
  exact bind_i (fs_layPlank v1 v2 p1.1 q1 q2 (by rw [p2 163 92 (by decide)]; exact q3) p1.2.1.1 ((onN_c mp).mpr q4) ((onN_c mp).mpr q5)) (fun x4 _ s => ⟨_, rfl, Rx_RO h (Rx_163 p1 s.1 s.2.1 s.2.2)⟩)
theorem KP_less {M N : Mem} (hm : MapEq N M) (hl : (N.1 163 92).toInt ≤ (M.1 163 92).toInt) (hc : ∀ i, 80 ≤ i → i < 92 → N.1 163 i = M.1 163 i) (h6 : (M.1 163 92).toInt ≤ 6) (h : KP M 163 0) : KP N 163 0 := by
  intro j hj
  rw [Nat.zero_add] at hj
  have := h j (by rw [Nat.zero_add]; omega)
  rw [hc (0 + 80 + 2 * j) (by omega) (by omega), hc (0 + 81 + 2 * j) (by omega) (by omega)]
  exact ⟨(onN_c hm).mpr this.1, (onN_c hm).mpr this.2⟩
theorem Rx_takeoff {M A B : Mem} (h : Rx M A) (hn : (A.1 163 92).toInt ≠ 0) (e : B = s_i A 163 92 ((A.1 163 92) - (1 : Int32))) : Rx M B := by
  have p : (0 : Int) ≤ (A.1 163 92).toInt ∧ (A.1 163 92).toInt ≤ 6 := Jst92 h.1 St_163
  have es : ((A.1 163 92) - (1 : Int32)).toInt = (A.1 163 92).toInt - 1 := sub_ti rfl rfl (by omega) (by omega)
  have f : ∀ y i, y ≠ 163 → B.1 y i = A.1 y i := fun y i hy => by rw [e, si_ne (fun z => hy z.1)]
  refine Rx_163 h (by rw [e]; exact Jws92 h.1 St_163 _ (by omega) (by omega)) ?_ f
  refine KP_less ⟨f 162 2 (by decide), f 162 3 (by decide), fun i => f 164 i (by decide)⟩ ?_ (fun i h1 h2 => by rw [e, si_ne (by omega)]) p.2 h.2.1.1
  rw [e, si_eq]; omega
theorem mr_take {n : Int} {M : Mem} (h : RI n M) : ∃ r, f_Mod_take M = some r ∧ RO n M (M.1 162 10) r.2 := by
  unfold f_Mod_take
  have t92 : (92 : Int32).toNatClampNeg = 92 := rfl
  rw [t92]
  refine mem_i (fun M1 e1 => ?_)
  have x1 := Rx_13 h.1 h.2.1 e1
  refine if_i (fun _ => ⟨_, rfl, Rx_RO h x1⟩) (fun c => ?_)
  refine bind_i (Rx_rem x1 163 St_163 x1.2.1.1) (fun x2 _ q => mem_i (fun M3 e3 => ⟨_, rfl, Rx_RO h (Rx_takeoff q.1 ?_ e3)⟩))
  rw [q.2 163 92 (by decide)]; exact neqi.mp c
theorem mr_undo {n : Int} {M : Mem} (h : RI n M) : ∃ r, f_Mod_undo M = some r ∧ RO n M (M.1 162 10) r.2 := by
  unfold f_Mod_undo
  refine mem_i (fun M1 e1 => ?_)
  have x1 := Rx_13 h.1 h.2.1 e1
  refine if_i (fun _ => ⟨_, rfl, Rx_RO h x1⟩) (fun c => mem_i (fun M2 e2 => ?_))
  have z := Jr_162_27 x1.1
  have d := neqi.mp c
  have zz : (0 : Int32).toInt = 0 := rfl
  have es : ((M1.1 162 27) - (1 : Int32)).toInt = (M1.1 162 27).toInt - 1 := sub_ti rfl rfl (by omega) (by omega)
  have j2 : J M2 := by rw [e2]; exact Jw_162_27 x1.1 _ (by omega) (by omega)
  have f2 : ∀ k i, ¬ (k = 162 ∧ i = 27) → M2.1 k i = M1.1 k i := fun k i hh => by rw [e2, si_ne hh]
  have u2 : (M2.1 162 27).toInt = (M1.1 162 27).toInt - 1 := by rw [e2, si_eq]; exact es
  have hl : ∃ x, iter lb_Mod_undo_26 FU ((0 : Int32), M2) = some x ∧ (J x ∧ (∀ k i, k ≠ 163 → x.1 k i = M2.1 k i) ∧ (∀ i : Nat, (i : Int) < 96 → x.1 163 i = M2.1 173 (96 * (M2.1 162 27).toInt.toNat + i))) := by
    refine cnt_r _ (fun c N => J N ∧ (∀ k i, k ≠ 163 → N.1 k i = M2.1 k i) ∧ (∀ i : Nat, (i : Int) < c → N.1 163 i = M2.1 173 (96 * (M2.1 162 27).toInt.toNat + i))) 96 (by decide) ?_ M2 ⟨j2, fun _ _ _ => rfl, fun i hi => absurd hi (by omega)⟩ (by decide)
    intro k N k0 k1 hI
    obtain ⟨i1, i2, i3⟩ := hI
    have c36 : (96 : Int32).toInt = 96 := rfl
    have e27 : N.1 162 27 = M2.1 162 27 := i2 162 27 (by decide)
    unfold lb_Mod_undo_26
    dsimp only
    rw [e27]
    refine if_i (fun c => ⟨_, rfl, .inl ⟨_, rfl, i1, i2, fun i hi => i3 i (by have := lei.mp c; omega)⟩⟩) (fun c => ?_)
    have d := nlei.mp c
    have m1 : ((96 : Int32) * (M2.1 162 27)).toInt = 96 * (M2.1 162 27).toInt := mul_ti rfl rfl (by omega) (by omega)
    have m2 : (((96 : Int32) * (M2.1 162 27)) + k).toInt = 96 * (M2.1 162 27).toInt + k.toInt := add_ti m1 rfl (by omega) (by omega)
    have t2 : (((96 : Int32) * (M2.1 162 27)) + k).toNatClampNeg = 96 * (M2.1 162 27).toInt.toNat + k.toInt.toNat := by rw [tcn', m2]; omega
    refine inb_i (by omega) (by omega) (inb_i k0 (by omega) (mem_i (fun m e => ⟨_, rfl, .inr ⟨by omega, m, rfl, ?_, fun a b hn => ?_, fun i hi => ?_⟩⟩)))
    · rw [e]
      refine Jwcopy i1 (by decide) (by decide) _ _ ?_
      rw [t2, tcn']; omega
    · rw [e, si_ne (fun z => hn z.1)]; exact i2 a b hn
    · rw [e, t2]
      by_cases w : i = k.toInt.toNat
      · rw [w]; show (s_i N 163 k.toInt.toNat _).1 163 k.toInt.toNat = _; rw [si_eq]; exact i2 173 _ (by decide)
      · show (s_i N 163 k.toInt.toNat _).1 163 i = _; rw [si_ne (fun z => w z.2)]; exact i3 i (by omega)
  refine bind_i hl (fun x5 _ q => ⟨_, rfl, ?_⟩)
  obtain ⟨q1, q2, q3⟩ := q
  have fm : ∀ k i, k ≠ 163 → ¬ (k = 162 ∧ i = 27) → x5.1 k i = M1.1 k i := fun k i a b => (q2 k i a).trans (f2 k i b)
  have mp : MapEq x5 M1 := ⟨fm 162 2 (by decide) (by decide), fm 162 3 (by decide) (by decide), fun i => fm 164 i (by decide) (by omega)⟩
  obtain ⟨a1, a2, a3, a4, a5⟩ := x1
  refine Rx_RO h ⟨q1, ⟨?_, fun u hu => ?_, fun t ht => ?_⟩, fun k i hk => (fm k i (by omega) (by omega)).trans (a3 k i hk), (fm 162 10 (by decide) (by decide)).trans a4, (fm 162 48 (by decide) (by decide)).trans a5⟩
  · refine KP_c (M := M1) (k := 173) (o := 96 * (M2.1 162 27).toInt.toNat) mp (J92 a1 (by decide) _).2 (fun i h1 h2 => ?_) (a2.2.1 _ (by omega))
    rw [Nat.zero_add, q3 i (by omega)]; exact f2 173 _ (by omega)
  · have hu' : (u : Int) < (M1.1 162 27).toInt - 1 := by
      have : (x5.1 162 27).toInt = (M1.1 162 27).toInt - 1 := by rw [q2 162 27 (by decide)]; exact u2
      rw [← this]; exact hu
    exact KP_c mp (J92 a1 (by decide) u).2 (fun i _ _ => fm 173 _ (by decide) (by omega)) (a2.2.1 u (by omega))
  · obtain ⟨b1, b2⟩ := a2.2.2 t ht
    show (0 ≤ (x5.1 191 t).toInt ∧ (x5.1 191 t).toInt ≤ (x5.1 162 48).toInt) ∧ ((x5.1 190 t).toInt ≠ 0 → x5.1 191 t = x5.1 162 48 → KP x5 189 (96 * t))
    rw [fm 191 t (by decide) (by omega), fm 162 48 (by decide) (by decide), fm 190 t (by decide) (by omega)]
    exact ⟨b1, fun e1 e2 => KP_c mp (J92 a1 (by decide) t).2 (fun i _ _ => fm 189 _ (by decide) (by omega)) (b2 e1 e2)⟩
theorem mr_keep {n : Int} {M : Mem} (h : RI n M) (v1 : Int32) : ∃ r, f_Mod_keep v1 M = some r ∧ RO n M (M.1 162 10) r.2 := by
  unfold f_Mod_keep
  refine mem_i (fun M1 e1 => ?_)
  have x1 := Rx_13 h.1 h.2.1 e1
  refine bind_i (sp_in v1 0 1) (fun x2 _ q => ?_)
  have z0 : (0 : Int32).toInt = 0 := rfl
  have z1 : (1 : Int32).toInt = 1 := rfl
  rcases q with ⟨rfl, q1, q2⟩ | ⟨rfl, -⟩
  · refine if_i (fun c => absurd c (by decide)) (fun _ => inb_i (by omega) (by omega) (mem_i (fun M3 e3 => inb_i (by omega) (by omega) (mem_i (fun M4 e4 => ?_)))))
    have j3 : J M3 := by rw [e3]; exact Jw_190 x1.1 _ _ (nar01 _).1 (nar01 _).2
    have j4 : J M4 := by rw [e4]; exact Jw_any ok_191 j3 _ _
    have tv : v1.toNatClampNeg = v1.toInt.toNat := rfl
    rw [tv] at e3 e4
    have f4 : ∀ k i, k ≠ 190 → k ≠ 191 → M4.1 k i = M1.1 k i := fun k i a b => by rw [e4, si_ne (fun z => b z.1), e3, si_ne (fun z => a z.1)]
    have m1 : ((96 : Int32) * v1).toInt = 96 * v1.toInt := mul_ti rfl rfl (by omega) (by omega)
    have tt : ((96 : Int32) * v1).toInt.toNat = 96 * v1.toInt.toNat := by rw [m1]; omega
    have l : ln 189 = 192 := by decide +kernel
    refine bind_i (fs_lay 163 189 _ j4 St_163 (by decide) (by decide +kernel) (by decide) (by omega) (by omega) (by omega) (by omega)) (fun x5 _ q => ⟨_, rfl, ?_⟩)
    obtain ⟨p1, p2, p3⟩ := q
    rw [tt] at p2 p3
    have fm : ∀ k i, k ≠ 190 → k ≠ 191 → k ≠ 189 → x5.1 k i = M1.1 k i := fun k i a b c => (p3 k i (by omega)).trans (f4 k i a b)
    have mp : MapEq x5 M1 := ⟨fm 162 2 (by decide) (by decide) (by decide), fm 162 3 (by decide) (by decide) (by decide), fun i => fm 164 i (by decide) (by decide) (by decide)⟩
    obtain ⟨a1, a2, a3, a4, a5⟩ := x1
    refine Rx_RO h ⟨p1, ⟨?_, fun u hu => ?_, fun t ht => ?_⟩, fun k i hk => (fm k i (by omega) (by omega) (by omega)).trans (a3 k i hk), (fm 162 10 (by decide) (by decide) (by decide)).trans a4, (fm 162 48 (by decide) (by decide) (by decide)).trans a5⟩
    · exact KP_c mp (j92_163 a1) (fun i _ _ => fm 163 _ (by decide) (by decide) (by decide)) a2.1
    · have hu' : (u : Int) < (M1.1 162 27).toInt := by rw [← fm 162 27 (by decide) (by decide) (by decide)]; exact hu
      exact KP_c mp (J92 a1 (by decide) u).2 (fun i _ _ => fm 173 _ (by decide) (by decide) (by decide)) (a2.2.1 u hu')
    · obtain ⟨b1, b2⟩ := a2.2.2 t ht
      have c48 : x5.1 162 48 = M1.1 162 48 := fm 162 48 (by decide) (by decide) (by decide)
      have v191 : x5.1 191 t = if t = v1.toInt.toNat then M1.1 162 48 else M1.1 191 t := by
        rw [p3 191 t (by omega), e4]
        by_cases w : t = v1.toInt.toNat
        · rw [w, si_eq, if_pos rfl, e3, si_ne (by intro z; exact absurd z.1 (by decide))]
        · rw [si_ne (fun z => w z.2), if_neg w, e3, si_ne (by intro z; exact absurd z.1 (by decide))]
      show (0 ≤ (x5.1 191 t).toInt ∧ (x5.1 191 t).toInt ≤ (x5.1 162 48).toInt) ∧ ((x5.1 190 t).toInt ≠ 0 → x5.1 191 t = x5.1 162 48 → KP x5 189 (96 * t))
      rw [v191, c48]
      by_cases w : t = v1.toInt.toNat
      · rw [if_pos w]
        refine ⟨⟨by rw [a5]; exact h.2.2.1, Int.le_refl _⟩, fun _ _ => ?_⟩
        refine KP_c (M := M1) (k := 163) (o := 0) mp (j92_163 a1) (fun i h1 h2 => ?_) a2.1
        rw [w, p2 i (by omega), Nat.zero_add]; exact f4 163 i (by decide) (by decide)
      · rw [if_neg w]
        refine ⟨b1, fun e5 e6 => ?_⟩
        have v190 : x5.1 190 t = M1.1 190 t := by rw [p3 190 t (by omega), e4, si_ne (by intro z; exact absurd z.1 (by decide)), e3, si_ne (fun z => w z.2)]
        rw [v190] at e5
        refine KP_c (M := M1) mp (J92 a1 (by decide) t).2 (fun i h1 h2 => ?_) (b2 e5 e6)
        rw [p3 189 _ (by omega)]; exact f4 189 _ (by decide) (by decide)
  · exact if_i (fun _ => ⟨_, rfl, Rx_RO h x1⟩) (fun c => absurd rfl c)
theorem mr_again {n : Int} {M : Mem} (h : RI n M) (v1 : Int32) : ∃ r, f_Mod_again v1 M = some r ∧ RO n M (M.1 162 10) r.2 := by
  unfold f_Mod_again
  refine mem_i (fun M1 e1 => ?_)
  have x1 := Rx_13 h.1 h.2.1 e1
  refine bind_i (sp_in v1 0 1) (fun x2 _ q => ?_)
  have z0 : (0 : Int32).toInt = 0 := rfl
  have z1 : (1 : Int32).toInt = 1 := rfl
  rcases q with ⟨rfl, q1, q2⟩ | ⟨rfl, -⟩
  · refine if_i (fun c => absurd c (by decide)) (fun _ => inb_i (by omega) (by omega) ?_)
    refine if_i (fun _ => ⟨_, rfl, Rx_RO h x1⟩) (fun c1 => inb_i (by omega) (by omega) (if_i (fun c2 => ?_) (fun _ => ⟨_, rfl, Rx_RO h x1⟩)))
    have hl : ∃ x, iter (lb_Mod_again_40 v1) FU ((0 : Int32), M1) = some x ∧ (J x ∧ (∀ k i, k ≠ 163 → x.1 k i = M1.1 k i) ∧ (∀ i : Nat, (i : Int) < 96 → x.1 163 i = M1.1 189 (96 * v1.toInt.toNat + i))) := by
      refine cnt_r _ (fun c N => J N ∧ (∀ k i, k ≠ 163 → N.1 k i = M1.1 k i) ∧ (∀ i : Nat, (i : Int) < c → N.1 163 i = M1.1 189 (96 * v1.toInt.toNat + i))) 96 (by decide) ?_ M1 ⟨x1.1, fun _ _ _ => rfl, fun i hi => absurd hi (by omega)⟩ (by decide)
      intro k N k0 k1 hI
      obtain ⟨i1, i2, i3⟩ := hI
      have c36 : (96 : Int32).toInt = 96 := rfl
      unfold lb_Mod_again_40
      dsimp only
      refine if_i (fun c => ⟨_, rfl, .inl ⟨_, rfl, i1, i2, fun i hi => i3 i (by have := lei.mp c; omega)⟩⟩) (fun c => ?_)
      have d := nlei.mp c
      have m1 : ((96 : Int32) * v1).toInt = 96 * v1.toInt := mul_ti rfl rfl (by omega) (by omega)
      have m2 : (((96 : Int32) * v1) + k).toInt = 96 * v1.toInt + k.toInt := add_ti m1 rfl (by omega) (by omega)
      have t2 : (((96 : Int32) * v1) + k).toNatClampNeg = 96 * v1.toInt.toNat + k.toInt.toNat := by rw [tcn', m2]; omega
      refine inb_i (by omega) (by omega) (inb_i k0 (by omega) (mem_i (fun m e => ⟨_, rfl, .inr ⟨by omega, m, rfl, ?_, fun a b hn => ?_, fun i hi => ?_⟩⟩)))
      · rw [e]
        refine Jwcopy i1 (by decide) (by decide) _ _ ?_
        rw [t2, tcn']; omega
      · rw [e, si_ne (fun z => hn z.1)]; exact i2 a b hn
      · rw [e, t2]
        by_cases w : i = k.toInt.toNat
        · rw [w]; show (s_i N 163 k.toInt.toNat _).1 163 k.toInt.toNat = _; rw [si_eq]; exact i2 189 _ (by decide)
        · show (s_i N 163 k.toInt.toNat _).1 163 i = _; rw [si_ne (fun z => w z.2)]; exact i3 i (by omega)
    refine bind_i hl (fun x5 _ q => mem_i (fun M6 e6 => ⟨_, rfl, Rx_RO h ?_⟩))
    obtain ⟨p1, p2, p3⟩ := q
    have mp : MapEq x5 M1 := ⟨p2 162 2 (by decide), p2 162 3 (by decide), fun i => p2 164 i (by decide)⟩
    have x5' : Rx M x5 := by
      refine Rx_163 x1 p1 ?_ p2
      refine KP_c (M := M1) (k := 189) (o := 96 * v1.toInt.toNat) mp (J92 x1.1 (by decide) _).2 (fun i h1 h2 => ?_) ((x1.2.1.2.2 v1.toInt.toNat (by omega)).2 (neqi.mp c1) c2)
      rw [Nat.zero_add]; exact p3 i (by omega)
    obtain ⟨a1, a2, a3, a4, a5⟩ := x5'
    have f6 : ∀ k i, ¬ (k = 162 ∧ i = 27) → M6.1 k i = x5.1 k i := fun k i hh => by rw [e6, si_ne hh]
    have mp6 : MapEq M6 x5 := ⟨f6 162 2 (by decide), f6 162 3 (by decide), fun i => f6 164 i (by omega)⟩
    refine ⟨by rw [e6]; exact Jw_162_27 a1 _ (by decide) (by decide), ⟨KP_c mp6 (j92_163 a1) (fun i _ _ => f6 163 _ (by omega)) a2.1, fun u hu => ?_, fun t ht => ?_⟩, fun k i hk => (f6 k i (by omega)).trans (a3 k i hk), (f6 162 10 (by decide)).trans a4, (f6 162 48 (by decide)).trans a5⟩
    · rw [e6, si_eq] at hu; omega
    · obtain ⟨b1, b2⟩ := a2.2.2 t ht
      rw [f6 191 t (by omega), f6 162 48 (by decide), f6 190 t (by omega)]
      exact ⟨b1, fun e1 e2 => KP_c mp6 (J92 a1 (by decide) t).2 (fun i _ _ => f6 189 _ (by omega)) (b2 e1 e2)⟩
  · exact if_i (fun _ => ⟨_, rfl, Rx_RO h x1⟩) (fun c => absurd rfl c)
end
section
abbrev WA (k i : Nat) : Prop := (k = 162 ∧ (i = 17 ∨ i = 18)) ∨ k = 175
theorem pf_wa {M N : Mem} (h : PF M N) : Fr WA M N := h.fr (.inl ⟨rfl, .inl rfl⟩) (.inl ⟨rfl, .inr rfl⟩)
theorem w175 {M N : Mem} (h : PI M) (i : Nat) (v : Int32) (e : N = s_i M 175 i v) : PI N ∧ Fr WA M N ∧ N.2 = M.2 ∧ xA N = xA M ∧ xW N = xW M ∧ xL N = xL M := by
  have A : xA N = xA M := by rw [xA, e, si_ne (by intro e; exact absurd e.1 (by decide))]
  have W : xW N = xW M := by rw [xW, e, si_ne (by intro e; exact absurd e.1 (by decide))]
  have L : xL N = xL M := by rw [xL, e, si_ne (by intro e; exact absurd e.1 (by decide))]
  exact ⟨⟨by rw [e]; exact Jw_any ok_175 h.1 _ _, fun w => by rw [A, L]; exact h.2 (W ▸ w)⟩, by rw [e]; exact Fr.i (W := WA) Fr.r (.inr rfl), by rw [e]; rfl, A, W, L⟩
theorem sp_readAct110 {M : Mem} (h : PI M) (v1 v2 : Int32) (hv : 0 ≤ v1.toInt ∧ v1.toInt ≤ 237) (hA : v2 = 110 → xA M ≤ 80) : ∃ r, j_Mod_readAct_110 v1 v2 M = some r ∧ PI r ∧ Fr WA M r ∧ r.2 = M.2 ∧ xA M ≤ xA r := by
  have e1 : (v1 + (1 : Int32)).toInt = v1.toInt + 1 := add_ti rfl rfl (by omega) (by omega)
  unfold j_Mod_readAct_110
  refine if_i (fun c => ?_) (fun _ => ⟨_, rfl, h, Fr.r, rfl, Int.le_refl _⟩)
  have a80 := hA c
  refine bind_i (sp_here h.1) (fun x6 _ _ => inb_i (by omega) (by omega) (mem_i (fun M7 e7 => ?_)))
  obtain ⟨p7, f7, s7, A7, W7, L7⟩ := w175 h _ _ e7
  refine bind_i (sp_here p7.1) (fun x8 _ q8 => bind_i (sp_in x8 97 104) (fun x9 _ q9 => ?_))
  have k97 : (97 : Int32).toInt = 97 := rfl
  rcases q9 with ⟨rfl, q1, q2⟩ | ⟨rfl, -⟩
  · refine if_i (fun c => absurd c (by decide)) (fun _ => mem_i (fun M10 e10 => ⟨_, rfl, ?_⟩))
    have hl := q8 (by omega)
    obtain ⟨g1, g2⟩ := at1 p7.1 (by omega)
    rw [← e10] at g1 g2
    have W10 : xL M10 = xL M7 := by rw [e10]; exact at1L _
    refine ⟨⟨g1, fun _ => by omega⟩, ?_, ?_, by omega⟩
    · rw [e10]; exact f7.i (.inl ⟨rfl, .inl rfl⟩)
    · rw [e10]; exact s7
  · refine if_i (fun _ => ?_) (fun c => absurd rfl c)
    refine bind_i (sp_faultA p7.1) (fun x11 _ p => mem_i (fun M12 e12 => ⟨_, rfl, ?_⟩))
    obtain ⟨p1, p2, p3, p4⟩ := p
    obtain ⟨g1, g2⟩ := at1 p1.1 (by omega)
    rw [← e12] at g1 g2
    have W12 : xW M12 = xW x11 := by rw [e12]; exact at1W _
    refine ⟨PI_of_bad g1 (by rw [W12]; exact p4), ?_, ?_, by omega⟩
    · rw [e12]; exact (f7.t (pf_wa p2)).i (.inl ⟨rfl, .inl rfl⟩)
    · rw [e12]; exact p2.2.trans s7
theorem sp_readAct85 {M : Mem} (h : PI M) (v1 v2 : Int32) (hv : 0 ≤ v1.toInt ∧ v1.toInt ≤ 237) (hA : v2 = 110 → xA M ≤ 80) : ∃ r, j_Mod_readAct_85 v1 v2 M = some r ∧ PI r ∧ Fr WA M r ∧ r.2 = M.2 ∧ xA M ≤ xA r := by
  have e2 : (v1 + (2 : Int32)).toInt = v1.toInt + 2 := add_ti rfl rfl (by omega) (by omega)
  unfold j_Mod_readAct_85
  refine if_i (fun c => ?_) (fun _ => sp_readAct110 h v1 v2 hv hA)
  refine bind_i (sp_need h 45 (by decide)) (fun x15 _ p => bind_i (sp_number p.1 2 (by decide) (by decide)) (fun x16 _ q => inb_i (by omega) (by omega) (mem_i (fun M17 e17 => ?_))))
  obtain ⟨p1, p2, p3, p4, p5⟩ := p
  obtain ⟨q1, q2, q3, q4, q5, q6, q7⟩ := q
  obtain ⟨a, b, s, A, W, L⟩ := w175 q1 _ _ e17
  obtain ⟨r, er, r1, r2, r3, r4⟩ := sp_readAct110 a v1 v2 hv (fun e => absurd (c.symm.trans e) (by decide))
  exact ⟨r, er, r1, (((pf_wa p2).t (pf_wa q2)).t b).t r2, r3.trans (s.trans (q2.2.trans p2.2)), by omega⟩
theorem sp_readAct72 {M : Mem} (h : PI M) (v1 v2 : Int32) (hv : 0 ≤ v1.toInt ∧ v1.toInt ≤ 237) (hA : v2 ≠ 110) : ∃ r, j_Mod_readAct_72 v1 v2 M = some r ∧ PI r ∧ Fr WA M r ∧ r.2 = M.2 ∧ xA M ≤ xA r := by
  have e1 : (v1 + (1 : Int32)).toInt = v1.toInt + 1 := add_ti rfl rfl (by omega) (by omega)
  unfold j_Mod_readAct_72
  refine bind_i (sp_number h 2 (by decide) (by decide)) (fun x4 _ q => inb_i (by omega) (by omega) (mem_i (fun M5 e5 => ?_)))
  obtain ⟨q1, q2, q3, q4, q5, q6, q7⟩ := q
  obtain ⟨a, b, s, A, W, L⟩ := w175 q1 _ _ e5
  obtain ⟨r, er, r1, r2, r3, r4⟩ := sp_readAct85 a v1 v2 hv (fun e => absurd e hA)
  exact ⟨r, er, r1, ((pf_wa q2).t b).t r2, r3.trans (s.trans q2.2), by omega⟩
theorem sp_readAct43 {M : Mem} (h : J M) (v1 v2 : Int32) (hv : 0 ≤ v1.toInt ∧ v1.toInt ≤ 237) (h80 : xA M ≤ 80) (hA : xW M = -1 → xA M < xL M) (h110 : v2 = 110 → xA M < xL M) : ∃ r, j_Mod_readAct_43 v1 v2 M = some r ∧ PI r ∧ Fr WA M r ∧ r.2 = M.2 ∧ xA M < xA r := by
  unfold j_Mod_readAct_43
  refine mem_i (fun M2 e2 => inb_i hv.1 (by omega) (mem_i (fun M3 e3 => ?_)))
  obtain ⟨g1, g2⟩ := at1 h h80
  rw [← e2] at g1 g2
  have zl := aL h
  have W2 : xW M2 = xW M := by rw [e2]; exact at1W _
  have L2 : xL M2 = xL M := by rw [e2]; exact at1L _
  have p2 : PI M2 := ⟨g1, fun w => by have := hA (W2 ▸ w); omega⟩
  have f2 : Fr WA M M2 := by rw [e2]; exact Fr.i (W := WA) Fr.r (.inl ⟨rfl, .inl rfl⟩)
  have s2 : M2.2 = M.2 := by rw [e2]; rfl
  obtain ⟨a, b, s, A, W, L⟩ := w175 p2 _ _ e3
  have fin : ∀ r : Mem, PI r ∧ Fr WA M3 r ∧ r.2 = M3.2 ∧ xA M3 ≤ xA r → PI r ∧ Fr WA M r ∧ r.2 = M.2 ∧ xA M < xA r := by
    rintro r ⟨r1, r2, r3, r4⟩
    exact ⟨r1, (f2.t b).t r2, r3.trans (s.trans s2), by omega⟩
  refine if_i (fun c => ?_) (fun _ => if_i (fun c => ?_) (fun _ => ?_))
  · obtain ⟨r, er, hr⟩ := sp_readAct72 a v1 v2 hv (fun e => absurd (c.symm.trans e) (by decide)); exact ⟨r, er, fin r hr⟩
  · obtain ⟨r, er, hr⟩ := sp_readAct72 a v1 v2 hv (fun e => absurd (c.symm.trans e) (by decide)); exact ⟨r, er, fin r hr⟩
  · obtain ⟨r, er, hr⟩ := sp_readAct85 a v1 v2 hv (fun e => by have := h110 e; omega); exact ⟨r, er, fin r hr⟩
theorem sp_readAct {M : Mem} (h : PI M) (v1 : Int32) (hv : 0 ≤ v1.toInt ∧ v1.toInt ≤ 237) (hw : xW M = -1) : ∃ r, f_Mod_readAct v1 M = some r ∧ PI r ∧ Fr WA M r ∧ r.2 = M.2 ∧ xA M < xA r := by
  have zl := aL h.1
  have za := h.2 hw
  unfold f_Mod_readAct
  refine bind_i (sp_here h.1) (fun x1 _ q => ?_)
  have k := fun (e : x1.toInt ≠ -1) => sp_readAct43 h.1 v1 x1 hv (by omega) (fun _ => (q e).1) (fun _ => (q e).1)
  refine if_i (fun e => k (by subst e; decide)) (fun n1 => if_i (fun e => k (by subst e; decide)) (fun n2 => if_i (fun e => k (by subst e; decide)) (fun n3 => if_i (fun e => k (by subst e; decide)) (fun n4 => if_i (fun e => k (by subst e; decide)) (fun n5 => ?_)))))
  refine bind_i (sp_faultA h.1) (fun x21 _ p => ?_)
  obtain ⟨p1, p2, p3, p4⟩ := p
  obtain ⟨r, er, r1, r2, r3, r4⟩ := sp_readAct43 p1.1 v1 x1 hv (by omega) (fun e => absurd e p4) (fun e => absurd e n2)
  exact ⟨r, er, r1, (pf_wa p2).t r2, r3.trans p2.2, by omega⟩
def EI (M0_ : Mem) (s : Int32 × Int32 × Mem) : Prop := PI s.2.2 ∧ Fr WA M0_ s.2.2 ∧ s.2.2.2 = M0_.2 ∧ 0 ≤ s.1.toInt ∧ s.1.toInt ≤ xA s.2.2 ∧ (s.2.1 ≠ 0 → 2 * s.1.toInt ≤ xA s.2.2)
def EQ (M0_ : Mem) (x : Int32 × Mem) : Prop := PI x.2 ∧ Fr WA M0_ x.2 ∧ x.2.2 = M0_.2 ∧ 0 ≤ x.1.toInt ∧ x.1.toInt ≤ xA x.2
theorem sl_evening39 {M : Mem} (h : PI M) (h0 : xA M = 0) (b : Int32) : ∃ x, iter lb_Mod_evening_39 FU ((0 : Int32), b, M) = some x ∧ EQ M x := by
  refine iter_r (EI M) (fun s => (82 - s.1.toInt).toNat) (EQ M) ?_ FU _ ⟨h, Fr.r, rfl, (by show (0 : Int) ≤ (0 : Int32).toInt; decide), (by show (0 : Int) ≤ xA M; omega), fun _ => (by show 2 * (0 : Int) ≤ xA M; omega)⟩ (by show (82 - (0 : Int)).toNat < FU; rw [FU_v]; decide)
  rintro ⟨n, m, N⟩ ⟨i1, i2, i3, i4, i5, i6⟩
  dsimp only at i1 i2 i3 i4 i5 i6
  have za := aA i1.1
  have zl := aL i1.1
  unfold lb_Mod_evening_39
  dsimp only
  refine if_i (fun c => ⟨_, rfl, i1, i2, i3, i4, i5⟩) (fun c => ?_)
  refine bind_i (sp_fine N) (fun x1 _ q1 => ?_)
  rcases q1 with ⟨q1, rfl⟩ | ⟨q1, rfl⟩
  · refine if_i (fun c => absurd c (by decide)) (fun _ => ?_)
    have a1 := i6 c
    have a2 := i1.2 q1
    have en : (n + (1 : Int32)).toInt = n.toInt + 1 := add_ti rfl rfl (by omega) (by omega)
    have e3 : ((3 : Int32) * n).toInt = 3 * n.toInt := mul_ti rfl rfl (by omega) (by omega)
    refine bind_i (sp_readAct i1 ((3 : Int32) * n) (by omega) q1) (fun x5 _ p => ?_)
    obtain ⟨p1, p2, p3, p4⟩ := p
    refine bind_i (sp_passes p1 59 (by decide)) (fun x6 _ s => ⟨_, rfl, ?_⟩)
    obtain ⟨s1, s2, s3⟩ := s
    have A6 : xA x5 ≤ xA x6.2 ∧ (x6.1 ≠ 0 → xA x6.2 = xA x5 + 1) := by
      rcases s3 with ⟨e, e'⟩ | ⟨e, e', _⟩
      · rw [e']; exact ⟨Int.le_refl _, fun w => absurd e w⟩
      · exact ⟨by omega, fun _ => e'⟩
    refine ⟨⟨s1, (i2.t p2).t (pf_wa s2), s2.2.trans (p3.trans i3), ?_, ?_, fun w => ?_⟩, ?_⟩
    · show 0 ≤ (n + (1 : Int32)).toInt; omega
    · show (n + (1 : Int32)).toInt ≤ xA x6.2; have := A6.1; omega
    · have := A6.2 w; show 2 * (n + (1 : Int32)).toInt ≤ xA x6.2; omega
    · show (82 - (n + (1 : Int32)).toInt).toNat < (82 - n.toInt).toNat; omega
  · refine if_i (fun _ => ⟨_, rfl, i1, i2, i3, i4, i5⟩) (fun c => absurd rfl c)
/-! the reference's calls, on: evening, build, texts, fire -/
/-- what an ACT leaves: the map and what was laid aside -/
def Ax (A N : Mem) : Prop := MapEq N A ∧ ∀ i, N.1 174 i = A.1 174 i
theorem Ax_r {A : Mem} : Ax A A := ⟨⟨rfl, rfl, fun _ => rfl⟩, fun _ => rfl⟩
theorem Ax_t {A B C : Mem} (h : Ax A B) (g : Ax B C) : Ax A C := ⟨⟨g.1.1.trans h.1.1, g.1.2.1.trans h.1.2.1, fun i => (g.1.2.2 i).trans (h.1.2.2 i)⟩, fun i => (g.2 i).trans (h.2 i)⟩
theorem Ax_g {v : Nat} (hv : v = 1000 ∨ v = 163) {A B : Mem} (g : Gd v A B) : Ax A B := by
  have a : ∀ k i, pq k i = true → k ≠ 163 → B.1 k i = A.1 k i := fun k i h1 h2 => by
    refine g k i (.inl ⟨h1, ?_⟩)
    rcases hv with rfl | rfl
    · rintro rfl; exact absurd h1 (by
        have : pq 1000 i = false := rfl
        rw [this]; decide)
    · exact h2
  exact ⟨⟨a 162 2 (by decide) (by decide), a 162 3 (by decide) (by decide), fun i => a 164 i rfl (by decide)⟩, fun i => a 174 i rfl (by decide)⟩
theorem Ax_f {A B : Mem} (f : ∀ k i, k ≠ 163 → B.1 k i = A.1 k i) : Ax A B := ⟨⟨f 162 2 (by decide), f 162 3 (by decide), fun i => f 164 i (by decide)⟩, fun i => f 174 i (by decide)⟩
theorem Rx_act {M A : Mem} (h : Rx M A) (v1 : Int32) (hv : (0 : Int) ≤ v1.toInt ∧ v1.toInt ≤ (237 : Int)) : ∃ r, f_Mod_act v1 A = some r ∧ (Rx M r.2 ∧ Ax A r.2) := by
  have t92 : (92 : Int32).toNatClampNeg = 92 := rfl
  have e1 : (v1 + (1 : Int32)).toInt = v1.toInt + 1 := add_ti rfl rfl (by omega) (by omega)
  have e2 : (v1 + (2 : Int32)).toInt = v1.toInt + 2 := add_ti rfl rfl (by omega) (by omega)
  unfold f_Mod_act
  rw [t92]
  refine inb_i (by omega) (by omega) (inb_i hv.1 (by omega) ?_)
  refine if_i (fun _ => ?_) (fun _ => ?_)
  · refine if_i (fun c => ?_) (fun _ => ⟨_, rfl, h, Ax_r⟩)
    have c60 : (60 : Int32).toInt = 60 := rfl
    have le60 := lei.mp c
    generalize (A.1 175 (v1 + (1 : Int32)).toNatClampNeg) = w at le60 ⊢
    have hl : ∃ x, iter (lb_Mod_act_66 w) FU ((0 : Int32), A) = some x ∧ (Rx M x ∧ Ax A x) := by
      refine cnt_r _ (fun _ N => Rx M N ∧ Ax A N) 60 (by decide) ?_ A ⟨h, Ax_r⟩ (by decide)
      intro k N k0 k1 hI
      unfold lb_Mod_act_66
      dsimp only
      refine if_i (fun c => ⟨_, rfl, .inl ⟨_, rfl, hI⟩⟩) (fun c => ?_)
      have d := nlei.mp c
      refine bind_i (sf_Mod_goMinute 163 N St_163 hI.1.1) (fun x4 _ q => mem_i (fun m e => ⟨_, rfl, .inr ⟨by omega, m, rfl, ?_, ?_⟩⟩))
      · exact Rx_g (v := 1000) (.inl rfl) (Rx_g (.inr rfl) hI.1 q.1 q.2) (by rw [e]; exact Jw_fld okf_162_33 q.1 _) (Gd_i Gd_r e (by decide))
      · exact Ax_t (Ax_t hI.2 (Ax_g (.inr rfl) q.2)) (Ax_g (v := 1000) (.inl rfl) (Gd_i Gd_r e (by decide)))
    exact bind_i hl (fun x _ q => ⟨_, rfl, q⟩)
  refine if_i (fun _ => ?_) (fun _ => ?_)
  · refine bind_i (sf_Mod_canTell _ A h.1) (fun x10 _ _ => if_i (fun _ => ⟨_, rfl, h, Ax_r⟩) (fun _ => mem_i (fun m e => ⟨_, rfl, ?_, ?_⟩)))
    · exact Rx_g (v := 163) (.inr rfl) h (by rw [e]; exact Jws93 h.1 St_163 _) (Gd_st Gd_r e (by decide))
    · exact Ax_g (v := 163) (.inr rfl) (Gd_st Gd_r e (by decide))
  refine if_i (fun _ => ?_) (fun _ => ?_)
  · refine inb_i (by omega) (by omega) (bind_i (fs_plankRefusal _ _ h.1) (fun x14 _ q => ?_))
    refine if_i (fun c => inb_i (by omega) (by omega) ?_) (fun _ => ⟨_, rfl, h, Ax_r⟩)
    obtain ⟨q1, q2, q3, q4, q5⟩ := q (lei.mp c)
    exact bind_i (fs_layPlank _ _ h.1 q1 q2 q3 h.2.1.1 q4 q5) (fun x _ s => ⟨_, rfl, Rx_163 h s.1 s.2.1 s.2.2, Ax_f s.2.2⟩)
  refine if_i (fun _ => ?_) (fun _ => ?_)
  · refine if_i (fun _ => ⟨_, rfl, h, Ax_r⟩) (fun c => mem_i (fun m e => ⟨_, rfl, Rx_takeoff h (neqi.mp c) e, ?_⟩))
    exact Ax_f (fun k i hk => by rw [e, si_ne (fun z => hk z.1)])
  · refine bind_i (sf_Mod_canFeast _ A h.1) (fun x1 _ q => if_i (fun _ => ⟨_, rfl, h, Ax_r⟩) (fun c => ?_))
    exact bind_i (sf_Mod_goFeast _ A (q.2.2 (neqi.mp c)) h.1) (fun x2 _ s => ⟨_, rfl, Rx_g (.inr rfl) h s.1 s.2, Ax_g (.inr rfl) s.2⟩)
/-- texts: at, wrong, a row that is read into: none of it is looked at -/
theorem Rx_fr {W : Nat → Nat → Prop} {M A B : Mem} (h : Rx M A) (j : J B) (f : Fr W A B) (hw : ∀ k i, W k i → (pq k i || k == 163) = false) : Rx M B := Rx_g (v := 1000) (.inl rfl) h j (Gd_fr f hw)
theorem w1718 {k i : Nat} (w : k = 162 ∧ (i = 17 ∨ i = 18)) : (pq k i || k == 163) = false := by
  obtain ⟨rfl, rfl | rfl⟩ := w <;> decide
theorem wany {k : Nat} (i : Nat) (h : (pqc k || (k == 162 || k == 163)) = false) : (pq k i || k == 163) = false := by
  simp only [Bool.or_eq_false_iff] at h
  unfold pq
  rw [h.1, h.2.1, h.2.2]; rfl
/-- how a call begins that reads THE TEXT -/
theorem Rx_text {n : Int} {M M1 x2 M3 : Mem} (h : RI n M) (e1 : M1 = s_i M 162 13 (0 : Int32)) (j2 : J x2) (b2 : Fr W18 M1 x2) (e3 : M3 = s_i x2 162 10 (0 : Int32)) : Rx M3 M3 ∧ (∀ k i, k < 162 → M3.1 k i = M.1 k i) ∧ M3.1 162 10 = 0 ∧ M3.1 162 48 = M.1 162 48 := by
  have f : ∀ k i, ¬ (k = 162 ∧ (i = 10 ∨ i = 13 ∨ (14 ≤ i ∧ i ≤ 18))) → M3.1 k i = M.1 k i := fun k i w => by
    rw [e3, si_ne (fun z => w ⟨z.1, .inl z.2⟩), b2 k i (fun z => w ⟨z.1, .inr (.inr z.2)⟩), e1, si_ne (fun z => w ⟨z.1, .inr (.inl z.2)⟩)]
  have j3 : J M3 := by rw [e3]; exact Jw_162_10 j2 _ (by decide) (by decide)
  refine ⟨Rx_r j3 (KK_c h.1 ⟨⟨f 162 2 (by decide), f 162 3 (by decide), fun i => f 164 i (by omega)⟩, f 162 27 (by decide), f 162 48 (by decide), fun i _ _ => f 163 i (by omega), fun i => f 173 i (by omega), fun i => f 189 i (by omega), fun i => f 190 i (by omega), fun i => f 191 i (by omega)⟩ h.2.1), fun k i hk => f k i (by omega), by rw [e3, si_eq], f 162 48 (by decide)⟩
theorem RO_text {n : Int} {M M3 N : Mem} (h : RI n M) (g : ∀ k i, k < 162 → M3.1 k i = M.1 k i) (z : M3.1 162 10 = 0) (c : M3.1 162 48 = M.1 162 48) (r : Rx M3 N) : RO n M 0 N := by
  obtain ⟨r1, r2, r3, r4, r5⟩ := r
  refine ⟨⟨r1, r2, ?_, ?_⟩, fun k i hk => (r3 k i hk).trans (g k i hk), r4.trans z⟩
  · rw [r5, c]; exact h.2.2.1
  · rw [r5, c]; have := h.2.2.2; omega
theorem mr_evening {n : Int} {M : Mem} (h : RI n M) : ∃ r, f_Mod_evening M = some r ∧ RO n M 0 r.2 := by
  unfold f_Mod_evening
  refine mem_i (fun M1 e1 => ?_)
  have j1 : J M1 := by rw [e1]; exact Jw_fld okf_162_13 h.1 _
  have t1 := Jr_162_10 j1
  refine bind_i (sp_begin j1 167 (M1.1 162 10) 60 (.inl ⟨rfl, t1.1, t1.2, by decide, by decide⟩)) (fun x2 _ q => ?_)
  obtain ⟨b1, b2, b3, b4, b5, -⟩ := q
  refine mem_i (fun M3 e3 => ?_)
  obtain ⟨X3, g3, z3, c3⟩ := Rx_text h e1 b1.1 b2 e3
  have A3 : xA M3 = xA x2 := by rw [xA, e3, si_ne (by decide)]
  have W3 : xW M3 = xW x2 := by rw [xW, e3, si_ne (by decide)]
  have L3 : xL M3 = xL x2 := by rw [xL, e3, si_ne (by decide)]
  have p3 : PI M3 := ⟨X3.1, fun e => by rw [A3, L3]; exact b1.2 (W3 ▸ e)⟩
  have k171 : ∀ (v3 w0 : Int32) (N : Mem), Rx M3 N → (N.1 162 12).toInt = 0 → ∃ r, j_Mod_evening_171 v3 w0 N = some r ∧ RO n M 0 r.2 := by
    intro v3 w0 N n1 n2
    unfold j_Mod_evening_171
    exact bind_i (Rx_put n1 _ (by omega)) (fun x18 _ p => bind_i (Rx_put p.1 _ (by omega)) (fun x19 _ q => ⟨_, rfl, RO_text h g3 z3 c3 q.1⟩))
  have k155 : ∀ (v1 v3 : Int32) (N : Mem), Rx M3 N → ∃ r, j_Mod_evening_155 v1 v3 N = some r ∧ RO n M 0 r.2 := by
    intro v1 v3 N n1
    unfold j_Mod_evening_155
    refine mem_i (fun M17 e17 => ?_)
    obtain ⟨x17, z17⟩ := Rx_row0 n1 e17
    exact if_i (fun _ => k171 _ _ _ x17 z17) (fun _ => k171 _ _ _ x17 z17)
  have k89 : ∀ (v1 : Int32) (N : Mem), Rx M3 N → (xW N = -1 → v1.toInt ≤ 80) → ∃ r, j_Mod_evening_89 v1 N = some r ∧ RO n M 0 r.2 := by
    intro v1 N n1 n2
    unfold j_Mod_evening_89
    refine bind_i (sp_fine N) (fun x10 _ q => ?_)
    rcases q with ⟨q1, rfl⟩ | ⟨q1, rfl⟩
    · refine if_i (fun c => absurd c (by decide)) (fun _ => ?_)
      have l : ln 174 = 96 := by decide +kernel
      have z0 : (0 : Int32).toInt = 0 := rfl
      have z0n : (0 : Int32).toInt.toNat = 0 := rfl
      refine bind_i (fs_lay 163 174 0 n1.1 St_163 (by decide) (by decide +kernel) (by decide) (by omega) (by omega) (by omega) (by omega)) (fun x11 _ p => mem_i (fun M12 e12 => ?_))
      obtain ⟨p1, p2, p3⟩ := p
      rw [z0n] at p2 p3
      have f11 : ∀ k i, k ≠ 174 → x11.1 k i = N.1 k i := fun k i hk => p3 k i (fun z => hk z.1)
      have m11 : MapEq x11 N := ⟨f11 162 2 (by decide), f11 162 3 (by decide), fun i => f11 164 i (by decide)⟩
      obtain ⟨a1, a2, a3, a4, a5⟩ := n1
      have X11 : Rx M3 x11 := ⟨p1, KK_c a1 ⟨m11, f11 162 27 (by decide), f11 162 48 (by decide), fun i _ _ => f11 163 i (by decide), fun i => f11 173 i (by decide), fun i => f11 189 i (by decide), fun i => f11 190 i (by decide), fun i => f11 191 i (by decide)⟩ a2, fun k i hk => (f11 k i (by omega)).trans (a3 k i hk), (f11 162 10 (by decide)).trans a4, (f11 162 48 (by decide)).trans a5⟩
      have K174 : KP x11 174 0 := by
        refine KP_c (M := N) (k := 163) (o := 0) m11 (j92_163 a1) (fun i h1 h2 => ?_) a2.1
        rw [p2 i (by omega), Nat.zero_add]
      have X12 : Rx M3 M12 := Rx_g (v := 1000) (.inl rfl) X11 (by rw [e12]; exact Jw_fld okf_162_33 p1 _) (Gd_i Gd_r e12 (by decide))
      have A12 : Ax x11 M12 := Ax_g (v := 1000) (.inl rfl) (Gd_i Gd_r e12 (by decide))
      have hl : ∃ x, iter (lb_Mod_evening_122 v1) FU ((0 : Int32), M12) = some x ∧ (Rx M3 x.2 ∧ Ax x11 x.2) := by
        refine cnt_r _ (fun _ K => Rx M3 K ∧ Ax x11 K) 80 (by decide) ?_ M12 ⟨X12, A12⟩ (by decide)
        intro k K k0 k1 hI
        unfold lb_Mod_evening_122
        dsimp only
        refine if_i (fun c => ⟨_, rfl, .inl ⟨_, rfl, hI⟩⟩) (fun c => ?_)
        have d := nlei.mp c
        have d80 := n2 q1
        have e3' : ((3 : Int32) * k).toInt = 3 * k.toInt := mul_ti rfl rfl (by omega) (by omega)
        refine bind_i (Rx_act hI.1 ((3 : Int32) * k) (by omega)) (fun x _ q => ?_)
        exact if_i (fun _ => ⟨_, rfl, .inl ⟨_, rfl, q.1, Ax_t hI.2 q.2⟩⟩) (fun _ => ⟨_, rfl, .inr ⟨by omega, _, rfl, q.1, Ax_t hI.2 q.2⟩⟩)
      refine bind_i hl (fun x16 _ s => ?_)
      unfold j_Mod_evening_143
      refine if_i (fun _ => k155 _ _ _ s.1) (fun _ => ?_)
      have K16 : KP x16.2 174 0 := KP_c (M := x11) s.2.1 (by rw [Nat.zero_add]; exact (Jst92 p1 St_174).2) (fun i _ _ => s.2.2 _) K174
      exact bind_i (Rx_rem s.1 174 St_174 K16) (fun x21 _ t => k155 _ _ _ t.1)
    · exact if_i (fun _ => ⟨_, rfl, RO_text h g3 z3 c3 n1⟩) (fun c => absurd rfl c)
  have hWA : ∀ k i, WA k i → (pq k i || k == 163) = false := fun k i w => by
    rcases w with w | rfl
    · exact w1718 w
    · exact wany i (by decide)
  have k70 : ∀ (v1 : Int32) (N : Mem), PI N → Rx M3 N → v1.toInt ≤ xA N → ∃ r, j_Mod_evening_70 v1 N = some r ∧ RO n M 0 r.2 := by
    intro v1 N n1 nx n2
    unfold j_Mod_evening_70
    refine if_i (fun _ => k89 v1 N nx (fun e => by have := n1.2 e; have := aL n1.1; omega)) (fun _ => ?_)
    exact bind_i (sp_faultA n1.1) (fun x _ p => k89 v1 x (Rx_fr nx p.1.1 (pf_wa p.2.1) hWA) (fun e => absurd e p.2.2.2))
  refine if_i (fun _ => ?_) (fun _ => ?_)
  · exact bind_i (sl_evening39 p3 (by omega) 0) (fun x _ q => k70 _ _ q.1 (Rx_fr X3 q.1.1 q.2.1 hWA) q.2.2.2.2)
  · exact bind_i (sl_evening39 p3 (by omega) 1) (fun x _ q => k70 _ _ q.1 (Rx_fr X3 q.1.1 q.2.1 hWA) q.2.2.2.2)
theorem Gk_kq {M N : Mem} (h : ∀ k i, kq k i = true → N.1 k i = M.1 k i) : Gk M N := ⟨⟨h 162 2 (by decide), h 162 3 (by decide), fun i => h 164 i (by unfold kq; rfl)⟩, h 162 27 (by decide), h 162 48 (by decide), fun i _ _ => h 163 i (by unfold kq; rfl), fun i => h 173 i (by unfold kq; rfl), fun i => h 189 i (by unfold kq; rfl), fun i => h 190 i (by unfold kq; rfl), fun i => h 191 i (by unfold kq; rfl)⟩
theorem mr_town {n : Int} {M : Mem} (h : RI n M) : ∃ r, f_Mod_town M = some r ∧ RO n M 0 r.2 := by
  obtain ⟨r, e, r1, r2, r3, r4⟩ := sf_Mod_town M h.1
  refine ⟨r, e, ⟨r1, ?_⟩, r2, r3⟩
  have hn := h.2.2
  rcases r4 with r4 | ⟨a1, a2, a3, a4, a5⟩
  · refine ⟨KK_c h.1 (Gk_kq r4) h.2.1, ?_⟩
    rw [r4 162 48 (by decide)]; omega
  · refine ⟨⟨fun j hj => ?_, fun u hu => ?_, fun t ht => ?_⟩, by rw [a5]; omega⟩
    · rw [Nat.zero_add, a1] at hj
      exact absurd (show (j : Int) < 0 from hj) (by omega)
    · rw [a2] at hu
      exact absurd (show (u : Int) < 0 from hu) (by omega)
    · rw [a4, a5]
      refine ⟨(h.2.1.2.2 t ht).1, fun w => absurd ?_ w⟩
      rw [a3 t (by omega)]; rfl
theorem KK_KB {n : Int} (hn : n ≤ 1000000) {M N : Mem} (h : RI n M) (j : J N) (b : KB M N) : KK N ∧ 0 ≤ (N.1 162 48).toInt ∧ (N.1 162 48).toInt ≤ n + 1 := by
  have h4 := h.2.2
  rcases b with b | ⟨b1, b2, b3⟩
  · refine ⟨KK_c h.1 (Gk_kq b) h.2.1, ?_⟩
    rw [b 162 48 (by decide)]; omega
  · have ec : (N.1 162 48).toInt = (M.1 162 48).toInt + 1 := by rw [b3]; exact add_ti rfl rfl (by omega) (by omega)
    have mp : MapEq N M := ⟨b1 162 2 (by decide) (by decide) (by decide), b1 162 3 (by decide) (by decide) (by decide), fun i => b1 164 i (by unfold kq; rfl) (by omega) (by omega)⟩
    refine ⟨⟨KP_c mp (j92_163 h.1) (fun i h1 h2 => b1 163 _ (by unfold kq; rfl) (by omega) (by omega)) h.2.1.1, fun u hu => ?_, fun t ht => ?_⟩, by omega⟩
    · rw [b2] at hu
      exact absurd (show (u : Int) < 0 from hu) (by omega)
    · obtain ⟨c1, c2⟩ := h.2.1.2.2 t ht
      rw [b1 191 t (by unfold kq; rfl) (by omega) (by omega)]
      refine ⟨by omega, fun _ e => ?_⟩
      have := congrArg Int32.toInt e
      omega
theorem mr_folk {n : Int} (hn : n ≤ 1000000) {M : Mem} (h : RI n M) : ∃ r, f_Mod_folk M = some r ∧ RO n M 0 r.2 := by
  obtain ⟨r, e, r1, r2, r3, r4⟩ := sf_Mod_folk M h.1
  exact ⟨r, e, ⟨r1, KK_KB hn h r1 r4⟩, r2, r3⟩
theorem mr_route {n : Int} (hn : n ≤ 1000000) {M : Mem} (h : RI n M) (v1 : Int32) : ∃ r, f_Mod_route v1 M = some r ∧ RO n M 0 r.2 := by
  obtain ⟨r, e, r1, r2, r3, r4⟩ := sf_Mod_route v1 M h.1
  exact ⟨r, e, ⟨r1, KK_KB hn h r1 r4⟩, r2, r3⟩
theorem mr_rule {n : Int} {M : Mem} (h : RI n M) : ∃ r, f_Mod_rule M = some r ∧ RO n M 0 r.2 := by
  obtain ⟨r, e, r1, r2, r3, r4⟩ := sf_Mod_rule M h.1
  have hn := h.2.2
  refine ⟨r, e, ⟨r1, KK_c h.1 (Gk_kq r4) h.2.1, ?_⟩, r2, r3⟩
  rw [r4 162 48 (by decide)]; omega
theorem mr_fire {n : Int} {M : Mem} (h : RI n M) (v1 : Int32) : ∃ r, f_Mod_fire v1 M = some r ∧ RO n M (M.1 162 10) r.2 := by
  unfold f_Mod_fire
  refine mem_i (fun M1 e1 => ?_)
  have x1 := Rx_13 h.1 h.2.1 e1
  have n1 : (-1 : Int32).toInt = -1 := rfl
  have key : (-1 ≤ v1.toInt ∧ v1.toInt ≤ 35) → ∃ r, j_Mod_fire_21 v1 M1 = some r ∧ RO n M (M.1 162 10) r.2 := by
    intro hv
    unfold j_Mod_fire_21
    refine mem_i (fun M2 e2 => ⟨_, rfl, Rx_RO h ?_⟩)
    obtain ⟨a1, a2, a3, a4, a5⟩ := x1
    have f : ∀ k i, ¬ (k = 162 ∧ i = 8) → M2.1 k i = M1.1 k i := fun k i w => by rw [e2, si_ne w]
    exact ⟨by rw [e2]; exact Jw_162_8 a1 _ hv.1 hv.2, KK_c a1 ⟨⟨f 162 2 (by decide), f 162 3 (by decide), fun i => f 164 i (by omega)⟩, f 162 27 (by decide), f 162 48 (by decide), fun i _ _ => f 163 i (by omega), fun i => f 173 i (by omega), fun i => f 189 i (by omega), fun i => f 190 i (by omega), fun i => f 191 i (by omega)⟩ a2, fun k i hk => (f k i (by omega)).trans (a3 k i hk), (f 162 10 (by decide)).trans a4, (f 162 48 (by decide)).trans a5⟩
  refine if_i (fun e => key (by have := eqi.mp e; omega)) (fun _ => bind_i (sp_isCell x1.1 v1) (fun x3 _ q => ?_))
  rcases q with ⟨rfl, q1, q2, -⟩ | ⟨rfl, -⟩
  · exact if_i (fun c => absurd c (by decide)) (fun _ => key (by omega))
  · exact if_i (fun _ => ⟨_, rfl, Rx_RO h x1⟩) (fun c => absurd rfl c)
theorem mr_build {n : Int} (hn : n ≤ 1000000) {M : Mem} (h : RI n M) (v1 v2 : Int32) : ∃ r, f_Mod_build v1 v2 M = some r ∧ RO n M (M.1 162 10) r.2 := by
  unfold f_Mod_build
  refine mem_i (fun M1 e1 => ?_)
  have x1 := Rx_13 h.1 h.2.1 e1
  have o1 : ∃ r : Int32 × Mem, some ((-1 : Int32), M1) = some r ∧ RO n M (M.1 162 10) r.2 := ⟨_, rfl, Rx_RO h x1⟩
  refine bind_i (sp_isCell x1.1 v1) (fun x2 _ q2 => ?_)
  rcases q2 with ⟨rfl, a1, a2, a3⟩ | ⟨rfl, -⟩
  · refine if_i (fun c => absurd c (by decide)) (fun _ => bind_i (sp_in v2 0 3) (fun x3 _ q3 => ?_))
    have c2 : (2 : Int32).toInt = 2 := rfl
    have c3 : (3 : Int32).toInt = 3 := rfl
    have t92 : (92 : Int32).toNatClampNeg = 92 := rfl
    rcases q3 with ⟨rfl, b1, b2⟩ | ⟨rfl, -⟩
    · have p : (0 : Int) ≤ (M1.1 163 92).toInt ∧ (M1.1 163 92).toInt ≤ 6 := Jst92 x1.1 St_163
      -- it is built
      have k141 : ((v2.toInt = 2 ∨ v2.toInt = 3) ∨ ∀ s : Nat, (s : Int) < 2 * (M1.1 163 92).toInt → (M1.1 163 (80 + s)).toInt ≠ v1.toInt) → ∃ r, j_Mod_build_141 v1 v2 M1 = some r ∧ RO n M (M.1 162 10) r.2 := by
        intro hok
        unfold j_Mod_build_141
        refine inb_i a1 (by omega) (inb_i a1 (by omega) (mem_i (fun M12 e12 => mem_i (fun M13 e13 => mem_i (fun M14 e14 => ⟨_, rfl, ?_⟩)))))
        obtain ⟨y1, y2, y3, y4, y5⟩ := x1
        have tv : v1.toNatClampNeg = v1.toInt.toNat := rfl
        rw [tv] at e12
        have j12 : J M12 := by rw [e12]; exact Jw_any ok_164 y1 _ _
        have j13 : J M13 := by rw [e13]; exact Jw_162_27 j12 _ (by decide) (by decide)
        have f : ∀ k i, ¬ (k = 164 ∧ i = v1.toInt.toNat) → ¬ (k = 162 ∧ (i = 27 ∨ i = 48)) → M14.1 k i = M1.1 k i := fun k i w z => by
          rw [e14, si_ne (fun u => z ⟨u.1, .inr u.2⟩), e13, si_ne (fun u => z ⟨u.1, .inl u.2⟩), e12, si_ne w]
        have v164 : M14.1 164 v1.toInt.toNat = v2 := by rw [e14, si_ne (by intro u; omega), e13, si_ne (by intro u; omega), e12, si_eq]
        have v27 : M14.1 162 27 = 0 := by rw [e14, si_ne (by decide), e13, si_eq]
        have v48 : M14.1 162 48 = M1.1 162 48 + 1 := by rw [e14, si_eq, e13, si_ne (by decide), e12, si_ne (by intro u; omega)]
        have h4 := h.2.2
        have ec : (M14.1 162 48).toInt = (M.1 162 48).toInt + 1 := by rw [v48, y5]; exact add_ti rfl rfl (by omega) (by omega)
        have onk : ∀ c : Int, onN M1 1 c → (c = v1.toInt → v2.toInt = 2 ∨ v2.toInt = 3) → onN M14 1 c := by
          intro c hc hv
          obtain ⟨c0, c1, c2'⟩ := hc
          have ew : xw M14 = xw M1 := congrArg Int32.toInt (f 162 2 (by omega) (by omega))
          have eh : xh M14 = xh M1 := congrArg Int32.toInt (f 162 3 (by omega) (by omega))
          refine ⟨c0, by rw [ew, eh]; exact c1, ?_⟩
          rw [if_neg (by decide)] at c2' ⊢
          by_cases w : c = v1.toInt
          · rw [w, v164]; exact hv w
          · rw [f 164 c.toNat (by omega) (by omega)]; exact c2'
        refine ⟨⟨by rw [e14]; exact Jw_fld okf_162_48 j13 _, ⟨fun j hj => ?_, fun u hu => ?_, fun t ht => ?_⟩, by show 0 ≤ (M14.1 162 48).toInt; omega, by show (M14.1 162 48).toInt ≤ n + 1; omega⟩, fun k i hk => (f k i (by omega) (by omega)).trans (y3 k i hk), (f 162 10 (by omega) (by omega)).trans y4⟩
        · have hj' : (j : Int) < (M1.1 163 92).toInt := by
            have : M14.1 163 (0 + 92) = M1.1 163 92 := f 163 92 (by omega) (by omega)
            rw [← this]; exact hj
          have kk := y2.1 j (by rw [Nat.zero_add]; exact hj')
          have g1 : M14.1 163 (0 + 80 + 2 * j) = M1.1 163 (0 + 80 + 2 * j) := f 163 _ (by omega) (by omega)
          have g2 : M14.1 163 (0 + 81 + 2 * j) = M1.1 163 (0 + 81 + 2 * j) := f 163 _ (by omega) (by omega)
          show onN M14 1 (M14.1 163 (0 + 80 + 2 * j)).toInt ∧ onN M14 1 (M14.1 163 (0 + 81 + 2 * j)).toInt
          rw [g1, g2]
          refine ⟨onk _ kk.1 (fun w => hok.elim id (fun z => absurd w ?_)), onk _ kk.2 (fun w => hok.elim id (fun z => absurd w ?_))⟩
          · have := z (2 * j) (by omega)
            have e : 80 + 2 * j = 0 + 80 + 2 * j := by omega
            rw [e] at this; exact this
          · have := z (2 * j + 1) (by omega)
            have e : 80 + (2 * j + 1) = 0 + 81 + 2 * j := by omega
            rw [e] at this; exact this
        · have : (M14.1 162 27).toInt = 0 := by rw [v27]; rfl
          have hu' : (u : Int) < (M14.1 162 27).toInt := hu
          omega
        · obtain ⟨z1, z2⟩ := y2.2.2 t ht
          have g191 : M14.1 191 t = M1.1 191 t := f 191 t (by omega) (by omega)
          show (0 ≤ (M14.1 191 t).toInt ∧ (M14.1 191 t).toInt ≤ (M14.1 162 48).toInt) ∧ ((M14.1 190 t).toInt ≠ 0 → M14.1 191 t = M14.1 162 48 → KP M14 189 (96 * t))
          rw [g191]
          have e48 : (M1.1 162 48).toInt = (M.1 162 48).toInt := by rw [y5]
          refine ⟨by omega, fun _ e => ?_⟩
          have := congrArg Int32.toInt e
          omega
      -- the PLANKS that end there
      have lp : ∀ v3 : Int32, ∃ x, iter (lb_Mod_build_87 v1 v2 v3 M1) FU (0 : Int32) = some x ∧ SQ (fun _ : Unit => v3 = 0 → ∀ s : Nat, (s : Int) < 2 * (M1.1 163 92).toInt → (M1.1 163 (80 + s)).toInt ≠ v1.toInt) (fun _ : Unit => True) x := by
        intro v3
        refine iter_r (fun s : Int32 => 0 ≤ s.toInt ∧ s.toInt ≤ 12 ∧ (v3 = 0 → ∀ t : Nat, (t : Int) < s.toInt → (M1.1 163 (80 + t)).toInt ≠ v1.toInt)) (fun s : Int32 => (12 - s.toInt).toNat) _ ?_ FU _ ⟨by decide, by decide, fun _ t ht => absurd (show (t : Int) < 0 from ht) (by omega)⟩ (by show (12 - (0 : Int)).toNat < FU; rw [FU_v]; decide)
        rintro s ⟨i1, i2, i3⟩
        unfold lb_Mod_build_87
        rw [t92]
        have m1 : ((2 : Int32) * (M1.1 163 92)).toInt = 2 * (M1.1 163 92).toInt := mul_ti rfl rfl (by omega) (by omega)
        refine if_i (fun c => ⟨_, rfl, fun e t ht => i3 e t (by have := lei.mp c; omega)⟩) (fun c => ?_)
        have d := nlei.mp c
        have es : (s + (1 : Int32)).toInt = s.toInt + 1 := add_ti rfl rfl (by omega) (by omega)
        have e8 : ((80 : Int32) + s).toInt = 80 + s.toInt := add_ti rfl rfl (by omega) (by omega)
        have t8 : ((80 : Int32) + s).toNatClampNeg = 80 + s.toInt.toNat := by rw [tcn', e8]; omega
        have on : (v3 = 0 → (M1.1 163 (80 + s.toInt.toNat)).toInt ≠ v1.toInt) → LPq (fun s : Int32 => 0 ≤ s.toInt ∧ s.toInt ≤ 12 ∧ (v3 = 0 → ∀ t : Nat, (t : Int) < s.toInt → (M1.1 163 (80 + t)).toInt ≠ v1.toInt)) (fun s : Int32 => (12 - s.toInt).toNat) (SQ (fun _ : Unit => v3 = 0 → ∀ s : Nat, (s : Int) < 2 * (M1.1 163 92).toInt → (M1.1 163 (80 + s)).toInt ≠ v1.toInt) (fun _ : Unit => True)) (12 - s.toInt).toNat (.inl (s + (1 : Int32))) := by
          intro hne
          refine ⟨⟨by omega, by omega, fun e t ht => ?_⟩, ?_⟩
          · by_cases w : (t : Int) < s.toInt
            · exact i3 e t w
            · have : t = s.toInt.toNat := by omega
              rw [this]; exact hne e
          · show (12 - (s + (1 : Int32)).toInt).toNat < (12 - s.toInt).toNat; omega
        rw [t8]
        refine inb_i (by omega) (by omega) (if_i (fun _ => if_i (fun _ => ⟨_, rfl, trivial⟩) (fun c3 => ⟨_, rfl, on (fun e => absurd e c3)⟩)) (fun c3 => ⟨_, rfl, on (fun _ => neqi.mp c3)⟩))
      have k62 : ∀ v3 : Int32, (v3 = 0 ∨ (v2.toInt = 2 ∨ v2.toInt = 3)) → ∃ r, j_Mod_build_62 v1 v2 v3 M1 = some r ∧ RO n M (M.1 162 10) r.2 := by
        intro v3 hv3
        have arm : ∃ r, (Option.bind (iter (lb_Mod_build_87 v1 v2 v3 M1) FU (0 : Int32)) (Sum.elim (fun y11 : Unit => if v3 = 0 then j_Mod_build_141 v1 v2 M1 else Option.bind (f_Mod_isUnder v1 M1) fun x15 => if x15 = 0 then j_Mod_build_141 v1 v2 M1 else some ((-1 : Int32), M1)) (fun y18 : Unit => some ((-1 : Int32), M1)))) = some r ∧ RO n M (M.1 162 10) r.2 := by
          refine bind_i (lp v3) (fun x _ q => ?_)
          rcases x with y | y
          · show ∃ r, (if v3 = 0 then j_Mod_build_141 v1 v2 M1 else Option.bind (f_Mod_isUnder v1 M1) fun x15 => if x15 = 0 then j_Mod_build_141 v1 v2 M1 else some ((-1 : Int32), M1)) = some r ∧ _
            refine if_i (fun e => k141 (.inr (q e))) (fun e => ?_)
            refine bind_i (sf_Mod_isUnder v1 M1 ⟨a1, a2⟩ x1.1) (fun x15 _ _ => if_i (fun _ => k141 (.inl (hv3.elim (fun w => absurd w e) id))) (fun _ => o1))
          · exact o1
        unfold j_Mod_build_62 f_Mod_placeOf
        rw [Option.bind_some]
        exact bind_i (sf_Mod_onPlace 163 _ M1 St_163 x1.1) (fun x6 _ _ => if_i (fun _ => arm) (fun _ => if_i (fun _ => o1) (fun _ => arm)))
      have k39 : ∀ w0 : Int32, (w0 = 0 ∨ (v2.toInt = 2 ∨ v2.toInt = 3)) → ∃ r, j_Mod_build_39 v1 v2 w0 M1 = some r ∧ RO n M (M.1 162 10) r.2 := by
        intro w0 hw
        unfold j_Mod_build_39
        exact bind_i (sf_Mod_onPlace 163 v1 M1 St_163 x1.1) (fun x4 _ _ => if_i (fun _ => k62 w0 hw) (fun _ => if_i (fun _ => k62 w0 hw) (fun _ => if_i (fun _ => k62 w0 hw) (fun _ => o1))))
      refine if_i (fun c => absurd c (by decide)) (fun _ => if_i (fun e => k39 1 (.inr (.inl ((eqi.mp e).trans c2)))) (fun _ => if_i (fun e => k39 1 (.inr (.inr ((eqi.mp e).trans c3)))) (fun _ => k39 0 (.inl rfl))))
    · exact if_i (fun _ => o1) (fun c => absurd rfl c)
  · exact if_i (fun _ => o1) (fun c => absurd rfl c)
end
section
/-! class and reference between two calls -/
def Inv (n : Int) (M : Mem) : Prop := RI n M ∧ M.1 1 1 = M.1 162 10
theorem RI_Gc {v : Nat} {n : Int} {M N : Mem} (h : RI n M) (j : J N) (g : Gc v M N) : RI n N := by
  have f : ∀ k i, 162 ≤ k → N.1 k i = M.1 k i := fun k i w => g k i (.inl w)
  refine ⟨j, KK_c h.1 ⟨⟨f 162 2 (by decide), f 162 3 (by decide), fun i => f 164 i (by decide)⟩, f 162 27 (by decide), f 162 48 (by decide), fun i _ _ => f 163 i (by decide), fun i => f 173 i (by decide), fun i => f 189 i (by decide), fun i => f 190 i (by decide), fun i => f 191 i (by decide)⟩ h.2.1, ?_, ?_⟩
  · rw [f 162 48 (by decide)]; exact h.2.2.1
  · rw [f 162 48 (by decide)]; exact h.2.2.2
theorem fin0 {n : Int} {M x r : Mem} (h : Inv n M) (g : Gc 0 M x) (o : RO n x (x.1 162 10) r) : Inv (n + 1) r := by
  refine ⟨o.1, ?_⟩
  rw [o.2.1 1 1 (by decide), o.2.2, g 1 1 (.inr ⟨rfl, rfl, rfl⟩), g 162 10 (.inl (by decide))]
  exact h.2
theorem fin1 {n : Int} {x r : Mem} (z : (x.1 1 1).toInt = 0) (o : RO n x 0 r) : Inv (n + 1) r := by
  refine ⟨o.1, ?_⟩
  rw [o.2.1 1 1 (by decide), o.2.2]
  exact Int32.toInt_inj.mp (z.trans rfl)

theorem mr_cell {n : Int} {M : Mem} (h : RI n M) (v1 : Int32) (v2 : Int32) : ∃ r, f_Mod_cell v1 v2 M = some r ∧ RO n M (M.1 162 10) r.2 := by
  obtain ⟨r, e, q⟩ := sf_Mod_cell v1 v2 M h.1
  exact ⟨r, e, RO_Gd h q.1 q.2⟩
theorem mr_person {n : Int} {M : Mem} (h : RI n M) (v1 : Int32) (v2 : Int32) : ∃ r, f_Mod_person v1 v2 M = some r ∧ RO n M (M.1 162 10) r.2 := by
  obtain ⟨r, e, q⟩ := sf_Mod_person v1 v2 M h.1
  exact ⟨r, e, RO_Gd h q.1 q.2⟩
theorem mr_met {n : Int} {M : Mem} (h : RI n M) (v1 : Int32) (v2 : Int32) : ∃ r, f_Mod_met v1 v2 M = some r ∧ RO n M (M.1 162 10) r.2 := by
  obtain ⟨r, e, q⟩ := sf_Mod_met v1 v2 M h.1
  exact ⟨r, e, RO_Gd h q.1 q.2⟩
theorem mr_ahead {n : Int} {M : Mem} (h : RI n M) (v1 : Int32) : ∃ r, f_Mod_ahead v1 M = some r ∧ RO n M (M.1 162 10) r.2 := by
  obtain ⟨r, e, q⟩ := sf_Mod_ahead v1 M h.1
  exact ⟨r, e, RO_Gd h q.1 q.2⟩
theorem mr_meet {n : Int} {M : Mem} (h : RI n M) (v1 : Int32) (v2 : Int32) : ∃ r, f_Mod_meet v1 v2 M = some r ∧ RO n M (M.1 162 10) r.2 := by
  obtain ⟨r, e, q⟩ := sf_Mod_meet v1 v2 M h.1
  exact ⟨r, e, RO_Gd h q.1 q.2.1⟩
theorem mr_known {n : Int} {M : Mem} (h : RI n M) : ∃ r, f_Mod_known M = some r ∧ RO n M (M.1 162 10) r.2 := by
  obtain ⟨r, e, q⟩ := sf_Mod_known M h.1
  exact ⟨r, e, RO_Gd h q.1 q.2.1⟩
theorem mr_gossip {n : Int} {M : Mem} (h : RI n M) (v1 : Int32) : ∃ r, f_Mod_gossip v1 M = some r ∧ RO n M (M.1 162 10) r.2 := by
  obtain ⟨r, e, q⟩ := sf_Mod_gossip v1 M h.1
  exact ⟨r, e, RO_Gd h q.1 q.2.1⟩
theorem mr_pieces {n : Int} {M : Mem} (h : RI n M) (v1 : Int32) : ∃ r, f_Mod_pieces v1 M = some r ∧ RO n M (M.1 162 10) r.2 := by
  obtain ⟨r, e, q⟩ := sf_Mod_pieces v1 M h.1
  exact ⟨r, e, RO_Gd h q.1 q.2⟩
theorem mr_reach {n : Int} {M : Mem} (h : RI n M) (v1 : Int32) (v2 : Int32) : ∃ r, f_Mod_reach v1 v2 M = some r ∧ RO n M (M.1 162 10) r.2 := by
  obtain ⟨r, e, q⟩ := sf_Mod_reach v1 v2 M h.1
  exact ⟨r, e, RO_Gd h q.1 q.2⟩
theorem mr_both {n : Int} {M : Mem} (h : RI n M) (v1 : Int32) (v2 : Int32) (v3 : Int32) (v4 : Int32) : ∃ r, f_Mod_both v1 v2 v3 v4 M = some r ∧ RO n M (M.1 162 10) r.2 := by
  obtain ⟨r, e, q⟩ := sf_Mod_both v1 v2 v3 v4 M h.1
  exact ⟨r, e, RO_Gd h q.1 q.2⟩
theorem mr_errand {n : Int} {M : Mem} (h : RI n M) (v1 : Int32) (v2 : Int32) : ∃ r, f_Mod_errand v1 v2 M = some r ∧ RO n M (M.1 162 10) r.2 := by
  obtain ⟨r, e, q⟩ := sf_Mod_errand v1 v2 M h.1
  exact ⟨r, e, RO_Gd h q.1 q.2.1⟩
theorem mr_tryst {n : Int} {M : Mem} (h : RI n M) (v1 : Int32) (v2 : Int32) : ∃ r, f_Mod_tryst v1 v2 M = some r ∧ RO n M (M.1 162 10) r.2 := by
  obtain ⟨r, e, q⟩ := sf_Mod_tryst v1 v2 M h.1
  exact ⟨r, e, RO_Gd h q.1 q.2⟩
theorem mr_open {n : Int} {M : Mem} (h : RI n M) (v1 : Int32) (v2 : Int32) : ∃ r, f_Mod_open v1 v2 M = some r ∧ RO n M (M.1 162 10) r.2 := by
  obtain ⟨r, e, q⟩ := sf_Mod_open v1 v2 M h.1
  exact ⟨r, e, RO_Gd h q.1 q.2⟩
theorem mr_part {n : Int} {M : Mem} (h : RI n M) (v1 : Int32) (v2 : Int32) : ∃ r, f_Mod_part v1 v2 M = some r ∧ RO n M (M.1 162 10) r.2 := by
  obtain ⟨r, e, q⟩ := sf_Mod_part v1 v2 M h.1
  exact ⟨r, e, RO_Gd h q.1 q.2.1⟩
theorem mr_planks {n : Int} {M : Mem} (h : RI n M) (v1 : Int32) (v2 : Int32) : ∃ r, f_Mod_planks v1 v2 M = some r ∧ RO n M (M.1 162 10) r.2 := by
  obtain ⟨r, e, q⟩ := sf_Mod_planks v1 v2 M h.1
  exact ⟨r, e, RO_Gd h q.1 q.2⟩
theorem mr_fights {n : Int} {M : Mem} (h : RI n M) (v1 : Int32) : ∃ r, f_Mod_fights v1 M = some r ∧ RO n M (M.1 162 10) r.2 := by
  obtain ⟨r, e, q⟩ := sf_Mod_fights v1 M h.1
  exact ⟨r, e, RO_Gd h q.1 q.2⟩
theorem mr_saved {n : Int} {M : Mem} (h : RI n M) : ∃ r, f_Mod_saved M = some r ∧ RO n M (M.1 162 10) r.2 := by
  obtain ⟨r, e, q⟩ := sf_Mod_saved M h.1
  exact ⟨r, e, RO_Gd h q.1 q.2.1⟩
theorem mr_flees {n : Int} {M : Mem} (h : RI n M) (v1 : Int32) (v2 : Int32) (v3 : Int32) : ∃ r, f_Mod_flees v1 v2 v3 M = some r ∧ RO n M (M.1 162 10) r.2 := by
  obtain ⟨r, e, q⟩ := sf_Mod_flees v1 v2 v3 M h.1
  exact ⟨r, e, RO_Gd h q.1 q.2.1⟩
theorem mr_lairs {n : Int} {M : Mem} (h : RI n M) (v1 : Int32) : ∃ r, f_Mod_lairs v1 M = some r ∧ RO n M (M.1 162 10) r.2 := by
  obtain ⟨r, e, q⟩ := sf_Mod_lairs v1 M h.1
  exact ⟨r, e, RO_Gd h q.1 q.2⟩
theorem mr_caught {n : Int} {M : Mem} (h : RI n M) (v1 : Int32) (v2 : Int32) : ∃ r, f_Mod_caught v1 v2 M = some r ∧ RO n M (M.1 162 10) r.2 := by
  obtain ⟨r, e, q⟩ := sf_Mod_caught v1 v2 M h.1
  exact ⟨r, e, RO_Gd h q.1 q.2.1⟩
theorem mr_watch {n : Int} {M : Mem} (h : RI n M) (v1 : Int32) (v2 : Int32) (v3 : Int32) (v4 : Int32) : ∃ r, f_Mod_watch v1 v2 v3 v4 M = some r ∧ RO n M (M.1 162 10) r.2 := by
  obtain ⟨r, e, q⟩ := sf_Mod_watch v1 v2 v3 v4 M h.1
  exact ⟨r, e, RO_Gd h q.1 q.2.1⟩
theorem mr_count {n : Int} {M : Mem} (h : RI n M) (v1 : Int32) : ∃ r, f_Mod_count v1 M = some r ∧ RO n M (M.1 162 10) r.2 := by
  obtain ⟨r, e, q⟩ := sf_Mod_count v1 M h.1
  exact ⟨r, e, RO_Gd h q.1 q.2⟩
theorem mr_row {n : Int} {M : Mem} (h : RI n M) (v1 : Int32) : ∃ r, f_Mod_row v1 M = some r ∧ RO n M (M.1 162 10) r.2 := by
  obtain ⟨r, e, q⟩ := sf_Mod_row v1 M h.1
  exact ⟨r, e, RO_Gd h q.1 q.2⟩
theorem Gd_ne {M N : Mem} (f : ∀ k i, k ≠ 177 → k ≠ 185 → k ≠ 168 → k ≠ 162 → N.1 k i = M.1 k i) (g : ∀ i, i ≠ 13 → i ≠ 12 → N.1 162 i = M.1 162 i) : Gd 1000 M N := by
  intro k i w
  by_cases e : k = 162
  · subst e
    refine g i ?_ ?_
    · rintro rfl; rcases w with w | w
      · exact absurd w.1 (by decide)
      · exact absurd w.1 (by decide)
    · rintro rfl; rcases w with w | w
      · exact absurd w.1 (by decide)
      · exact absurd w.1 (by decide)
  · refine f k i ?_ ?_ ?_ e
    all_goals
      rintro rfl
      rcases w with w | w
      · exact absurd w.1 (by
          first | (have : pq 177 i = false := rfl; rw [this]; decide) | (have : pq 185 i = false := rfl; rw [this]; decide) | (have : pq 168 i = false := rfl; rw [this]; decide))
      · exact absurd w.1 (by decide)
theorem mr_path {n : Int} {M : Mem} (h : RI n M) (v1 v2 v3 : Int32) : ∃ r, f_Mod_path v1 v2 v3 M = some r ∧ RO n M (M.1 162 10) r.2 := by
  obtain ⟨r, e, ⟨q1, q2⟩, q3⟩ := sf_Mod_path v1 v2 v3 M h.1 h.2.1.1
  exact ⟨r, e, RO_Gd h q1 (Gd_ne (fun k i n1 _ n3 n4 => q2 k i n1 n3 n4) q3)⟩
theorem mr_wardrobe {n : Int} {M : Mem} (h : RI n M) (v1 v2 : Int32) : ∃ r, f_Mod_wardrobe v1 v2 M = some r ∧ RO n M (M.1 162 10) r.2 := by
  obtain ⟨r, e, ⟨q1, q2⟩, q3⟩ := sf_Mod_wardrobe v1 v2 M h.1
  exact ⟨r, e, RO_Gd h q1 (Gd_ne (fun k i _ n2 n3 n4 => q2 k i n2 n3 n4) q3)⟩
/-- a call of the reference that writes THE TEXT alone -/
theorem RI_text {n : Int} {M N : Mem} (h : RI n M) (j : J N) (f : ∀ k i, k ≠ 167 → ¬ (k = 162 ∧ (i = 10 ∨ i = 13)) → N.1 k i = M.1 k i) : RI (n + 1) N ∧ ∀ k i, k < 162 → N.1 k i = M.1 k i := by
  have hn := h.2.2
  refine ⟨⟨j, KK_c h.1 ⟨⟨f 162 2 (by decide) (by decide), f 162 3 (by decide) (by decide), fun i => f 164 i (by decide) (by omega)⟩, f 162 27 (by decide) (by decide), f 162 48 (by decide) (by decide), fun i _ _ => f 163 i (by decide) (by omega), fun i => f 173 i (by decide) (by omega), fun i => f 189 i (by decide) (by omega), fun i => f 190 i (by decide) (by omega), fun i => f 191 i (by decide) (by omega)⟩ h.2.1, ?_⟩, fun k i hk => f k i (by omega) (by omega)⟩
  rw [f 162 48 (by decide) (by decide)]; omega
theorem mr_sign {n : Int} {M : Mem} (h : RI n M) (v1 : Int32) : ∃ r, f_Mod_sign v1 M = some r ∧ (RI (n + 1) r.2 ∧ (∀ k i, k < 162 → r.2.1 k i = M.1 k i) ∧ (((M.1 162 10).toInt ≤ 76 ∧ (r.2.1 162 10).toInt = (M.1 162 10).toInt + 4 ∧ r.1 = r.2.1 162 10) ∨ (76 < (M.1 162 10).toInt ∧ r.2.1 162 10 = M.1 162 10 ∧ r.1 = -1))) := by
  have t := Jr_162_10 h.1
  unfold f_Mod_sign
  refine mem_i (fun M1 e1 => ?_)
  have j1 : J M1 := by rw [e1]; exact Jw_fld okf_162_13 h.1 _
  have f1 : ∀ k i, ¬ (k = 162 ∧ i = 13) → M1.1 k i = M.1 k i := fun k i w => by rw [e1, si_ne w]
  have t1 : M1.1 162 10 = M.1 162 10 := f1 162 10 (by decide)
  have ea : ((M1.1 162 10) + (4 : Int32)).toInt = (M.1 162 10).toInt + 4 := add_ti (by rw [t1]) rfl (by omega) (by omega)
  have c80 : (80 : Int32).toInt = 80 := rfl
  refine if_i (fun c => ?_) (fun c => ⟨_, rfl, (RI_text h j1 (fun k i _ w => f1 k i (by omega))).1, (RI_text h j1 (fun k i _ w => f1 k i (by omega))).2, .inr ⟨by have := nlei.mp c; omega, t1, rfl⟩⟩)
  have d := lei.mp c
  have hl : ∃ x, iter (lb_Mod_sign_20 v1) FU ((3 : Int32), M1) = some x ∧ (J x ∧ (∀ k i, k ≠ 167 → ¬ (k = 162 ∧ i = 10) → x.1 k i = M1.1 k i) ∧ (x.1 162 10).toInt = (M.1 162 10).toInt + 4) := by
    refine iter_r (fun s : Int32 × Mem => (J s.2 ∧ (∀ k i, k ≠ 167 → ¬ (k = 162 ∧ i = 10) → s.2.1 k i = M1.1 k i) ∧ (s.2.1 162 10).toInt = (M.1 162 10).toInt + 3 - s.1.toInt) ∧ -1 ≤ s.1.toInt ∧ s.1.toInt ≤ 3) (fun s : Int32 × Mem => (s.1.toInt + 1).toNat) _ ?_ FU _ ⟨⟨j1, fun _ _ _ _ => rfl, by show (M1.1 162 10).toInt = (M.1 162 10).toInt + 3 - (3 : Int); rw [t1]; omega⟩, (by show (-1 : Int) ≤ (3 : Int32).toInt; decide), (by show (3 : Int32).toInt ≤ 3; decide)⟩ (by show ((3 : Int) + 1).toNat < FU; rw [FU_v]; decide)
    rintro ⟨k, N⟩ ⟨⟨i1, i2, i3⟩, i4, i5⟩
    dsimp only at i1 i2 i3 i4 i5
    have z0 : (0 : Int32).toInt = 0 := rfl
    unfold lb_Mod_sign_20
    dsimp only
    refine if_i (fun c => ⟨_, rfl, i1, i2, by have := lti.mp c; show (N.1 162 10).toInt = _; omega⟩) (fun c => ?_)
    have dk := nlti.mp c
    have ek : (k + (-1 : Int32)).toInt = k.toInt + (-1) := add_ti rfl rfl (by omega) (by omega)
    have eb : ((N.1 162 10) + (1 : Int32)).toInt = (N.1 162 10).toInt + 1 := add_ti rfl rfl (by omega) (by omega)
    refine mem_i (fun M2 e2 => inb_i (by omega) (by omega) (mem_i (fun M3 e3 => ⟨_, rfl, ⟨⟨?_, fun a b w1 w2 => ?_, ?_⟩, ?_, ?_⟩, ?_⟩)))
    · show J M3
      rw [e3]; refine Jw_any ok_167 ?_ _ _; rw [e2]; exact Jw_162_10 i1 _ (by omega) (by omega)
    · show M3.1 a b = _
      rw [e3, si_ne (fun z => w1 z.1), e2, si_ne w2]; exact i2 a b w1 w2
    · show (M3.1 162 10).toInt = (M.1 162 10).toInt + 3 - (k + (-1 : Int32)).toInt
      rw [e3, si_ne (by intro z; exact absurd z.1 (by decide)), e2, si_eq]; omega
    · show -1 ≤ (k + (-1 : Int32)).toInt; omega
    · show (k + (-1 : Int32)).toInt ≤ 3; omega
    · show ((k + (-1 : Int32)).toInt + 1).toNat < (k.toInt + 1).toNat; omega
  refine bind_i hl (fun x5 _ q => ⟨_, rfl, ?_⟩)
  obtain ⟨q1, q2, q3⟩ := q
  have R := RI_text (N := x5) h q1 (fun k i w1 w2 => (q2 k i w1 (by omega)).trans (f1 k i (by omega)))
  exact ⟨R.1, R.2, .inl ⟨by omega, q3, rfl⟩⟩
theorem mr_end {n : Int} {M : Mem} (h : RI n M) (v1 : Int32) : ∃ r, f_Mod_end v1 M = some r ∧ (RI (n + 1) r.2 ∧ (∀ k i, k < 162 → r.2.1 k i = M.1 k i) ∧ (((0 ≤ v1.toInt ∧ v1.toInt ≤ (M.1 162 10).toInt) ∧ r.2.1 162 10 = v1 ∧ r.1 = 1) ∨ (¬ (0 ≤ v1.toInt ∧ v1.toInt ≤ (M.1 162 10).toInt) ∧ r.2.1 162 10 = M.1 162 10 ∧ r.1 = 0))) := by
  have t := Jr_162_10 h.1
  unfold f_Mod_end
  refine mem_i (fun M1 e1 => ?_)
  have j1 : J M1 := by rw [e1]; exact Jw_fld okf_162_13 h.1 _
  have f1 : ∀ k i, ¬ (k = 162 ∧ i = 13) → M1.1 k i = M.1 k i := fun k i w => by rw [e1, si_ne w]
  have t1 : M1.1 162 10 = M.1 162 10 := f1 162 10 (by decide)
  have z0 : (0 : Int32).toInt = 0 := rfl
  refine bind_i (sp_in v1 0 (M1.1 162 10)) (fun x2 _ q => ?_)
  rw [t1, z0] at q
  rcases q with ⟨rfl, q1, q2⟩ | ⟨rfl, q⟩
  · refine if_i (fun c => absurd c (by decide)) (fun _ => mem_i (fun M3 e3 => ⟨_, rfl, ?_⟩))
    have j3 : J M3 := by rw [e3]; exact Jw_162_10 j1 _ q1 (by omega)
    have R := RI_text (N := M3) h j3 (fun k i w1 w2 => by rw [e3, si_ne (fun z => w2 ⟨z.1, .inl z.2⟩)]; exact f1 k i (fun z => w2 ⟨z.1, .inr z.2⟩))
    exact ⟨R.1, R.2, .inl ⟨⟨q1, q2⟩, by show M3.1 162 10 = v1; rw [e3, si_eq], rfl⟩⟩
  · refine if_i (fun _ => ⟨_, rfl, ?_⟩) (fun c => absurd rfl c)
    have R := RI_text (N := M1) h j1 (fun k i w1 w2 => f1 k i (fun z => w2 ⟨z.1, .inr z.2⟩))
    exact ⟨R.1, R.2, .inr ⟨q, t1, rfl⟩⟩
theorem ct_sign {M : Mem} (h : J M) (v1 : Int32) : ∃ r, f_Top_sign v1 M = some r ∧ (J r.2 ∧ (∀ k i, 162 ≤ k → r.2.1 k i = M.1 k i) ∧ (((M.1 1 1).toInt ≤ 76 ∧ (r.2.1 1 1).toInt = (M.1 1 1).toInt + 4 ∧ r.1 = r.2.1 1 1) ∨ (76 < (M.1 1 1).toInt ∧ r.2.1 1 1 = M.1 1 1 ∧ r.1 = -1))) := by
  have t := Jr_1_1 h
  have c76 : (76 : Int32).toInt = 76 := rfl
  have z0 : (0 : Int32).toInt = 0 := rfl
  have c4 : (4 : Int32).toInt = 4 := rfl
  unfold f_Top_sign f_Signs_add
  by_cases c1 : (M.1 1 1) < 0
  · have := lti.mp c1; omega
  rw [if_neg c1]
  by_cases c2 : (M.1 1 1) ≤ (76 : Int32)
  · rw [if_pos c2]
    have d := lei.mp c2
    have hl : ∃ x, iter (lb_Signs_add_20 v1) FU ((0 : Int32), M) = some x ∧ (J x ∧ (∀ k i, 162 ≤ k → x.1 k i = M.1 k i) ∧ (x.1 1 1).toInt = (M.1 1 1).toInt + 4) := by
      refine cnt_r _ (fun c N => J N ∧ (∀ k i, 162 ≤ k → N.1 k i = M.1 k i) ∧ (N.1 1 1).toInt = (M.1 1 1).toInt + c) 4 (by decide) ?_ M ⟨h, fun _ _ _ => rfl, by omega⟩ (by decide)
      intro k N k0 k1 hI
      obtain ⟨i1, i2, i3⟩ := hI
      unfold lb_Signs_add_20
      dsimp only
      refine if_i (fun c => ⟨_, rfl, .inl ⟨_, rfl, i1, i2, by have := lei.mp c; omega⟩⟩) (fun c => ?_)
      have dk := nlei.mp c
      refine inb_i (by omega) (by omega) (mem_i (fun M1 e1 => mem_i (fun M2 e2 => ⟨_, rfl, .inr ⟨by omega, M2, rfl, ?_, fun a b w => ?_, ?_⟩⟩)))
      · have a1 : M1.1 1 1 = N.1 1 1 := by rw [e1, si_ne (by intro z; exact absurd z.1 (by decide))]
        have eb : ((M1.1 1 1) + (1 : Int32)).toInt = (N.1 1 1).toInt + 1 := add_ti (by rw [a1]) rfl (by omega) (by omega)
        have r := and_rng (a := (v1 >>> (((24 : Int32) - ((8 : Int32) * k)) &&& 31))) (c := 255) (by decide)
        have r2 : (255 : Int32).toInt = 255 := rfl
        rw [e2]; refine Jw_1_1 ?_ _ (by omega) (by omega)
        rw [e1]; exact Jw_2 i1 _ _ r.1 (by omega)
      · rw [e2, si_ne (fun z => by omega), e1, si_ne (fun z => by omega)]; exact i2 a b w
      · have a1 : M1.1 1 1 = N.1 1 1 := by rw [e1, si_ne (by intro z; exact absurd z.1 (by decide))]
        have eb : ((M1.1 1 1) + (1 : Int32)).toInt = (N.1 1 1).toInt + 1 := add_ti (by rw [a1]) rfl (by omega) (by omega)
        rw [e2, si_eq]; omega
    obtain ⟨x, ex, q1, q2, q3⟩ := hl
    rw [ex, Option.bind_some, Option.bind_some]
    refine ⟨_, rfl, ?_⟩
    exact ⟨q1, q2, .inl ⟨by omega, q3, rfl⟩⟩
  · rw [if_neg c2, Option.bind_some]
    have d := nlei.mp c2
    exact ⟨_, rfl, h, fun _ _ _ => rfl, .inr ⟨by omega, rfl, rfl⟩⟩
theorem ct_end {M : Mem} (h : J M) (v1 : Int32) : ∃ r, f_Top_end v1 M = some r ∧ (J r.2 ∧ (∀ k i, 162 ≤ k → r.2.1 k i = M.1 k i) ∧ (((0 ≤ v1.toInt ∧ v1.toInt ≤ (M.1 1 1).toInt) ∧ r.2.1 1 1 = v1 ∧ r.1 = 1) ∨ (¬ (0 ≤ v1.toInt ∧ v1.toInt ≤ (M.1 1 1).toInt) ∧ r.2.1 1 1 = M.1 1 1 ∧ r.1 = 0))) := by
  have t := Jr_1_1 h
  have z0 : (0 : Int32).toInt = 0 := rfl
  unfold f_Top_end
  refine if_i (fun c => ⟨_, rfl, h, fun _ _ _ => rfl, .inr ⟨by have := lti.mp c; omega, rfl, rfl⟩⟩) (fun c => ?_)
  have d := nlti.mp c
  refine if_i (fun c2 => mem_i (fun M1 e1 => ⟨_, rfl, ?_⟩)) (fun c2 => ⟨_, rfl, h, fun _ _ _ => rfl, .inr ⟨by have := nlei.mp c2; omega, rfl, rfl⟩⟩)
  have d2 := lei.mp c2
  exact ⟨by show J M1; rw [e1]; exact Jw_1_1 h _ (by omega) (by omega), fun k i hk => by show M1.1 k i = _; rw [e1, si_ne (fun z => by omega)], .inl ⟨⟨by omega, d2⟩, by show M1.1 1 1 = v1; rw [e1, si_eq], rfl⟩⟩
theorem RI_ge {n : Int} {M N : Mem} (h : RI n M) (j : J N) (f : ∀ k i, 162 ≤ k → N.1 k i = M.1 k i) : RI n N := RI_Gc (v := 1) h j (fun k i w => f k i (by omega))
/-- sign: both answer alike -/
theorem two_sign {n : Int} {M : Mem} (h : Inv n M) (v : Int32) : ∃ x, f_Top_sign v M = some x ∧ ∃ r, f_Mod_sign v x.2 = some r ∧ x.1 = r.1 ∧ Inv (n + 1) r.2 := by
  obtain ⟨x, ex, a1, a2, a3⟩ := ct_sign h.1.1 v
  obtain ⟨r, er, b1, b2, b3⟩ := mr_sign (RI_ge h.1 a1 a2) v
  have e10 : x.2.1 162 10 = M.1 162 10 := a2 162 10 (by decide)
  have e11 := h.2
  rw [e10, ← e11] at b3
  refine ⟨x, ex, r, er, ?_⟩
  have k := b2 1 1 (by decide)
  rcases a3 with ⟨c1, c2, c3⟩ | ⟨c1, c2, c3⟩ <;> rcases b3 with ⟨d1, d2, d3⟩ | ⟨d1, d2, d3⟩
  · have e : x.2.1 1 1 = r.2.1 162 10 := Int32.toInt_inj.mp (by omega)
    exact ⟨by rw [c3, d3, e], b1, by rw [k, e]⟩
  · omega
  · omega
  · exact ⟨by rw [c3, d3], b1, by rw [k, c2, d2]⟩
theorem two_end {n : Int} {M : Mem} (h : Inv n M) (v : Int32) : ∃ x, f_Top_end v M = some x ∧ ∃ r, f_Mod_end v x.2 = some r ∧ x.1 = r.1 ∧ Inv (n + 1) r.2 := by
  obtain ⟨x, ex, a1, a2, a3⟩ := ct_end h.1.1 v
  obtain ⟨r, er, b1, b2, b3⟩ := mr_end (RI_ge h.1 a1 a2) v
  have e10 : x.2.1 162 10 = M.1 162 10 := a2 162 10 (by decide)
  have e11 := h.2
  rw [e10, ← e11] at b3
  refine ⟨x, ex, r, er, ?_⟩
  have k := b2 1 1 (by decide)
  rcases a3 with ⟨c1, c2, c3⟩ | ⟨c1, c2, c3⟩ <;> rcases b3 with ⟨d1, d2, d3⟩ | ⟨d1, d2, d3⟩
  · exact ⟨by rw [c3, d3], b1, by rw [k, c2, d2]⟩
  · exact absurd c1 d1
  · exact absurd d1 c1
  · exact ⟨by rw [c3, d3], b1, by rw [k, c2, d2]⟩
end
