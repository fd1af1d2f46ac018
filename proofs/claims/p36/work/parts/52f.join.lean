section
/-! safety of the class, 6 -/
theorem sf_Scene_allMeetings (v0 : Nat) (M : Mem) (hk_v0 : kd v0 = 10 + 7) (hJ : J M) : ∃ r : Int32, f_Scene_allMeetings v0 M = some r ∧ (True) := by
  unfold f_Scene_allMeetings
  refine c_i hk_v0 ?_
  refine bind_i (sl_Scene_allMeetings_4 v0 M (0 : Int32) (0 : Int32) hk_v0 hJ (show (0 : Int) ≤ (0 : Int32).toInt by decide) (show (0 : Int32).toInt ≤ (64 : Int) by decide)) (fun x2 _ q => ?_)
  exact ⟨x2, rfl, trivial⟩
theorem sf_History_forget (M : Mem) (hJ : J M) : ∃ r : Mem, f_History_forget M = some r ∧ (J r ∧ Gc 0 M r) := by
  unfold f_History_forget
  refine mem_i (fun M1 e2 => ?_)
  have hJ3 : J M1 := by rw [e2]; exact Jw_46_2 hJ (0 : Int32) (show (0 : Int) ≤ (0 : Int32).toInt by decide) (show (0 : Int32).toInt ≤ (12 : Int) by decide)
  have hG4 : Gc 0 M M1 := Gc_i Gc_r e2 (by decide)
  have f5 : (M1.1 46 2).toInt = (0 : Int) := by rw [e2, si_eq]; rfl
  clear e2
  exact ⟨M1, rfl, hJ3, hG4⟩
theorem sf_History_spoil (M : Mem) (hJ : J M) : ∃ r : Mem, f_History_spoil M = some r ∧ (J r ∧ Gc 0 M r) := by
  unfold f_History_spoil
  refine mem_i (fun M1 e2 => ?_)
  have hJ3 : J M1 := by rw [e2]; exact Jw_fld okf_46_3 hJ (0 : Int32)
  have hG4 : Gc 0 M M1 := Gc_i Gc_r e2 (by decide)
  have f5 : (M1.1 46 3).toInt = (0 : Int) := by rw [e2, si_eq]; rfl
  clear e2
  exact ⟨M1, rfl, hJ3, hG4⟩
theorem sf_History_clear (M : Mem) (hJ : J M) : ∃ r : Mem, f_History_clear M = some r ∧ (J r ∧ Gc 0 M r) := by
  unfold f_History_clear
  refine bind_i (sf_History_forget M hJ) (fun x1 _ q => ?_)
  obtain ⟨h1, h2⟩ := q
  have hG3 : Gc 0 M x1 := Gc_t Gc_r h2
  refine bind_i (sf_History_spoil x1 h1) (fun x2 _ q => ?_)
  obtain ⟨h4, h5⟩ := q
  have hG6 : Gc 0 M x2 := Gc_t hG3 h5
  exact ⟨x2, rfl, h4, hG6⟩
theorem sl_History_add_18 (v1 : Nat) (v2 : Nat) (a0_ : Int32) (N_ : Mem) (B_ : Mem) (hk_v1 : kd v1 = 10 + 7) (hk_v2 : kd v2 = 10 + 7) (hN : J N_) (hG : Gc 0 B_ N_) (i2_ : (1 : Int) ≤ a0_.toInt) (i3_ : a0_.toInt ≤ (12 : Int)) : ∃ x, iter (lb_History_add_18 v1 v2) FU (a0_, N_) = some x ∧ (fun r : Mem => J r ∧ Gc 0 B_ r) x := by
  refine iter_r (fun s : Int32 × Mem => J s.2 ∧ Gc 0 B_ s.2 ∧ (1 : Int) ≤ s.1.toInt ∧ s.1.toInt ≤ (12 : Int)) (fun s : Int32 × Mem => (12 - s.1.toInt).toNat) (fun r : Mem => J r ∧ Gc 0 B_ r) ?_ FU (a0_, N_) ⟨hN, hG, i2_, i3_⟩ (by show (12 - a0_.toInt).toNat < FU; rw [FU_v]; omega)
  clear i3_ i2_ hG hN
  rintro ⟨a0_', N_'⟩ ⟨hN, hG, i2_, i3_⟩
  dsimp only at hN hG i2_ i3_
  unfold lb_History_add_18
  dsimp only
  refine if_i (fun c => ?_) (fun c => ?_)
  · have c1 := c
    have d2 : (12 : Int) ≤ a0_'.toInt := lei.mp c1
    exact ⟨_, rfl, hN, hG⟩
  · have c3 := c
    have d4 : a0_'.toInt < (12 : Int) := nlei.mp c3
    refine inb_i (by omega) (by omega) ?_
    refine bind_i (Jq_47 hN (i := a0_') (by omega) (by omega)) (fun a5 _ hk_a5 => ?_)
    refine c_i hk_a5 ?_
    have q5 : (a0_' - (1 : Int32)).toInt = a0_'.toInt - (1 : Int) := sub_ti rfl rfl (by omega) (by omega)
    refine inb_i (by omega) (by omega) ?_
    refine mem_i (fun M6 e7 => ?_)
    have hJ8 : J M6 := by rw [e7]; exact J_sq hN hk_a5
    have hG9 : Gc 0 B_ M6 := Gc_q hG e7
    clear e7
    have q10 : (a0_' + (1 : Int32)).toInt = a0_'.toInt + (1 : Int) := add_ti rfl rfl (by omega) (by omega)
    exact ⟨_, rfl, ⟨hJ8, hG9, (show (1 : Int) ≤ (a0_' + (1 : Int32)).toInt by omega), (show (a0_' + (1 : Int32)).toInt ≤ (12 : Int) by omega)⟩, show (12 - (a0_' + (1 : Int32)).toInt).toNat < (12 - a0_'.toInt).toNat by omega⟩
theorem sf_History_add (v1 : Nat) (M : Mem) (hk_v1 : kd v1 = 10 + 7) (hJ : J M) : ∃ r : Mem, f_History_add v1 M = some r ∧ (J r ∧ Gc 0 M r) := by
  unfold f_History_add
  refine c_i hk_v1 ?_
  refine if_i (fun c => ?_) (fun c => ?_)
  · have c1 := c
    have r2 := Jr_46_2 hJ
    have d3 : (M.1 46 2).toInt < (12 : Int) := lti.mp c1
    unfold j_History_add_58
    refine inb_i (by omega) (by omega) ?_
    refine bind_i (Jq_47 hJ (i := (M.1 46 2)) (by omega) (by omega)) (fun a1 _ hk_a1 => ?_)
    refine c_i hk_a1 ?_
    refine bind_i (sf_Scene_copy a1 v1 M hk_a1 hk_v1 hJ) (fun x2 _ q => ?_)
    obtain ⟨h4, h5, h6⟩ := q
    have hG7 : Gc 0 M x2 := Gc_t Gc_r h5
    have f8 : (x2.1 46 2).toInt = (M.1 46 2).toInt := by rw [h6]
    have r10 := Jr_46_2 h4
    have q11 : ((x2.1 46 2) + (1 : Int32)).toInt = (x2.1 46 2).toInt + (1 : Int) := add_ti rfl rfl (by omega) (by omega)
    refine mem_i (fun M3 e12 => ?_)
    have hJ13 : J M3 := by rw [e12]; exact Jw_46_2 h4 ((x2.1 46 2) + (1 : Int32)) (show (0 : Int) ≤ ((x2.1 46 2) + (1 : Int32)).toInt by omega) (show ((x2.1 46 2) + (1 : Int32)).toInt ≤ (12 : Int) by omega)
    have hG14 : Gc 0 M M3 := Gc_i hG7 e12 (by decide)
    have f15 : (M3.1 46 2).toInt = ((x2.1 46 2) + (1 : Int32)).toInt := by rw [e12, si_eq]
    clear e12
    exact ⟨M3, rfl, hJ13, hG14⟩
  · have c16 := c
    have r17 := Jr_46_2 hJ
    have d18 : (12 : Int) ≤ (M.1 46 2).toInt := nlti.mp c16
    refine c_i (by decide) ?_
    refine bind_i (Jq_47 hJ (i := (0 : Int32)) (by decide) (by decide)) (fun a4 _ hk_a4 => ?_)
    refine c_i hk_a4 ?_
    refine bind_i (sl_History_add_18 v1 a4 (1 : Int32) M M hk_v1 hk_a4 hJ Gc_r (show (1 : Int) ≤ (1 : Int32).toInt by decide) (show (1 : Int32).toInt ≤ (12 : Int) by decide)) (fun x8 _ q => ?_)
    obtain ⟨h19, h20⟩ := q
    refine mem_i (fun M9 e22 => ?_)
    have hJ23 : J M9 := by rw [e22]; exact J_sq h19 hk_a4
    have hG24 : Gc 0 M M9 := Gc_q h20 e22
    clear e22
    refine mem_i (fun M10 e26 => ?_)
    have hJ27 : J M10 := by rw [e26]; exact Jw_46_2 hJ23 (11 : Int32) (show (0 : Int) ≤ (11 : Int32).toInt by decide) (show (11 : Int32).toInt ≤ (12 : Int) by decide)
    have hG28 : Gc 0 M M10 := Gc_i hG24 e26 (by decide)
    have f29 : (M10.1 46 2).toInt = (11 : Int) := by rw [e26, si_eq]; rfl
    clear e26
    unfold j_History_add_58
    refine inb_i (by omega) (by omega) ?_
    refine bind_i (Jq_47 hJ27 (i := (M10.1 46 2)) (by omega) (by omega)) (fun a1 _ hk_a1 => ?_)
    refine c_i hk_a1 ?_
    refine bind_i (sf_Scene_copy a1 v1 M10 hk_a1 hk_v1 hJ27) (fun x2 _ q => ?_)
    obtain ⟨h30, h31, h32⟩ := q
    have hG33 : Gc 0 M x2 := Gc_t hG28 h31
    have f34 : (x2.1 46 2).toInt = (M10.1 46 2).toInt := by rw [h32]
    have r36 := Jr_46_2 h30
    have q37 : ((x2.1 46 2) + (1 : Int32)).toInt = (x2.1 46 2).toInt + (1 : Int) := add_ti rfl rfl (by omega) (by omega)
    refine mem_i (fun M3 e38 => ?_)
    have hJ39 : J M3 := by rw [e38]; exact Jw_46_2 h30 ((x2.1 46 2) + (1 : Int32)) (show (0 : Int) ≤ ((x2.1 46 2) + (1 : Int32)).toInt by omega) (show ((x2.1 46 2) + (1 : Int32)).toInt ≤ (12 : Int) by omega)
    have hG40 : Gc 0 M M3 := Gc_i hG33 e38 (by decide)
    have f41 : (M3.1 46 2).toInt = ((x2.1 46 2) + (1 : Int32)).toInt := by rw [e38, si_eq]
    clear e38
    exact ⟨M3, rfl, hJ39, hG40⟩
theorem sf_History_back (v1 : Nat) (M : Mem) (hk_v1 : kd v1 = 10 + 7) (hJ : J M) : ∃ r : Int32 × Mem, f_History_back v1 M = some r ∧ (J r.2 ∧ Gc 0 M r.2 ∧ (0 : Int) ≤ r.1.toInt ∧ r.1.toInt ≤ (1 : Int)) := by
  unfold f_History_back
  refine c_i hk_v1 ?_
  refine if_i (fun c => ?_) (fun c => ?_)
  · have c1 := c
    have r2 := Jr_46_2 hJ
    have d3 : (M.1 46 2).toInt < (1 : Int) := lti.mp c1
    exact ⟨((0 : Int32), M), rfl, hJ, Gc_r, (show (0 : Int) ≤ (0 : Int32).toInt by decide), (show (0 : Int32).toInt ≤ (1 : Int) by decide)⟩
  · have c4 := c
    have r5 := Jr_46_2 hJ
    have d6 : (1 : Int) ≤ (M.1 46 2).toInt := nlti.mp c4
    refine if_i (fun c => ?_) (fun c => ?_)
    · have c7 := c
      have d8 : (M.1 46 2).toInt ≤ (12 : Int) := lei.mp c7
      have q10 : ((M.1 46 2) - (1 : Int32)).toInt = (M.1 46 2).toInt - (1 : Int) := sub_ti rfl rfl (by omega) (by omega)
      refine mem_i (fun M1 e11 => ?_)
      have hJ12 : J M1 := by rw [e11]; exact Jw_46_2 hJ ((M.1 46 2) - (1 : Int32)) (show (0 : Int) ≤ ((M.1 46 2) - (1 : Int32)).toInt by omega) (show ((M.1 46 2) - (1 : Int32)).toInt ≤ (12 : Int) by omega)
      have hG13 : Gc 0 M M1 := Gc_i Gc_r e11 (by decide)
      have f14 : (M1.1 46 2).toInt = ((M.1 46 2) - (1 : Int32)).toInt := by rw [e11, si_eq]
      clear e11
      refine inb_i (by omega) (by omega) ?_
      refine bind_i (Jq_47 hJ12 (i := (M1.1 46 2)) (by omega) (by omega)) (fun a2 _ hk_a2 => ?_)
      refine c_i hk_a2 ?_
      refine bind_i (sf_Scene_copy v1 a2 M1 hk_v1 hk_a2 hJ12) (fun x3 _ q => ?_)
      obtain ⟨h15, h16, h17⟩ := q
      have hG18 : Gc 0 M x3 := Gc_t hG13 h16
      have f19 : (x3.1 46 2).toInt = (M1.1 46 2).toInt := by rw [h17]
      exact ⟨((1 : Int32), x3), rfl, h15, hG18, (show (0 : Int) ≤ (1 : Int32).toInt by decide), (show (1 : Int32).toInt ≤ (1 : Int) by decide)⟩
    · have c20 := c
      have d21 : (12 : Int) < (M.1 46 2).toInt := nlei.mp c20
      exfalso; omega
theorem sf_History_store (v1 : Int32) (v2 : Nat) (M : Mem) (hk_v2 : kd v2 = 10 + 7) (hJ : J M) : ∃ r : Int32 × Mem, f_History_store v1 v2 M = some r ∧ (J r.2 ∧ Gc 0 M r.2 ∧ (0 : Int) ≤ r.1.toInt ∧ r.1.toInt ≤ (1 : Int)) := by
  unfold f_History_store
  refine c_i hk_v2 ?_
  refine if_i (fun c => ?_) (fun c => ?_)
  · have c1 := c
    have d2 : v1.toInt < (0 : Int) := lti.mp c1
    exact ⟨((0 : Int32), M), rfl, hJ, Gc_r, (show (0 : Int) ≤ (0 : Int32).toInt by decide), (show (0 : Int32).toInt ≤ (1 : Int) by decide)⟩
  · have c3 := c
    have d4 : (0 : Int) ≤ v1.toInt := nlti.mp c3
    refine if_i (fun c => ?_) (fun c => ?_)
    · have c5 := c
      have d6 : v1.toInt < (2 : Int) := lti.mp c5
      refine inb_i (by omega) (by omega) ?_
      refine bind_i (Jq_48 hJ (i := v1) (by omega) (by omega)) (fun a1 _ hk_a1 => ?_)
      refine c_i hk_a1 ?_
      refine bind_i (sf_Scene_copy a1 v2 M hk_a1 hk_v2 hJ) (fun x2 _ q => ?_)
      obtain ⟨h7, h8, h9⟩ := q
      have hG10 : Gc 0 M x2 := Gc_t Gc_r h8
      refine mem_i (fun M3 e12 => ?_)
      have hJ13 : J M3 := by rw [e12]; exact Jw_fld okf_46_3 h7 ((x2.1 46 3) ||| ((1 : Int32) <<< (v1 &&& 31)))
      have hG14 : Gc 0 M M3 := Gc_i hG10 e12 (by decide)
      clear e12
      exact ⟨((1 : Int32), M3), rfl, hJ13, hG14, (show (0 : Int) ≤ (1 : Int32).toInt by decide), (show (1 : Int32).toInt ≤ (1 : Int) by decide)⟩
    · have c15 := c
      have d16 : (2 : Int) ≤ v1.toInt := nlti.mp c15
      exact ⟨((0 : Int32), M), rfl, hJ, Gc_r, (show (0 : Int) ≤ (0 : Int32).toInt by decide), (show (0 : Int32).toInt ≤ (1 : Int) by decide)⟩
theorem sf_History_restore (v1 : Int32) (v2 : Nat) (M : Mem) (hk_v2 : kd v2 = 10 + 7) (hJ : J M) : ∃ r : Int32 × Mem, f_History_restore v1 v2 M = some r ∧ (J r.2 ∧ Gc 0 M r.2 ∧ (0 : Int) ≤ r.1.toInt ∧ r.1.toInt ≤ (1 : Int)) := by
  unfold f_History_restore
  refine c_i hk_v2 ?_
  refine if_i (fun c => ?_) (fun c => ?_)
  · have c1 := c
    have d2 : v1.toInt < (0 : Int) := lti.mp c1
    exact ⟨((0 : Int32), M), rfl, hJ, Gc_r, (show (0 : Int) ≤ (0 : Int32).toInt by decide), (show (0 : Int32).toInt ≤ (1 : Int) by decide)⟩
  · have c3 := c
    have d4 : (0 : Int) ≤ v1.toInt := nlti.mp c3
    refine if_i (fun c => ?_) (fun c => ?_)
    · have c5 := c
      have d6 : (2 : Int) ≤ v1.toInt := lei.mp c5
      exact ⟨((0 : Int32), M), rfl, hJ, Gc_r, (show (0 : Int) ≤ (0 : Int32).toInt by decide), (show (0 : Int32).toInt ≤ (1 : Int) by decide)⟩
    · have c7 := c
      have d8 : v1.toInt < (2 : Int) := nlei.mp c7
      refine if_i (fun c => ?_) (fun c => ?_)
      · have c9 := c
        have q10 : (0 : Int) ≤ (((M.1 46 3) >>> (v1 &&& 31)) &&& (1 : Int32)).toInt ∧ (((M.1 46 3) >>> (v1 &&& 31)) &&& (1 : Int32)).toInt ≤ 1 := and_rng (by decide)
        have d11 : (((M.1 46 3) >>> (v1 &&& 31)) &&& (1 : Int32)).toInt = (0 : Int) := eqi.mp c9
        exact ⟨((0 : Int32), M), rfl, hJ, Gc_r, (show (0 : Int) ≤ (0 : Int32).toInt by decide), (show (0 : Int32).toInt ≤ (1 : Int) by decide)⟩
      · have c12 := c
        have q13 : (0 : Int) ≤ (((M.1 46 3) >>> (v1 &&& 31)) &&& (1 : Int32)).toInt ∧ (((M.1 46 3) >>> (v1 &&& 31)) &&& (1 : Int32)).toInt ≤ 1 := and_rng (by decide)
        have d14 : ¬ (((M.1 46 3) >>> (v1 &&& 31)) &&& (1 : Int32)).toInt = (0 : Int) := neqi.mp c12
        refine inb_i (by omega) (by omega) ?_
        refine bind_i (Jq_48 hJ (i := v1) (by omega) (by omega)) (fun a1 _ hk_a1 => ?_)
        refine c_i hk_a1 ?_
        refine bind_i (sf_Scene_copy v2 a1 M hk_v2 hk_a1 hJ) (fun x2 _ q => ?_)
        obtain ⟨h15, h16, h17⟩ := q
        have hG18 : Gc 0 M x2 := Gc_t Gc_r h16
        exact ⟨((1 : Int32), x2), rfl, h15, hG18, (show (0 : Int) ≤ (1 : Int32).toInt by decide), (show (1 : Int32).toInt ≤ (1 : Int) by decide)⟩
theorem sf_Nets_isOf (v0 : Nat) (v1 : Int32) (v2 : Int32) (M : Mem) (hk_v0 : kd v0 = 10 + 6) (hp_v1 : (0 : Int) ≤ v1.toInt ∧ v1.toInt ≤ (1 : Int)) (hJ : J M) : ∃ r : Int32, f_Nets_isOf v0 v1 v2 M = some r ∧ ((0 : Int) ≤ r.toInt ∧ r.toInt ≤ (1 : Int)) := by
  unfold f_Nets_isOf
  refine c_i hk_v0 ?_
  refine inb_i (by omega) (by omega) ?_
  refine if_i (fun c => ?_) (fun c => ?_)
  · have c1 := c
    have d2 : (lg_cmp (((M.2.1 (rf v0 0) v1.toNatClampNeg) >>> (v2.toInt64 &&& 63)) &&& (1 : Int64)) (0 : Int64)).toInt = (0 : Int) := eqi.mp c1
    exact ⟨(0 : Int32), rfl, (show (0 : Int) ≤ (0 : Int32).toInt by decide), (show (0 : Int32).toInt ≤ (1 : Int) by decide)⟩
  · have c3 := c
    have d4 : ¬ (lg_cmp (((M.2.1 (rf v0 0) v1.toNatClampNeg) >>> (v2.toInt64 &&& 63)) &&& (1 : Int64)) (0 : Int64)).toInt = (0 : Int) := neqi.mp c3
    exact ⟨(1 : Int32), rfl, (show (0 : Int) ≤ (1 : Int32).toInt by decide), (show (1 : Int32).toInt ≤ (1 : Int) by decide)⟩
theorem sl_Nets_link_19 (v0 : Nat) (v2 : Int32) (v3 : Int32) (v4 : Int32) (a0_ : Int32) (N_ : Mem) (B_ : Mem) (hk_v0 : kd v0 = 10 + 6) (hp_v2 : (0 : Int) ≤ v2.toInt ∧ v2.toInt ≤ (1 : Int)) (hp_v3 : (0 : Int) ≤ v3.toInt ∧ v3.toInt ≤ (35 : Int)) (hp_v4 : (0 : Int) ≤ v4.toInt ∧ v4.toInt ≤ (71 : Int)) (hN : J N_) (hG : Gc 0 B_ N_) (i2_ : (0 : Int) ≤ a0_.toInt) (i3_ : a0_.toInt ≤ (4 : Int)) : ∃ x, iter (lb_Nets_link_19 v0 v2 v3 v4) FU (a0_, N_) = some x ∧ (fun r : Mem => J r ∧ Gc 0 B_ r) x := by
  refine iter_r (fun s : Int32 × Mem => J s.2 ∧ Gc 0 B_ s.2 ∧ (0 : Int) ≤ s.1.toInt ∧ s.1.toInt ≤ (4 : Int)) (fun s : Int32 × Mem => (4 - s.1.toInt).toNat) (fun r : Mem => J r ∧ Gc 0 B_ r) ?_ FU (a0_, N_) ⟨hN, hG, i2_, i3_⟩ (by show (4 - a0_.toInt).toNat < FU; rw [FU_v]; omega)
  clear i3_ i2_ hG hN
  rintro ⟨a0_', N_'⟩ ⟨hN, hG, i2_, i3_⟩
  dsimp only at hN hG i2_ i3_
  unfold lb_Nets_link_19
  dsimp only
  refine if_i (fun c => ?_) (fun c => ?_)
  · have c1 := c
    have d2 : (4 : Int) ≤ a0_'.toInt := lei.mp c1
    exact ⟨_, rfl, hN, hG⟩
  · have c3 := c
    have d4 : a0_'.toInt < (4 : Int) := nlei.mp c3
    refine bind_i (sf_Ground_beside v3 a0_' N_' hN) (fun x2 _ q => ?_)
    obtain ⟨h5, h6, h7⟩ := q
    refine if_i (fun c => ?_) (fun c => ?_)
    · have c8 := c
      have d9 : x2.toInt = (-1 : Int) := eqi.mp c8
      unfold j_Nets_link_64_19
      refine if_i (fun c => ?_) (fun c => ?_)
      · have c10 := c
        have d11 : (0 : Int) = (0 : Int) := eqi.mp c10
        unfold j_Nets_link_88_19
        have q12 : (v4 * (4 : Int32)).toInt = v4.toInt * (4 : Int) := mul_ti rfl rfl (by omega) (by omega)
        have q13 : ((v4 * (4 : Int32)) + a0_').toInt = (v4 * (4 : Int32)).toInt + a0_'.toInt := add_ti rfl rfl (by omega) (by omega)
        have l14 := ln_nets2 hk_v0
        refine inb_i (by omega) (by omega) ?_
        refine mem_i (fun M3 e16 => ?_)
        have hJ17 : J M3 := by rw [e16]; exact Jw_nets2 hN hk_v0 ((v4 * (4 : Int32)) + a0_').toNatClampNeg (-1 : Int32) (show (-1 : Int) ≤ (-1 : Int32).toInt by decide) (show (-1 : Int32).toInt ≤ (35 : Int) by decide)
        have hG18 : Gc 0 B_ M3 := Gc_i hG e16 (cl_nets2 hk_v0)
        have f19 : (M3.1 (rf v0 2) ((v4 * (4 : Int32)) + a0_').toNatClampNeg).toInt = (-1 : Int) := by rw [e16, si_eq]; rfl
        clear e16
        refine inb_i (by omega) (by omega) ?_
        refine if_i (fun c => ?_) (fun c => ?_)
        · have c20 := c
          have d21 : (0 : Int) = (0 : Int) := eqi.mp c20
          refine inb_i (by omega) (by omega) ?_
          refine mem_i (fun M4 e23 => ?_)
          have hJ24 : J M4 := by rw [e23]; exact Jl hJ17
          have hG25 : Gc 0 B_ M4 := Gc_l hG18 e23
          have f26 : (M4.1 (rf v0 2) ((v4 * (4 : Int32)) + a0_').toNatClampNeg).toInt = (M3.1 (rf v0 2) ((v4 * (4 : Int32)) + a0_').toNatClampNeg).toInt := by rw [e23]; rfl
          clear e23
          have q27 : (a0_' + (1 : Int32)).toInt = a0_'.toInt + (1 : Int) := add_ti rfl rfl (by omega) (by omega)
          exact ⟨_, rfl, ⟨hJ24, hG25, (show (0 : Int) ≤ (a0_' + (1 : Int32)).toInt by omega), (show (a0_' + (1 : Int32)).toInt ≤ (4 : Int) by omega)⟩, show (4 - (a0_' + (1 : Int32)).toInt).toNat < (4 - a0_'.toInt).toNat by omega⟩
        · have c28 := c
          have d29 : ¬ (0 : Int) = (0 : Int) := neqi.mp c28
          exfalso; omega
      · have c30 := c
        have d31 : ¬ (0 : Int) = (0 : Int) := neqi.mp c30
        exfalso; omega
    · have c32 := c
      have d33 : ¬ x2.toInt = (-1 : Int) := neqi.mp c32
      refine bind_i (sf_Nets_isOf v0 v2 v3 N_' hk_v0 (⟨show (0 : Int) ≤ v2.toInt by omega, show v2.toInt ≤ (1 : Int) by omega⟩) hN) (fun x8 _ q => ?_)
      obtain ⟨h34, h35⟩ := q
      refine if_i (fun c => ?_) (fun c => ?_)
      · have c36 := c
        have d37 : x8.toInt = (0 : Int) := eqi.mp c36
        unfold j_Nets_link_64_19
        refine if_i (fun c => ?_) (fun c => ?_)
        · have c38 := c
          have d39 : (0 : Int) = (0 : Int) := eqi.mp c38
          unfold j_Nets_link_88_19
          have q40 : (v4 * (4 : Int32)).toInt = v4.toInt * (4 : Int) := mul_ti rfl rfl (by omega) (by omega)
          have q41 : ((v4 * (4 : Int32)) + a0_').toInt = (v4 * (4 : Int32)).toInt + a0_'.toInt := add_ti rfl rfl (by omega) (by omega)
          have l42 := ln_nets2 hk_v0
          refine inb_i (by omega) (by omega) ?_
          refine mem_i (fun M3 e44 => ?_)
          have hJ45 : J M3 := by rw [e44]; exact Jw_nets2 hN hk_v0 ((v4 * (4 : Int32)) + a0_').toNatClampNeg (-1 : Int32) (show (-1 : Int) ≤ (-1 : Int32).toInt by decide) (show (-1 : Int32).toInt ≤ (35 : Int) by decide)
          have hG46 : Gc 0 B_ M3 := Gc_i hG e44 (cl_nets2 hk_v0)
          have f47 : (M3.1 (rf v0 2) ((v4 * (4 : Int32)) + a0_').toNatClampNeg).toInt = (-1 : Int) := by rw [e44, si_eq]; rfl
          clear e44
          refine inb_i (by omega) (by omega) ?_
          refine if_i (fun c => ?_) (fun c => ?_)
          · have c48 := c
            have d49 : (0 : Int) = (0 : Int) := eqi.mp c48
            refine inb_i (by omega) (by omega) ?_
            refine mem_i (fun M4 e51 => ?_)
            have hJ52 : J M4 := by rw [e51]; exact Jl hJ45
            have hG53 : Gc 0 B_ M4 := Gc_l hG46 e51
            have f54 : (M4.1 (rf v0 2) ((v4 * (4 : Int32)) + a0_').toNatClampNeg).toInt = (M3.1 (rf v0 2) ((v4 * (4 : Int32)) + a0_').toNatClampNeg).toInt := by rw [e51]; rfl
            clear e51
            have q55 : (a0_' + (1 : Int32)).toInt = a0_'.toInt + (1 : Int) := add_ti rfl rfl (by omega) (by omega)
            exact ⟨_, rfl, ⟨hJ52, hG53, (show (0 : Int) ≤ (a0_' + (1 : Int32)).toInt by omega), (show (a0_' + (1 : Int32)).toInt ≤ (4 : Int) by omega)⟩, show (4 - (a0_' + (1 : Int32)).toInt).toNat < (4 - a0_'.toInt).toNat by omega⟩
          · have c56 := c
            have d57 : ¬ (0 : Int) = (0 : Int) := neqi.mp c56
            exfalso; omega
        · have c58 := c
          have d59 : ¬ (0 : Int) = (0 : Int) := neqi.mp c58
          exfalso; omega
      · have c60 := c
        have d61 : ¬ x8.toInt = (0 : Int) := neqi.mp c60
        refine bind_i (sf_Nets_isOf v0 v2 x2 N_' hk_v0 (⟨show (0 : Int) ≤ v2.toInt by omega, show v2.toInt ≤ (1 : Int) by omega⟩) hN) (fun x9 _ q => ?_)
        obtain ⟨h62, h63⟩ := q
        refine if_i (fun c => ?_) (fun c => ?_)
        · have c64 := c
          have d65 : x9.toInt = (0 : Int) := eqi.mp c64
          unfold j_Nets_link_64_19
          refine if_i (fun c => ?_) (fun c => ?_)
          · have c66 := c
            have d67 : (0 : Int) = (0 : Int) := eqi.mp c66
            unfold j_Nets_link_88_19
            have q68 : (v4 * (4 : Int32)).toInt = v4.toInt * (4 : Int) := mul_ti rfl rfl (by omega) (by omega)
            have q69 : ((v4 * (4 : Int32)) + a0_').toInt = (v4 * (4 : Int32)).toInt + a0_'.toInt := add_ti rfl rfl (by omega) (by omega)
            have l70 := ln_nets2 hk_v0
            refine inb_i (by omega) (by omega) ?_
            refine mem_i (fun M3 e72 => ?_)
            have hJ73 : J M3 := by rw [e72]; exact Jw_nets2 hN hk_v0 ((v4 * (4 : Int32)) + a0_').toNatClampNeg (-1 : Int32) (show (-1 : Int) ≤ (-1 : Int32).toInt by decide) (show (-1 : Int32).toInt ≤ (35 : Int) by decide)
            have hG74 : Gc 0 B_ M3 := Gc_i hG e72 (cl_nets2 hk_v0)
            have f75 : (M3.1 (rf v0 2) ((v4 * (4 : Int32)) + a0_').toNatClampNeg).toInt = (-1 : Int) := by rw [e72, si_eq]; rfl
            clear e72
            refine inb_i (by omega) (by omega) ?_
            refine if_i (fun c => ?_) (fun c => ?_)
            · have c76 := c
              have d77 : (0 : Int) = (0 : Int) := eqi.mp c76
              refine inb_i (by omega) (by omega) ?_
              refine mem_i (fun M4 e79 => ?_)
              have hJ80 : J M4 := by rw [e79]; exact Jl hJ73
              have hG81 : Gc 0 B_ M4 := Gc_l hG74 e79
              have f82 : (M4.1 (rf v0 2) ((v4 * (4 : Int32)) + a0_').toNatClampNeg).toInt = (M3.1 (rf v0 2) ((v4 * (4 : Int32)) + a0_').toNatClampNeg).toInt := by rw [e79]; rfl
              clear e79
              have q83 : (a0_' + (1 : Int32)).toInt = a0_'.toInt + (1 : Int) := add_ti rfl rfl (by omega) (by omega)
              exact ⟨_, rfl, ⟨hJ80, hG81, (show (0 : Int) ≤ (a0_' + (1 : Int32)).toInt by omega), (show (a0_' + (1 : Int32)).toInt ≤ (4 : Int) by omega)⟩, show (4 - (a0_' + (1 : Int32)).toInt).toNat < (4 - a0_'.toInt).toNat by omega⟩
            · have c84 := c
              have d85 : ¬ (0 : Int) = (0 : Int) := neqi.mp c84
              exfalso; omega
          · have c86 := c
            have d87 : ¬ (0 : Int) = (0 : Int) := neqi.mp c86
            exfalso; omega
        · have c88 := c
          have d89 : ¬ x9.toInt = (0 : Int) := neqi.mp c88
          unfold j_Nets_link_64_19
          refine if_i (fun c => ?_) (fun c => ?_)
          · have c90 := c
            have d91 : (1 : Int) = (0 : Int) := eqi.mp c90
            exfalso; omega
          · have c92 := c
            have d93 : ¬ (1 : Int) = (0 : Int) := neqi.mp c92
            unfold j_Nets_link_88_19
            have q94 : (v4 * (4 : Int32)).toInt = v4.toInt * (4 : Int) := mul_ti rfl rfl (by omega) (by omega)
            have q95 : ((v4 * (4 : Int32)) + a0_').toInt = (v4 * (4 : Int32)).toInt + a0_'.toInt := add_ti rfl rfl (by omega) (by omega)
            have l96 := ln_nets2 hk_v0
            refine inb_i (by omega) (by omega) ?_
            refine mem_i (fun M3 e98 => ?_)
            have hJ99 : J M3 := by rw [e98]; exact Jw_nets2 hN hk_v0 ((v4 * (4 : Int32)) + a0_').toNatClampNeg x2 (show (-1 : Int) ≤ x2.toInt by omega) (show x2.toInt ≤ (35 : Int) by omega)
            have hG100 : Gc 0 B_ M3 := Gc_i hG e98 (cl_nets2 hk_v0)
            have f101 : (M3.1 (rf v0 2) ((v4 * (4 : Int32)) + a0_').toNatClampNeg).toInt = x2.toInt := by rw [e98, si_eq]
            clear e98
            refine inb_i (by omega) (by omega) ?_
            refine if_i (fun c => ?_) (fun c => ?_)
            · have c102 := c
              have d103 : (1 : Int) = (0 : Int) := eqi.mp c102
              exfalso; omega
            · have c104 := c
              have d105 : ¬ (1 : Int) = (0 : Int) := neqi.mp c104
              refine inb_i (by omega) (by omega) ?_
              refine mem_i (fun M5 e107 => ?_)
              have hJ108 : J M5 := by rw [e107]; exact Jl hJ99
              have hG109 : Gc 0 B_ M5 := Gc_l hG100 e107
              have f110 : (M5.1 (rf v0 2) ((v4 * (4 : Int32)) + a0_').toNatClampNeg).toInt = (M3.1 (rf v0 2) ((v4 * (4 : Int32)) + a0_').toNatClampNeg).toInt := by rw [e107]; rfl
              clear e107
              have q111 : (a0_' + (1 : Int32)).toInt = a0_'.toInt + (1 : Int) := add_ti rfl rfl (by omega) (by omega)
              exact ⟨_, rfl, ⟨hJ108, hG109, (show (0 : Int) ≤ (a0_' + (1 : Int32)).toInt by omega), (show (a0_' + (1 : Int32)).toInt ≤ (4 : Int) by omega)⟩, show (4 - (a0_' + (1 : Int32)).toInt).toNat < (4 - a0_'.toInt).toNat by omega⟩
theorem sf_Nets_link (v0 : Nat) (v2 : Int32) (v3 : Int32) (M : Mem) (hk_v0 : kd v0 = 10 + 6) (hp_v2 : (0 : Int) ≤ v2.toInt ∧ v2.toInt ≤ (1 : Int)) (hp_v3 : (0 : Int) ≤ v3.toInt ∧ v3.toInt ≤ (35 : Int)) (hJ : J M) : ∃ r : Mem, f_Nets_link v0 v2 v3 M = some r ∧ (J r ∧ Gc 0 M r) := by
  unfold f_Nets_link
  refine c_i hk_v0 ?_
  have q1 : (v2 * (36 : Int32)).toInt = v2.toInt * (36 : Int) := mul_ti rfl rfl (by omega) (by omega)
  have q2 : ((v2 * (36 : Int32)) + v3).toInt = (v2 * (36 : Int32)).toInt + v3.toInt := add_ti rfl rfl (by omega) (by omega)
  refine inb_i (by omega) (by omega) ?_
  refine mem_i (fun M1 e4 => ?_)
  have hJ5 : J M1 := by rw [e4]; exact Jl hJ
  have hG6 : Gc 0 M M1 := Gc_l Gc_r e4
  clear e4
  refine bind_i (sl_Nets_link_19 v0 v2 v3 ((v2 * (36 : Int32)) + v3) (0 : Int32) M1 M hk_v0 (⟨show (0 : Int) ≤ v2.toInt by omega, show v2.toInt ≤ (1 : Int) by omega⟩) (⟨show (0 : Int) ≤ v3.toInt by omega, show v3.toInt ≤ (35 : Int) by omega⟩) (⟨show (0 : Int) ≤ ((v2 * (36 : Int32)) + v3).toInt by omega, show ((v2 * (36 : Int32)) + v3).toInt ≤ (71 : Int) by omega⟩) hJ5 hG6 (show (0 : Int) ≤ (0 : Int32).toInt by decide) (show (0 : Int32).toInt ≤ (4 : Int) by decide)) (fun x14 _ q => ?_)
  obtain ⟨h7, h8⟩ := q
  exact ⟨x14, rfl, h7, h8⟩
theorem sf_Nets_bridge (v0 : Nat) (v2 : Int32) (v3 : Int32) (M : Mem) (hk_v0 : kd v0 = 10 + 6) (hp_v2 : (0 : Int) ≤ v2.toInt ∧ v2.toInt ≤ (35 : Int)) (hp_v3 : (0 : Int) ≤ v3.toInt ∧ v3.toInt ≤ (35 : Int)) (hJ : J M) : ∃ r : Mem, f_Nets_bridge v0 v2 v3 M = some r ∧ (J r ∧ Gc 0 M r) := by
  unfold f_Nets_bridge
  refine c_i hk_v0 ?_
  refine bind_i (sf_Ground_across v2 v3 M hJ) (fun x1 _ q => ?_)
  obtain ⟨h1, h2⟩ := q
  refine if_i (fun c => ?_) (fun c => ?_)
  · have c3 := c
    have d4 : x1.toInt = (-1 : Int) := eqi.mp c3
    exact ⟨M, rfl, hJ, Gc_r⟩
  · have c5 := c
    have d6 : ¬ x1.toInt = (-1 : Int) := neqi.mp c5
    have q7 : ((36 : Int32) + v2).toInt = (36 : Int) + v2.toInt := add_ti rfl rfl (by omega) (by omega)
    have q8 : (((36 : Int32) + v2) * (4 : Int32)).toInt = ((36 : Int32) + v2).toInt * (4 : Int) := mul_ti rfl rfl (by omega) (by omega)
    have q9 : ((((36 : Int32) + v2) * (4 : Int32)) + x1).toInt = (((36 : Int32) + v2) * (4 : Int32)).toInt + x1.toInt := add_ti rfl rfl (by omega) (by omega)
    refine inb_i (by omega) (by omega) ?_
    refine mem_i (fun M2 e11 => ?_)
    have hJ12 : J M2 := by rw [e11]; exact Jw_nets2 hJ hk_v0 ((((36 : Int32) + v2) * (4 : Int32)) + x1).toNatClampNeg v3 (show (-1 : Int) ≤ v3.toInt by omega) (show v3.toInt ≤ (35 : Int) by omega)
    have hG13 : Gc 0 M M2 := Gc_i Gc_r e11 (cl_nets2 hk_v0)
    have f14 : (M2.1 (rf v0 2) ((((36 : Int32) + v2) * (4 : Int32)) + x1).toNatClampNeg).toInt = v3.toInt := by rw [e11, si_eq]
    clear e11
    refine inb_i (by omega) (by omega) ?_
    refine inb_i (by omega) (by omega) ?_
    refine mem_i (fun M3 e16 => ?_)
    have hJ17 : J M3 := by rw [e16]; exact Jl hJ12
    have hG18 : Gc 0 M M3 := Gc_l hG13 e16
    have f19 : (M3.1 (rf v0 2) ((((36 : Int32) + v2) * (4 : Int32)) + x1).toNatClampNeg).toInt = (M2.1 (rf v0 2) ((((36 : Int32) + v2) * (4 : Int32)) + x1).toNatClampNeg).toInt := by rw [e16]; rfl
    clear e16
    exact ⟨M3, rfl, hJ17, hG18⟩
end
section
/-! safety of the class, 7 -/
theorem sl_Nets_lay_27 (v0 : Nat) (v2 : Nat) (v3 : Int32) (v4 : Int32) (a0_ : Int32) (N_ : Mem) (B_ : Mem) (hk_v0 : kd v0 = 10 + 6) (hk_v2 : kd v2 = 10 + 7) (hp_v4 : (0 : Int) ≤ v4.toInt ∧ v4.toInt ≤ (35 : Int)) (hN : J N_) (hG : Gc 0 B_ N_) (i2_ : (0 : Int) ≤ a0_.toInt) (i3_ : a0_.toInt ≤ (2 : Int)) : ∃ x, iter (lb_Nets_lay_27 v0 v2 v3 v4) FU (a0_, N_) = some x ∧ (fun r : Mem => J r ∧ Gc 0 B_ r) x := by
  refine iter_r (fun s : Int32 × Mem => J s.2 ∧ Gc 0 B_ s.2 ∧ (0 : Int) ≤ s.1.toInt ∧ s.1.toInt ≤ (2 : Int)) (fun s : Int32 × Mem => (2 - s.1.toInt).toNat) (fun r : Mem => J r ∧ Gc 0 B_ r) ?_ FU (a0_, N_) ⟨hN, hG, i2_, i3_⟩ (by show (2 - a0_.toInt).toNat < FU; rw [FU_v]; omega)
  clear i3_ i2_ hG hN
  rintro ⟨a0_', N_'⟩ ⟨hN, hG, i2_, i3_⟩
  dsimp only at hN hG i2_ i3_
  unfold lb_Nets_lay_27
  dsimp only
  refine if_i (fun c => ?_) (fun c => ?_)
  · have c1 := c
    have d2 : (1 : Int) < a0_'.toInt := lti.mp c1
    exact ⟨_, rfl, hN, hG⟩
  · have c3 := c
    have d4 : a0_'.toInt ≤ (1 : Int) := nlti.mp c3
    refine if_i (fun c => ?_) (fun c => ?_)
    · have c5 := c
      have d6 : v4.toInt = v3.toInt := eqi.mp c5
      unfold j_Nets_lay_50_27
      refine inb_i (by omega) (by omega) ?_
      refine inb_i (by omega) (by omega) ?_
      refine mem_i (fun M3 e8 => ?_)
      have hJ9 : J M3 := by rw [e8]; exact Jl hN
      have hG10 : Gc 0 B_ M3 := Gc_l hG e8
      clear e8
      have q11 : (a0_' + (1 : Int32)).toInt = a0_'.toInt + (1 : Int) := add_ti rfl rfl (by omega) (by omega)
      exact ⟨_, rfl, ⟨hJ9, hG10, (show (0 : Int) ≤ (a0_' + (1 : Int32)).toInt by omega), (show (a0_' + (1 : Int32)).toInt ≤ (2 : Int) by omega)⟩, show (2 - (a0_' + (1 : Int32)).toInt).toNat < (2 - a0_'.toInt).toNat by omega⟩
    · have c12 := c
      have d13 : ¬ v4.toInt = v3.toInt := neqi.mp c12
      refine bind_i (sf_Ground_holds a0_' v4 N_' hN) (fun x4 _ q => ?_)
      obtain ⟨h14, h15, h16, h17⟩ := q
      refine if_i (fun c => ?_) (fun c => ?_)
      · have c18 := c
        have d19 : x4.toInt = (0 : Int) := eqi.mp c18
        have q20 : (a0_' + (1 : Int32)).toInt = a0_'.toInt + (1 : Int) := add_ti rfl rfl (by omega) (by omega)
        exact ⟨_, rfl, ⟨hN, hG, (show (0 : Int) ≤ (a0_' + (1 : Int32)).toInt by omega), (show (a0_' + (1 : Int32)).toInt ≤ (2 : Int) by omega)⟩, show (2 - (a0_' + (1 : Int32)).toInt).toNat < (2 - a0_'.toInt).toNat by omega⟩
      · have c21 := c
        have d22 : ¬ x4.toInt = (0 : Int) := neqi.mp c21
        unfold j_Nets_lay_50_27
        refine inb_i (by omega) (by omega) ?_
        refine inb_i (by omega) (by omega) ?_
        refine mem_i (fun M3 e24 => ?_)
        have hJ25 : J M3 := by rw [e24]; exact Jl hN
        have hG26 : Gc 0 B_ M3 := Gc_l hG e24
        clear e24
        have q27 : (a0_' + (1 : Int32)).toInt = a0_'.toInt + (1 : Int) := add_ti rfl rfl (by omega) (by omega)
        exact ⟨_, rfl, ⟨hJ25, hG26, (show (0 : Int) ≤ (a0_' + (1 : Int32)).toInt by omega), (show (a0_' + (1 : Int32)).toInt ≤ (2 : Int) by omega)⟩, show (2 - (a0_' + (1 : Int32)).toInt).toNat < (2 - a0_'.toInt).toNat by omega⟩
theorem sl_Nets_lay_17 (v0 : Nat) (v2 : Nat) (v3 : Int32) (a0_ : Int32) (N_ : Mem) (B_ : Mem) (hk_v0 : kd v0 = 10 + 6) (hk_v2 : kd v2 = 10 + 7) (hN : J N_) (hG : Gc 0 B_ N_) (i2_ : (0 : Int) ≤ a0_.toInt) (i3_ : a0_.toInt ≤ (36 : Int)) : ∃ x, iter (lb_Nets_lay_17 v0 v2 v3) FU (a0_, N_) = some x ∧ (fun r : Mem => J r ∧ Gc 0 B_ r) x := by
  refine iter_r (fun s : Int32 × Mem => J s.2 ∧ Gc 0 B_ s.2 ∧ (0 : Int) ≤ s.1.toInt ∧ s.1.toInt ≤ (36 : Int)) (fun s : Int32 × Mem => (36 - s.1.toInt).toNat) (fun r : Mem => J r ∧ Gc 0 B_ r) ?_ FU (a0_, N_) ⟨hN, hG, i2_, i3_⟩ (by show (36 - a0_.toInt).toNat < FU; rw [FU_v]; omega)
  clear i3_ i2_ hG hN
  rintro ⟨a0_', N_'⟩ ⟨hN, hG, i2_, i3_⟩
  dsimp only at hN hG i2_ i3_
  unfold lb_Nets_lay_17
  dsimp only
  refine if_i (fun c => ?_) (fun c => ?_)
  · have c1 := c
    have d2 : (36 : Int) ≤ a0_'.toInt := lei.mp c1
    exact ⟨_, rfl, hN, hG⟩
  · have c3 := c
    have d4 : a0_'.toInt < (36 : Int) := nlei.mp c3
    refine bind_i (sl_Nets_lay_27 v0 v2 v3 a0_' (0 : Int32) N_' B_ hk_v0 hk_v2 (⟨show (0 : Int) ≤ a0_'.toInt by omega, show a0_'.toInt ≤ (35 : Int) by omega⟩) hN hG (show (0 : Int) ≤ (0 : Int32).toInt by decide) (show (0 : Int32).toInt ≤ (2 : Int) by decide)) (fun x8 _ q => ?_)
    obtain ⟨h5, h6⟩ := q
    have q7 : (a0_' + (1 : Int32)).toInt = a0_'.toInt + (1 : Int) := add_ti rfl rfl (by omega) (by omega)
    exact ⟨_, rfl, ⟨h5, h6, (show (0 : Int) ≤ (a0_' + (1 : Int32)).toInt by omega), (show (a0_' + (1 : Int32)).toInt ≤ (36 : Int) by omega)⟩, show (36 - (a0_' + (1 : Int32)).toInt).toNat < (36 - a0_'.toInt).toNat by omega⟩
theorem sl_Nets_lay_79 (v0 : Nat) (v2 : Nat) (a0_ : Int32) (N_ : Mem) (B_ : Mem) (hk_v0 : kd v0 = 10 + 6) (hk_v2 : kd v2 = 10 + 7) (hN : J N_) (hG : Gc 0 B_ N_) (i2_ : (0 : Int) ≤ a0_.toInt) (i3_ : a0_.toInt ≤ (36 : Int)) : ∃ x, iter (lb_Nets_lay_79 v0 v2) FU (a0_, N_) = some x ∧ (fun r : Mem => J r ∧ Gc 0 B_ r) x := by
  refine iter_r (fun s : Int32 × Mem => J s.2 ∧ Gc 0 B_ s.2 ∧ (0 : Int) ≤ s.1.toInt ∧ s.1.toInt ≤ (36 : Int)) (fun s : Int32 × Mem => (36 - s.1.toInt).toNat) (fun r : Mem => J r ∧ Gc 0 B_ r) ?_ FU (a0_, N_) ⟨hN, hG, i2_, i3_⟩ (by show (36 - a0_.toInt).toNat < FU; rw [FU_v]; omega)
  clear i3_ i2_ hG hN
  rintro ⟨a0_', N_'⟩ ⟨hN, hG, i2_, i3_⟩
  dsimp only at hN hG i2_ i3_
  unfold lb_Nets_lay_79
  dsimp only
  refine if_i (fun c => ?_) (fun c => ?_)
  · have c1 := c
    have d2 : (36 : Int) ≤ a0_'.toInt := lei.mp c1
    exact ⟨_, rfl, hN, hG⟩
  · have c3 := c
    have d4 : a0_'.toInt < (36 : Int) := nlei.mp c3
    refine bind_i (sf_Nets_link v0 (0 : Int32) a0_' N_' hk_v0 (⟨by decide, by decide⟩) (⟨show (0 : Int) ≤ a0_'.toInt by omega, show a0_'.toInt ≤ (35 : Int) by omega⟩) hN) (fun x11 _ q => ?_)
    obtain ⟨h5, h6⟩ := q
    have hG7 : Gc 0 B_ x11 := Gc_t hG h6
    refine bind_i (sf_Nets_link v0 (1 : Int32) a0_' x11 hk_v0 (⟨by decide, by decide⟩) (⟨show (0 : Int) ≤ a0_'.toInt by omega, show a0_'.toInt ≤ (35 : Int) by omega⟩) h5) (fun x12 _ q => ?_)
    obtain ⟨h8, h9⟩ := q
    have hG10 : Gc 0 B_ x12 := Gc_t hG7 h9
    have q11 : (a0_' + (1 : Int32)).toInt = a0_'.toInt + (1 : Int) := add_ti rfl rfl (by omega) (by omega)
    exact ⟨_, rfl, ⟨h8, hG10, (show (0 : Int) ≤ (a0_' + (1 : Int32)).toInt by omega), (show (a0_' + (1 : Int32)).toInt ≤ (36 : Int) by omega)⟩, show (36 - (a0_' + (1 : Int32)).toInt).toNat < (36 - a0_'.toInt).toNat by omega⟩
theorem sl_Nets_lay_111 (v0 : Nat) (v2 : Nat) (a0_ : Int32) (N_ : Mem) (B_ : Mem) (hk_v0 : kd v0 = 10 + 6) (hk_v2 : kd v2 = 10 + 7) (hN : J N_) (hG : Gc 0 B_ N_) (i2_ : (0 : Int) ≤ a0_.toInt) (i3_ : a0_.toInt ≤ (6 : Int)) : ∃ x, iter (lb_Nets_lay_111 v0 v2) FU (a0_, N_) = some x ∧ (fun r : Mem => J r ∧ Gc 0 B_ r) x := by
  refine iter_r (fun s : Int32 × Mem => J s.2 ∧ Gc 0 B_ s.2 ∧ (0 : Int) ≤ s.1.toInt ∧ s.1.toInt ≤ (6 : Int)) (fun s : Int32 × Mem => (6 - s.1.toInt).toNat) (fun r : Mem => J r ∧ Gc 0 B_ r) ?_ FU (a0_, N_) ⟨hN, hG, i2_, i3_⟩ (by show (6 - a0_.toInt).toNat < FU; rw [FU_v]; omega)
  clear i3_ i2_ hG hN
  rintro ⟨a0_', N_'⟩ ⟨hN, hG, i2_, i3_⟩
  dsimp only at hN hG i2_ i3_
  unfold lb_Nets_lay_111
  dsimp only
  refine if_i (fun c => ?_) (fun c => ?_)
  · have c1 := c
    have d2 : (N_'.1 v2 6).toInt ≤ a0_'.toInt := lei.mp c1
    exact ⟨_, rfl, hN, hG⟩
  · have c3 := c
    have d4 : a0_'.toInt < (N_'.1 v2 6).toInt := nlei.mp c3
    refine if_i (fun c => ?_) (fun c => ?_)
    · have c5 := c
      have d6 : (6 : Int) ≤ a0_'.toInt := lei.mp c5
      exact ⟨_, rfl, hN, hG⟩
    · have c7 := c
      have d8 : a0_'.toInt < (6 : Int) := nlei.mp c7
      refine inb_i (by omega) (by omega) ?_
      refine inb_i (by omega) (by omega) ?_
      have r9 := Jr_scene4 hN hk_v2 a0_'.toNatClampNeg
      have r10 := Jr_scene5 hN hk_v2 a0_'.toNatClampNeg
      refine bind_i (sf_Nets_bridge v0 (N_'.1 (rf v2 4) a0_'.toNatClampNeg) (N_'.1 (rf v2 5) a0_'.toNatClampNeg) N_' hk_v0 (⟨show (0 : Int) ≤ (N_'.1 (rf v2 4) a0_'.toNatClampNeg).toInt by omega, show (N_'.1 (rf v2 4) a0_'.toNatClampNeg).toInt ≤ (35 : Int) by omega⟩) (⟨show (0 : Int) ≤ (N_'.1 (rf v2 5) a0_'.toNatClampNeg).toInt by omega, show (N_'.1 (rf v2 5) a0_'.toNatClampNeg).toInt ≤ (35 : Int) by omega⟩) hN) (fun x15 _ q => ?_)
      obtain ⟨h11, h12⟩ := q
      have hG13 : Gc 0 B_ x15 := Gc_t hG h12
      refine inb_i (by omega) (by omega) ?_
      refine inb_i (by omega) (by omega) ?_
      have r14 := Jr_scene5 h11 hk_v2 a0_'.toNatClampNeg
      have r15 := Jr_scene4 h11 hk_v2 a0_'.toNatClampNeg
      refine bind_i (sf_Nets_bridge v0 (x15.1 (rf v2 5) a0_'.toNatClampNeg) (x15.1 (rf v2 4) a0_'.toNatClampNeg) x15 hk_v0 (⟨show (0 : Int) ≤ (x15.1 (rf v2 5) a0_'.toNatClampNeg).toInt by omega, show (x15.1 (rf v2 5) a0_'.toNatClampNeg).toInt ≤ (35 : Int) by omega⟩) (⟨show (0 : Int) ≤ (x15.1 (rf v2 4) a0_'.toNatClampNeg).toInt by omega, show (x15.1 (rf v2 4) a0_'.toNatClampNeg).toInt ≤ (35 : Int) by omega⟩) h11) (fun x16 _ q => ?_)
      obtain ⟨h16, h17⟩ := q
      have hG18 : Gc 0 B_ x16 := Gc_t hG13 h17
      have q19 : (a0_' + (1 : Int32)).toInt = a0_'.toInt + (1 : Int) := add_ti rfl rfl (by omega) (by omega)
      exact ⟨_, rfl, ⟨h16, hG18, (show (0 : Int) ≤ (a0_' + (1 : Int32)).toInt by omega), (show (a0_' + (1 : Int32)).toInt ≤ (6 : Int) by omega)⟩, show (6 - (a0_' + (1 : Int32)).toInt).toNat < (6 - a0_'.toInt).toNat by omega⟩
theorem sf_Nets_lay (v0 : Nat) (v2 : Nat) (v3 : Int32) (M : Mem) (hk_v0 : kd v0 = 10 + 6) (hk_v2 : kd v2 = 10 + 7) (hJ : J M) : ∃ r : Mem, f_Nets_lay v0 v2 v3 M = some r ∧ (J r ∧ Gc 0 M r) := by
  unfold f_Nets_lay
  refine c_i hk_v0 ?_
  refine c_i hk_v2 ?_
  refine mem_i (fun M1 e2 => ?_)
  have hJ3 : J M1 := by rw [e2]; exact Jl hJ
  have hG4 : Gc 0 M M1 := Gc_l Gc_r e2
  clear e2
  refine mem_i (fun M2 e6 => ?_)
  have hJ7 : J M2 := by rw [e6]; exact Jl hJ3
  have hG8 : Gc 0 M M2 := Gc_l hG4 e6
  clear e6
  refine bind_i (sl_Nets_lay_17 v0 v2 v3 (0 : Int32) M2 M hk_v0 hk_v2 hJ7 hG8 (show (0 : Int) ≤ (0 : Int32).toInt by decide) (show (0 : Int32).toInt ≤ (36 : Int) by decide)) (fun x10 _ q => ?_)
  obtain ⟨h9, h10⟩ := q
  refine bind_i (sl_Nets_lay_79 v0 v2 (0 : Int32) x10 M hk_v0 hk_v2 h9 h10 (show (0 : Int) ≤ (0 : Int32).toInt by decide) (show (0 : Int32).toInt ≤ (36 : Int) by decide)) (fun x14 _ q => ?_)
  obtain ⟨h11, h12⟩ := q
  refine bind_i (sl_Nets_lay_111 v0 v2 (0 : Int32) x14 M hk_v0 hk_v2 h11 h12 (show (0 : Int) ≤ (0 : Int32).toInt by decide) (show (0 : Int32).toInt ≤ (6 : Int) by decide)) (fun x19 _ q => ?_)
  obtain ⟨h13, h14⟩ := q
  exact ⟨x19, rfl, h13, h14⟩
theorem sf_Nets_toward (v0 : Nat) (v1 : Int32) (v2 : Int32) (v3 : Int32) (M : Mem) (hk_v0 : kd v0 = 10 + 6) (hp_v2 : (0 : Int) ≤ v2.toInt ∧ v2.toInt ≤ (35 : Int)) (hJ : J M) : ∃ r : Int32, f_Nets_toward v0 v1 v2 v3 M = some r ∧ ((-1 : Int) ≤ r.toInt ∧ r.toInt ≤ (35 : Int)) := by
  unfold f_Nets_toward
  refine c_i hk_v0 ?_
  refine if_i (fun c => ?_) (fun c => ?_)
  · have c1 := c
    have d2 : v3.toInt = (4 : Int) := eqi.mp c1
    exact ⟨v2, rfl, (show (-1 : Int) ≤ v2.toInt by omega), (show v2.toInt ≤ (35 : Int) by omega)⟩
  · have c3 := c
    have d4 : ¬ v3.toInt = (4 : Int) := neqi.mp c3
    refine if_i (fun c => ?_) (fun c => ?_)
    · have c5 := c
      have d6 : v3.toInt < (0 : Int) := lti.mp c5
      exact ⟨(-1 : Int32), rfl, (show (-1 : Int) ≤ (-1 : Int32).toInt by decide), (show (-1 : Int32).toInt ≤ (35 : Int) by decide)⟩
    · have c7 := c
      have d8 : (0 : Int) ≤ v3.toInt := nlti.mp c7
      refine if_i (fun c => ?_) (fun c => ?_)
      · have c9 := c
        have d10 : (4 : Int) < v3.toInt := lti.mp c9
        exact ⟨(-1 : Int32), rfl, (show (-1 : Int) ≤ (-1 : Int32).toInt by decide), (show (-1 : Int32).toInt ≤ (35 : Int) by decide)⟩
      · have c11 := c
        have d12 : v3.toInt ≤ (4 : Int) := nlti.mp c11
        refine if_i (fun c => ?_) (fun c => ?_)
        · have c13 := c
          have d14 : ((((v1 * (36 : Int32)) + v2) * (4 : Int32)) + v3).toInt < (0 : Int) := lti.mp c13
          exact ⟨(-1 : Int32), rfl, (show (-1 : Int) ≤ (-1 : Int32).toInt by decide), (show (-1 : Int32).toInt ≤ (35 : Int) by decide)⟩
        · have c15 := c
          have d16 : (0 : Int) ≤ ((((v1 * (36 : Int32)) + v2) * (4 : Int32)) + v3).toInt := nlti.mp c15
          refine if_i (fun c => ?_) (fun c => ?_)
          · have c17 := c
            have d18 : ((((v1 * (36 : Int32)) + v2) * (4 : Int32)) + v3).toInt < (288 : Int) := lti.mp c17
            refine inb_i (by omega) (by omega) ?_
            have r19 := Jr_nets2 hJ hk_v0 ((((v1 * (36 : Int32)) + v2) * (4 : Int32)) + v3).toNatClampNeg
            exact ⟨(M.1 (rf v0 2) ((((v1 * (36 : Int32)) + v2) * (4 : Int32)) + v3).toNatClampNeg), rfl, (show (-1 : Int) ≤ (M.1 (rf v0 2) ((((v1 * (36 : Int32)) + v2) * (4 : Int32)) + v3).toNatClampNeg).toInt by omega), (show (M.1 (rf v0 2) ((((v1 * (36 : Int32)) + v2) * (4 : Int32)) + v3).toNatClampNeg).toInt ≤ (35 : Int) by omega)⟩
          · have c20 := c
            have d21 : (288 : Int) ≤ ((((v1 * (36 : Int32)) + v2) * (4 : Int32)) + v3).toInt := nlti.mp c20
            exact ⟨(-1 : Int32), rfl, (show (-1 : Int) ≤ (-1 : Int32).toInt by decide), (show (-1 : Int32).toInt ≤ (35 : Int) by decide)⟩
theorem sl_Nets_flood_12 (v0 : Nat) (v1 : Int32) (v3 : Int64) (M : Mem) (a0_ : Int64) (a1_ : Int64) (a2_ : Int32) (hk_v0 : kd v0 = 10 + 6) (hp_v1 : (0 : Int) ≤ v1.toInt ∧ v1.toInt ≤ (1 : Int)) (hJ_M : J M) (i0_ : (0 : Int) ≤ a2_.toInt) (i1_ : a2_.toInt ≤ (36 : Int)) : ∃ x, iter (lb_Nets_flood_12 v0 v1 v3 M) FU (a0_, a1_, a2_) = some x ∧ (fun r : Int64 => True) x := by
  refine iter_r (fun s : Int64 × Int64 × Int32 => (0 : Int) ≤ s.2.2.toInt ∧ s.2.2.toInt ≤ (36 : Int)) (fun s : Int64 × Int64 × Int32 => (36 - s.2.2.toInt).toNat) (fun r : Int64 => True) ?_ FU (a0_, a1_, a2_) ⟨i0_, i1_⟩ (by show (36 - a2_.toInt).toNat < FU; rw [FU_v]; omega)
  clear i1_ i0_
  rintro ⟨a0_', a1_', a2_'⟩ ⟨i0_, i1_⟩
  dsimp only at i0_ i1_
  unfold lb_Nets_flood_12
  dsimp only
  refine if_i (fun c => ?_) (fun c => ?_)
  · have c1 := c
    have d2 : (36 : Int) ≤ a2_'.toInt := lei.mp c1
    exact ⟨_, rfl, trivial⟩
  · have c3 := c
    have d4 : a2_'.toInt < (36 : Int) := nlei.mp c3
    refine if_i (fun c => ?_) (fun c => ?_)
    · have c5 := c
      have d6 : (lg_cmp a1_' (0 : Int64)).toInt = (0 : Int) := eqi.mp c5
      exact ⟨_, rfl, trivial⟩
    · have c7 := c
      have d8 : ¬ (lg_cmp a1_' (0 : Int64)).toInt = (0 : Int) := neqi.mp c7
      refine bind_i (sf_JLong_numberOfTrailingZeros a1_') (fun x1 _ q => ?_)
      obtain ⟨h9, h10⟩ := q
      refine if_i (fun c => ?_) (fun c => ?_)
      · have c11 := c
        have d12 : (36 : Int) ≤ x1.toInt := lei.mp c11
        unfold j_Nets_flood_78_12
        have q13 : (a2_' + (1 : Int32)).toInt = a2_'.toInt + (1 : Int) := add_ti rfl rfl (by omega) (by omega)
        exact ⟨_, rfl, ⟨(show (0 : Int) ≤ (a2_' + (1 : Int32)).toInt by omega), (show (a2_' + (1 : Int32)).toInt ≤ (36 : Int) by omega)⟩, show (36 - (a2_' + (1 : Int32)).toInt).toNat < (36 - a2_'.toInt).toNat by omega⟩
      · have c14 := c
        have d15 : x1.toInt < (36 : Int) := nlei.mp c14
        have q16 : (v1 * (36 : Int32)).toInt = v1.toInt * (36 : Int) := mul_ti rfl rfl (by omega) (by omega)
        have q17 : ((v1 * (36 : Int32)) + x1).toInt = (v1 * (36 : Int32)).toInt + x1.toInt := add_ti rfl rfl (by omega) (by omega)
        refine inb_i (by omega) (by omega) ?_
        unfold j_Nets_flood_78_12
        have q18 : (a2_' + (1 : Int32)).toInt = a2_'.toInt + (1 : Int) := add_ti rfl rfl (by omega) (by omega)
        exact ⟨_, rfl, ⟨(show (0 : Int) ≤ (a2_' + (1 : Int32)).toInt by omega), (show (a2_' + (1 : Int32)).toInt ≤ (36 : Int) by omega)⟩, show (36 - (a2_' + (1 : Int32)).toInt).toNat < (36 - a2_'.toInt).toNat by omega⟩
theorem sf_Nets_flood (v0 : Nat) (v1 : Int32) (v2 : Int32) (v3 : Int64) (M : Mem) (hk_v0 : kd v0 = 10 + 6) (hp_v1 : (0 : Int) ≤ v1.toInt ∧ v1.toInt ≤ (1 : Int)) (hJ : J M) : ∃ r : Int64, f_Nets_flood v0 v1 v2 v3 M = some r ∧ (True) := by
  unfold f_Nets_flood
  refine c_i hk_v0 ?_
  refine bind_i (sl_Nets_flood_12 v0 v1 v3 M ((1 : Int64) <<< (v2.toInt64 &&& 63)) ((1 : Int64) <<< (v2.toInt64 &&& 63)) (0 : Int32) hk_v0 (⟨show (0 : Int) ≤ v1.toInt by omega, show v1.toInt ≤ (1 : Int) by omega⟩) hJ (show (0 : Int) ≤ (0 : Int32).toInt by decide) (show (0 : Int32).toInt ≤ (36 : Int) by decide)) (fun x5 _ q => ?_)
  exact ⟨x5, rfl, trivial⟩
theorem sl_Nets_around_6 (v0 : Nat) (v1 : Int32) (v2 : Int64) (M : Mem) (a0_ : Int64) (a1_ : Int32) (hk_v0 : kd v0 = 10 + 6) (hp_v1 : (0 : Int) ≤ v1.toInt ∧ v1.toInt ≤ (1 : Int)) (hJ_M : J M) (i0_ : (0 : Int) ≤ a1_.toInt) (i1_ : a1_.toInt ≤ (36 : Int)) : ∃ x, iter (lb_Nets_around_6 v0 v1 v2 M) FU (a0_, a1_) = some x ∧ (fun r : Int64 => True) x := by
  refine iter_r (fun s : Int64 × Int32 => (0 : Int) ≤ s.2.toInt ∧ s.2.toInt ≤ (36 : Int)) (fun s : Int64 × Int32 => (36 - s.2.toInt).toNat) (fun r : Int64 => True) ?_ FU (a0_, a1_) ⟨i0_, i1_⟩ (by show (36 - a1_.toInt).toNat < FU; rw [FU_v]; omega)
  clear i1_ i0_
  rintro ⟨a0_', a1_'⟩ ⟨i0_, i1_⟩
  dsimp only at i0_ i1_
  unfold lb_Nets_around_6
  dsimp only
  refine if_i (fun c => ?_) (fun c => ?_)
  · have c1 := c
    have d2 : (36 : Int) ≤ a1_'.toInt := lei.mp c1
    exact ⟨_, rfl, trivial⟩
  · have c3 := c
    have d4 : a1_'.toInt < (36 : Int) := nlei.mp c3
    refine if_i (fun c => ?_) (fun c => ?_)
    · have c5 := c
      have d6 : (lg_cmp ((v2 >>> (a1_'.toInt64 &&& 63)) &&& (1 : Int64)) (0 : Int64)).toInt = (0 : Int) := eqi.mp c5
      have q7 : (a1_' + (1 : Int32)).toInt = a1_'.toInt + (1 : Int) := add_ti rfl rfl (by omega) (by omega)
      exact ⟨_, rfl, ⟨(show (0 : Int) ≤ (a1_' + (1 : Int32)).toInt by omega), (show (a1_' + (1 : Int32)).toInt ≤ (36 : Int) by omega)⟩, show (36 - (a1_' + (1 : Int32)).toInt).toNat < (36 - a1_'.toInt).toNat by omega⟩
    · have c8 := c
      have d9 : ¬ (lg_cmp ((v2 >>> (a1_'.toInt64 &&& 63)) &&& (1 : Int64)) (0 : Int64)).toInt = (0 : Int) := neqi.mp c8
      have q10 : (v1 * (36 : Int32)).toInt = v1.toInt * (36 : Int) := mul_ti rfl rfl (by omega) (by omega)
      have q11 : ((v1 * (36 : Int32)) + a1_').toInt = (v1 * (36 : Int32)).toInt + a1_'.toInt := add_ti rfl rfl (by omega) (by omega)
      refine inb_i (by omega) (by omega) ?_
      have q12 : (a1_' + (1 : Int32)).toInt = a1_'.toInt + (1 : Int) := add_ti rfl rfl (by omega) (by omega)
      exact ⟨_, rfl, ⟨(show (0 : Int) ≤ (a1_' + (1 : Int32)).toInt by omega), (show (a1_' + (1 : Int32)).toInt ≤ (36 : Int) by omega)⟩, show (36 - (a1_' + (1 : Int32)).toInt).toNat < (36 - a1_'.toInt).toNat by omega⟩
theorem sf_Nets_around (v0 : Nat) (v1 : Int32) (v2 : Int64) (M : Mem) (hk_v0 : kd v0 = 10 + 6) (hp_v1 : (0 : Int) ≤ v1.toInt ∧ v1.toInt ≤ (1 : Int)) (hJ : J M) : ∃ r : Int64, f_Nets_around v0 v1 v2 M = some r ∧ (True) := by
  unfold f_Nets_around
  refine c_i hk_v0 ?_
  refine bind_i (sl_Nets_around_6 v0 v1 v2 M (0 : Int64) (0 : Int32) hk_v0 (⟨show (0 : Int) ≤ v1.toInt by omega, show v1.toInt ≤ (1 : Int) by omega⟩) hJ (show (0 : Int) ≤ (0 : Int32).toInt by decide) (show (0 : Int32).toInt ≤ (36 : Int) by decide)) (fun x3 _ q => ?_)
  exact ⟨x3, rfl, trivial⟩
theorem sl_Nets_measure_3 (v0 : Nat) (v1 : Int32) (v2 : Int32) (v3 : Nat) (a0_ : Int32) (N_ : Mem) (B_ : Mem) (hk_v0 : kd v0 = 10 + 6) (hp_v1 : (0 : Int) ≤ v1.toInt ∧ v1.toInt ≤ (1 : Int)) (hp_v2 : (0 : Int) ≤ v2.toInt ∧ v2.toInt ≤ (35 : Int)) (hk_v3 : FA v3) (hN : J N_) (hG : Gc 0 B_ N_) (i2_ : (0 : Int) ≤ a0_.toInt) (i3_ : a0_.toInt ≤ (36 : Int)) : ∃ x, iter (lb_Nets_measure_3 v0 v1 v2 v3) FU (a0_, N_) = some x ∧ (fun r : Mem => J r ∧ Gc 0 B_ r) x := by
  refine iter_r (fun s : Int32 × Mem => J s.2 ∧ Gc 0 B_ s.2 ∧ (0 : Int) ≤ s.1.toInt ∧ s.1.toInt ≤ (36 : Int)) (fun s : Int32 × Mem => (36 - s.1.toInt).toNat) (fun r : Mem => J r ∧ Gc 0 B_ r) ?_ FU (a0_, N_) ⟨hN, hG, i2_, i3_⟩ (by show (36 - a0_.toInt).toNat < FU; rw [FU_v]; omega)
  clear i3_ i2_ hG hN
  rintro ⟨a0_', N_'⟩ ⟨hN, hG, i2_, i3_⟩
  dsimp only at hN hG i2_ i3_
  unfold lb_Nets_measure_3
  dsimp only
  refine if_i (fun c => ?_) (fun c => ?_)
  · have c1 := c
    have d2 : (36 : Int) ≤ a0_'.toInt := lei.mp c1
    exact ⟨_, rfl, hN, hG⟩
  · have c3 := c
    have d4 : a0_'.toInt < (36 : Int) := nlei.mp c3
    have l5 := FA_ln hk_v3
    refine inb_i (by omega) (by omega) ?_
    refine mem_i (fun M1 e7 => ?_)
    have hJ8 : J M1 := by rw [e7]; exact Jw_far hN hk_v3 a0_'.toNatClampNeg (1000000 : Int32)
    have hG9 : Gc 0 B_ M1 := Gc_i hG e7 (cl_far hk_v3)
    have f10 : (M1.1 v3 a0_'.toNatClampNeg).toInt = (1000000 : Int) := by rw [e7, si_eq]; rfl
    clear e7
    have q11 : (a0_' + (1 : Int32)).toInt = a0_'.toInt + (1 : Int) := add_ti rfl rfl (by omega) (by omega)
    exact ⟨_, rfl, ⟨hJ8, hG9, (show (0 : Int) ≤ (a0_' + (1 : Int32)).toInt by omega), (show (a0_' + (1 : Int32)).toInt ≤ (36 : Int) by omega)⟩, show (36 - (a0_' + (1 : Int32)).toInt).toNat < (36 - a0_'.toInt).toNat by omega⟩
theorem sl_Nets_measure_51 (v0 : Nat) (v1 : Int32) (v3 : Nat) (v4 : Int64) (v6 : Int64) (v8 : Int32) (a0_ : Int32) (N_ : Mem) (B_ : Mem) (hk_v0 : kd v0 = 10 + 6) (hp_v1 : (0 : Int) ≤ v1.toInt ∧ v1.toInt ≤ (1 : Int)) (hk_v3 : FA v3) (hp_v8 : (0 : Int) ≤ v8.toInt ∧ v8.toInt ≤ (35 : Int)) (hN : J N_) (hG : Gc 0 B_ N_) (i2_ : (0 : Int) ≤ a0_.toInt) (i3_ : a0_.toInt ≤ (36 : Int)) : ∃ x, iter (lb_Nets_measure_51 v0 v1 v3 v4 v6 v8) FU (a0_, N_) = some x ∧ (fun r : Mem => J r ∧ Gc 0 B_ r) x := by
  refine iter_r (fun s : Int32 × Mem => J s.2 ∧ Gc 0 B_ s.2 ∧ (0 : Int) ≤ s.1.toInt ∧ s.1.toInt ≤ (36 : Int)) (fun s : Int32 × Mem => (36 - s.1.toInt).toNat) (fun r : Mem => J r ∧ Gc 0 B_ r) ?_ FU (a0_, N_) ⟨hN, hG, i2_, i3_⟩ (by show (36 - a0_.toInt).toNat < FU; rw [FU_v]; omega)
  clear i3_ i2_ hG hN
  rintro ⟨a0_', N_'⟩ ⟨hN, hG, i2_, i3_⟩
  dsimp only at hN hG i2_ i3_
  unfold lb_Nets_measure_51
  dsimp only
  refine if_i (fun c => ?_) (fun c => ?_)
  · have c1 := c
    have d2 : (36 : Int) ≤ a0_'.toInt := lei.mp c1
    exact ⟨_, rfl, hN, hG⟩
  · have c3 := c
    have d4 : a0_'.toInt < (36 : Int) := nlei.mp c3
    refine if_i (fun c => ?_) (fun c => ?_)
    · have c5 := c
      have d6 : (lg_cmp ((v6 >>> (a0_'.toInt64 &&& 63)) &&& (1 : Int64)) (0 : Int64)).toInt = (0 : Int) := eqi.mp c5
      have q7 : (a0_' + (1 : Int32)).toInt = a0_'.toInt + (1 : Int) := add_ti rfl rfl (by omega) (by omega)
      exact ⟨_, rfl, ⟨hN, hG, (show (0 : Int) ≤ (a0_' + (1 : Int32)).toInt by omega), (show (a0_' + (1 : Int32)).toInt ≤ (36 : Int) by omega)⟩, show (36 - (a0_' + (1 : Int32)).toInt).toNat < (36 - a0_'.toInt).toNat by omega⟩
    · have c8 := c
      have d9 : ¬ (lg_cmp ((v6 >>> (a0_'.toInt64 &&& 63)) &&& (1 : Int64)) (0 : Int64)).toInt = (0 : Int) := neqi.mp c8
      have l10 := FA_ln hk_v3
      refine inb_i (by omega) (by omega) ?_
      refine mem_i (fun M4 e12 => ?_)
      have hJ13 : J M4 := by rw [e12]; exact Jw_far hN hk_v3 a0_'.toNatClampNeg v8
      have hG14 : Gc 0 B_ M4 := Gc_i hG e12 (cl_far hk_v3)
      have f15 : (M4.1 v3 a0_'.toNatClampNeg).toInt = v8.toInt := by rw [e12, si_eq]
      clear e12
      have q16 : (a0_' + (1 : Int32)).toInt = a0_'.toInt + (1 : Int) := add_ti rfl rfl (by omega) (by omega)
      exact ⟨_, rfl, ⟨hJ13, hG14, (show (0 : Int) ≤ (a0_' + (1 : Int32)).toInt by omega), (show (a0_' + (1 : Int32)).toInt ≤ (36 : Int) by omega)⟩, show (36 - (a0_' + (1 : Int32)).toInt).toNat < (36 - a0_'.toInt).toNat by omega⟩
theorem sl_Nets_measure_34 (v0 : Nat) (v1 : Int32) (v3 : Nat) (a0_ : Int64) (a1_ : Int64) (a2_ : Int32) (N_ : Mem) (B_ : Mem) (hk_v0 : kd v0 = 10 + 6) (hp_v1 : (0 : Int) ≤ v1.toInt ∧ v1.toInt ≤ (1 : Int)) (hk_v3 : FA v3) (hN : J N_) (hG : Gc 0 B_ N_) (i2_ : (0 : Int) ≤ a2_.toInt) (i3_ : a2_.toInt ≤ (36 : Int)) : ∃ x, iter (lb_Nets_measure_34 v0 v1 v3) FU (a0_, a1_, a2_, N_) = some x ∧ (fun r : Mem => J r ∧ Gc 0 B_ r) x := by
  refine iter_r (fun s : Int64 × Int64 × Int32 × Mem => J s.2.2.2 ∧ Gc 0 B_ s.2.2.2 ∧ (0 : Int) ≤ s.2.2.1.toInt ∧ s.2.2.1.toInt ≤ (36 : Int)) (fun s : Int64 × Int64 × Int32 × Mem => (36 - s.2.2.1.toInt).toNat) (fun r : Mem => J r ∧ Gc 0 B_ r) ?_ FU (a0_, a1_, a2_, N_) ⟨hN, hG, i2_, i3_⟩ (by show (36 - a2_.toInt).toNat < FU; rw [FU_v]; omega)
  clear i3_ i2_ hG hN
  rintro ⟨a0_', a1_', a2_', N_'⟩ ⟨hN, hG, i2_, i3_⟩
  dsimp only at hN hG i2_ i3_
  unfold lb_Nets_measure_34
  dsimp only
  refine if_i (fun c => ?_) (fun c => ?_)
  · have c1 := c
    have d2 : (36 : Int) ≤ a2_'.toInt := lei.mp c1
    exact ⟨_, rfl, hN, hG⟩
  · have c3 := c
    have d4 : a2_'.toInt < (36 : Int) := nlei.mp c3
    refine if_i (fun c => ?_) (fun c => ?_)
    · have c5 := c
      have d6 : (lg_cmp a1_' (0 : Int64)).toInt = (0 : Int) := eqi.mp c5
      exact ⟨_, rfl, hN, hG⟩
    · have c7 := c
      have d8 : ¬ (lg_cmp a1_' (0 : Int64)).toInt = (0 : Int) := neqi.mp c7
      refine bind_i (sl_Nets_measure_51 v0 v1 v3 a0_' a1_' a2_' (0 : Int32) N_' B_ hk_v0 (⟨show (0 : Int) ≤ v1.toInt by omega, show v1.toInt ≤ (1 : Int) by omega⟩) hk_v3 (⟨show (0 : Int) ≤ a2_'.toInt by omega, show a2_'.toInt ≤ (35 : Int) by omega⟩) hN hG (show (0 : Int) ≤ (0 : Int32).toInt by decide) (show (0 : Int32).toInt ≤ (36 : Int) by decide)) (fun x7 _ q => ?_)
      obtain ⟨h9, h10⟩ := q
      refine bind_i (sf_Nets_around v0 v1 a1_' x7 hk_v0 (⟨show (0 : Int) ≤ v1.toInt by omega, show v1.toInt ≤ (1 : Int) by omega⟩) h9) (fun x8 _ q => ?_)
      have q11 : (a2_' + (1 : Int32)).toInt = a2_'.toInt + (1 : Int) := add_ti rfl rfl (by omega) (by omega)
      exact ⟨_, rfl, ⟨h9, h10, (show (0 : Int) ≤ (a2_' + (1 : Int32)).toInt by omega), (show (a2_' + (1 : Int32)).toInt ≤ (36 : Int) by omega)⟩, show (36 - (a2_' + (1 : Int32)).toInt).toNat < (36 - a2_'.toInt).toNat by omega⟩
theorem sf_Nets_measure (v0 : Nat) (v1 : Int32) (v2 : Int32) (v3 : Nat) (M : Mem) (hk_v0 : kd v0 = 10 + 6) (hp_v1 : (0 : Int) ≤ v1.toInt ∧ v1.toInt ≤ (1 : Int)) (hp_v2 : (0 : Int) ≤ v2.toInt ∧ v2.toInt ≤ (35 : Int)) (hk_v3 : FA v3) (hJ : J M) : ∃ r : Mem, f_Nets_measure v0 v1 v2 v3 M = some r ∧ (J r ∧ Gc 0 M r) := by
  unfold f_Nets_measure
  refine c_i hk_v0 ?_
  refine c_i (FA_kd hk_v3) ?_
  refine bind_i (sl_Nets_measure_3 v0 v1 v2 v3 (0 : Int32) M M hk_v0 (⟨show (0 : Int) ≤ v1.toInt by omega, show v1.toInt ≤ (1 : Int) by omega⟩) (⟨show (0 : Int) ≤ v2.toInt by omega, show v2.toInt ≤ (35 : Int) by omega⟩) hk_v3 hJ Gc_r (show (0 : Int) ≤ (0 : Int32).toInt by decide) (show (0 : Int32).toInt ≤ (36 : Int) by decide)) (fun x3 _ q => ?_)
  obtain ⟨h1, h2⟩ := q
  refine bind_i (sl_Nets_measure_34 v0 v1 v3 ((1 : Int64) <<< (v2.toInt64 &&& 63)) ((1 : Int64) <<< (v2.toInt64 &&& 63)) (0 : Int32) x3 M hk_v0 (⟨show (0 : Int) ≤ v1.toInt by omega, show v1.toInt ≤ (1 : Int) by omega⟩) hk_v3 h1 h2 (show (0 : Int) ≤ (0 : Int32).toInt by decide) (show (0 : Int32).toInt ≤ (36 : Int) by decide)) (fun x11 _ q => ?_)
  obtain ⟨h3, h4⟩ := q
  exact ⟨x11, rfl, h3, h4⟩
end
section
/-! safety of the class, 8 -/
theorem sl_Nets_stepNearer_3 (v0 : Nat) (v1 : Int32) (v2 : Int32) (v3 : Nat) (M : Mem) (a0_ : Int32) (hk_v0 : kd v0 = 10 + 6) (hp_v1 : (0 : Int) ≤ v1.toInt ∧ v1.toInt ≤ (1 : Int)) (hp_v2 : (0 : Int) ≤ v2.toInt ∧ v2.toInt ≤ (35 : Int)) (hk_v3 : FA v3) (hJ_M : J M) (i0_ : (0 : Int) ≤ a0_.toInt) (i1_ : a0_.toInt ≤ (4 : Int)) : ∃ x, iter (lb_Nets_stepNearer_3 v0 v1 v2 v3 M) FU a0_ = some x ∧ (SQ (fun r : Unit => True) (fun r : Int32 => (0 : Int) ≤ r.toInt ∧ r.toInt ≤ (3 : Int))) x := by
  refine iter_r (fun s : Int32 => (0 : Int) ≤ s.toInt ∧ s.toInt ≤ (4 : Int)) (fun s : Int32 => (4 - s.toInt).toNat) (SQ (fun r : Unit => True) (fun r : Int32 => (0 : Int) ≤ r.toInt ∧ r.toInt ≤ (3 : Int))) ?_ FU a0_ ⟨i0_, i1_⟩ (by show (4 - a0_.toInt).toNat < FU; rw [FU_v]; omega)
  clear i1_ i0_
  rintro a0_' ⟨i0_, i1_⟩
  unfold lb_Nets_stepNearer_3
  refine if_i (fun c => ?_) (fun c => ?_)
  · have c1 := c
    have d2 : (4 : Int) ≤ a0_'.toInt := lei.mp c1
    exact ⟨_, rfl, trivial⟩
  · have c3 := c
    have d4 : a0_'.toInt < (4 : Int) := nlei.mp c3
    refine bind_i (sf_Nets_toward v0 v1 v2 a0_' M hk_v0 (⟨show (0 : Int) ≤ v2.toInt by omega, show v2.toInt ≤ (35 : Int) by omega⟩) hJ_M) (fun x1 _ q => ?_)
    obtain ⟨h5, h6⟩ := q
    refine if_i (fun c => ?_) (fun c => ?_)
    · have c7 := c
      have d8 : x1.toInt = (-1 : Int) := eqi.mp c7
      have q9 : (a0_' + (1 : Int32)).toInt = a0_'.toInt + (1 : Int) := add_ti rfl rfl (by omega) (by omega)
      exact ⟨_, rfl, ⟨(show (0 : Int) ≤ (a0_' + (1 : Int32)).toInt by omega), (show (a0_' + (1 : Int32)).toInt ≤ (4 : Int) by omega)⟩, show (4 - (a0_' + (1 : Int32)).toInt).toNat < (4 - a0_'.toInt).toNat by omega⟩
    · have c10 := c
      have d11 : ¬ x1.toInt = (-1 : Int) := neqi.mp c10
      have l12 := FA_ln hk_v3
      refine inb_i (by omega) (by omega) ?_
      have l13 := FA_ln hk_v3
      refine inb_i (by omega) (by omega) ?_
      refine if_i (fun c => ?_) (fun c => ?_)
      · have c14 := c
        have d15 : (M.1 v3 v2.toNatClampNeg).toInt ≤ (M.1 v3 x1.toNatClampNeg).toInt := lei.mp c14
        have q16 : (a0_' + (1 : Int32)).toInt = a0_'.toInt + (1 : Int) := add_ti rfl rfl (by omega) (by omega)
        exact ⟨_, rfl, ⟨(show (0 : Int) ≤ (a0_' + (1 : Int32)).toInt by omega), (show (a0_' + (1 : Int32)).toInt ≤ (4 : Int) by omega)⟩, show (4 - (a0_' + (1 : Int32)).toInt).toNat < (4 - a0_'.toInt).toNat by omega⟩
      · have c17 := c
        have d18 : (M.1 v3 x1.toNatClampNeg).toInt < (M.1 v3 v2.toNatClampNeg).toInt := nlei.mp c17
        exact ⟨_, rfl, (show (0 : Int) ≤ a0_'.toInt by omega), (show a0_'.toInt ≤ (3 : Int) by omega)⟩
theorem sf_Nets_stepNearer (v0 : Nat) (v1 : Int32) (v2 : Int32) (v3 : Nat) (M : Mem) (hk_v0 : kd v0 = 10 + 6) (hp_v1 : (0 : Int) ≤ v1.toInt ∧ v1.toInt ≤ (1 : Int)) (hp_v2 : (0 : Int) ≤ v2.toInt ∧ v2.toInt ≤ (35 : Int)) (hk_v3 : FA v3) (hJ : J M) : ∃ r : Int32, f_Nets_stepNearer v0 v1 v2 v3 M = some r ∧ ((-1 : Int) ≤ r.toInt ∧ r.toInt ≤ (3 : Int)) := by
  unfold f_Nets_stepNearer
  refine c_i hk_v0 ?_
  refine c_i (FA_kd hk_v3) ?_
  refine bind_i (sl_Nets_stepNearer_3 v0 v1 v2 v3 M (0 : Int32) hk_v0 (⟨show (0 : Int) ≤ v1.toInt by omega, show v1.toInt ≤ (1 : Int) by omega⟩) (⟨show (0 : Int) ≤ v2.toInt by omega, show v2.toInt ≤ (35 : Int) by omega⟩) hk_v3 hJ (show (0 : Int) ≤ (0 : Int32).toInt by decide) (show (0 : Int32).toInt ≤ (4 : Int) by decide)) (fun x1 _ q => ?_)
  rcases x1 with y | y
  · have q9 : True := q
    dsimp only [Sum.elim_inl, Sum.elim_inr]
    exact ⟨(-1 : Int32), rfl, (show (-1 : Int) ≤ (-1 : Int32).toInt by decide), (show (-1 : Int32).toInt ≤ (3 : Int) by decide)⟩
  · have q9 : (0 : Int) ≤ y.toInt ∧ y.toInt ≤ (3 : Int) := q
    dsimp only [Sum.elim_inl, Sum.elim_inr]
    obtain ⟨h4, h5⟩ := q9
    exact ⟨y, rfl, (show (-1 : Int) ≤ y.toInt by omega), (show y.toInt ≤ (3 : Int) by omega)⟩
theorem sf_Nets_stairs (v0 : Nat) (M : Mem) (hk_v0 : kd v0 = 10 + 6) (hJ : J M) : ∃ r : Int64, f_Nets_stairs v0 M = some r ∧ (True) := by
  unfold f_Nets_stairs
  refine c_i hk_v0 ?_
  exact ⟨((M.2.1 (rf v0 0) (0 : Int32).toNatClampNeg) &&& (M.2.1 (rf v0 0) (1 : Int32).toNatClampNeg)), rfl, trivial⟩
theorem sf_Law_rankOf (v0 : Int32) : ∃ r : Int32, f_Law_rankOf v0 = some r ∧ ((0 : Int) ≤ r.toInt ∧ r.toInt ≤ (5 : Int)) := by
  unfold f_Law_rankOf
  refine if_i (fun c => ?_) (fun c => ?_)
  · have c1 := c
    have d2 : v0.toInt = (42 : Int) := eqi.mp c1
    exact ⟨(4 : Int32), rfl, (show (0 : Int) ≤ (4 : Int32).toInt by decide), (show (4 : Int32).toInt ≤ (5 : Int) by decide)⟩
  · have c3 := c
    have d4 : ¬ v0.toInt = (42 : Int) := neqi.mp c3
    refine if_i (fun c => ?_) (fun c => ?_)
    · have c5 := c
      have d6 : v0.toInt = (47 : Int) := eqi.mp c5
      exact ⟨(4 : Int32), rfl, (show (0 : Int) ≤ (4 : Int32).toInt by decide), (show (4 : Int32).toInt ≤ (5 : Int) by decide)⟩
    · have c7 := c
      have d8 : ¬ v0.toInt = (47 : Int) := neqi.mp c7
      refine if_i (fun c => ?_) (fun c => ?_)
      · have c9 := c
        have d10 : v0.toInt = (43 : Int) := eqi.mp c9
        exact ⟨(3 : Int32), rfl, (show (0 : Int) ≤ (3 : Int32).toInt by decide), (show (3 : Int32).toInt ≤ (5 : Int) by decide)⟩
      · have c11 := c
        have d12 : ¬ v0.toInt = (43 : Int) := neqi.mp c11
        refine if_i (fun c => ?_) (fun c => ?_)
        · have c13 := c
          have d14 : v0.toInt = (45 : Int) := eqi.mp c13
          exact ⟨(3 : Int32), rfl, (show (0 : Int) ≤ (3 : Int32).toInt by decide), (show (3 : Int32).toInt ≤ (5 : Int) by decide)⟩
        · have c15 := c
          have d16 : ¬ v0.toInt = (45 : Int) := neqi.mp c15
          refine if_i (fun c => ?_) (fun c => ?_)
          · have c17 := c
            have d18 : v0.toInt = (60 : Int) := eqi.mp c17
            exact ⟨(2 : Int32), rfl, (show (0 : Int) ≤ (2 : Int32).toInt by decide), (show (2 : Int32).toInt ≤ (5 : Int) by decide)⟩
          · have c19 := c
            have d20 : ¬ v0.toInt = (60 : Int) := neqi.mp c19
            refine if_i (fun c => ?_) (fun c => ?_)
            · have c21 := c
              have d22 : v0.toInt = (61 : Int) := eqi.mp c21
              exact ⟨(2 : Int32), rfl, (show (0 : Int) ≤ (2 : Int32).toInt by decide), (show (2 : Int32).toInt ≤ (5 : Int) by decide)⟩
            · have c23 := c
              have d24 : ¬ v0.toInt = (61 : Int) := neqi.mp c23
              refine if_i (fun c => ?_) (fun c => ?_)
              · have c25 := c
                have d26 : v0.toInt = (62 : Int) := eqi.mp c25
                exact ⟨(2 : Int32), rfl, (show (0 : Int) ≤ (2 : Int32).toInt by decide), (show (2 : Int32).toInt ≤ (5 : Int) by decide)⟩
              · have c27 := c
                have d28 : ¬ v0.toInt = (62 : Int) := neqi.mp c27
                refine if_i (fun c => ?_) (fun c => ?_)
                · have c29 := c
                  have d30 : v0.toInt = (256 : Int) := eqi.mp c29
                  exact ⟨(5 : Int32), rfl, (show (0 : Int) ≤ (5 : Int32).toInt by decide), (show (5 : Int32).toInt ≤ (5 : Int) by decide)⟩
                · have c31 := c
                  have d32 : ¬ v0.toInt = (256 : Int) := neqi.mp c31
                  exact ⟨(0 : Int32), rfl, (show (0 : Int) ≤ (0 : Int32).toInt by decide), (show (0 : Int32).toInt ≤ (5 : Int) by decide)⟩
theorem sf_Law_emit (v1 : Int32) (M : Mem) (hJ : J M) : ∃ r : Mem, f_Law_emit v1 M = some r ∧ (J r ∧ Gc 0 M r) := by
  unfold f_Law_emit
  refine if_i (fun c => ?_) (fun c => ?_)
  · have c1 := c
    have d2 : (M.1 40 5).toInt < (0 : Int) := lti.mp c1
    exact ⟨M, rfl, hJ, Gc_r⟩
  · have c3 := c
    have d4 : (0 : Int) ≤ (M.1 40 5).toInt := nlti.mp c3
    refine if_i (fun c => ?_) (fun c => ?_)
    · have c5 := c
      have d6 : (40 : Int) ≤ (M.1 40 5).toInt := lei.mp c5
      exact ⟨M, rfl, hJ, Gc_r⟩
    · have c7 := c
      have d8 : (M.1 40 5).toInt < (40 : Int) := nlei.mp c7
      refine inb_i (by omega) (by omega) ?_
      refine mem_i (fun M1 e10 => ?_)
      have hJ11 : J M1 := by rw [e10]; exact Jw_any ok_42 hJ (M.1 40 5).toNatClampNeg v1
      have hG12 : Gc 0 M M1 := Gc_i Gc_r e10 (by decide)
      have f13 : (M1.1 40 5).toInt = (M.1 40 5).toInt := by rw [e10]; rw [si_ne (by exact fun e => absurd e.1 (by decide))]
      clear e10
      refine mem_i (fun M2 e15 => ?_)
      have hJ16 : J M2 := by rw [e15]; exact Jw_any ok_40 hJ11 5 ((M1.1 40 5) + (1 : Int32))
      have hG17 : Gc 0 M M2 := Gc_i hG12 e15 (by decide)
      have q18 : ((M1.1 40 5) + (1 : Int32)).toInt = (M1.1 40 5).toInt + (1 : Int) := add_ti rfl rfl (by omega) (by omega)
      have f19 : (M2.1 40 5).toInt = ((M1.1 40 5) + (1 : Int32)).toInt := by rw [e15, si_eq]
      clear e15
      exact ⟨M2, rfl, hJ16, hG17⟩
theorem sl_Law_settle_2 (v1 : Int32) (a0_ : Int32) (N_ : Mem) (B_ : Mem) (hN : J N_) (hG : Gc 0 B_ N_) (i2_ : (0 : Int) ≤ a0_.toInt) (i3_ : a0_.toInt ≤ (40 : Int)) : ∃ x, iter (lb_Law_settle_2 v1) FU (a0_, N_) = some x ∧ (SQ (fun r : Mem => J r ∧ Gc 0 B_ r) (fun r : Mem => J r ∧ Gc 0 B_ r)) x := by
  refine iter_r (fun s : Int32 × Mem => J s.2 ∧ Gc 0 B_ s.2 ∧ (0 : Int) ≤ s.1.toInt ∧ s.1.toInt ≤ (40 : Int)) (fun s : Int32 × Mem => (40 - s.1.toInt).toNat) (SQ (fun r : Mem => J r ∧ Gc 0 B_ r) (fun r : Mem => J r ∧ Gc 0 B_ r)) ?_ FU (a0_, N_) ⟨hN, hG, i2_, i3_⟩ (by show (40 - a0_.toInt).toNat < FU; rw [FU_v]; omega)
  clear i3_ i2_ hG hN
  rintro ⟨a0_', N_'⟩ ⟨hN, hG, i2_, i3_⟩
  dsimp only at hN hG i2_ i3_
  unfold lb_Law_settle_2
  dsimp only
  refine if_i (fun c => ?_) (fun c => ?_)
  · have c1 := c
    have d2 : (40 : Int) ≤ a0_'.toInt := lei.mp c1
    exact ⟨_, rfl, hN, hG⟩
  · have c3 := c
    have d4 : a0_'.toInt < (40 : Int) := nlei.mp c3
    refine if_i (fun c => ?_) (fun c => ?_)
    · have c5 := c
      have d6 : (N_'.1 40 6).toInt < (1 : Int) := lti.mp c5
      exact ⟨_, rfl, hN, hG⟩
    · have c7 := c
      have d8 : (1 : Int) ≤ (N_'.1 40 6).toInt := nlti.mp c7
      refine if_i (fun c => ?_) (fun c => ?_)
      · have c9 := c
        have d10 : (40 : Int) < (N_'.1 40 6).toInt := lti.mp c9
        exact ⟨_, rfl, hN, hG⟩
      · have c11 := c
        have d12 : (N_'.1 40 6).toInt ≤ (40 : Int) := nlti.mp c11
        have q13 : ((N_'.1 40 6) - (1 : Int32)).toInt = (N_'.1 40 6).toInt - (1 : Int) := sub_ti rfl rfl (by omega) (by omega)
        refine inb_i (by omega) (by omega) ?_
        refine if_i (fun c => ?_) (fun c => ?_)
        · have c14 := c
          have d15 : (N_'.1 43 ((N_'.1 40 6) - (1 : Int32)).toNatClampNeg).toInt = (40 : Int) := eqi.mp c14
          exact ⟨_, rfl, hN, hG⟩
        · have c16 := c
          have d17 : ¬ (N_'.1 43 ((N_'.1 40 6) - (1 : Int32)).toNatClampNeg).toInt = (40 : Int) := neqi.mp c16
          refine inb_i (by omega) (by omega) ?_
          refine bind_i (sf_Law_rankOf (N_'.1 43 ((N_'.1 40 6) - (1 : Int32)).toNatClampNeg)) (fun x1 _ q => ?_)
          obtain ⟨h18, h19⟩ := q
          refine if_i (fun c => ?_) (fun c => ?_)
          · have c20 := c
            have d21 : v1.toInt ≤ x1.toInt := lei.mp c20
            refine mem_i (fun M2 e23 => ?_)
            have hJ24 : J M2 := by rw [e23]; exact Jw_any ok_40 hN 6 ((N_'.1 40 6) - (1 : Int32))
            have hG25 : Gc 0 B_ M2 := Gc_i hG e23 (by decide)
            have f26 : (M2.1 40 6).toInt = ((N_'.1 40 6) - (1 : Int32)).toInt := by rw [e23, si_eq]
            clear e23
            refine inb_i (by omega) (by omega) ?_
            refine bind_i (sf_Law_emit (-(M2.1 43 (M2.1 40 6).toNatClampNeg)) M2 hJ24) (fun x3 _ q => ?_)
            obtain ⟨h27, h28⟩ := q
            have hG29 : Gc 0 B_ x3 := Gc_t hG25 h28
            have q30 : (a0_' + (1 : Int32)).toInt = a0_'.toInt + (1 : Int) := add_ti rfl rfl (by omega) (by omega)
            exact ⟨_, rfl, ⟨h27, hG29, (show (0 : Int) ≤ (a0_' + (1 : Int32)).toInt by omega), (show (a0_' + (1 : Int32)).toInt ≤ (40 : Int) by omega)⟩, show (40 - (a0_' + (1 : Int32)).toInt).toNat < (40 - a0_'.toInt).toNat by omega⟩
          · have c31 := c
            have d32 : x1.toInt < v1.toInt := nlei.mp c31
            exact ⟨_, rfl, hN, hG⟩
theorem sf_Law_settle (v1 : Int32) (M : Mem) (hJ : J M) : ∃ r : Mem, f_Law_settle v1 M = some r ∧ (J r ∧ Gc 0 M r) := by
  unfold f_Law_settle
  refine bind_i (sl_Law_settle_2 v1 (0 : Int32) M M hJ Gc_r (show (0 : Int) ≤ (0 : Int32).toInt by decide) (show (0 : Int32).toInt ≤ (40 : Int) by decide)) (fun x1 _ q => ?_)
  rcases x1 with y | y
  · have q9 : J y ∧ Gc 0 M y := q
    dsimp only [Sum.elim_inl, Sum.elim_inr]
    obtain ⟨h3, h4⟩ := q9
    exact ⟨y, rfl, h3, h4⟩
  · have q9 : J y ∧ Gc 0 M y := q
    dsimp only [Sum.elim_inl, Sum.elim_inr]
    obtain ⟨h6, h7⟩ := q9
    exact ⟨y, rfl, h6, h7⟩
theorem sf_Law_hold (v1 : Int32) (M : Mem) (hJ : J M) : ∃ r : Mem, f_Law_hold v1 M = some r ∧ (J r ∧ Gc 0 M r) := by
  unfold f_Law_hold
  refine if_i (fun c => ?_) (fun c => ?_)
  · have c1 := c
    have d2 : (M.1 40 6).toInt < (0 : Int) := lti.mp c1
    exact ⟨M, rfl, hJ, Gc_r⟩
  · have c3 := c
    have d4 : (0 : Int) ≤ (M.1 40 6).toInt := nlti.mp c3
    refine if_i (fun c => ?_) (fun c => ?_)
    · have c5 := c
      have d6 : (40 : Int) ≤ (M.1 40 6).toInt := lei.mp c5
      exact ⟨M, rfl, hJ, Gc_r⟩
    · have c7 := c
      have d8 : (M.1 40 6).toInt < (40 : Int) := nlei.mp c7
      refine inb_i (by omega) (by omega) ?_
      refine mem_i (fun M1 e10 => ?_)
      have hJ11 : J M1 := by rw [e10]; exact Jw_any ok_43 hJ (M.1 40 6).toNatClampNeg v1
      have hG12 : Gc 0 M M1 := Gc_i Gc_r e10 (by decide)
      have f13 : (M1.1 40 6).toInt = (M.1 40 6).toInt := by rw [e10]; rw [si_ne (by exact fun e => absurd e.1 (by decide))]
      clear e10
      refine mem_i (fun M2 e15 => ?_)
      have hJ16 : J M2 := by rw [e15]; exact Jw_any ok_40 hJ11 6 ((M1.1 40 6) + (1 : Int32))
      have hG17 : Gc 0 M M2 := Gc_i hG12 e15 (by decide)
      have q18 : ((M1.1 40 6) + (1 : Int32)).toInt = (M1.1 40 6).toInt + (1 : Int) := add_ti rfl rfl (by omega) (by omega)
      have f19 : (M2.1 40 6).toInt = ((M1.1 40 6) + (1 : Int32)).toInt := by rw [e15, si_eq]
      clear e15
      exact ⟨M2, rfl, hJ16, hG17⟩
theorem sf_Law_readBehind (v1 : Int32) (M : Mem) (hJ : J M) : ∃ r : Int32 × Mem, f_Law_readBehind v1 M = some r ∧ (J r.2 ∧ Gc 0 M r.2 ∧ (0 : Int) ≤ r.1.toInt ∧ r.1.toInt ≤ (1 : Int)) := by
  unfold f_Law_readBehind
  refine if_i (fun c => ?_) (fun c => ?_)
  · have c1 := c
    have d2 : v1.toInt = (41 : Int) := eqi.mp c1
    refine if_i (fun c => ?_) (fun c => ?_)
    · have c3 := c
      have d4 : (M.1 40 8).toInt ≤ (0 : Int) := lei.mp c3
      unfold j_Law_readBehind_40
      refine bind_i (sf_Law_rankOf v1) (fun x1 _ q => ?_)
      obtain ⟨h5, h6⟩ := q
      refine if_i (fun c => ?_) (fun c => ?_)
      · have c7 := c
        have d8 : x1.toInt = (0 : Int) := eqi.mp c7
        exact ⟨((0 : Int32), M), rfl, hJ, Gc_r, (show (0 : Int) ≤ (0 : Int32).toInt by decide), (show (0 : Int32).toInt ≤ (1 : Int) by decide)⟩
      · have c9 := c
        have d10 : ¬ x1.toInt = (0 : Int) := neqi.mp c9
        refine if_i (fun c => ?_) (fun c => ?_)
        · have c11 := c
          have d12 : x1.toInt = (2 : Int) := eqi.mp c11
          refine if_i (fun c => ?_) (fun c => ?_)
          · have c13 := c
            have q14 : (0 : Int) ≤ (((M.1 40 9) >>> ((M.1 40 8) &&& 31)) &&& (1 : Int32)).toInt ∧ (((M.1 40 9) >>> ((M.1 40 8) &&& 31)) &&& (1 : Int32)).toInt ≤ 1 := and_rng (by decide)
            have d15 : (((M.1 40 9) >>> ((M.1 40 8) &&& 31)) &&& (1 : Int32)).toInt = (0 : Int) := eqi.mp c13
            unfold j_Law_readBehind_70
            refine if_i (fun c => ?_) (fun c => ?_)
            · have c16 := c
              have d17 : x1.toInt = (2 : Int) := eqi.mp c16
              refine mem_i (fun M5 e19 => ?_)
              have hJ20 : J M5 := by rw [e19]; exact Jw_any ok_40 hJ 9 ((M.1 40 9) ||| ((1 : Int32) <<< ((M.1 40 8) &&& 31)))
              have hG21 : Gc 0 M M5 := Gc_i Gc_r e19 (by decide)
              have f22 : (M5.1 40 8).toInt = (M.1 40 8).toInt := by rw [e19]; rw [si_ne (by exact fun e => absurd e.2 (by decide))]
              clear e19
              unfold j_Law_readBehind_90
              refine bind_i (sf_Law_settle x1 M5 hJ20) (fun x2 _ q => ?_)
              obtain ⟨h23, h24⟩ := q
              have hG25 : Gc 0 M x2 := Gc_t hG21 h24
              refine bind_i (sf_Law_hold v1 x2 h23) (fun x3 _ q => ?_)
              obtain ⟨h26, h27⟩ := q
              have hG28 : Gc 0 M x3 := Gc_t hG25 h27
              refine mem_i (fun M4 e30 => ?_)
              have hJ31 : J M4 := by rw [e30]; exact Jw_any ok_40 h26 10 (0 : Int32)
              have hG32 : Gc 0 M M4 := Gc_i hG28 e30 (by decide)
              have f33 : (M4.1 40 10).toInt = (0 : Int) := by rw [e30, si_eq]; rfl
              clear e30
              exact ⟨((1 : Int32), M4), rfl, hJ31, hG32, (show (0 : Int) ≤ (1 : Int32).toInt by decide), (show (1 : Int32).toInt ≤ (1 : Int) by decide)⟩
            · have c34 := c
              have d35 : ¬ x1.toInt = (2 : Int) := neqi.mp c34
              exfalso; omega
          · have c36 := c
            have q37 : (0 : Int) ≤ (((M.1 40 9) >>> ((M.1 40 8) &&& 31)) &&& (1 : Int32)).toInt ∧ (((M.1 40 9) >>> ((M.1 40 8) &&& 31)) &&& (1 : Int32)).toInt ≤ 1 := and_rng (by decide)
            have d38 : ¬ (((M.1 40 9) >>> ((M.1 40 8) &&& 31)) &&& (1 : Int32)).toInt = (0 : Int) := neqi.mp c36
            exact ⟨((0 : Int32), M), rfl, hJ, Gc_r, (show (0 : Int) ≤ (0 : Int32).toInt by decide), (show (0 : Int32).toInt ≤ (1 : Int) by decide)⟩
        · have c39 := c
          have d40 : ¬ x1.toInt = (2 : Int) := neqi.mp c39
          unfold j_Law_readBehind_70
          refine if_i (fun c => ?_) (fun c => ?_)
          · have c41 := c
            have d42 : x1.toInt = (2 : Int) := eqi.mp c41
            refine mem_i (fun M5 e44 => ?_)
            have hJ45 : J M5 := by rw [e44]; exact Jw_any ok_40 hJ 9 ((M.1 40 9) ||| ((1 : Int32) <<< ((M.1 40 8) &&& 31)))
            have hG46 : Gc 0 M M5 := Gc_i Gc_r e44 (by decide)
            have f47 : (M5.1 40 8).toInt = (M.1 40 8).toInt := by rw [e44]; rw [si_ne (by exact fun e => absurd e.2 (by decide))]
            clear e44
            unfold j_Law_readBehind_90
            refine bind_i (sf_Law_settle x1 M5 hJ45) (fun x2 _ q => ?_)
            obtain ⟨h48, h49⟩ := q
            have hG50 : Gc 0 M x2 := Gc_t hG46 h49
            refine bind_i (sf_Law_hold v1 x2 h48) (fun x3 _ q => ?_)
            obtain ⟨h51, h52⟩ := q
            have hG53 : Gc 0 M x3 := Gc_t hG50 h52
            refine mem_i (fun M4 e55 => ?_)
            have hJ56 : J M4 := by rw [e55]; exact Jw_any ok_40 h51 10 (0 : Int32)
            have hG57 : Gc 0 M M4 := Gc_i hG53 e55 (by decide)
            have f58 : (M4.1 40 10).toInt = (0 : Int) := by rw [e55, si_eq]; rfl
            clear e55
            exact ⟨((1 : Int32), M4), rfl, hJ56, hG57, (show (0 : Int) ≤ (1 : Int32).toInt by decide), (show (1 : Int32).toInt ≤ (1 : Int) by decide)⟩
          · have c59 := c
            have d60 : ¬ x1.toInt = (2 : Int) := neqi.mp c59
            unfold j_Law_readBehind_90
            refine bind_i (sf_Law_settle x1 M hJ) (fun x2 _ q => ?_)
            obtain ⟨h61, h62⟩ := q
            have hG63 : Gc 0 M x2 := Gc_t Gc_r h62
            refine bind_i (sf_Law_hold v1 x2 h61) (fun x3 _ q => ?_)
            obtain ⟨h64, h65⟩ := q
            have hG66 : Gc 0 M x3 := Gc_t hG63 h65
            refine mem_i (fun M4 e68 => ?_)
            have hJ69 : J M4 := by rw [e68]; exact Jw_any ok_40 h64 10 (0 : Int32)
            have hG70 : Gc 0 M M4 := Gc_i hG66 e68 (by decide)
            have f71 : (M4.1 40 10).toInt = (0 : Int) := by rw [e68, si_eq]; rfl
            clear e68
            exact ⟨((1 : Int32), M4), rfl, hJ69, hG70, (show (0 : Int) ≤ (1 : Int32).toInt by decide), (show (1 : Int32).toInt ≤ (1 : Int) by decide)⟩
    · have c72 := c
      have d73 : (0 : Int) < (M.1 40 8).toInt := nlei.mp c72
      refine bind_i (sf_Law_settle (1 : Int32) M hJ) (fun x10 _ q => ?_)
      obtain ⟨h74, h75⟩ := q
      have hG76 : Gc 0 M x10 := Gc_t Gc_r h75
      refine mem_i (fun M11 e78 => ?_)
      have hJ79 : J M11 := by rw [e78]; exact Jw_any ok_40 h74 6 ((x10.1 40 6) - (1 : Int32))
      have hG80 : Gc 0 M M11 := Gc_i hG76 e78 (by decide)
      clear e78
      refine mem_i (fun M12 e82 => ?_)
      have hJ83 : J M12 := by rw [e82]; exact Jw_any ok_40 hJ79 8 ((M11.1 40 8) - (1 : Int32))
      have hG84 : Gc 0 M M12 := Gc_i hG80 e82 (by decide)
      clear e82
      exact ⟨((1 : Int32), M12), rfl, hJ83, hG84, (show (0 : Int) ≤ (1 : Int32).toInt by decide), (show (1 : Int32).toInt ≤ (1 : Int) by decide)⟩
  · have c85 := c
    have d86 : ¬ v1.toInt = (41 : Int) := neqi.mp c85
    unfold j_Law_readBehind_40
    refine bind_i (sf_Law_rankOf v1) (fun x1 _ q => ?_)
    obtain ⟨h87, h88⟩ := q
    refine if_i (fun c => ?_) (fun c => ?_)
    · have c89 := c
      have d90 : x1.toInt = (0 : Int) := eqi.mp c89
      exact ⟨((0 : Int32), M), rfl, hJ, Gc_r, (show (0 : Int) ≤ (0 : Int32).toInt by decide), (show (0 : Int32).toInt ≤ (1 : Int) by decide)⟩
    · have c91 := c
      have d92 : ¬ x1.toInt = (0 : Int) := neqi.mp c91
      refine if_i (fun c => ?_) (fun c => ?_)
      · have c93 := c
        have d94 : x1.toInt = (2 : Int) := eqi.mp c93
        refine if_i (fun c => ?_) (fun c => ?_)
        · have c95 := c
          have q96 : (0 : Int) ≤ (((M.1 40 9) >>> ((M.1 40 8) &&& 31)) &&& (1 : Int32)).toInt ∧ (((M.1 40 9) >>> ((M.1 40 8) &&& 31)) &&& (1 : Int32)).toInt ≤ 1 := and_rng (by decide)
          have d97 : (((M.1 40 9) >>> ((M.1 40 8) &&& 31)) &&& (1 : Int32)).toInt = (0 : Int) := eqi.mp c95
          unfold j_Law_readBehind_70
          refine if_i (fun c => ?_) (fun c => ?_)
          · have c98 := c
            have d99 : x1.toInt = (2 : Int) := eqi.mp c98
            refine mem_i (fun M5 e101 => ?_)
            have hJ102 : J M5 := by rw [e101]; exact Jw_any ok_40 hJ 9 ((M.1 40 9) ||| ((1 : Int32) <<< ((M.1 40 8) &&& 31)))
            have hG103 : Gc 0 M M5 := Gc_i Gc_r e101 (by decide)
            clear e101
            unfold j_Law_readBehind_90
            refine bind_i (sf_Law_settle x1 M5 hJ102) (fun x2 _ q => ?_)
            obtain ⟨h104, h105⟩ := q
            have hG106 : Gc 0 M x2 := Gc_t hG103 h105
            refine bind_i (sf_Law_hold v1 x2 h104) (fun x3 _ q => ?_)
            obtain ⟨h107, h108⟩ := q
            have hG109 : Gc 0 M x3 := Gc_t hG106 h108
            refine mem_i (fun M4 e111 => ?_)
            have hJ112 : J M4 := by rw [e111]; exact Jw_any ok_40 h107 10 (0 : Int32)
            have hG113 : Gc 0 M M4 := Gc_i hG109 e111 (by decide)
            have f114 : (M4.1 40 10).toInt = (0 : Int) := by rw [e111, si_eq]; rfl
            clear e111
            exact ⟨((1 : Int32), M4), rfl, hJ112, hG113, (show (0 : Int) ≤ (1 : Int32).toInt by decide), (show (1 : Int32).toInt ≤ (1 : Int) by decide)⟩
          · have c115 := c
            have d116 : ¬ x1.toInt = (2 : Int) := neqi.mp c115
            exfalso; omega
        · have c117 := c
          have q118 : (0 : Int) ≤ (((M.1 40 9) >>> ((M.1 40 8) &&& 31)) &&& (1 : Int32)).toInt ∧ (((M.1 40 9) >>> ((M.1 40 8) &&& 31)) &&& (1 : Int32)).toInt ≤ 1 := and_rng (by decide)
          have d119 : ¬ (((M.1 40 9) >>> ((M.1 40 8) &&& 31)) &&& (1 : Int32)).toInt = (0 : Int) := neqi.mp c117
          exact ⟨((0 : Int32), M), rfl, hJ, Gc_r, (show (0 : Int) ≤ (0 : Int32).toInt by decide), (show (0 : Int32).toInt ≤ (1 : Int) by decide)⟩
      · have c120 := c
        have d121 : ¬ x1.toInt = (2 : Int) := neqi.mp c120
        unfold j_Law_readBehind_70
        refine if_i (fun c => ?_) (fun c => ?_)
        · have c122 := c
          have d123 : x1.toInt = (2 : Int) := eqi.mp c122
          refine mem_i (fun M5 e125 => ?_)
          have hJ126 : J M5 := by rw [e125]; exact Jw_any ok_40 hJ 9 ((M.1 40 9) ||| ((1 : Int32) <<< ((M.1 40 8) &&& 31)))
          have hG127 : Gc 0 M M5 := Gc_i Gc_r e125 (by decide)
          clear e125
          unfold j_Law_readBehind_90
          refine bind_i (sf_Law_settle x1 M5 hJ126) (fun x2 _ q => ?_)
          obtain ⟨h128, h129⟩ := q
          have hG130 : Gc 0 M x2 := Gc_t hG127 h129
          refine bind_i (sf_Law_hold v1 x2 h128) (fun x3 _ q => ?_)
          obtain ⟨h131, h132⟩ := q
          have hG133 : Gc 0 M x3 := Gc_t hG130 h132
          refine mem_i (fun M4 e135 => ?_)
          have hJ136 : J M4 := by rw [e135]; exact Jw_any ok_40 h131 10 (0 : Int32)
          have hG137 : Gc 0 M M4 := Gc_i hG133 e135 (by decide)
          have f138 : (M4.1 40 10).toInt = (0 : Int) := by rw [e135, si_eq]; rfl
          clear e135
          exact ⟨((1 : Int32), M4), rfl, hJ136, hG137, (show (0 : Int) ≤ (1 : Int32).toInt by decide), (show (1 : Int32).toInt ≤ (1 : Int) by decide)⟩
        · have c139 := c
          have d140 : ¬ x1.toInt = (2 : Int) := neqi.mp c139
          unfold j_Law_readBehind_90
          refine bind_i (sf_Law_settle x1 M hJ) (fun x2 _ q => ?_)
          obtain ⟨h141, h142⟩ := q
          have hG143 : Gc 0 M x2 := Gc_t Gc_r h142
          refine bind_i (sf_Law_hold v1 x2 h141) (fun x3 _ q => ?_)
          obtain ⟨h144, h145⟩ := q
          have hG146 : Gc 0 M x3 := Gc_t hG143 h145
          refine mem_i (fun M4 e148 => ?_)
          have hJ149 : J M4 := by rw [e148]; exact Jw_any ok_40 h144 10 (0 : Int32)
          have hG150 : Gc 0 M M4 := Gc_i hG146 e148 (by decide)
          have f151 : (M4.1 40 10).toInt = (0 : Int) := by rw [e148, si_eq]; rfl
          clear e148
          exact ⟨((1 : Int32), M4), rfl, hJ149, hG150, (show (0 : Int) ≤ (1 : Int32).toInt by decide), (show (1 : Int32).toInt ≤ (1 : Int) by decide)⟩
end
section
/-! safety of the class, 9 -/
theorem sf_Law_isQuality (v0 : Int32) : ∃ r : Int32, f_Law_isQuality v0 = some r ∧ ((0 : Int) ≤ r.toInt ∧ r.toInt ≤ (1 : Int)) := by
  unfold f_Law_isQuality
  refine if_i (fun c => ?_) (fun c => ?_)
  · have c1 := c
    have d2 : v0.toInt = (105 : Int) := eqi.mp c1
    exact ⟨(1 : Int32), rfl, (show (0 : Int) ≤ (1 : Int32).toInt by decide), (show (1 : Int32).toInt ≤ (1 : Int) by decide)⟩
  · have c3 := c
    have d4 : ¬ v0.toInt = (105 : Int) := neqi.mp c3
    refine if_i (fun c => ?_) (fun c => ?_)
    · have c5 := c
      have d6 : v0.toInt = (107 : Int) := eqi.mp c5
      exact ⟨(1 : Int32), rfl, (show (0 : Int) ≤ (1 : Int32).toInt by decide), (show (1 : Int32).toInt ≤ (1 : Int) by decide)⟩
    · have c7 := c
      have d8 : ¬ v0.toInt = (107 : Int) := neqi.mp c7
      refine if_i (fun c => ?_) (fun c => ?_)
      · have c9 := c
        have d10 : v0.toInt = (109 : Int) := eqi.mp c9
        exact ⟨(1 : Int32), rfl, (show (0 : Int) ≤ (1 : Int32).toInt by decide), (show (1 : Int32).toInt ≤ (1 : Int) by decide)⟩
      · have c11 := c
        have d12 : ¬ v0.toInt = (109 : Int) := neqi.mp c11
        refine if_i (fun c => ?_) (fun c => ?_)
        · have c13 := c
          have d14 : v0.toInt = (110 : Int) := eqi.mp c13
          exact ⟨(1 : Int32), rfl, (show (0 : Int) ≤ (1 : Int32).toInt by decide), (show (1 : Int32).toInt ≤ (1 : Int) by decide)⟩
        · have c15 := c
          have d16 : ¬ v0.toInt = (110 : Int) := neqi.mp c15
          refine if_i (fun c => ?_) (fun c => ?_)
          · have c17 := c
            have d18 : v0.toInt = (115 : Int) := eqi.mp c17
            exact ⟨(1 : Int32), rfl, (show (0 : Int) ≤ (1 : Int32).toInt by decide), (show (1 : Int32).toInt ≤ (1 : Int) by decide)⟩
          · have c19 := c
            have d20 : ¬ v0.toInt = (115 : Int) := neqi.mp c19
            refine if_i (fun c => ?_) (fun c => ?_)
            · have c21 := c
              have d22 : v0.toInt = (119 : Int) := eqi.mp c21
              exact ⟨(1 : Int32), rfl, (show (0 : Int) ≤ (1 : Int32).toInt by decide), (show (1 : Int32).toInt ≤ (1 : Int) by decide)⟩
            · have c23 := c
              have d24 : ¬ v0.toInt = (119 : Int) := neqi.mp c23
              refine if_i (fun c => ?_) (fun c => ?_)
              · have c25 := c
                have d26 : v0.toInt = (120 : Int) := eqi.mp c25
                exact ⟨(1 : Int32), rfl, (show (0 : Int) ≤ (1 : Int32).toInt by decide), (show (1 : Int32).toInt ≤ (1 : Int) by decide)⟩
              · have c27 := c
                have d28 : ¬ v0.toInt = (120 : Int) := neqi.mp c27
                refine if_i (fun c => ?_) (fun c => ?_)
                · have c29 := c
                  have d30 : v0.toInt = (121 : Int) := eqi.mp c29
                  exact ⟨(1 : Int32), rfl, (show (0 : Int) ≤ (1 : Int32).toInt by decide), (show (1 : Int32).toInt ≤ (1 : Int) by decide)⟩
                · have c31 := c
                  have d32 : ¬ v0.toInt = (121 : Int) := neqi.mp c31
                  exact ⟨(0 : Int32), rfl, (show (0 : Int) ≤ (0 : Int32).toInt by decide), (show (0 : Int32).toInt ≤ (1 : Int) by decide)⟩
theorem sf_Law_readThing (v2 : Int32) (v3 : Int32) (M : Mem) (hJ : J M) : ∃ r : Int32 × Mem, f_Law_readThing v2 v3 M = some r ∧ (J r.2 ∧ Gc 0 M r.2 ∧ (0 : Int) ≤ r.1.toInt ∧ r.1.toInt ≤ (3 : Int)) := by
  unfold f_Law_readThing
  refine if_i (fun c => ?_) (fun c => ?_)
  · have c1 := c
    have d2 : v3.toInt = (45 : Int) := eqi.mp c1
    refine bind_i (sf_Law_hold (256 : Int32) M hJ) (fun x14 _ q => ?_)
    obtain ⟨h3, h4⟩ := q
    have hG5 : Gc 0 M x14 := Gc_t Gc_r h4
    exact ⟨((1 : Int32), x14), rfl, h3, hG5, (show (0 : Int) ≤ (1 : Int32).toInt by decide), (show (1 : Int32).toInt ≤ (3 : Int) by decide)⟩
  · have c6 := c
    have d7 : ¬ v3.toInt = (45 : Int) := neqi.mp c6
    refine if_i (fun c => ?_) (fun c => ?_)
    · have c8 := c
      have d9 : v3.toInt = (40 : Int) := eqi.mp c8
      refine if_i (fun c => ?_) (fun c => ?_)
      · have c10 := c
        have d11 : (4 : Int) ≤ (M.1 40 8).toInt := lei.mp c10
        unfold j_Law_readThing_63
        refine bind_i (sf_Signs_digits v2 (40 : Int32) (3 : Int32) M (⟨by decide, by decide⟩) hJ) (fun x1 _ q => ?_)
        obtain ⟨h12, h13, h14, h15, h16⟩ := q
        have hG17 : Gc 0 M x1.2 := Gc_t Gc_r h13
        refine if_i (fun c => ?_) (fun c => ?_)
        · have c18 := c
          have d19 : x1.1.toInt ≤ (0 : Int) := lei.mp c18
          refine bind_i (sf_Law_isQuality v3) (fun x2 _ q => ?_)
          obtain ⟨h20, h21⟩ := q
          refine if_i (fun c => ?_) (fun c => ?_)
          · have c22 := c
            have d23 : x2.toInt = (0 : Int) := eqi.mp c22
            exact ⟨((0 : Int32), x1.2), rfl, h12, hG17, (show (0 : Int) ≤ (0 : Int32).toInt by decide), (show (0 : Int32).toInt ≤ (3 : Int) by decide)⟩
          · have c24 := c
            have d25 : ¬ x2.toInt = (0 : Int) := neqi.mp c24
            refine bind_i (sf_Law_emit (-v3) x1.2 h12) (fun x3 _ q => ?_)
            obtain ⟨h26, h27⟩ := q
            have hG28 : Gc 0 M x3 := Gc_t hG17 h27
            refine mem_i (fun M4 e30 => ?_)
            have hJ31 : J M4 := by rw [e30]; exact Jw_any ok_40 h26 10 (1 : Int32)
            have hG32 : Gc 0 M M4 := Gc_i hG28 e30 (by decide)
            have f33 : (M4.1 40 10).toInt = (1 : Int) := by rw [e30, si_eq]; rfl
            clear e30
            exact ⟨((1 : Int32), M4), rfl, hJ31, hG32, (show (0 : Int) ≤ (1 : Int32).toInt by decide), (show (1 : Int32).toInt ≤ (3 : Int) by decide)⟩
        · have c34 := c
          have d35 : (0 : Int) < x1.1.toInt := nlei.mp c34
          refine bind_i (sf_Law_emit (x1.2.1 1 2) x1.2 h12) (fun x6 _ q => ?_)
          obtain ⟨h36, h37⟩ := q
          have hG38 : Gc 0 M x6 := Gc_t hG17 h37
          refine mem_i (fun M7 e40 => ?_)
          have hJ41 : J M7 := by rw [e40]; exact Jw_any ok_40 h36 10 (1 : Int32)
          have hG42 : Gc 0 M M7 := Gc_i hG38 e40 (by decide)
          have f43 : (M7.1 40 10).toInt = (1 : Int) := by rw [e40, si_eq]; rfl
          clear e40
          exact ⟨(x1.1, M7), rfl, hJ41, hG42, (show (0 : Int) ≤ x1.1.toInt by omega), (show x1.1.toInt ≤ (3 : Int) by omega)⟩
      · have c44 := c
        have d45 : (M.1 40 8).toInt < (4 : Int) := nlei.mp c44
        refine mem_i (fun M9 e47 => ?_)
        have hJ48 : J M9 := by rw [e47]; exact Jw_any ok_40 hJ 8 ((M.1 40 8) + (1 : Int32))
        have hG49 : Gc 0 M M9 := Gc_i Gc_r e47 (by decide)
        have q50 := i32lo (M.1 40 8)
        have q51 : ((M.1 40 8) + (1 : Int32)).toInt = (M.1 40 8).toInt + (1 : Int) := add_ti rfl rfl (by omega) (by omega)
        have f52 : (M9.1 40 8).toInt = ((M.1 40 8) + (1 : Int32)).toInt := by rw [e47, si_eq]
        clear e47
        refine mem_i (fun M10 e54 => ?_)
        have hJ55 : J M10 := by rw [e54]; exact Jw_any ok_40 hJ48 9 ((M9.1 40 9) &&& (((1 : Int32) <<< ((M9.1 40 8) &&& 31)) ^^^ (-1 : Int32)))
        have hG56 : Gc 0 M M10 := Gc_i hG49 e54 (by decide)
        have f57 : (M10.1 40 8).toInt = (M9.1 40 8).toInt := by rw [e54]; rw [si_ne (by exact fun e => absurd e.2 (by decide))]
        clear e54
        refine bind_i (sf_Law_hold v3 M10 hJ55) (fun x11 _ q => ?_)
        obtain ⟨h58, h59⟩ := q
        have hG60 : Gc 0 M x11 := Gc_t hG56 h59
        exact ⟨((1 : Int32), x11), rfl, h58, hG60, (show (0 : Int) ≤ (1 : Int32).toInt by decide), (show (1 : Int32).toInt ≤ (3 : Int) by decide)⟩
    · have c61 := c
      have d62 : ¬ v3.toInt = (40 : Int) := neqi.mp c61
      unfold j_Law_readThing_63
      refine bind_i (sf_Signs_digits v2 (40 : Int32) (3 : Int32) M (⟨by decide, by decide⟩) hJ) (fun x1 _ q => ?_)
      obtain ⟨h63, h64, h65, h66, h67⟩ := q
      have hG68 : Gc 0 M x1.2 := Gc_t Gc_r h64
      refine if_i (fun c => ?_) (fun c => ?_)
      · have c69 := c
        have d70 : x1.1.toInt ≤ (0 : Int) := lei.mp c69
        refine bind_i (sf_Law_isQuality v3) (fun x2 _ q => ?_)
        obtain ⟨h71, h72⟩ := q
        refine if_i (fun c => ?_) (fun c => ?_)
        · have c73 := c
          have d74 : x2.toInt = (0 : Int) := eqi.mp c73
          exact ⟨((0 : Int32), x1.2), rfl, h63, hG68, (show (0 : Int) ≤ (0 : Int32).toInt by decide), (show (0 : Int32).toInt ≤ (3 : Int) by decide)⟩
        · have c75 := c
          have d76 : ¬ x2.toInt = (0 : Int) := neqi.mp c75
          refine bind_i (sf_Law_emit (-v3) x1.2 h63) (fun x3 _ q => ?_)
          obtain ⟨h77, h78⟩ := q
          have hG79 : Gc 0 M x3 := Gc_t hG68 h78
          refine mem_i (fun M4 e81 => ?_)
          have hJ82 : J M4 := by rw [e81]; exact Jw_any ok_40 h77 10 (1 : Int32)
          have hG83 : Gc 0 M M4 := Gc_i hG79 e81 (by decide)
          have f84 : (M4.1 40 10).toInt = (1 : Int) := by rw [e81, si_eq]; rfl
          clear e81
          exact ⟨((1 : Int32), M4), rfl, hJ82, hG83, (show (0 : Int) ≤ (1 : Int32).toInt by decide), (show (1 : Int32).toInt ≤ (3 : Int) by decide)⟩
      · have c85 := c
        have d86 : (0 : Int) < x1.1.toInt := nlei.mp c85
        refine bind_i (sf_Law_emit (x1.2.1 1 2) x1.2 h63) (fun x6 _ q => ?_)
        obtain ⟨h87, h88⟩ := q
        have hG89 : Gc 0 M x6 := Gc_t hG68 h88
        refine mem_i (fun M7 e91 => ?_)
        have hJ92 : J M7 := by rw [e91]; exact Jw_any ok_40 h87 10 (1 : Int32)
        have hG93 : Gc 0 M M7 := Gc_i hG89 e91 (by decide)
        have f94 : (M7.1 40 10).toInt = (1 : Int) := by rw [e91, si_eq]; rfl
        clear e91
        exact ⟨(x1.1, M7), rfl, hJ92, hG93, (show (0 : Int) ≤ x1.1.toInt by omega), (show x1.1.toInt ≤ (3 : Int) by omega)⟩
theorem sl_Law_read_29  (a0_ : Int32) (a1_ : Int32) (N_ : Mem) (B_ : Mem) (hN : J N_) (hG : Gc 0 B_ N_) (i2_ : (0 : Int) ≤ a0_.toInt) (i3_ : a0_.toInt ≤ (82 : Int)) (i4_ : (0 : Int) ≤ a1_.toInt) (i5_ : a1_.toInt ≤ (41 : Int)) : ∃ x, iter (lb_Law_read_29) FU (a0_, a1_, N_) = some x ∧ (SQ (fun r : Mem => J r ∧ Gc 0 B_ r) (SQ (fun r : Int32 × Mem => J r.2 ∧ Gc 0 B_ r.2 ∧ (0 : Int) ≤ r.1.toInt ∧ r.1.toInt ≤ (82 : Int)) (fun r : Int32 × Mem => J r.2 ∧ Gc 0 B_ r.2 ∧ (0 : Int) ≤ r.1.toInt ∧ r.1.toInt ≤ (79 : Int)))) x := by
  refine iter_r (fun s : Int32 × Int32 × Mem => J s.2.2 ∧ Gc 0 B_ s.2.2 ∧ (0 : Int) ≤ s.1.toInt ∧ s.1.toInt ≤ (82 : Int) ∧ (0 : Int) ≤ s.2.1.toInt ∧ s.2.1.toInt ≤ (41 : Int)) (fun s : Int32 × Int32 × Mem => (41 - s.2.1.toInt).toNat) (SQ (fun r : Mem => J r ∧ Gc 0 B_ r) (SQ (fun r : Int32 × Mem => J r.2 ∧ Gc 0 B_ r.2 ∧ (0 : Int) ≤ r.1.toInt ∧ r.1.toInt ≤ (82 : Int)) (fun r : Int32 × Mem => J r.2 ∧ Gc 0 B_ r.2 ∧ (0 : Int) ≤ r.1.toInt ∧ r.1.toInt ≤ (79 : Int)))) ?_ FU (a0_, a1_, N_) ⟨hN, hG, i2_, i3_, i4_, i5_⟩ (by show (41 - a1_.toInt).toNat < FU; rw [FU_v]; omega)
  clear i5_ i4_ i3_ i2_ hG hN
  rintro ⟨a0_', a1_', N_'⟩ ⟨hN, hG, i2_, i3_, i4_, i5_⟩
  dsimp only at hN hG i2_ i3_ i4_ i5_
  unfold lb_Law_read_29
  dsimp only
  refine if_i (fun c => ?_) (fun c => ?_)
  · have c1 := c
    have d2 : (40 : Int) < a1_'.toInt := lti.mp c1
    exact ⟨_, rfl, hN, hG⟩
  · have c3 := c
    have d4 : a1_'.toInt ≤ (40 : Int) := nlti.mp c3
    refine if_i (fun c => ?_) (fun c => ?_)
    · have c5 := c
      have r6 := Jr_1_1 hN
      have d7 : (N_'.1 1 1).toInt ≤ (0 : Int) := lei.mp c5
      exact ⟨_, rfl, hN, hG⟩
    · have c8 := c
      have r9 := Jr_1_1 hN
      have d10 : (0 : Int) < (N_'.1 1 1).toInt := nlei.mp c8
      refine bind_i (sf_Signs_at a0_' (40 : Int32) N_' hN) (fun x6 _ q => ?_)
      obtain ⟨h11, h12, h13⟩ := q
      refine if_i (fun c => ?_) (fun c => ?_)
      · have c14 := c
        have d15 : x6.toInt = (-1 : Int) := eqi.mp c14
        exact ⟨_, rfl, hN, hG, (show (0 : Int) ≤ a0_'.toInt by omega), (show a0_'.toInt ≤ (82 : Int) by omega)⟩
      · have c16 := c
        have d17 : ¬ x6.toInt = (-1 : Int) := neqi.mp c16
        refine if_i (fun c => ?_) (fun c => ?_)
        · have c18 := c
          have d19 : (N_'.1 40 10).toInt = (0 : Int) := eqi.mp c18
          refine bind_i (sf_Law_readThing a0_' x6 N_' hN) (fun x7 _ q => ?_)
          obtain ⟨h20, h21, h22, h23⟩ := q
          have hG24 : Gc 0 B_ x7.2 := Gc_t hG h21
          unfold j_Law_read_108_29
          refine if_i (fun c => ?_) (fun c => ?_)
          · have c25 := c
            have d26 : x7.1.toInt = (0 : Int) := eqi.mp c25
            exact ⟨_, rfl, h20, hG24, (show (0 : Int) ≤ a0_'.toInt by omega), (show a0_'.toInt ≤ (79 : Int) by omega)⟩
          · have c27 := c
            have d28 : ¬ x7.1.toInt = (0 : Int) := neqi.mp c27
            have q29 : (a0_' + x7.1).toInt = a0_'.toInt + x7.1.toInt := add_ti rfl rfl (by omega) (by omega)
            have q30 : (a1_' + (1 : Int32)).toInt = a1_'.toInt + (1 : Int) := add_ti rfl rfl (by omega) (by omega)
            exact ⟨_, rfl, ⟨h20, hG24, (show (0 : Int) ≤ (a0_' + x7.1).toInt by omega), (show (a0_' + x7.1).toInt ≤ (82 : Int) by omega), (show (0 : Int) ≤ (a1_' + (1 : Int32)).toInt by omega), (show (a1_' + (1 : Int32)).toInt ≤ (41 : Int) by omega)⟩, show (41 - (a1_' + (1 : Int32)).toInt).toNat < (41 - a1_'.toInt).toNat by omega⟩
        · have c31 := c
          have d32 : ¬ (N_'.1 40 10).toInt = (0 : Int) := neqi.mp c31
          refine bind_i (sf_Law_readBehind x6 N_' hN) (fun x9 _ q => ?_)
          obtain ⟨h33, h34, h35, h36⟩ := q
          have hG37 : Gc 0 B_ x9.2 := Gc_t hG h34
          unfold j_Law_read_108_29
          refine if_i (fun c => ?_) (fun c => ?_)
          · have c38 := c
            have d39 : x9.1.toInt = (0 : Int) := eqi.mp c38
            exact ⟨_, rfl, h33, hG37, (show (0 : Int) ≤ a0_'.toInt by omega), (show a0_'.toInt ≤ (79 : Int) by omega)⟩
          · have c40 := c
            have d41 : ¬ x9.1.toInt = (0 : Int) := neqi.mp c40
            have q42 : (a0_' + x9.1).toInt = a0_'.toInt + x9.1.toInt := add_ti rfl rfl (by omega) (by omega)
            have q43 : (a1_' + (1 : Int32)).toInt = a1_'.toInt + (1 : Int) := add_ti rfl rfl (by omega) (by omega)
            exact ⟨_, rfl, ⟨h33, hG37, (show (0 : Int) ≤ (a0_' + x9.1).toInt by omega), (show (a0_' + x9.1).toInt ≤ (82 : Int) by omega), (show (0 : Int) ≤ (a1_' + (1 : Int32)).toInt by omega), (show (a1_' + (1 : Int32)).toInt ≤ (41 : Int) by omega)⟩, show (41 - (a1_' + (1 : Int32)).toInt).toNat < (41 - a1_'.toInt).toNat by omega⟩
theorem sf_Law_read (M : Mem) (hJ : J M) : ∃ r : Int32 × Mem, f_Law_read M = some r ∧ (J r.2 ∧ Gc 0 M r.2 ∧ (-83 : Int) ≤ r.1.toInt ∧ r.1.toInt ≤ (0 : Int)) := by
  unfold f_Law_read
  refine mem_i (fun M1 e2 => ?_)
  have hJ3 : J M1 := by rw [e2]; exact Jw_any ok_40 hJ 5 (0 : Int32)
  have hG4 : Gc 0 M M1 := Gc_i Gc_r e2 (by decide)
  have f5 : (M1.1 40 5).toInt = (0 : Int) := by rw [e2, si_eq]; rfl
  clear e2
  refine mem_i (fun M2 e7 => ?_)
  have hJ8 : J M2 := by rw [e7]; exact Jw_any ok_40 hJ3 6 (0 : Int32)
  have hG9 : Gc 0 M M2 := Gc_i hG4 e7 (by decide)
  have f10 : (M2.1 40 5).toInt = (M1.1 40 5).toInt := by rw [e7]; rw [si_ne (by exact fun e => absurd e.2 (by decide))]
  have f11 : (M2.1 40 6).toInt = (0 : Int) := by rw [e7, si_eq]; rfl
  clear e7
  refine mem_i (fun M3 e13 => ?_)
  have hJ14 : J M3 := by rw [e13]; exact Jw_any ok_40 hJ8 8 (0 : Int32)
  have hG15 : Gc 0 M M3 := Gc_i hG9 e13 (by decide)
  have f16 : (M3.1 40 5).toInt = (M2.1 40 5).toInt := by rw [e13]; rw [si_ne (by exact fun e => absurd e.2 (by decide))]
  have f17 : (M3.1 40 6).toInt = (M2.1 40 6).toInt := by rw [e13]; rw [si_ne (by exact fun e => absurd e.2 (by decide))]
  have f18 : (M3.1 40 8).toInt = (0 : Int) := by rw [e13, si_eq]; rfl
  clear e13
  refine mem_i (fun M4 e20 => ?_)
  have hJ21 : J M4 := by rw [e20]; exact Jw_any ok_40 hJ14 9 (0 : Int32)
  have hG22 : Gc 0 M M4 := Gc_i hG15 e20 (by decide)
  have f23 : (M4.1 40 5).toInt = (M3.1 40 5).toInt := by rw [e20]; rw [si_ne (by exact fun e => absurd e.2 (by decide))]
  have f24 : (M4.1 40 6).toInt = (M3.1 40 6).toInt := by rw [e20]; rw [si_ne (by exact fun e => absurd e.2 (by decide))]
  have f25 : (M4.1 40 8).toInt = (M3.1 40 8).toInt := by rw [e20]; rw [si_ne (by exact fun e => absurd e.2 (by decide))]
  have f26 : (M4.1 40 9).toInt = (0 : Int) := by rw [e20, si_eq]; rfl
  clear e20
  refine mem_i (fun M5 e28 => ?_)
  have hJ29 : J M5 := by rw [e28]; exact Jw_any ok_40 hJ21 10 (0 : Int32)
  have hG30 : Gc 0 M M5 := Gc_i hG22 e28 (by decide)
  have f31 : (M5.1 40 5).toInt = (M4.1 40 5).toInt := by rw [e28]; rw [si_ne (by exact fun e => absurd e.2 (by decide))]
  have f32 : (M5.1 40 6).toInt = (M4.1 40 6).toInt := by rw [e28]; rw [si_ne (by exact fun e => absurd e.2 (by decide))]
  have f33 : (M5.1 40 8).toInt = (M4.1 40 8).toInt := by rw [e28]; rw [si_ne (by exact fun e => absurd e.2 (by decide))]
  have f34 : (M5.1 40 9).toInt = (M4.1 40 9).toInt := by rw [e28]; rw [si_ne (by exact fun e => absurd e.2 (by decide))]
  have f35 : (M5.1 40 10).toInt = (0 : Int) := by rw [e28, si_eq]; rfl
  clear e28
  refine bind_i (sl_Law_read_29  (0 : Int32) (0 : Int32) M5 M hJ29 hG30 (show (0 : Int) ≤ (0 : Int32).toInt by decide) (show (0 : Int32).toInt ≤ (82 : Int) by decide) (show (0 : Int) ≤ (0 : Int32).toInt by decide) (show (0 : Int32).toInt ≤ (41 : Int) by decide)) (fun x36 _ q => ?_)
  rcases x36 with y | y | y
  · have q9 : J y ∧ Gc 0 M y := q
    dsimp only [Sum.elim_inl, Sum.elim_inr]
    obtain ⟨h38, h39⟩ := q9
    unfold j_Law_read_130
    refine bind_i (sf_Law_settle (0 : Int32) y h38) (fun x16 _ q => ?_)
    obtain ⟨h40, h41⟩ := q
    have hG42 : Gc 0 M x16 := Gc_t h39 h41
    refine mem_i (fun M17 e44 => ?_)
    have hJ45 : J M17 := by rw [e44]; exact Jc_any (k0 := 42) (k1 := 41) ⟨ok_42, ok_41⟩ h40
    have hG46 : Gc 0 M M17 := Gc_c hG42 e44 (by decide)
    clear e44
    refine mem_i (fun M18 e48 => ?_)
    have hJ49 : J M18 := by rw [e48]; exact Jw_any ok_40 hJ45 4 (M17.1 40 5)
    have hG50 : Gc 0 M M18 := Gc_i hG46 e48 (by decide)
    clear e48
    exact ⟨((0 : Int32), M18), rfl, hJ49, hG50, (show (-83 : Int) ≤ (0 : Int32).toInt by decide), (show (0 : Int32).toInt ≤ (0 : Int) by decide)⟩
  · have q9 : J y.2 ∧ Gc 0 M y.2 ∧ (0 : Int) ≤ y.1.toInt ∧ y.1.toInt ≤ (82 : Int) := q
    dsimp only [Sum.elim_inl, Sum.elim_inr]
    obtain ⟨h52, h53, h54, h55⟩ := q9
    refine if_i (fun c => ?_) (fun c => ?_)
    · have c56 := c
      have r57 := Jr_1_1 h52
      have d58 : (40 : Int) < (y.2.1 1 1).toInt := lti.mp c56
      have q59 : ((-1 : Int32) - y.1).toInt = (-1 : Int) - y.1.toInt := sub_ti rfl rfl (by omega) (by omega)
      exact ⟨(((-1 : Int32) - y.1), y.2), rfl, h52, h53, (show (-83 : Int) ≤ ((-1 : Int32) - y.1).toInt by rw [q59]; clear q59; omega), (show ((-1 : Int32) - y.1).toInt ≤ (0 : Int) by rw [q59]; clear q59; omega)⟩
    · have c60 := c
      have r61 := Jr_1_1 h52
      have d62 : (y.2.1 1 1).toInt ≤ (40 : Int) := nlti.mp c60
      refine if_i (fun c => ?_) (fun c => ?_)
      · have c63 := c
        have d64 : (y.2.1 40 10).toInt = (0 : Int) := eqi.mp c63
        have q65 : ((-1 : Int32) - y.1).toInt = (-1 : Int) - y.1.toInt := sub_ti rfl rfl (by omega) (by omega)
        exact ⟨(((-1 : Int32) - y.1), y.2), rfl, h52, h53, (show (-83 : Int) ≤ ((-1 : Int32) - y.1).toInt by rw [q65]; clear q65; omega), (show ((-1 : Int32) - y.1).toInt ≤ (0 : Int) by rw [q65]; clear q65; omega)⟩
      · have c66 := c
        have d67 : ¬ (y.2.1 40 10).toInt = (0 : Int) := neqi.mp c66
        refine if_i (fun c => ?_) (fun c => ?_)
        · have c68 := c
          have d69 : (y.2.1 40 8).toInt ≤ (0 : Int) := lei.mp c68
          unfold j_Law_read_130
          refine bind_i (sf_Law_settle (0 : Int32) y.2 h52) (fun x16 _ q => ?_)
          obtain ⟨h70, h71⟩ := q
          have hG72 : Gc 0 M x16 := Gc_t h53 h71
          refine mem_i (fun M17 e74 => ?_)
          have hJ75 : J M17 := by rw [e74]; exact Jc_any (k0 := 42) (k1 := 41) ⟨ok_42, ok_41⟩ h70
          have hG76 : Gc 0 M M17 := Gc_c hG72 e74 (by decide)
          clear e74
          refine mem_i (fun M18 e78 => ?_)
          have hJ79 : J M18 := by rw [e78]; exact Jw_any ok_40 hJ75 4 (M17.1 40 5)
          have hG80 : Gc 0 M M18 := Gc_i hG76 e78 (by decide)
          clear e78
          exact ⟨((0 : Int32), M18), rfl, hJ79, hG80, (show (-83 : Int) ≤ (0 : Int32).toInt by decide), (show (0 : Int32).toInt ≤ (0 : Int) by decide)⟩
        · have c81 := c
          have d82 : (0 : Int) < (y.2.1 40 8).toInt := nlei.mp c81
          have q83 : ((-1 : Int32) - y.1).toInt = (-1 : Int) - y.1.toInt := sub_ti rfl rfl (by omega) (by omega)
          exact ⟨(((-1 : Int32) - y.1), y.2), rfl, h52, h53, (show (-83 : Int) ≤ ((-1 : Int32) - y.1).toInt by rw [q83]; clear q83; omega), (show ((-1 : Int32) - y.1).toInt ≤ (0 : Int) by rw [q83]; clear q83; omega)⟩
  · have q9 : J y.2 ∧ Gc 0 M y.2 ∧ (0 : Int) ≤ y.1.toInt ∧ y.1.toInt ≤ (79 : Int) := q
    dsimp only [Sum.elim_inl, Sum.elim_inr]
    obtain ⟨h85, h86, h87, h88⟩ := q9
    have q89 : ((-1 : Int32) - y.1).toInt = (-1 : Int) - y.1.toInt := sub_ti rfl rfl (by omega) (by omega)
    exact ⟨(((-1 : Int32) - y.1), y.2), rfl, h85, h86, (show (-83 : Int) ≤ ((-1 : Int32) - y.1).toInt by rw [q89]; clear q89; omega), (show ((-1 : Int32) - y.1).toInt ≤ (0 : Int) by rw [q89]; clear q89; omega)⟩
theorem sf_Law_push (v1 : Int32) (M : Mem) (hJ : J M) : ∃ r : Mem, f_Law_push v1 M = some r ∧ (J r ∧ Gc 0 M r) := by
  unfold f_Law_push
  refine if_i (fun c => ?_) (fun c => ?_)
  · have c1 := c
    have d2 : (M.1 40 7).toInt < (0 : Int) := lti.mp c1
    exact ⟨M, rfl, hJ, Gc_r⟩
  · have c3 := c
    have d4 : (0 : Int) ≤ (M.1 40 7).toInt := nlti.mp c3
    refine if_i (fun c => ?_) (fun c => ?_)
    · have c5 := c
      have d6 : (40 : Int) ≤ (M.1 40 7).toInt := lei.mp c5
      exact ⟨M, rfl, hJ, Gc_r⟩
    · have c7 := c
      have d8 : (M.1 40 7).toInt < (40 : Int) := nlei.mp c7
      refine inb_i (by omega) (by omega) ?_
      refine mem_i (fun M1 e10 => ?_)
      have hJ11 : J M1 := by rw [e10]; exact Jw_any ok_44 hJ (M.1 40 7).toNatClampNeg v1
      have hG12 : Gc 0 M M1 := Gc_i Gc_r e10 (by decide)
      have f13 : (M1.1 40 7).toInt = (M.1 40 7).toInt := by rw [e10]; rw [si_ne (by exact fun e => absurd e.1 (by decide))]
      clear e10
      refine mem_i (fun M2 e15 => ?_)
      have hJ16 : J M2 := by rw [e15]; exact Jw_any ok_40 hJ11 7 ((M1.1 40 7) + (1 : Int32))
      have hG17 : Gc 0 M M2 := Gc_i hG12 e15 (by decide)
      have q18 : ((M1.1 40 7) + (1 : Int32)).toInt = (M1.1 40 7).toInt + (1 : Int) := add_ti rfl rfl (by omega) (by omega)
      have f19 : (M2.1 40 7).toInt = ((M1.1 40 7) + (1 : Int32)).toInt := by rw [e15, si_eq]
      clear e15
      exact ⟨M2, rfl, hJ16, hG17⟩
theorem sf_Law_quality (v0 : Int32) (v1 : Int32) (v2 : Nat) (M : Mem) (hp_v1 : (0 : Int) ≤ v1.toInt ∧ v1.toInt ≤ (7 : Int)) (hk_v2 : kd v2 = 10 + 7) (hJ : J M) : ∃ r : Int32, f_Law_quality v0 v1 v2 M = some r ∧ (True) := by
  unfold f_Law_quality
  refine c_i hk_v2 ?_
  refine inb_i (by omega) (by omega) ?_
  refine if_i (fun c => ?_) (fun c => ?_)
  · have c1 := c
    have d2 : v0.toInt = (105 : Int) := eqi.mp c1
    exact ⟨v1, rfl, trivial⟩
  · have c3 := c
    have d4 : ¬ v0.toInt = (105 : Int) := neqi.mp c3
    refine if_i (fun c => ?_) (fun c => ?_)
    · have c5 := c
      have d6 : v0.toInt = (107 : Int) := eqi.mp c5
      exact ⟨(((M.1 v2 8) >>> (v1 &&& 31)) &&& (1 : Int32)), rfl, trivial⟩
    · have c7 := c
      have d8 : ¬ v0.toInt = (107 : Int) := neqi.mp c7
      refine if_i (fun c => ?_) (fun c => ?_)
      · have c9 := c
        have d10 : v0.toInt = (109 : Int) := eqi.mp c9
        exact ⟨(M.1 v2 7), rfl, trivial⟩
      · have c11 := c
        have d12 : ¬ v0.toInt = (109 : Int) := neqi.mp c11
        refine if_i (fun c => ?_) (fun c => ?_)
        · have c13 := c
          have d14 : v0.toInt = (110 : Int) := eqi.mp c13
          refine inb_i (by omega) (by omega) ?_
          have r15 := Jr_6_4 hJ
          refine bind_i (sf_Scene_standing v2 (M.1 (rf v2 1) v1.toNatClampNeg) (M.1 (rf v2 0) v1.toNatClampNeg) (M.1 6 4) M hk_v2 (⟨show (0 : Int) ≤ (M.1 6 4).toInt by omega, show (M.1 6 4).toInt ≤ (8 : Int) by omega⟩) hJ) (fun x4 _ q => ?_)
          refine bind_i (sf_JInteger_bitCount x4) (fun x5 _ q => ?_)
          obtain ⟨h16, h17⟩ := q
          exact ⟨(x5 - (1 : Int32)), rfl, trivial⟩
        · have c18 := c
          have d19 : ¬ v0.toInt = (110 : Int) := neqi.mp c18
          refine if_i (fun c => ?_) (fun c => ?_)
          · have c20 := c
            have d21 : v0.toInt = (115 : Int) := eqi.mp c20
            have r22 := Jr_scene0 hJ hk_v2 v1.toNatClampNeg
            refine bind_i (sf_Ground_isStair (M.1 (rf v2 0) v1.toNatClampNeg) M hJ) (fun x7 _ q => ?_)
            obtain ⟨h23, h24, h25⟩ := q
            refine if_i (fun c => ?_) (fun c => ?_)
            · have c26 := c
              have d27 : x7.toInt = (0 : Int) := eqi.mp c26
              exact ⟨(0 : Int32), rfl, trivial⟩
            · have c28 := c
              have d29 : ¬ x7.toInt = (0 : Int) := neqi.mp c28
              exact ⟨(1 : Int32), rfl, trivial⟩
          · have c30 := c
            have d31 : ¬ v0.toInt = (115 : Int) := neqi.mp c30
            refine if_i (fun c => ?_) (fun c => ?_)
            · have c32 := c
              have d33 : v0.toInt = (119 : Int) := eqi.mp c32
              refine bind_i (sf_Crowd_woman v1 M hJ) (fun x10 _ q => ?_)
              obtain ⟨h34, h35⟩ := q
              refine if_i (fun c => ?_) (fun c => ?_)
              · have c36 := c
                have d37 : x10.toInt = (0 : Int) := eqi.mp c36
                exact ⟨(0 : Int32), rfl, trivial⟩
              · have c38 := c
                have d39 : ¬ x10.toInt = (0 : Int) := neqi.mp c38
                exact ⟨(1 : Int32), rfl, trivial⟩
            · have c40 := c
              have d41 : ¬ v0.toInt = (119 : Int) := neqi.mp c40
              refine if_i (fun c => ?_) (fun c => ?_)
              · have c42 := c
                have d43 : v0.toInt = (120 : Int) := eqi.mp c42
                refine bind_i (sf_Ground_column (M.1 (rf v2 0) v1.toNatClampNeg) M hJ) (fun x13 _ q => ?_)
                exact ⟨x13, rfl, trivial⟩
              · have c44 := c
                have d45 : ¬ v0.toInt = (120 : Int) := neqi.mp c44
                refine if_i (fun c => ?_) (fun c => ?_)
                · have c46 := c
                  have d47 : v0.toInt = (121 : Int) := eqi.mp c46
                  refine bind_i (sf_Ground_line (M.1 (rf v2 0) v1.toNatClampNeg) M hJ) (fun x15 _ q => ?_)
                  exact ⟨x15, rfl, trivial⟩
                · have c48 := c
                  have d49 : ¬ v0.toInt = (121 : Int) := neqi.mp c48
                  exact ⟨(0 : Int32), rfl, trivial⟩
theorem sf_Law_pop (M : Mem) (hJ : J M) : ∃ r : Int32 × Mem, f_Law_pop M = some r ∧ (J r.2 ∧ Gc 0 M r.2) := by
  unfold f_Law_pop
  refine if_i (fun c => ?_) (fun c => ?_)
  · have c1 := c
    have d2 : (M.1 40 7).toInt < (1 : Int) := lti.mp c1
    exact ⟨((0 : Int32), M), rfl, hJ, Gc_r⟩
  · have c3 := c
    have d4 : (1 : Int) ≤ (M.1 40 7).toInt := nlti.mp c3
    refine if_i (fun c => ?_) (fun c => ?_)
    · have c5 := c
      have d6 : (M.1 40 7).toInt ≤ (40 : Int) := lei.mp c5
      refine mem_i (fun M1 e8 => ?_)
      have hJ9 : J M1 := by rw [e8]; exact Jw_any ok_40 hJ 7 ((M.1 40 7) - (1 : Int32))
      have hG10 : Gc 0 M M1 := Gc_i Gc_r e8 (by decide)
      have q11 : ((M.1 40 7) - (1 : Int32)).toInt = (M.1 40 7).toInt - (1 : Int) := sub_ti rfl rfl (by omega) (by omega)
      have f12 : (M1.1 40 7).toInt = ((M.1 40 7) - (1 : Int32)).toInt := by rw [e8, si_eq]
      clear e8
      refine inb_i (by omega) (by omega) ?_
      exact ⟨((M1.1 44 (M1.1 40 7).toNatClampNeg), M1), rfl, hJ9, hG10⟩
    · have c13 := c
      have d14 : (40 : Int) < (M.1 40 7).toInt := nlei.mp c13
      exact ⟨((0 : Int32), M), rfl, hJ, Gc_r⟩
end
section
/-! safety of the class, 10 -/
theorem sf_Law_joined (v0 : Int32) (v1 : Int32) (v2 : Int32) : ∃ r : Int32, f_Law_joined v0 v1 v2 = some r ∧ (True) := by
  unfold f_Law_joined
  refine if_i (fun c => ?_) (fun c => ?_)
  · have c1 := c
    have d2 : v1.toInt = (42 : Int) := eqi.mp c1
    exact ⟨(v0 * v2), rfl, trivial⟩
  · have c3 := c
    have d4 : ¬ v1.toInt = (42 : Int) := neqi.mp c3
    refine if_i (fun c => ?_) (fun c => ?_)
    · have c5 := c
      have d6 : v1.toInt = (43 : Int) := eqi.mp c5
      exact ⟨(v0 + v2), rfl, trivial⟩
    · have c7 := c
      have d8 : ¬ v1.toInt = (43 : Int) := neqi.mp c7
      refine if_i (fun c => ?_) (fun c => ?_)
      · have c9 := c
        have d10 : v1.toInt = (45 : Int) := eqi.mp c9
        exact ⟨(v0 - v2), rfl, trivial⟩
      · have c11 := c
        have d12 : ¬ v1.toInt = (45 : Int) := neqi.mp c11
        refine if_i (fun c => ?_) (fun c => ?_)
        · have c13 := c
          have d14 : v1.toInt = (47 : Int) := eqi.mp c13
          refine if_i (fun c => ?_) (fun c => ?_)
          · have c15 := c
            have d16 : v2.toInt = (0 : Int) := eqi.mp c15
            exact ⟨(0 : Int32), rfl, trivial⟩
          · have c17 := c
            have d18 : ¬ v2.toInt = (0 : Int) := neqi.mp c17
            refine z_i (nz2_of (by omega)) ?_
            exact ⟨(v0 / v2), rfl, trivial⟩
        · have c19 := c
          have d20 : ¬ v1.toInt = (47 : Int) := neqi.mp c19
          refine if_i (fun c => ?_) (fun c => ?_)
          · have c21 := c
            have d22 : v1.toInt = (60 : Int) := eqi.mp c21
            refine if_i (fun c => ?_) (fun c => ?_)
            · have c23 := c
              have d24 : v2.toInt ≤ v0.toInt := lei.mp c23
              exact ⟨(0 : Int32), rfl, trivial⟩
            · have c25 := c
              have d26 : v0.toInt < v2.toInt := nlei.mp c25
              exact ⟨(1 : Int32), rfl, trivial⟩
          · have c27 := c
            have d28 : ¬ v1.toInt = (60 : Int) := neqi.mp c27
            refine if_i (fun c => ?_) (fun c => ?_)
            · have c29 := c
              have d30 : v1.toInt = (61 : Int) := eqi.mp c29
              refine if_i (fun c => ?_) (fun c => ?_)
              · have c31 := c
                have d32 : v0.toInt = v2.toInt := eqi.mp c31
                exact ⟨(1 : Int32), rfl, trivial⟩
              · have c33 := c
                have d34 : ¬ v0.toInt = v2.toInt := neqi.mp c33
                exact ⟨(0 : Int32), rfl, trivial⟩
            · have c35 := c
              have d36 : ¬ v1.toInt = (61 : Int) := neqi.mp c35
              refine if_i (fun c => ?_) (fun c => ?_)
              · have c37 := c
                have d38 : v1.toInt = (62 : Int) := eqi.mp c37
                refine if_i (fun c => ?_) (fun c => ?_)
                · have c39 := c
                  have d40 : v0.toInt ≤ v2.toInt := lei.mp c39
                  exact ⟨(0 : Int32), rfl, trivial⟩
                · have c41 := c
                  have d42 : v2.toInt < v0.toInt := nlei.mp c41
                  exact ⟨(1 : Int32), rfl, trivial⟩
              · have c43 := c
                have d44 : ¬ v1.toInt = (62 : Int) := neqi.mp c43
                exact ⟨(0 : Int32), rfl, trivial⟩
theorem sf_Law_work (v1 : Int32) (M : Mem) (hJ : J M) : ∃ r : Mem, f_Law_work v1 M = some r ∧ (J r ∧ Gc 0 M r) := by
  unfold f_Law_work
  refine bind_i (sf_Law_pop M hJ) (fun x1 _ q => ?_)
  obtain ⟨h1, h2⟩ := q
  have hG3 : Gc 0 M x1.2 := Gc_t Gc_r h2
  refine if_i (fun c => ?_) (fun c => ?_)
  · have c4 := c
    have d5 : v1.toInt = (256 : Int) := eqi.mp c4
    refine bind_i (sf_Law_push (-x1.1) x1.2 h1) (fun x5 _ q => ?_)
    obtain ⟨h6, h7⟩ := q
    have hG8 : Gc 0 M x5 := Gc_t hG3 h7
    exact ⟨x5, rfl, h6, hG8⟩
  · have c9 := c
    have d10 : ¬ v1.toInt = (256 : Int) := neqi.mp c9
    refine bind_i (sf_Law_pop x1.2 h1) (fun x2 _ q => ?_)
    obtain ⟨h11, h12⟩ := q
    have hG13 : Gc 0 M x2.2 := Gc_t hG3 h12
    refine bind_i (sf_Law_joined x2.1 v1 x1.1) (fun x3 _ q => ?_)
    refine bind_i (sf_Law_push x3 x2.2 h11) (fun x4 _ q => ?_)
    obtain ⟨h14, h15⟩ := q
    have hG16 : Gc 0 M x4 := Gc_t hG13 h15
    exact ⟨x4, rfl, h14, hG16⟩
theorem sl_Law_goes_28 (v1 : Int32) (v2 : Nat) (a0_ : Int32) (N_ : Mem) (B_ : Mem) (hp_v1 : (0 : Int) ≤ v1.toInt ∧ v1.toInt ≤ (7 : Int)) (hk_v2 : kd v2 = 10 + 7) (hN : J N_) (hG : Gc 0 B_ N_) (i2_ : (0 : Int) ≤ a0_.toInt) (i3_ : a0_.toInt ≤ (40 : Int)) : ∃ x, iter (lb_Law_goes_28 v1 v2) FU (a0_, N_) = some x ∧ (fun r : Mem => J r ∧ Gc 0 B_ r) x := by
  refine iter_r (fun s : Int32 × Mem => J s.2 ∧ Gc 0 B_ s.2 ∧ (0 : Int) ≤ s.1.toInt ∧ s.1.toInt ≤ (40 : Int)) (fun s : Int32 × Mem => (40 - s.1.toInt).toNat) (fun r : Mem => J r ∧ Gc 0 B_ r) ?_ FU (a0_, N_) ⟨hN, hG, i2_, i3_⟩ (by show (40 - a0_.toInt).toNat < FU; rw [FU_v]; omega)
  clear i3_ i2_ hG hN
  rintro ⟨a0_', N_'⟩ ⟨hN, hG, i2_, i3_⟩
  dsimp only at hN hG i2_ i3_
  unfold lb_Law_goes_28
  dsimp only
  refine if_i (fun c => ?_) (fun c => ?_)
  · have c1 := c
    have d2 : (N_'.1 40 4).toInt ≤ a0_'.toInt := lei.mp c1
    exact ⟨_, rfl, hN, hG⟩
  · have c3 := c
    have d4 : a0_'.toInt < (N_'.1 40 4).toInt := nlei.mp c3
    refine if_i (fun c => ?_) (fun c => ?_)
    · have c5 := c
      have d6 : (40 : Int) ≤ a0_'.toInt := lei.mp c5
      exact ⟨_, rfl, hN, hG⟩
    · have c7 := c
      have d8 : a0_'.toInt < (40 : Int) := nlei.mp c7
      refine inb_i (by omega) (by omega) ?_
      refine if_i (fun c => ?_) (fun c => ?_)
      · have c9 := c
        have d10 : (N_'.1 41 a0_'.toNatClampNeg).toInt < (0 : Int) := lti.mp c9
        refine bind_i (sf_Law_isQuality (-(N_'.1 41 a0_'.toNatClampNeg))) (fun x2 _ q => ?_)
        obtain ⟨h11, h12⟩ := q
        refine if_i (fun c => ?_) (fun c => ?_)
        · have c13 := c
          have d14 : x2.toInt = (0 : Int) := eqi.mp c13
          refine bind_i (sf_Law_work (-(N_'.1 41 a0_'.toNatClampNeg)) N_' hN) (fun x3 _ q => ?_)
          obtain ⟨h15, h16⟩ := q
          have hG17 : Gc 0 B_ x3 := Gc_t hG h16
          have q18 : (a0_' + (1 : Int32)).toInt = a0_'.toInt + (1 : Int) := add_ti rfl rfl (by omega) (by omega)
          exact ⟨_, rfl, ⟨h15, hG17, (show (0 : Int) ≤ (a0_' + (1 : Int32)).toInt by omega), (show (a0_' + (1 : Int32)).toInt ≤ (40 : Int) by omega)⟩, show (40 - (a0_' + (1 : Int32)).toInt).toNat < (40 - a0_'.toInt).toNat by omega⟩
        · have c19 := c
          have d20 : ¬ x2.toInt = (0 : Int) := neqi.mp c19
          refine bind_i (sf_Law_quality (-(N_'.1 41 a0_'.toNatClampNeg)) v1 v2 N_' (⟨show (0 : Int) ≤ v1.toInt by omega, show v1.toInt ≤ (7 : Int) by omega⟩) hk_v2 hN) (fun x4 _ q => ?_)
          refine bind_i (sf_Law_push x4 N_' hN) (fun x5 _ q => ?_)
          obtain ⟨h21, h22⟩ := q
          have hG23 : Gc 0 B_ x5 := Gc_t hG h22
          have q24 : (a0_' + (1 : Int32)).toInt = a0_'.toInt + (1 : Int) := add_ti rfl rfl (by omega) (by omega)
          exact ⟨_, rfl, ⟨h21, hG23, (show (0 : Int) ≤ (a0_' + (1 : Int32)).toInt by omega), (show (a0_' + (1 : Int32)).toInt ≤ (40 : Int) by omega)⟩, show (40 - (a0_' + (1 : Int32)).toInt).toNat < (40 - a0_'.toInt).toNat by omega⟩
      · have c25 := c
        have d26 : (0 : Int) ≤ (N_'.1 41 a0_'.toNatClampNeg).toInt := nlti.mp c25
        refine bind_i (sf_Law_push (N_'.1 41 a0_'.toNatClampNeg) N_' hN) (fun x7 _ q => ?_)
        obtain ⟨h27, h28⟩ := q
        have hG29 : Gc 0 B_ x7 := Gc_t hG h28
        have q30 : (a0_' + (1 : Int32)).toInt = a0_'.toInt + (1 : Int) := add_ti rfl rfl (by omega) (by omega)
        exact ⟨_, rfl, ⟨h27, hG29, (show (0 : Int) ≤ (a0_' + (1 : Int32)).toInt by omega), (show (a0_' + (1 : Int32)).toInt ≤ (40 : Int) by omega)⟩, show (40 - (a0_' + (1 : Int32)).toInt).toNat < (40 - a0_'.toInt).toNat by omega⟩
theorem sf_Law_goes (v1 : Int32) (v2 : Nat) (M : Mem) (hp_v1 : (0 : Int) ≤ v1.toInt ∧ v1.toInt ≤ (7 : Int)) (hk_v2 : kd v2 = 10 + 7) (hJ : J M) : ∃ r : Int32 × Mem, f_Law_goes v1 v2 M = some r ∧ (J r.2 ∧ Gc 0 M r.2 ∧ (0 : Int) ≤ r.1.toInt ∧ r.1.toInt ≤ (1 : Int)) := by
  unfold f_Law_goes
  refine c_i hk_v2 ?_
  refine if_i (fun c => ?_) (fun c => ?_)
  · have c1 := c
    have d2 : (M.1 v2 9).toInt = (1 : Int) := eqi.mp c1
    refine inb_i (by omega) (by omega) ?_
    refine if_i (fun c => ?_) (fun c => ?_)
    · have c3 := c
      have r4 := Jr_scene1 hJ hk_v2 v1.toNatClampNeg
      have d5 : (M.1 (rf v2 1) v1.toNatClampNeg).toInt = (1 : Int) := eqi.mp c3
      exact ⟨((0 : Int32), M), rfl, hJ, Gc_r, (show (0 : Int) ≤ (0 : Int32).toInt by decide), (show (0 : Int32).toInt ≤ (1 : Int) by decide)⟩
    · have c6 := c
      have r7 := Jr_scene1 hJ hk_v2 v1.toNatClampNeg
      have d8 : ¬ (M.1 (rf v2 1) v1.toNatClampNeg).toInt = (1 : Int) := neqi.mp c6
      refine mem_i (fun M15 e10 => ?_)
      have hJ11 : J M15 := by rw [e10]; exact Jw_any ok_40 hJ 7 (0 : Int32)
      have hG12 : Gc 0 M M15 := Gc_i Gc_r e10 (by decide)
      have f13 : (M15.1 40 7).toInt = (0 : Int) := by rw [e10, si_eq]; rfl
      clear e10
      refine bind_i (sl_Law_goes_28 v1 v2 (0 : Int32) M15 M (⟨show (0 : Int) ≤ v1.toInt by omega, show v1.toInt ≤ (7 : Int) by omega⟩) hk_v2 hJ11 hG12 (show (0 : Int) ≤ (0 : Int32).toInt by decide) (show (0 : Int32).toInt ≤ (40 : Int) by decide)) (fun x16 _ q => ?_)
      obtain ⟨h14, h15⟩ := q
      unfold j_Law_goes_107
      refine if_i (fun c => ?_) (fun c => ?_)
      · have c16 := c
        have d17 : (x16.1 40 4).toInt = (0 : Int) := eqi.mp c16
        exact ⟨((1 : Int32), x16), rfl, h14, h15, (show (0 : Int) ≤ (1 : Int32).toInt by decide), (show (1 : Int32).toInt ≤ (1 : Int) by decide)⟩
      · have c18 := c
        have d19 : ¬ (x16.1 40 4).toInt = (0 : Int) := neqi.mp c18
        refine bind_i (sf_Law_pop x16 h14) (fun x12 _ q => ?_)
        obtain ⟨h20, h21⟩ := q
        have hG22 : Gc 0 M x12.2 := Gc_t h15 h21
        refine if_i (fun c => ?_) (fun c => ?_)
        · have c23 := c
          have d24 : x12.1.toInt = (0 : Int) := eqi.mp c23
          exact ⟨((0 : Int32), x12.2), rfl, h20, hG22, (show (0 : Int) ≤ (0 : Int32).toInt by decide), (show (0 : Int32).toInt ≤ (1 : Int) by decide)⟩
        · have c25 := c
          have d26 : ¬ x12.1.toInt = (0 : Int) := neqi.mp c25
          exact ⟨((1 : Int32), x12.2), rfl, h20, hG22, (show (0 : Int) ≤ (1 : Int32).toInt by decide), (show (1 : Int32).toInt ≤ (1 : Int) by decide)⟩
  · have c27 := c
    have d28 : ¬ (M.1 v2 9).toInt = (1 : Int) := neqi.mp c27
    refine mem_i (fun M1 e30 => ?_)
    have hJ31 : J M1 := by rw [e30]; exact Jw_any ok_40 hJ 7 (0 : Int32)
    have hG32 : Gc 0 M M1 := Gc_i Gc_r e30 (by decide)
    have f33 : (M1.1 40 7).toInt = (0 : Int) := by rw [e30, si_eq]; rfl
    clear e30
    refine bind_i (sl_Law_goes_28 v1 v2 (0 : Int32) M1 M (⟨show (0 : Int) ≤ v1.toInt by omega, show v1.toInt ≤ (7 : Int) by omega⟩) hk_v2 hJ31 hG32 (show (0 : Int) ≤ (0 : Int32).toInt by decide) (show (0 : Int32).toInt ≤ (40 : Int) by decide)) (fun x11 _ q => ?_)
    obtain ⟨h34, h35⟩ := q
    unfold j_Law_goes_107
    refine if_i (fun c => ?_) (fun c => ?_)
    · have c36 := c
      have d37 : (x11.1 40 4).toInt = (0 : Int) := eqi.mp c36
      exact ⟨((1 : Int32), x11), rfl, h34, h35, (show (0 : Int) ≤ (1 : Int32).toInt by decide), (show (1 : Int32).toInt ≤ (1 : Int) by decide)⟩
    · have c38 := c
      have d39 : ¬ (x11.1 40 4).toInt = (0 : Int) := neqi.mp c38
      refine bind_i (sf_Law_pop x11 h34) (fun x12 _ q => ?_)
      obtain ⟨h40, h41⟩ := q
      have hG42 : Gc 0 M x12.2 := Gc_t h35 h41
      refine if_i (fun c => ?_) (fun c => ?_)
      · have c43 := c
        have d44 : x12.1.toInt = (0 : Int) := eqi.mp c43
        exact ⟨((0 : Int32), x12.2), rfl, h40, hG42, (show (0 : Int) ≤ (0 : Int32).toInt by decide), (show (0 : Int32).toInt ≤ (1 : Int) by decide)⟩
      · have c45 := c
        have d46 : ¬ x12.1.toInt = (0 : Int) := neqi.mp c45
        exact ⟨((1 : Int32), x12.2), rfl, h40, hG42, (show (0 : Int) ≤ (1 : Int32).toInt by decide), (show (1 : Int32).toInt ≤ (1 : Int) by decide)⟩
theorem sf_Clock_move (v1 : Int32) (v2 : Nat) (v4 : Nat) (M : Mem) (hp_v1 : (0 : Int) ≤ v1.toInt ∧ v1.toInt ≤ (7 : Int)) (hk_v2 : kd v2 = 10 + 7) (hk_v4 : kd v4 = 10 + 6) (hJ : J M) : ∃ r : Mem, f_Clock_move v1 v2 v4 M = some r ∧ (J r ∧ Gc 0 M r) := by
  unfold f_Clock_move
  refine c_i hk_v2 ?_
  refine c_i hk_v4 ?_
  refine inb_i (by omega) (by omega) ?_
  refine bind_i (sf_Crowd_stepAt v1 (M.1 (rf v2 2) v1.toNatClampNeg) M hJ) (fun x1 _ q => ?_)
  refine inb_i (by omega) (by omega) ?_
  refine inb_i (by omega) (by omega) ?_
  have r1 := Jr_scene0 hJ hk_v2 v1.toNatClampNeg
  refine bind_i (sf_Nets_toward v4 (M.1 (rf v2 1) v1.toNatClampNeg) (M.1 (rf v2 0) v1.toNatClampNeg) x1 M hk_v4 (⟨show (0 : Int) ≤ (M.1 (rf v2 0) v1.toNatClampNeg).toInt by omega, show (M.1 (rf v2 0) v1.toNatClampNeg).toInt ≤ (35 : Int) by omega⟩) hJ) (fun x2 _ q => ?_)
  obtain ⟨h2, h3⟩ := q
  refine if_i (fun c => ?_) (fun c => ?_)
  · have c4 := c
    have d5 : x2.toInt = (-1 : Int) := eqi.mp c4
    unfold j_Clock_move_71
    refine inb_i (by omega) (by omega) ?_
    refine bind_i (sf_Crowd_placeBehind v1 (M.1 (rf v2 2) v1.toNatClampNeg) M hJ) (fun x3 _ q => ?_)
    refine inb_i (by omega) (by omega) ?_
    refine mem_i (fun M4 e7 => ?_)
    have hJ8 : J M4 := by rw [e7]; exact Jw_scene2 hJ hk_v2 v1.toNatClampNeg x3
    have hG9 : Gc 0 M M4 := Gc_i Gc_r e7 (cl_scene2 hk_v2)
    clear e7
    exact ⟨M4, rfl, hJ8, hG9⟩
  · have c10 := c
    have d11 : ¬ x2.toInt = (-1 : Int) := neqi.mp c10
    refine inb_i (by omega) (by omega) ?_
    refine if_i (fun c => ?_) (fun c => ?_)
    · have c12 := c
      have d13 : x2.toInt = (M.1 (rf v2 0) v1.toNatClampNeg).toInt := eqi.mp c12
      unfold j_Clock_move_71
      refine inb_i (by omega) (by omega) ?_
      refine bind_i (sf_Crowd_placeBehind v1 (M.1 (rf v2 2) v1.toNatClampNeg) M hJ) (fun x3 _ q => ?_)
      refine inb_i (by omega) (by omega) ?_
      refine mem_i (fun M4 e15 => ?_)
      have hJ16 : J M4 := by rw [e15]; exact Jw_scene2 hJ hk_v2 v1.toNatClampNeg x3
      have hG17 : Gc 0 M M4 := Gc_i Gc_r e15 (cl_scene2 hk_v2)
      clear e15
      exact ⟨M4, rfl, hJ16, hG17⟩
    · have c18 := c
      have d19 : ¬ x2.toInt = (M.1 (rf v2 0) v1.toNatClampNeg).toInt := neqi.mp c18
      refine inb_i (by omega) (by omega) ?_
      refine mem_i (fun M5 e21 => ?_)
      have hJ22 : J M5 := by rw [e21]; exact Jw_scene0 hJ hk_v2 v1.toNatClampNeg x2 (show (0 : Int) ≤ x2.toInt by omega) (show x2.toInt ≤ (35 : Int) by omega)
      have hG23 : Gc 0 M M5 := Gc_i Gc_r e21 (cl_scene0 hk_v2)
      have f24 : (M5.1 (rf v2 0) v1.toNatClampNeg).toInt = x2.toInt := by rw [e21, si_eq]
      clear e21
      refine mem_i (fun M6 e26 => ?_)
      have hJ27 : J M6 := by rw [e26]; exact Jw_any ok_45 hJ22 0 ((M5.1 45 0) ||| ((1 : Int32) <<< (v1 &&& 31)))
      have hG28 : Gc 0 M M6 := Gc_i hG23 e26 (by decide)
      clear e26
      unfold j_Clock_move_71
      refine inb_i (by omega) (by omega) ?_
      refine bind_i (sf_Crowd_placeBehind v1 (M6.1 (rf v2 2) v1.toNatClampNeg) M6 hJ27) (fun x3 _ q => ?_)
      refine inb_i (by omega) (by omega) ?_
      refine mem_i (fun M4 e30 => ?_)
      have hJ31 : J M4 := by rw [e30]; exact Jw_scene2 hJ27 hk_v2 v1.toNatClampNeg x3
      have hG32 : Gc 0 M M4 := Gc_i hG28 e30 (cl_scene2 hk_v2)
      clear e30
      exact ⟨M4, rfl, hJ31, hG32⟩
theorem sl_Clock_greet_26 (v1 : Int32) (v2 : Nat) (a0_ : Int32) (N_ : Mem) (B_ : Mem) (hp_v1 : (0 : Int) ≤ v1.toInt ∧ v1.toInt ≤ (7 : Int)) (hk_v2 : kd v2 = 10 + 7) (hN : J N_) (hG : Gc 0 B_ N_) (i2_ : (0 : Int) ≤ a0_.toInt) (i3_ : a0_.toInt ≤ (8 : Int)) : ∃ x, iter (lb_Clock_greet_26 v1 v2) FU (a0_, N_) = some x ∧ (fun r : Mem => J r ∧ Gc 0 B_ r) x := by
  refine iter_r (fun s : Int32 × Mem => J s.2 ∧ Gc 0 B_ s.2 ∧ (0 : Int) ≤ s.1.toInt ∧ s.1.toInt ≤ (8 : Int)) (fun s : Int32 × Mem => (8 - s.1.toInt).toNat) (fun r : Mem => J r ∧ Gc 0 B_ r) ?_ FU (a0_, N_) ⟨hN, hG, i2_, i3_⟩ (by show (8 - a0_.toInt).toNat < FU; rw [FU_v]; omega)
  clear i3_ i2_ hG hN
  rintro ⟨a0_', N_'⟩ ⟨hN, hG, i2_, i3_⟩
  dsimp only at hN hG i2_ i3_
  unfold lb_Clock_greet_26
  dsimp only
  refine if_i (fun c => ?_) (fun c => ?_)
  · have c1 := c
    have r2 := Jr_6_4 hN
    have d3 : (N_'.1 6 4).toInt ≤ a0_'.toInt := lei.mp c1
    exact ⟨_, rfl, hN, hG⟩
  · have c4 := c
    have r5 := Jr_6_4 hN
    have d6 : a0_'.toInt < (N_'.1 6 4).toInt := nlei.mp c4
    refine bind_i (sf_Crowd_woman a0_' N_' hN) (fun x3 _ q => ?_)
    obtain ⟨h7, h8⟩ := q
    refine if_i (fun c => ?_) (fun c => ?_)
    · have c9 := c
      have d10 : x3.toInt = (0 : Int) := eqi.mp c9
      have q11 : (a0_' + (1 : Int32)).toInt = a0_'.toInt + (1 : Int) := add_ti rfl rfl (by omega) (by omega)
      exact ⟨_, rfl, ⟨hN, hG, (show (0 : Int) ≤ (a0_' + (1 : Int32)).toInt by omega), (show (a0_' + (1 : Int32)).toInt ≤ (8 : Int) by omega)⟩, show (8 - (a0_' + (1 : Int32)).toInt).toNat < (8 - a0_'.toInt).toNat by omega⟩
    · have c12 := c
      have d13 : ¬ x3.toInt = (0 : Int) := neqi.mp c12
      refine inb_i (by omega) (by omega) ?_
      refine inb_i (by omega) (by omega) ?_
      refine if_i (fun c => ?_) (fun c => ?_)
      · have c14 := c
        have r15 := Jr_scene0 hN hk_v2 a0_'.toNatClampNeg
        have r16 := Jr_scene0 hN hk_v2 v1.toNatClampNeg
        have d17 : (N_'.1 (rf v2 0) a0_'.toNatClampNeg).toInt = (N_'.1 (rf v2 0) v1.toNatClampNeg).toInt := eqi.mp c14
        refine bind_i (sf_Scene_addMeeting v2 v1 a0_' N_' hk_v2 (⟨show (0 : Int) ≤ v1.toInt by omega, show v1.toInt ≤ (7 : Int) by omega⟩) (⟨show (0 : Int) ≤ a0_'.toInt by omega, show a0_'.toInt ≤ (7 : Int) by omega⟩) hN) (fun x4 _ q => ?_)
        obtain ⟨h18, h19⟩ := q
        have hG20 : Gc 0 B_ x4 := Gc_t hG h19
        refine mem_i (fun M5 e22 => ?_)
        have hJ23 : J M5 := by rw [e22]; exact Jw_any ok_45 h18 2 ((x4.1 45 2) + (1 : Int32))
        have hG24 : Gc 0 B_ M5 := Gc_i hG20 e22 (by decide)
        clear e22
        have q25 : (a0_' + (1 : Int32)).toInt = a0_'.toInt + (1 : Int) := add_ti rfl rfl (by omega) (by omega)
        exact ⟨_, rfl, ⟨hJ23, hG24, (show (0 : Int) ≤ (a0_' + (1 : Int32)).toInt by omega), (show (a0_' + (1 : Int32)).toInt ≤ (8 : Int) by omega)⟩, show (8 - (a0_' + (1 : Int32)).toInt).toNat < (8 - a0_'.toInt).toNat by omega⟩
      · have c26 := c
        have r27 := Jr_scene0 hN hk_v2 a0_'.toNatClampNeg
        have r28 := Jr_scene0 hN hk_v2 v1.toNatClampNeg
        have d29 : ¬ (N_'.1 (rf v2 0) a0_'.toNatClampNeg).toInt = (N_'.1 (rf v2 0) v1.toNatClampNeg).toInt := neqi.mp c26
        have q30 : (a0_' + (1 : Int32)).toInt = a0_'.toInt + (1 : Int) := add_ti rfl rfl (by omega) (by omega)
        exact ⟨_, rfl, ⟨hN, hG, (show (0 : Int) ≤ (a0_' + (1 : Int32)).toInt by omega), (show (a0_' + (1 : Int32)).toInt ≤ (8 : Int) by omega)⟩, show (8 - (a0_' + (1 : Int32)).toInt).toNat < (8 - a0_'.toInt).toNat by omega⟩
theorem sf_Clock_greet (v1 : Int32) (v2 : Nat) (M : Mem) (hp_v1 : (0 : Int) ≤ v1.toInt ∧ v1.toInt ≤ (7 : Int)) (hk_v2 : kd v2 = 10 + 7) (hJ : J M) : ∃ r : Mem, f_Clock_greet v1 v2 M = some r ∧ (J r ∧ Gc 0 M r) := by
  unfold f_Clock_greet
  refine c_i hk_v2 ?_
  refine bind_i (sf_Crowd_woman v1 M hJ) (fun x1 _ q => ?_)
  obtain ⟨h1, h2⟩ := q
  refine if_i (fun c => ?_) (fun c => ?_)
  · have c3 := c
    have d4 : x1.toInt = (0 : Int) := eqi.mp c3
    refine inb_i (by omega) (by omega) ?_
    have r5 := Jr_scene0 hJ hk_v2 v1.toNatClampNeg
    refine bind_i (sf_Ground_isStair (M.1 (rf v2 0) v1.toNatClampNeg) M hJ) (fun x2 _ q => ?_)
    obtain ⟨h6, h7, h8⟩ := q
    refine if_i (fun c => ?_) (fun c => ?_)
    · have c9 := c
      have d10 : x2.toInt = (0 : Int) := eqi.mp c9
      exact ⟨M, rfl, hJ, Gc_r⟩
    · have c11 := c
      have d12 : ¬ x2.toInt = (0 : Int) := neqi.mp c11
      refine bind_i (sl_Clock_greet_26 v1 v2 (0 : Int32) M M (⟨show (0 : Int) ≤ v1.toInt by omega, show v1.toInt ≤ (7 : Int) by omega⟩) hk_v2 hJ Gc_r (show (0 : Int) ≤ (0 : Int32).toInt by decide) (show (0 : Int32).toInt ≤ (8 : Int) by decide)) (fun x9 _ q => ?_)
      obtain ⟨h13, h14⟩ := q
      exact ⟨x9, rfl, h13, h14⟩
  · have c15 := c
    have d16 : ¬ x1.toInt = (0 : Int) := neqi.mp c15
    exact ⟨M, rfl, hJ, Gc_r⟩
theorem sl_Clock_hearers_68 (v2 : Nat) (v5 : Int32) (M : Mem) (a0_ : Int32) (a1_ : Int32) (hk_v2 : kd v2 = 10 + 7) (hp_v5 : (0 : Int) ≤ v5.toInt ∧ v5.toInt ≤ (35 : Int)) (hJ_M : J M) (i0_ : (0 : Int) ≤ a1_.toInt) (i1_ : a1_.toInt ≤ (4 : Int)) : ∃ x, iter (lb_Clock_hearers_68 v2 v5 M) FU (a0_, a1_) = some x ∧ (fun r : Int32 => True) x := by
  refine iter_r (fun s : Int32 × Int32 => (0 : Int) ≤ s.2.toInt ∧ s.2.toInt ≤ (4 : Int)) (fun s : Int32 × Int32 => (4 - s.2.toInt).toNat) (fun r : Int32 => True) ?_ FU (a0_, a1_) ⟨i0_, i1_⟩ (by show (4 - a1_.toInt).toNat < FU; rw [FU_v]; omega)
  clear i1_ i0_
  rintro ⟨a0_', a1_'⟩ ⟨i0_, i1_⟩
  dsimp only at i0_ i1_
  unfold lb_Clock_hearers_68
  dsimp only
  refine if_i (fun c => ?_) (fun c => ?_)
  · have c1 := c
    have d2 : (4 : Int) ≤ a1_'.toInt := lei.mp c1
    exact ⟨_, rfl, trivial⟩
  · have c3 := c
    have d4 : a1_'.toInt < (4 : Int) := nlei.mp c3
    refine bind_i (sf_Ground_beside v5 a1_' M hJ_M) (fun x3 _ q => ?_)
    obtain ⟨h5, h6, h7⟩ := q
    have r8 := Jr_6_4 hJ_M
    refine bind_i (sf_Scene_standing v2 (0 : Int32) x3 (M.1 6 4) M hk_v2 (⟨show (0 : Int) ≤ (M.1 6 4).toInt by omega, show (M.1 6 4).toInt ≤ (8 : Int) by omega⟩) hJ_M) (fun x4 _ q => ?_)
    have q9 : (a1_' + (1 : Int32)).toInt = a1_'.toInt + (1 : Int) := add_ti rfl rfl (by omega) (by omega)
    exact ⟨_, rfl, ⟨(show (0 : Int) ≤ (a1_' + (1 : Int32)).toInt by omega), (show (a1_' + (1 : Int32)).toInt ≤ (4 : Int) by omega)⟩, show (4 - (a1_' + (1 : Int32)).toInt).toNat < (4 - a1_'.toInt).toNat by omega⟩
theorem sf_Clock_hearers (v1 : Int32) (v2 : Nat) (M : Mem) (hp_v1 : (0 : Int) ≤ v1.toInt ∧ v1.toInt ≤ (7 : Int)) (hk_v2 : kd v2 = 10 + 7) (hJ : J M) : ∃ r : Int32, f_Clock_hearers v1 v2 M = some r ∧ (True) := by
  unfold f_Clock_hearers
  refine c_i hk_v2 ?_
  refine inb_i (by omega) (by omega) ?_
  refine inb_i (by omega) (by omega) ?_
  have r1 := Jr_6_4 hJ
  refine bind_i (sf_Scene_standing v2 (M.1 (rf v2 1) v1.toNatClampNeg) (M.1 (rf v2 0) v1.toNatClampNeg) (M.1 6 4) M hk_v2 (⟨show (0 : Int) ≤ (M.1 6 4).toInt by omega, show (M.1 6 4).toInt ≤ (8 : Int) by omega⟩) hJ) (fun x1 _ q => ?_)
  have r2 := Jr_scene0 hJ hk_v2 v1.toNatClampNeg
  refine bind_i (sf_Ground_isStair (M.1 (rf v2 0) v1.toNatClampNeg) M hJ) (fun x2 _ q => ?_)
  obtain ⟨h3, h4, h5⟩ := q
  refine if_i (fun c => ?_) (fun c => ?_)
  · have c6 := c
    have d7 : x2.toInt = (0 : Int) := eqi.mp c6
    unfold j_Clock_hearers_59
    refine if_i (fun c => ?_) (fun c => ?_)
    · have c8 := c
      have r9 := Jr_scene1 hJ hk_v2 v1.toNatClampNeg
      have d10 : (M.1 (rf v2 1) v1.toNatClampNeg).toInt = (1 : Int) := eqi.mp c8
      refine bind_i (sl_Clock_hearers_68 v2 (M.1 (rf v2 0) v1.toNatClampNeg) M x1 (0 : Int32) hk_v2 (⟨show (0 : Int) ≤ (M.1 (rf v2 0) v1.toNatClampNeg).toInt by omega, show (M.1 (rf v2 0) v1.toNatClampNeg).toInt ≤ (35 : Int) by omega⟩) hJ (show (0 : Int) ≤ (0 : Int32).toInt by decide) (show (0 : Int32).toInt ≤ (4 : Int) by decide)) (fun x6 _ q => ?_)
      exact ⟨x6, rfl, trivial⟩
    · have c11 := c
      have r12 := Jr_scene1 hJ hk_v2 v1.toNatClampNeg
      have d13 : ¬ (M.1 (rf v2 1) v1.toNatClampNeg).toInt = (1 : Int) := neqi.mp c11
      exact ⟨x1, rfl, trivial⟩
  · have c14 := c
    have d15 : ¬ x2.toInt = (0 : Int) := neqi.mp c14
    refine bind_i (sf_Scene_standing v2 ((1 : Int32) - (M.1 (rf v2 1) v1.toNatClampNeg)) (M.1 (rf v2 0) v1.toNatClampNeg) (M.1 6 4) M hk_v2 (⟨show (0 : Int) ≤ (M.1 6 4).toInt by omega, show (M.1 6 4).toInt ≤ (8 : Int) by omega⟩) hJ) (fun x8 _ q => ?_)
    unfold j_Clock_hearers_59
    refine if_i (fun c => ?_) (fun c => ?_)
    · have c16 := c
      have r17 := Jr_scene1 hJ hk_v2 v1.toNatClampNeg
      have d18 : (M.1 (rf v2 1) v1.toNatClampNeg).toInt = (1 : Int) := eqi.mp c16
      refine bind_i (sl_Clock_hearers_68 v2 (M.1 (rf v2 0) v1.toNatClampNeg) M (x1 ||| x8) (0 : Int32) hk_v2 (⟨show (0 : Int) ≤ (M.1 (rf v2 0) v1.toNatClampNeg).toInt by omega, show (M.1 (rf v2 0) v1.toNatClampNeg).toInt ≤ (35 : Int) by omega⟩) hJ (show (0 : Int) ≤ (0 : Int32).toInt by decide) (show (0 : Int32).toInt ≤ (4 : Int) by decide)) (fun x6 _ q => ?_)
      exact ⟨x6, rfl, trivial⟩
    · have c19 := c
      have r20 := Jr_scene1 hJ hk_v2 v1.toNatClampNeg
      have d21 : ¬ (M.1 (rf v2 1) v1.toNatClampNeg).toInt = (1 : Int) := neqi.mp c19
      exact ⟨(x1 ||| x8), rfl, trivial⟩
theorem sl_Clock_pass_8 (v1 : Nat) (v5 : Nat) (a0_ : Int32) (N_ : Mem) (B_ : Mem) (hk_v1 : kd v1 = 10 + 7) (hk_v5 : kd v5 = 10 + 6) (hN : J N_) (hG : Gc 0 B_ N_) (i2_ : (0 : Int) ≤ a0_.toInt) (i3_ : a0_.toInt ≤ (8 : Int)) : ∃ x, iter (lb_Clock_pass_8 v1 v5) FU (a0_, N_) = some x ∧ (fun r : Mem => J r ∧ Gc 0 B_ r) x := by
  refine iter_r (fun s : Int32 × Mem => J s.2 ∧ Gc 0 B_ s.2 ∧ (0 : Int) ≤ s.1.toInt ∧ s.1.toInt ≤ (8 : Int)) (fun s : Int32 × Mem => (8 - s.1.toInt).toNat) (fun r : Mem => J r ∧ Gc 0 B_ r) ?_ FU (a0_, N_) ⟨hN, hG, i2_, i3_⟩ (by show (8 - a0_.toInt).toNat < FU; rw [FU_v]; omega)
  clear i3_ i2_ hG hN
  rintro ⟨a0_', N_'⟩ ⟨hN, hG, i2_, i3_⟩
  dsimp only at hN hG i2_ i3_
  unfold lb_Clock_pass_8
  dsimp only
  refine if_i (fun c => ?_) (fun c => ?_)
  · have c1 := c
    have r2 := Jr_6_4 hN
    have d3 : (N_'.1 6 4).toInt ≤ a0_'.toInt := lei.mp c1
    exact ⟨_, rfl, hN, hG⟩
  · have c4 := c
    have r5 := Jr_6_4 hN
    have d6 : a0_'.toInt < (N_'.1 6 4).toInt := nlei.mp c4
    refine bind_i (sf_Law_goes a0_' v1 N_' (⟨show (0 : Int) ≤ a0_'.toInt by omega, show a0_'.toInt ≤ (7 : Int) by omega⟩) hk_v1 hN) (fun x2 _ q => ?_)
    obtain ⟨h7, h8, h9, h10⟩ := q
    have hG11 : Gc 0 B_ x2.2 := Gc_t hG h8
    refine if_i (fun c => ?_) (fun c => ?_)
    · have c12 := c
      have d13 : x2.1.toInt = (0 : Int) := eqi.mp c12
      have q14 : (a0_' + (1 : Int32)).toInt = a0_'.toInt + (1 : Int) := add_ti rfl rfl (by omega) (by omega)
      exact ⟨_, rfl, ⟨h7, hG11, (show (0 : Int) ≤ (a0_' + (1 : Int32)).toInt by omega), (show (a0_' + (1 : Int32)).toInt ≤ (8 : Int) by omega)⟩, show (8 - (a0_' + (1 : Int32)).toInt).toNat < (8 - a0_'.toInt).toNat by omega⟩
    · have c15 := c
      have d16 : ¬ x2.1.toInt = (0 : Int) := neqi.mp c15
      refine bind_i (sf_Clock_move a0_' v1 v5 x2.2 (⟨show (0 : Int) ≤ a0_'.toInt by omega, show a0_'.toInt ≤ (7 : Int) by omega⟩) hk_v1 hk_v5 h7) (fun x3 _ q => ?_)
      obtain ⟨h17, h18⟩ := q
      have hG19 : Gc 0 B_ x3 := Gc_t hG11 h18
      have q20 : (a0_' + (1 : Int32)).toInt = a0_'.toInt + (1 : Int) := add_ti rfl rfl (by omega) (by omega)
      exact ⟨_, rfl, ⟨h17, hG19, (show (0 : Int) ≤ (a0_' + (1 : Int32)).toInt by omega), (show (a0_' + (1 : Int32)).toInt ≤ (8 : Int) by omega)⟩, show (8 - (a0_' + (1 : Int32)).toInt).toNat < (8 - a0_'.toInt).toNat by omega⟩
end
