/-! safety of the class, 6 -/
theorem sf_Scene_allMeetings (v0 : Nat) (M : Mem) (hk_v0 : kd v0 = 10 + 7) (hJ : J M) : ∃ r : Int32, f_Scene_allMeetings v0 M = some r ∧ (True) := by
  unfold f_Scene_allMeetings
  refine c_i hk_v0 ?_
  refine bind_i (sl_Scene_allMeetings_4 v0 M (0 : Int32) (0 : Int32) hk_v0 hJ (show (0 : Int) ≤ (0 : Int32).toInt by decide) (show (0 : Int32).toInt ≤ (64 : Int) by decide)) (fun x2 _ q => ?_)
  exact ⟨x2, rfl, trivial⟩
theorem sf_History_forget (M : Mem) (hJ : J M) : ∃ r : Mem, f_History_forget M = some r ∧ (J r ∧ Gc 0 M r) := by
  unfold f_History_forget
  refine mem_i (fun M1 e2 => ?_)
  have hJ3 : J M1 := by rw [e2]; exact Jw_46_2 hJ (0 : Int32) (show (0 : Int) ≤ (0 : Int32).toInt by decide) (show (0 : Int32).toInt ≤ (12 : Int) by decide)
  have hG4 : Gc 0 M M1 := Gc_i Gc_r e2 (by decide)
  have f5 : (M1.1 46 2).toInt = (0 : Int) := by rw [e2, si_eq]; rfl
  clear e2
  exact ⟨M1, rfl, hJ3, hG4⟩
theorem sf_History_spoil (M : Mem) (hJ : J M) : ∃ r : Mem, f_History_spoil M = some r ∧ (J r ∧ Gc 0 M r) := by
  unfold f_History_spoil
  refine mem_i (fun M1 e2 => ?_)
  have hJ3 : J M1 := by rw [e2]; exact Jw_fld okf_46_3 hJ (0 : Int32)
  have hG4 : Gc 0 M M1 := Gc_i Gc_r e2 (by decide)
  have f5 : (M1.1 46 3).toInt = (0 : Int) := by rw [e2, si_eq]; rfl
  clear e2
  exact ⟨M1, rfl, hJ3, hG4⟩
theorem sf_History_clear (M : Mem) (hJ : J M) : ∃ r : Mem, f_History_clear M = some r ∧ (J r ∧ Gc 0 M r) := by
  unfold f_History_clear
  refine bind_i (sf_History_forget M hJ) (fun x1 _ q => ?_)
  obtain ⟨h1, h2⟩ := q
  have hG3 : Gc 0 M x1 := Gc_t Gc_r h2
  refine bind_i (sf_History_spoil x1 h1) (fun x2 _ q => ?_)
  obtain ⟨h4, h5⟩ := q
  have hG6 : Gc 0 M x2 := Gc_t hG3 h5
  exact ⟨x2, rfl, h4, hG6⟩
theorem sl_History_add_18 (v1 : Nat) (v2 : Nat) (a0_ : Int32) (N_ : Mem) (B_ : Mem) (hk_v1 : kd v1 = 10 + 7) (hk_v2 : kd v2 = 10 + 7) (hN : J N_) (hG : Gc 0 B_ N_) (i2_ : (1 : Int) ≤ a0_.toInt) (i3_ : a0_.toInt ≤ (12 : Int)) : ∃ x, iter (lb_History_add_18 v1 v2) FU (a0_, N_) = some x ∧ (fun r : Mem => J r ∧ Gc 0 B_ r) x := by
  refine iter_r (fun s : Int32 × Mem => J s.2 ∧ Gc 0 B_ s.2 ∧ (1 : Int) ≤ s.1.toInt ∧ s.1.toInt ≤ (12 : Int)) (fun s : Int32 × Mem => (12 - s.1.toInt).toNat) (fun r : Mem => J r ∧ Gc 0 B_ r) ?_ FU (a0_, N_) ⟨hN, hG, i2_, i3_⟩ (by show (12 - a0_.toInt).toNat < FU; rw [FU_v]; omega)
  clear i3_ i2_ hG hN
  rintro ⟨a0_', N_'⟩ ⟨hN, hG, i2_, i3_⟩
  dsimp only at hN hG i2_ i3_
  unfold lb_History_add_18
  dsimp only
  refine if_i (fun c => ?_) (fun c => ?_)
  · have c1 := c
    have d2 : (12 : Int) ≤ a0_'.toInt := lei.mp c1
    exact ⟨_, rfl, hN, hG⟩
  · have c3 := c
    have d4 : a0_'.toInt < (12 : Int) := nlei.mp c3
    refine inb_i (by omega) (by omega) ?_
    refine bind_i (Jq_47 hN (i := a0_') (by omega) (by omega)) (fun a5 _ hk_a5 => ?_)
    refine c_i hk_a5 ?_
    have q5 : (a0_' - (1 : Int32)).toInt = a0_'.toInt - (1 : Int) := sub_ti rfl rfl (by omega) (by omega)
    refine inb_i (by omega) (by omega) ?_
    refine mem_i (fun M6 e7 => ?_)
    have hJ8 : J M6 := by rw [e7]; exact J_sq hN hk_a5
    have hG9 : Gc 0 B_ M6 := Gc_q hG e7
    clear e7
    have q10 : (a0_' + (1 : Int32)).toInt = a0_'.toInt + (1 : Int) := add_ti rfl rfl (by omega) (by omega)
    exact ⟨_, rfl, ⟨hJ8, hG9, (show (1 : Int) ≤ (a0_' + (1 : Int32)).toInt by omega), (show (a0_' + (1 : Int32)).toInt ≤ (12 : Int) by omega)⟩, show (12 - (a0_' + (1 : Int32)).toInt).toNat < (12 - a0_'.toInt).toNat by omega⟩
theorem sf_History_add (v1 : Nat) (M : Mem) (hk_v1 : kd v1 = 10 + 7) (hJ : J M) : ∃ r : Mem, f_History_add v1 M = some r ∧ (J r ∧ Gc 0 M r) := by
  unfold f_History_add
  refine c_i hk_v1 ?_
  refine if_i (fun c => ?_) (fun c => ?_)
  · have c1 := c
    have r2 := Jr_46_2 hJ
    have d3 : (M.1 46 2).toInt < (12 : Int) := lti.mp c1
    unfold j_History_add_58
    refine inb_i (by omega) (by omega) ?_
    refine bind_i (Jq_47 hJ (i := (M.1 46 2)) (by omega) (by omega)) (fun a1 _ hk_a1 => ?_)
    refine c_i hk_a1 ?_
    refine bind_i (sf_Scene_copy a1 v1 M hk_a1 hk_v1 hJ) (fun x2 _ q => ?_)
    obtain ⟨h4, h5, h6⟩ := q
    have hG7 : Gc 0 M x2 := Gc_t Gc_r h5
    have f8 : (x2.1 46 2).toInt = (M.1 46 2).toInt := by rw [h6]
    have r10 := Jr_46_2 h4
    have q11 : ((x2.1 46 2) + (1 : Int32)).toInt = (x2.1 46 2).toInt + (1 : Int) := add_ti rfl rfl (by omega) (by omega)
    refine mem_i (fun M3 e12 => ?_)
    have hJ13 : J M3 := by rw [e12]; exact Jw_46_2 h4 ((x2.1 46 2) + (1 : Int32)) (show (0 : Int) ≤ ((x2.1 46 2) + (1 : Int32)).toInt by omega) (show ((x2.1 46 2) + (1 : Int32)).toInt ≤ (12 : Int) by omega)
    have hG14 : Gc 0 M M3 := Gc_i hG7 e12 (by decide)
    have f15 : (M3.1 46 2).toInt = ((x2.1 46 2) + (1 : Int32)).toInt := by rw [e12, si_eq]
    clear e12
    exact ⟨M3, rfl, hJ13, hG14⟩
  · have c16 := c
    have r17 := Jr_46_2 hJ
    have d18 : (12 : Int) ≤ (M.1 46 2).toInt := nlti.mp c16
    refine c_i (by decide) ?_
    refine bind_i (Jq_47 hJ (i := (0 : Int32)) (by decide) (by decide)) (fun a4 _ hk_a4 => ?_)
    refine c_i hk_a4 ?_
    refine bind_i (sl_History_add_18 v1 a4 (1 : Int32) M M hk_v1 hk_a4 hJ Gc_r (show (1 : Int) ≤ (1 : Int32).toInt by decide) (show (1 : Int32).toInt ≤ (12 : Int) by decide)) (fun x8 _ q => ?_)
    obtain ⟨h19, h20⟩ := q
    refine mem_i (fun M9 e22 => ?_)
    have hJ23 : J M9 := by rw [e22]; exact J_sq h19 hk_a4
    have hG24 : Gc 0 M M9 := Gc_q h20 e22
    clear e22
    refine mem_i (fun M10 e26 => ?_)
    have hJ27 : J M10 := by rw [e26]; exact Jw_46_2 hJ23 (11 : Int32) (show (0 : Int) ≤ (11 : Int32).toInt by decide) (show (11 : Int32).toInt ≤ (12 : Int) by decide)
    have hG28 : Gc 0 M M10 := Gc_i hG24 e26 (by decide)
    have f29 : (M10.1 46 2).toInt = (11 : Int) := by rw [e26, si_eq]; rfl
    clear e26
    unfold j_History_add_58
    refine inb_i (by omega) (by omega) ?_
    refine bind_i (Jq_47 hJ27 (i := (M10.1 46 2)) (by omega) (by omega)) (fun a1 _ hk_a1 => ?_)
    refine c_i hk_a1 ?_
    refine bind_i (sf_Scene_copy a1 v1 M10 hk_a1 hk_v1 hJ27) (fun x2 _ q => ?_)
    obtain ⟨h30, h31, h32⟩ := q
    have hG33 : Gc 0 M x2 := Gc_t hG28 h31
    have f34 : (x2.1 46 2).toInt = (M10.1 46 2).toInt := by rw [h32]
    have r36 := Jr_46_2 h30
    have q37 : ((x2.1 46 2) + (1 : Int32)).toInt = (x2.1 46 2).toInt + (1 : Int) := add_ti rfl rfl (by omega) (by omega)
    refine mem_i (fun M3 e38 => ?_)
    have hJ39 : J M3 := by rw [e38]; exact Jw_46_2 h30 ((x2.1 46 2) + (1 : Int32)) (show (0 : Int) ≤ ((x2.1 46 2) + (1 : Int32)).toInt by omega) (show ((x2.1 46 2) + (1 : Int32)).toInt ≤ (12 : Int) by omega)
    have hG40 : Gc 0 M M3 := Gc_i hG33 e38 (by decide)
    have f41 : (M3.1 46 2).toInt = ((x2.1 46 2) + (1 : Int32)).toInt := by rw [e38, si_eq]
    clear e38
    exact ⟨M3, rfl, hJ39, hG40⟩
theorem sf_History_back (v1 : Nat) (M : Mem) (hk_v1 : kd v1 = 10 + 7) (hJ : J M) : ∃ r : Int32 × Mem, f_History_back v1 M = some r ∧ (J r.2 ∧ Gc 0 M r.2 ∧ (0 : Int) ≤ r.1.toInt ∧ r.1.toInt ≤ (1 : Int)) := by
  unfold f_History_back
  refine c_i hk_v1 ?_
  refine if_i (fun c => ?_) (fun c => ?_)
  · have c1 := c
    have r2 := Jr_46_2 hJ
    have d3 : (M.1 46 2).toInt < (1 : Int) := lti.mp c1
    exact ⟨((0 : Int32), M), rfl, hJ, Gc_r, (show (0 : Int) ≤ (0 : Int32).toInt by decide), (show (0 : Int32).toInt ≤ (1 : Int) by decide)⟩
  · have c4 := c
    have r5 := Jr_46_2 hJ
    have d6 : (1 : Int) ≤ (M.1 46 2).toInt := nlti.mp c4
    refine if_i (fun c => ?_) (fun c => ?_)
    · have c7 := c
      have d8 : (M.1 46 2).toInt ≤ (12 : Int) := lei.mp c7
      have q10 : ((M.1 46 2) - (1 : Int32)).toInt = (M.1 46 2).toInt - (1 : Int) := sub_ti rfl rfl (by omega) (by omega)
      refine mem_i (fun M1 e11 => ?_)
      have hJ12 : J M1 := by rw [e11]; exact Jw_46_2 hJ ((M.1 46 2) - (1 : Int32)) (show (0 : Int) ≤ ((M.1 46 2) - (1 : Int32)).toInt by omega) (show ((M.1 46 2) - (1 : Int32)).toInt ≤ (12 : Int) by omega)
      have hG13 : Gc 0 M M1 := Gc_i Gc_r e11 (by decide)
      have f14 : (M1.1 46 2).toInt = ((M.1 46 2) - (1 : Int32)).toInt := by rw [e11, si_eq]
      clear e11
      refine inb_i (by omega) (by omega) ?_
      refine bind_i (Jq_47 hJ12 (i := (M1.1 46 2)) (by omega) (by omega)) (fun a2 _ hk_a2 => ?_)
      refine c_i hk_a2 ?_
      refine bind_i (sf_Scene_copy v1 a2 M1 hk_v1 hk_a2 hJ12) (fun x3 _ q => ?_)
      obtain ⟨h15, h16, h17⟩ := q
      have hG18 : Gc 0 M x3 := Gc_t hG13 h16
      have f19 : (x3.1 46 2).toInt = (M1.1 46 2).toInt := by rw [h17]
      exact ⟨((1 : Int32), x3), rfl, h15, hG18, (show (0 : Int) ≤ (1 : Int32).toInt by decide), (show (1 : Int32).toInt ≤ (1 : Int) by decide)⟩
    · have c20 := c
      have d21 : (12 : Int) < (M.1 46 2).toInt := nlei.mp c20
      exfalso; omega
theorem sf_History_store (v1 : Int32) (v2 : Nat) (M : Mem) (hk_v2 : kd v2 = 10 + 7) (hJ : J M) : ∃ r : Int32 × Mem, f_History_store v1 v2 M = some r ∧ (J r.2 ∧ Gc 0 M r.2 ∧ (0 : Int) ≤ r.1.toInt ∧ r.1.toInt ≤ (1 : Int)) := by
  unfold f_History_store
  refine c_i hk_v2 ?_
  refine if_i (fun c => ?_) (fun c => ?_)
  · have c1 := c
    have d2 : v1.toInt < (0 : Int) := lti.mp c1
    exact ⟨((0 : Int32), M), rfl, hJ, Gc_r, (show (0 : Int) ≤ (0 : Int32).toInt by decide), (show (0 : Int32).toInt ≤ (1 : Int) by decide)⟩
  · have c3 := c
    have d4 : (0 : Int) ≤ v1.toInt := nlti.mp c3
    refine if_i (fun c => ?_) (fun c => ?_)
    · have c5 := c
      have d6 : v1.toInt < (2 : Int) := lti.mp c5
      refine inb_i (by omega) (by omega) ?_
      refine bind_i (Jq_48 hJ (i := v1) (by omega) (by omega)) (fun a1 _ hk_a1 => ?_)
      refine c_i hk_a1 ?_
      refine bind_i (sf_Scene_copy a1 v2 M hk_a1 hk_v2 hJ) (fun x2 _ q => ?_)
      obtain ⟨h7, h8, h9⟩ := q
      have hG10 : Gc 0 M x2 := Gc_t Gc_r h8
      refine mem_i (fun M3 e12 => ?_)
      have hJ13 : J M3 := by rw [e12]; exact Jw_fld okf_46_3 h7 ((x2.1 46 3) ||| ((1 : Int32) <<< (v1 &&& 31)))
      have hG14 : Gc 0 M M3 := Gc_i hG10 e12 (by decide)
      clear e12
      exact ⟨((1 : Int32), M3), rfl, hJ13, hG14, (show (0 : Int) ≤ (1 : Int32).toInt by decide), (show (1 : Int32).toInt ≤ (1 : Int) by decide)⟩
    · have c15 := c
      have d16 : (2 : Int) ≤ v1.toInt := nlti.mp c15
      exact ⟨((0 : Int32), M), rfl, hJ, Gc_r, (show (0 : Int) ≤ (0 : Int32).toInt by decide), (show (0 : Int32).toInt ≤ (1 : Int) by decide)⟩
theorem sf_History_restore (v1 : Int32) (v2 : Nat) (M : Mem) (hk_v2 : kd v2 = 10 + 7) (hJ : J M) : ∃ r : Int32 × Mem, f_History_restore v1 v2 M = some r ∧ (J r.2 ∧ Gc 0 M r.2 ∧ (0 : Int) ≤ r.1.toInt ∧ r.1.toInt ≤ (1 : Int)) := by
  unfold f_History_restore
  refine c_i hk_v2 ?_
  refine if_i (fun c => ?_) (fun c => ?_)
  · have c1 := c
    have d2 : v1.toInt < (0 : Int) := lti.mp c1
    exact ⟨((0 : Int32), M), rfl, hJ, Gc_r, (show (0 : Int) ≤ (0 : Int32).toInt by decide), (show (0 : Int32).toInt ≤ (1 : Int) by decide)⟩
  · have c3 := c
    have d4 : (0 : Int) ≤ v1.toInt := nlti.mp c3
    refine if_i (fun c => ?_) (fun c => ?_)
    · have c5 := c
      have d6 : (2 : Int) ≤ v1.toInt := lei.mp c5
      exact ⟨((0 : Int32), M), rfl, hJ, Gc_r, (show (0 : Int) ≤ (0 : Int32).toInt by decide), (show (0 : Int32).toInt ≤ (1 : Int) by decide)⟩
    · have c7 := c
      have d8 : v1.toInt < (2 : Int) := nlei.mp c7
      refine if_i (fun c => ?_) (fun c => ?_)
      · have c9 := c
        have q10 : (0 : Int) ≤ (((M.1 46 3) >>> (v1 &&& 31)) &&& (1 : Int32)).toInt ∧ (((M.1 46 3) >>> (v1 &&& 31)) &&& (1 : Int32)).toInt ≤ 1 := and_rng (by decide)
        have d11 : (((M.1 46 3) >>> (v1 &&& 31)) &&& (1 : Int32)).toInt = (0 : Int) := eqi.mp c9
        exact ⟨((0 : Int32), M), rfl, hJ, Gc_r, (show (0 : Int) ≤ (0 : Int32).toInt by decide), (show (0 : Int32).toInt ≤ (1 : Int) by decide)⟩
      · have c12 := c
        have q13 : (0 : Int) ≤ (((M.1 46 3) >>> (v1 &&& 31)) &&& (1 : Int32)).toInt ∧ (((M.1 46 3) >>> (v1 &&& 31)) &&& (1 : Int32)).toInt ≤ 1 := and_rng (by decide)
        have d14 : ¬ (((M.1 46 3) >>> (v1 &&& 31)) &&& (1 : Int32)).toInt = (0 : Int) := neqi.mp c12
        refine inb_i (by omega) (by omega) ?_
        refine bind_i (Jq_48 hJ (i := v1) (by omega) (by omega)) (fun a1 _ hk_a1 => ?_)
        refine c_i hk_a1 ?_
        refine bind_i (sf_Scene_copy v2 a1 M hk_v2 hk_a1 hJ) (fun x2 _ q => ?_)
        obtain ⟨h15, h16, h17⟩ := q
        have hG18 : Gc 0 M x2 := Gc_t Gc_r h16
        exact ⟨((1 : Int32), x2), rfl, h15, hG18, (show (0 : Int) ≤ (1 : Int32).toInt by decide), (show (1 : Int32).toInt ≤ (1 : Int) by decide)⟩
theorem sf_Nets_isOf (v0 : Nat) (v1 : Int32) (v2 : Int32) (M : Mem) (hk_v0 : kd v0 = 10 + 6) (hp_v1 : (0 : Int) ≤ v1.toInt ∧ v1.toInt ≤ (1 : Int)) (hJ : J M) : ∃ r : Int32, f_Nets_isOf v0 v1 v2 M = some r ∧ ((0 : Int) ≤ r.toInt ∧ r.toInt ≤ (1 : Int)) := by
  unfold f_Nets_isOf
  refine c_i hk_v0 ?_
  refine inb_i (by omega) (by omega) ?_
  refine if_i (fun c => ?_) (fun c => ?_)
  · have c1 := c
    have d2 : (lg_cmp (((M.2.1 (rf v0 0) v1.toNatClampNeg) >>> (v2.toInt64 &&& 63)) &&& (1 : Int64)) (0 : Int64)).toInt = (0 : Int) := eqi.mp c1
    exact ⟨(0 : Int32), rfl, (show (0 : Int) ≤ (0 : Int32).toInt by decide), (show (0 : Int32).toInt ≤ (1 : Int) by decide)⟩
  · have c3 := c
    have d4 : ¬ (lg_cmp (((M.2.1 (rf v0 0) v1.toNatClampNeg) >>> (v2.toInt64 &&& 63)) &&& (1 : Int64)) (0 : Int64)).toInt = (0 : Int) := neqi.mp c3
    exact ⟨(1 : Int32), rfl, (show (0 : Int) ≤ (1 : Int32).toInt by decide), (show (1 : Int32).toInt ≤ (1 : Int) by decide)⟩
theorem sl_Nets_link_19 (v0 : Nat) (v2 : Int32) (v3 : Int32) (v4 : Int32) (a0_ : Int32) (N_ : Mem) (B_ : Mem) (hk_v0 : kd v0 = 10 + 6) (hp_v2 : (0 : Int) ≤ v2.toInt ∧ v2.toInt ≤ (1 : Int)) (hp_v3 : (0 : Int) ≤ v3.toInt ∧ v3.toInt ≤ (35 : Int)) (hp_v4 : (0 : Int) ≤ v4.toInt ∧ v4.toInt ≤ (71 : Int)) (hN : J N_) (hG : Gc 0 B_ N_) (i2_ : (0 : Int) ≤ a0_.toInt) (i3_ : a0_.toInt ≤ (4 : Int)) : ∃ x, iter (lb_Nets_link_19 v0 v2 v3 v4) FU (a0_, N_) = some x ∧ (fun r : Mem => J r ∧ Gc 0 B_ r) x := by
  refine iter_r (fun s : Int32 × Mem => J s.2 ∧ Gc 0 B_ s.2 ∧ (0 : Int) ≤ s.1.toInt ∧ s.1.toInt ≤ (4 : Int)) (fun s : Int32 × Mem => (4 - s.1.toInt).toNat) (fun r : Mem => J r ∧ Gc 0 B_ r) ?_ FU (a0_, N_) ⟨hN, hG, i2_, i3_⟩ (by show (4 - a0_.toInt).toNat < FU; rw [FU_v]; omega)
  clear i3_ i2_ hG hN
  rintro ⟨a0_', N_'⟩ ⟨hN, hG, i2_, i3_⟩
  dsimp only at hN hG i2_ i3_
  unfold lb_Nets_link_19
  dsimp only
  refine if_i (fun c => ?_) (fun c => ?_)
  · have c1 := c
    have d2 : (4 : Int) ≤ a0_'.toInt := lei.mp c1
    exact ⟨_, rfl, hN, hG⟩
  · have c3 := c
    have d4 : a0_'.toInt < (4 : Int) := nlei.mp c3
    refine bind_i (sf_Ground_beside v3 a0_' N_' hN) (fun x2 _ q => ?_)
    obtain ⟨h5, h6, h7⟩ := q
    refine if_i (fun c => ?_) (fun c => ?_)
    · have c8 := c
      have d9 : x2.toInt = (-1 : Int) := eqi.mp c8
      unfold j_Nets_link_64_19
      refine if_i (fun c => ?_) (fun c => ?_)
      · have c10 := c
        have d11 : (0 : Int) = (0 : Int) := eqi.mp c10
        unfold j_Nets_link_88_19
        have q12 : (v4 * (4 : Int32)).toInt = v4.toInt * (4 : Int) := mul_ti rfl rfl (by omega) (by omega)
        have q13 : ((v4 * (4 : Int32)) + a0_').toInt = (v4 * (4 : Int32)).toInt + a0_'.toInt := add_ti rfl rfl (by omega) (by omega)
        have l14 := ln_nets2 hk_v0
        refine inb_i (by omega) (by omega) ?_
        refine mem_i (fun M3 e16 => ?_)
        have hJ17 : J M3 := by rw [e16]; exact Jw_nets2 hN hk_v0 ((v4 * (4 : Int32)) + a0_').toNatClampNeg (-1 : Int32) (show (-1 : Int) ≤ (-1 : Int32).toInt by decide) (show (-1 : Int32).toInt ≤ (35 : Int) by decide)
        have hG18 : Gc 0 B_ M3 := Gc_i hG e16 (cl_nets2 hk_v0)
        have f19 : (M3.1 (rf v0 2) ((v4 * (4 : Int32)) + a0_').toNatClampNeg).toInt = (-1 : Int) := by rw [e16, si_eq]; rfl
        clear e16
        refine inb_i (by omega) (by omega) ?_
        refine if_i (fun c => ?_) (fun c => ?_)
        · have c20 := c
          have d21 : (0 : Int) = (0 : Int) := eqi.mp c20
          refine inb_i (by omega) (by omega) ?_
          refine mem_i (fun M4 e23 => ?_)
          have hJ24 : J M4 := by rw [e23]; exact Jl hJ17
          have hG25 : Gc 0 B_ M4 := Gc_l hG18 e23
          have f26 : (M4.1 (rf v0 2) ((v4 * (4 : Int32)) + a0_').toNatClampNeg).toInt = (M3.1 (rf v0 2) ((v4 * (4 : Int32)) + a0_').toNatClampNeg).toInt := by rw [e23]; rfl
          clear e23
          have q27 : (a0_' + (1 : Int32)).toInt = a0_'.toInt + (1 : Int) := add_ti rfl rfl (by omega) (by omega)
          exact ⟨_, rfl, ⟨hJ24, hG25, (show (0 : Int) ≤ (a0_' + (1 : Int32)).toInt by omega), (show (a0_' + (1 : Int32)).toInt ≤ (4 : Int) by omega)⟩, show (4 - (a0_' + (1 : Int32)).toInt).toNat < (4 - a0_'.toInt).toNat by omega⟩
        · have c28 := c
          have d29 : ¬ (0 : Int) = (0 : Int) := neqi.mp c28
          exfalso; omega
      · have c30 := c
        have d31 : ¬ (0 : Int) = (0 : Int) := neqi.mp c30
        exfalso; omega
    · have c32 := c
      have d33 : ¬ x2.toInt = (-1 : Int) := neqi.mp c32
      refine bind_i (sf_Nets_isOf v0 v2 v3 N_' hk_v0 (⟨show (0 : Int) ≤ v2.toInt by omega, show v2.toInt ≤ (1 : Int) by omega⟩) hN) (fun x8 _ q => ?_)
      obtain ⟨h34, h35⟩ := q
      refine if_i (fun c => ?_) (fun c => ?_)
      · have c36 := c
        have d37 : x8.toInt = (0 : Int) := eqi.mp c36
        unfold j_Nets_link_64_19
        refine if_i (fun c => ?_) (fun c => ?_)
        · have c38 := c
          have d39 : (0 : Int) = (0 : Int) := eqi.mp c38
          unfold j_Nets_link_88_19
          have q40 : (v4 * (4 : Int32)).toInt = v4.toInt * (4 : Int) := mul_ti rfl rfl (by omega) (by omega)
          have q41 : ((v4 * (4 : Int32)) + a0_').toInt = (v4 * (4 : Int32)).toInt + a0_'.toInt := add_ti rfl rfl (by omega) (by omega)
          have l42 := ln_nets2 hk_v0
          refine inb_i (by omega) (by omega) ?_
          refine mem_i (fun M3 e44 => ?_)
          have hJ45 : J M3 := by rw [e44]; exact Jw_nets2 hN hk_v0 ((v4 * (4 : Int32)) + a0_').toNatClampNeg (-1 : Int32) (show (-1 : Int) ≤ (-1 : Int32).toInt by decide) (show (-1 : Int32).toInt ≤ (35 : Int) by decide)
          have hG46 : Gc 0 B_ M3 := Gc_i hG e44 (cl_nets2 hk_v0)
          have f47 : (M3.1 (rf v0 2) ((v4 * (4 : Int32)) + a0_').toNatClampNeg).toInt = (-1 : Int) := by rw [e44, si_eq]; rfl
          clear e44
          refine inb_i (by omega) (by omega) ?_
          refine if_i (fun c => ?_) (fun c => ?_)
          · have c48 := c
            have d49 : (0 : Int) = (0 : Int) := eqi.mp c48
            refine inb_i (by omega) (by omega) ?_
            refine mem_i (fun M4 e51 => ?_)
            have hJ52 : J M4 := by rw [e51]; exact Jl hJ45
            have hG53 : Gc 0 B_ M4 := Gc_l hG46 e51
            have f54 : (M4.1 (rf v0 2) ((v4 * (4 : Int32)) + a0_').toNatClampNeg).toInt = (M3.1 (rf v0 2) ((v4 * (4 : Int32)) + a0_').toNatClampNeg).toInt := by rw [e51]; rfl
            clear e51
            have q55 : (a0_' + (1 : Int32)).toInt = a0_'.toInt + (1 : Int) := add_ti rfl rfl (by omega) (by omega)
            exact ⟨_, rfl, ⟨hJ52, hG53, (show (0 : Int) ≤ (a0_' + (1 : Int32)).toInt by omega), (show (a0_' + (1 : Int32)).toInt ≤ (4 : Int) by omega)⟩, show (4 - (a0_' + (1 : Int32)).toInt).toNat < (4 - a0_'.toInt).toNat by omega⟩
          · have c56 := c
            have d57 : ¬ (0 : Int) = (0 : Int) := neqi.mp c56
            exfalso; omega
        · have c58 := c
          have d59 : ¬ (0 : Int) = (0 : Int) := neqi.mp c58
          exfalso; omega
      · have c60 := c
        have d61 : ¬ x8.toInt = (0 : Int) := neqi.mp c60
        refine bind_i (sf_Nets_isOf v0 v2 x2 N_' hk_v0 (⟨show (0 : Int) ≤ v2.toInt by omega, show v2.toInt ≤ (1 : Int) by omega⟩) hN) (fun x9 _ q => ?_)
        obtain ⟨h62, h63⟩ := q
        refine if_i (fun c => ?_) (fun c => ?_)
        · have c64 := c
          have d65 : x9.toInt = (0 : Int) := eqi.mp c64
          unfold j_Nets_link_64_19
          refine if_i (fun c => ?_) (fun c => ?_)
          · have c66 := c
            have d67 : (0 : Int) = (0 : Int) := eqi.mp c66
            unfold j_Nets_link_88_19
            have q68 : (v4 * (4 : Int32)).toInt = v4.toInt * (4 : Int) := mul_ti rfl rfl (by omega) (by omega)
            have q69 : ((v4 * (4 : Int32)) + a0_').toInt = (v4 * (4 : Int32)).toInt + a0_'.toInt := add_ti rfl rfl (by omega) (by omega)
            have l70 := ln_nets2 hk_v0
            refine inb_i (by omega) (by omega) ?_
            refine mem_i (fun M3 e72 => ?_)
            have hJ73 : J M3 := by rw [e72]; exact Jw_nets2 hN hk_v0 ((v4 * (4 : Int32)) + a0_').toNatClampNeg (-1 : Int32) (show (-1 : Int) ≤ (-1 : Int32).toInt by decide) (show (-1 : Int32).toInt ≤ (35 : Int) by decide)
            have hG74 : Gc 0 B_ M3 := Gc_i hG e72 (cl_nets2 hk_v0)
            have f75 : (M3.1 (rf v0 2) ((v4 * (4 : Int32)) + a0_').toNatClampNeg).toInt = (-1 : Int) := by rw [e72, si_eq]; rfl
            clear e72
            refine inb_i (by omega) (by omega) ?_
            refine if_i (fun c => ?_) (fun c => ?_)
            · have c76 := c
              have d77 : (0 : Int) = (0 : Int) := eqi.mp c76
              refine inb_i (by omega) (by omega) ?_
              refine mem_i (fun M4 e79 => ?_)
              have hJ80 : J M4 := by rw [e79]; exact Jl hJ73
              have hG81 : Gc 0 B_ M4 := Gc_l hG74 e79
              have f82 : (M4.1 (rf v0 2) ((v4 * (4 : Int32)) + a0_').toNatClampNeg).toInt = (M3.1 (rf v0 2) ((v4 * (4 : Int32)) + a0_').toNatClampNeg).toInt := by rw [e79]; rfl
              clear e79
              have q83 : (a0_' + (1 : Int32)).toInt = a0_'.toInt + (1 : Int) := add_ti rfl rfl (by omega) (by omega)
              exact ⟨_, rfl, ⟨hJ80, hG81, (show (0 : Int) ≤ (a0_' + (1 : Int32)).toInt by omega), (show (a0_' + (1 : Int32)).toInt ≤ (4 : Int) by omega)⟩, show (4 - (a0_' + (1 : Int32)).toInt).toNat < (4 - a0_'.toInt).toNat by omega⟩
            · have c84 := c
              have d85 : ¬ (0 : Int) = (0 : Int) := neqi.mp c84
              exfalso; omega
          · have c86 := c
            have d87 : ¬ (0 : Int) = (0 : Int) := neqi.mp c86
            exfalso; omega
        · have c88 := c
          have d89 : ¬ x9.toInt = (0 : Int) := neqi.mp c88
          unfold j_Nets_link_64_19
          refine if_i (fun c => ?_) (fun c => ?_)
          · have c90 := c
            have d91 : (1 : Int) = (0 : Int) := eqi.mp c90
            exfalso; omega
          · have c92 := c
            have d93 : ¬ (1 : Int) = (0 : Int) := neqi.mp c92
            unfold j_Nets_link_88_19
            have q94 : (v4 * (4 : Int32)).toInt = v4.toInt * (4 : Int) := mul_ti rfl rfl (by omega) (by omega)
            have q95 : ((v4 * (4 : Int32)) + a0_').toInt = (v4 * (4 : Int32)).toInt + a0_'.toInt := add_ti rfl rfl (by omega) (by omega)
            have l96 := ln_nets2 hk_v0
            refine inb_i (by omega) (by omega) ?_
            refine mem_i (fun M3 e98 => ?_)
            have hJ99 : J M3 := by rw [e98]; exact Jw_nets2 hN hk_v0 ((v4 * (4 : Int32)) + a0_').toNatClampNeg x2 (show (-1 : Int) ≤ x2.toInt by omega) (show x2.toInt ≤ (35 : Int) by omega)
            have hG100 : Gc 0 B_ M3 := Gc_i hG e98 (cl_nets2 hk_v0)
            have f101 : (M3.1 (rf v0 2) ((v4 * (4 : Int32)) + a0_').toNatClampNeg).toInt = x2.toInt := by rw [e98, si_eq]
            clear e98
            refine inb_i (by omega) (by omega) ?_
            refine if_i (fun c => ?_) (fun c => ?_)
            · have c102 := c
              have d103 : (1 : Int) = (0 : Int) := eqi.mp c102
              exfalso; omega
            · have c104 := c
              have d105 : ¬ (1 : Int) = (0 : Int) := neqi.mp c104
              refine inb_i (by omega) (by omega) ?_
              refine mem_i (fun M5 e107 => ?_)
              have hJ108 : J M5 := by rw [e107]; exact Jl hJ99
              have hG109 : Gc 0 B_ M5 := Gc_l hG100 e107
              have f110 : (M5.1 (rf v0 2) ((v4 * (4 : Int32)) + a0_').toNatClampNeg).toInt = (M3.1 (rf v0 2) ((v4 * (4 : Int32)) + a0_').toNatClampNeg).toInt := by rw [e107]; rfl
              clear e107
              have q111 : (a0_' + (1 : Int32)).toInt = a0_'.toInt + (1 : Int) := add_ti rfl rfl (by omega) (by omega)
              exact ⟨_, rfl, ⟨hJ108, hG109, (show (0 : Int) ≤ (a0_' + (1 : Int32)).toInt by omega), (show (a0_' + (1 : Int32)).toInt ≤ (4 : Int) by omega)⟩, show (4 - (a0_' + (1 : Int32)).toInt).toNat < (4 - a0_'.toInt).toNat by omega⟩
theorem sf_Nets_link (v0 : Nat) (v2 : Int32) (v3 : Int32) (M : Mem) (hk_v0 : kd v0 = 10 + 6) (hp_v2 : (0 : Int) ≤ v2.toInt ∧ v2.toInt ≤ (1 : Int)) (hp_v3 : (0 : Int) ≤ v3.toInt ∧ v3.toInt ≤ (35 : Int)) (hJ : J M) : ∃ r : Mem, f_Nets_link v0 v2 v3 M = some r ∧ (J r ∧ Gc 0 M r) := by
  unfold f_Nets_link
  refine c_i hk_v0 ?_
  have q1 : (v2 * (36 : Int32)).toInt = v2.toInt * (36 : Int) := mul_ti rfl rfl (by omega) (by omega)
  have q2 : ((v2 * (36 : Int32)) + v3).toInt = (v2 * (36 : Int32)).toInt + v3.toInt := add_ti rfl rfl (by omega) (by omega)
  refine inb_i (by omega) (by omega) ?_
  refine mem_i (fun M1 e4 => ?_)
  have hJ5 : J M1 := by rw [e4]; exact Jl hJ
  have hG6 : Gc 0 M M1 := Gc_l Gc_r e4
  clear e4
  refine bind_i (sl_Nets_link_19 v0 v2 v3 ((v2 * (36 : Int32)) + v3) (0 : Int32) M1 M hk_v0 (⟨show (0 : Int) ≤ v2.toInt by omega, show v2.toInt ≤ (1 : Int) by omega⟩) (⟨show (0 : Int) ≤ v3.toInt by omega, show v3.toInt ≤ (35 : Int) by omega⟩) (⟨show (0 : Int) ≤ ((v2 * (36 : Int32)) + v3).toInt by omega, show ((v2 * (36 : Int32)) + v3).toInt ≤ (71 : Int) by omega⟩) hJ5 hG6 (show (0 : Int) ≤ (0 : Int32).toInt by decide) (show (0 : Int32).toInt ≤ (4 : Int) by decide)) (fun x14 _ q => ?_)
  obtain ⟨h7, h8⟩ := q
  exact ⟨x14, rfl, h7, h8⟩
theorem sf_Nets_bridge (v0 : Nat) (v2 : Int32) (v3 : Int32) (M : Mem) (hk_v0 : kd v0 = 10 + 6) (hp_v2 : (0 : Int) ≤ v2.toInt ∧ v2.toInt ≤ (35 : Int)) (hp_v3 : (0 : Int) ≤ v3.toInt ∧ v3.toInt ≤ (35 : Int)) (hJ : J M) : ∃ r : Mem, f_Nets_bridge v0 v2 v3 M = some r ∧ (J r ∧ Gc 0 M r) := by
  unfold f_Nets_bridge
  refine c_i hk_v0 ?_
  refine bind_i (sf_Ground_across v2 v3 M hJ) (fun x1 _ q => ?_)
  obtain ⟨h1, h2⟩ := q
  refine if_i (fun c => ?_) (fun c => ?_)
  · have c3 := c
    have d4 : x1.toInt = (-1 : Int) := eqi.mp c3
    exact ⟨M, rfl, hJ, Gc_r⟩
  · have c5 := c
    have d6 : ¬ x1.toInt = (-1 : Int) := neqi.mp c5
    have q7 : ((36 : Int32) + v2).toInt = (36 : Int) + v2.toInt := add_ti rfl rfl (by omega) (by omega)
    have q8 : (((36 : Int32) + v2) * (4 : Int32)).toInt = ((36 : Int32) + v2).toInt * (4 : Int) := mul_ti rfl rfl (by omega) (by omega)
    have q9 : ((((36 : Int32) + v2) * (4 : Int32)) + x1).toInt = (((36 : Int32) + v2) * (4 : Int32)).toInt + x1.toInt := add_ti rfl rfl (by omega) (by omega)
    refine inb_i (by omega) (by omega) ?_
    refine mem_i (fun M2 e11 => ?_)
    have hJ12 : J M2 := by rw [e11]; exact Jw_nets2 hJ hk_v0 ((((36 : Int32) + v2) * (4 : Int32)) + x1).toNatClampNeg v3 (show (-1 : Int) ≤ v3.toInt by omega) (show v3.toInt ≤ (35 : Int) by omega)
    have hG13 : Gc 0 M M2 := Gc_i Gc_r e11 (cl_nets2 hk_v0)
    have f14 : (M2.1 (rf v0 2) ((((36 : Int32) + v2) * (4 : Int32)) + x1).toNatClampNeg).toInt = v3.toInt := by rw [e11, si_eq]
    clear e11
    refine inb_i (by omega) (by omega) ?_
    refine inb_i (by omega) (by omega) ?_
    refine mem_i (fun M3 e16 => ?_)
    have hJ17 : J M3 := by rw [e16]; exact Jl hJ12
    have hG18 : Gc 0 M M3 := Gc_l hG13 e16
    have f19 : (M3.1 (rf v0 2) ((((36 : Int32) + v2) * (4 : Int32)) + x1).toNatClampNeg).toInt = (M2.1 (rf v0 2) ((((36 : Int32) + v2) * (4 : Int32)) + x1).toNatClampNeg).toInt := by rw [e16]; rfl
    clear e16
    exact ⟨M3, rfl, hJ17, hG18⟩
