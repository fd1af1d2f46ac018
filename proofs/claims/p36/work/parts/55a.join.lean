section
/-! safety of the reference, 1 -/
theorem Gd_fr {v : Nat} {W : Nat → Nat → Prop} {M N : Mem} (h : Fr W M N) (hw : ∀ k i, W k i → (pq k i || k == 163) = false) : Gd v M N := fun k i w => h k i (fun z => by
  have := hw k i z
  simp only [Bool.or_eq_false_iff, beq_eq_false_iff_ne] at this
  rcases w with w | w
  · rw [this.1] at w; exact absurd w.1 (by decide)
  · exact this.2 w.1)
theorem Gd_1 {v : Nat} {c : Nat} (hc : (pqc c || c == 162) = false) {M N : Mem} (h : Fr (fun k _ => k = c) M N) : Gd v M N := Gd_fr h (fun k i w => by
  have w' : k = c := w
  subst w'
  simp only [Bool.or_eq_false_iff, beq_eq_false_iff_ne] at hc
  have h3 : k ≠ 163 := fun z => by rw [z] at hc; exact absurd hc.1 (by decide)
  have h2 : (k == 162) = false := beq_eq_false_iff_ne.mpr hc.2
  have h4 : (k == 163) = false := beq_eq_false_iff_ne.mpr h3
  unfold pq; rw [hc.1, h2, h4]; rfl)
theorem sf_Mod_has (v0 : Int32) (v1 : Int32) : ∃ r : Int32, f_Mod_has v0 v1 = some r ∧ ((0 : Int) ≤ r.toInt ∧ r.toInt ≤ (1 : Int)) := by
  unfold f_Mod_has
  refine if_i (fun c => ?_) (fun c => ?_)
  · have c1 := c
    have q2 : (0 : Int) ≤ ((v0 >>> (v1 &&& 31)) &&& (1 : Int32)).toInt ∧ ((v0 >>> (v1 &&& 31)) &&& (1 : Int32)).toInt ≤ 1 := and_rng (by decide)
    have d3 : ((v0 >>> (v1 &&& 31)) &&& (1 : Int32)).toInt = (1 : Int) := eqi.mp c1
    exact ⟨(1 : Int32), rfl, (show (0 : Int) ≤ (1 : Int32).toInt by decide), (show (1 : Int32).toInt ≤ (1 : Int) by decide)⟩
  · have c4 := c
    have q5 : (0 : Int) ≤ ((v0 >>> (v1 &&& 31)) &&& (1 : Int32)).toInt ∧ ((v0 >>> (v1 &&& 31)) &&& (1 : Int32)).toInt ≤ 1 := and_rng (by decide)
    have d6 : ¬ ((v0 >>> (v1 &&& 31)) &&& (1 : Int32)).toInt = (1 : Int) := neqi.mp c4
    exact ⟨(0 : Int32), rfl, (show (0 : Int) ≤ (0 : Int32).toInt by decide), (show (0 : Int32).toInt ≤ (1 : Int) by decide)⟩
theorem sf_Mod_lost (M : Mem) (hJ : J M) : ∃ r : Int32 × Mem, f_Mod_lost M = some r ∧ (J r.2 ∧ Gd 1000 M r.2 ∧ (0 : Int) ≤ r.1.toInt ∧ r.1.toInt ≤ (0 : Int)) := by
  unfold f_Mod_lost
  refine mem_i (fun M1 e2 => ?_)
  have hJ3 : J M1 := by rw [e2]; exact Jw_fld okf_162_13 hJ (1 : Int32)
  have hG4 : Gd 1000 M M1 := Gd_i Gd_r e2 (by decide)
  have f5 : (M1.1 162 13).toInt = (1 : Int) := by rw [e2, si_eq]; rfl
  clear e2
  exact ⟨((0 : Int32), M1), rfl, hJ3, hG4, (show (0 : Int) ≤ (0 : Int32).toInt by decide), (show (0 : Int32).toInt ≤ (0 : Int) by decide)⟩
theorem sf_Mod_put (v1 : Int32) (M : Mem) (hJ : J M) (hx0 : (M.1 162 12).toInt ≤ (15 : Int)) : ∃ r : Mem, f_Mod_put v1 M = some r ∧ (J r ∧ Gd 1000 M r ∧ (r.1 162 12).toInt = (M.1 162 12).toInt + 1) := by
  unfold f_Mod_put
  have r1 := Jr_162_12 hJ
  refine inb_i (by omega) (by omega) ?_
  refine mem_i (fun M1 e3 => ?_)
  have hJ4 : J M1 := by rw [e3]; exact Jw_any ok_168 hJ (M.1 162 12).toNatClampNeg v1
  have hG5 : Gd 1000 M M1 := Gd_any Gd_r e3 (by decide)
  have f6 : (M1.1 162 12).toInt = (M.1 162 12).toInt := by rw [e3]; rw [si_ne (by exact fun e => absurd e.1 (by decide))]
  clear e3
  have q8 : ((M1.1 162 12) + (1 : Int32)).toInt = (M1.1 162 12).toInt + (1 : Int) := add_ti rfl rfl (by omega) (by omega)
  refine mem_i (fun M2 e9 => ?_)
  have hJ10 : J M2 := by rw [e9]; exact Jw_162_12 hJ4 ((M1.1 162 12) + (1 : Int32)) (show (0 : Int) ≤ ((M1.1 162 12) + (1 : Int32)).toInt by omega) (show ((M1.1 162 12) + (1 : Int32)).toInt ≤ (16 : Int) by omega)
  have hG11 : Gd 1000 M M2 := Gd_i hG5 e9 (by decide)
  have f12 : (M2.1 162 12).toInt = ((M1.1 162 12) + (1 : Int32)).toInt := by rw [e9, si_eq]
  clear e9
  exact ⟨M2, rfl, hJ10, hG11, (show (M2.1 162 12).toInt = (M.1 162 12).toInt + 1 by omega)⟩
theorem sf_Mod_isCell (v1 : Int32) (M : Mem) (hJ : J M) : ∃ r : Int32, f_Mod_isCell v1 M = some r ∧ ((0 : Int) ≤ r.toInt ∧ r.toInt ≤ (1 : Int) ∧ (¬ r.toInt = 0 → (0 : Int) ≤ v1.toInt ∧ v1.toInt ≤ (35 : Int))) := by
  unfold f_Mod_isCell
  refine bind_e (show (f_Mod_cells M) = some ((M.1 162 2) * (M.1 162 3)) from rfl) ?_
  have r1 := Jr_162_2 hJ
  have r2 := Jr_162_3 hJ
  have q3 := mul_rng (a := (M.1 162 2)) (b := (M.1 162 3)) (x := 6) (y := 6) (by omega) (by omega) (by omega) (by omega) (by decide)
  have q4 : (((M.1 162 2) * (M.1 162 3)) - (1 : Int32)).toInt = ((M.1 162 2) * (M.1 162 3)).toInt - (1 : Int) := sub_ti rfl rfl (by omega) (by omega)
  refine bind_i (sf_Mod_in v1 (0 : Int32) (((M.1 162 2) * (M.1 162 3)) - (1 : Int32))) (fun x2 _ q => ?_)
  obtain ⟨h5, h6, h7⟩ := q
  replace h7 : ¬ x2.toInt = 0 → (0 : Int) ≤ v1.toInt ∧ v1.toInt ≤ (((M.1 162 2) * (M.1 162 3)) - (1 : Int32)).toInt := h7
  refine c_i (bool_of (by omega) (by omega)) ?_
  exact ⟨x2, rfl, (show (0 : Int) ≤ x2.toInt by omega), (show x2.toInt ≤ (1 : Int) by omega), (fun hh => by have hh : ¬ x2.toInt = 0 := hh; omega)⟩
theorem sf_Mod_isOne (v1 : Int32) (M : Mem) (hJ : J M) : ∃ r : Int32, f_Mod_isOne v1 M = some r ∧ ((0 : Int) ≤ r.toInt ∧ r.toInt ≤ (1 : Int) ∧ (¬ r.toInt = 0 → (0 : Int) ≤ v1.toInt ∧ v1.toInt ≤ (7 : Int))) := by
  unfold f_Mod_isOne
  have r1 := Jr_162_4 hJ
  have q2 : ((M.1 162 4) - (1 : Int32)).toInt = (M.1 162 4).toInt - (1 : Int) := sub_ti rfl rfl (by omega) (by omega)
  refine bind_i (sf_Mod_in v1 (0 : Int32) ((M.1 162 4) - (1 : Int32))) (fun x1 _ q => ?_)
  obtain ⟨h3, h4, h5⟩ := q
  replace h5 : ¬ x1.toInt = 0 → (0 : Int) ≤ v1.toInt ∧ v1.toInt ≤ ((M.1 162 4) - (1 : Int32)).toInt := h5
  refine c_i (bool_of (by omega) (by omega)) ?_
  exact ⟨x1, rfl, (show (0 : Int) ≤ x1.toInt by omega), (show x1.toInt ≤ (1 : Int) by omega), (fun hh => by have hh : ¬ x1.toInt = 0 := hh; omega)⟩
theorem sf_Mod_areTwo (v1 : Int32) (v2 : Int32) (M : Mem) (hJ : J M) : ∃ r : Int32, f_Mod_areTwo v1 v2 M = some r ∧ ((0 : Int) ≤ r.toInt ∧ r.toInt ≤ (1 : Int) ∧ (¬ r.toInt = 0 → (0 : Int) ≤ v1.toInt ∧ v1.toInt ≤ (7 : Int)) ∧ (¬ r.toInt = 0 → (0 : Int) ≤ v2.toInt ∧ v2.toInt ≤ (7 : Int))) := by
  unfold f_Mod_areTwo
  refine bind_i (sf_Mod_isOne v1 M hJ) (fun x1 e_x1 q => ?_)
  obtain ⟨h1, h2, h3⟩ := q
  refine if_i (fun c => ?_) (fun c => ?_)
  · have c4 := c
    have d5 : x1.toInt = (0 : Int) := eqi.mp c4
    exact ⟨(0 : Int32), rfl, (show (0 : Int) ≤ (0 : Int32).toInt by decide), (show (0 : Int32).toInt ≤ (1 : Int) by decide), (fun hh => by have hh : ¬ (0 : Int32).toInt = 0 := hh; have zz : (0 : Int32).toInt = 0 := rfl; omega), (fun hh => by have hh : ¬ (0 : Int32).toInt = 0 := hh; have zz : (0 : Int32).toInt = 0 := rfl; omega)⟩
  · have c6 := c
    have d7 : ¬ x1.toInt = (0 : Int) := neqi.mp c6
    refine bind_i (sf_Mod_isOne v2 M hJ) (fun x2 e_x2 q => ?_)
    obtain ⟨h8, h9, h10⟩ := q
    refine if_i (fun c => ?_) (fun c => ?_)
    · have c11 := c
      have d12 : x2.toInt = (0 : Int) := eqi.mp c11
      exact ⟨(0 : Int32), rfl, (show (0 : Int) ≤ (0 : Int32).toInt by decide), (show (0 : Int32).toInt ≤ (1 : Int) by decide), (fun hh => by have hh : ¬ (0 : Int32).toInt = 0 := hh; have zz : (0 : Int32).toInt = 0 := rfl; omega), (fun hh => by have hh : ¬ (0 : Int32).toInt = 0 := hh; have zz : (0 : Int32).toInt = 0 := rfl; omega)⟩
    · have c13 := c
      have d14 : ¬ x2.toInt = (0 : Int) := neqi.mp c13
      refine if_i (fun c => ?_) (fun c => ?_)
      · have c15 := c
        have d16 : v1.toInt = v2.toInt := eqi.mp c15
        exact ⟨(0 : Int32), rfl, (show (0 : Int) ≤ (0 : Int32).toInt by decide), (show (0 : Int32).toInt ≤ (1 : Int) by decide), (fun hh => by have hh : ¬ (0 : Int32).toInt = 0 := hh; have zz : (0 : Int32).toInt = 0 := rfl; omega), (fun hh => by have hh : ¬ (0 : Int32).toInt = 0 := hh; have zz : (0 : Int32).toInt = 0 := rfl; omega)⟩
      · have c17 := c
        have d18 : ¬ v1.toInt = v2.toInt := neqi.mp c17
        exact ⟨(1 : Int32), rfl, (show (0 : Int) ≤ (1 : Int32).toInt by decide), (show (1 : Int32).toInt ≤ (1 : Int) by decide), (fun hh => by have hh : ¬ (1 : Int32).toInt = 0 := hh; have zz : (1 : Int32).toInt = 1 := rfl; omega), (fun hh => by have hh : ¬ (1 : Int32).toInt = 0 := hh; have zz : (1 : Int32).toInt = 1 := rfl; omega)⟩
theorem sf_Mod_areManWoman (v1 : Int32) (v2 : Int32) (M : Mem) (hJ : J M) : ∃ r : Int32, f_Mod_areManWoman v1 v2 M = some r ∧ ((0 : Int) ≤ r.toInt ∧ r.toInt ≤ (1 : Int) ∧ (¬ r.toInt = 0 → (0 : Int) ≤ v1.toInt ∧ v1.toInt ≤ (7 : Int)) ∧ (¬ r.toInt = 0 → (0 : Int) ≤ v2.toInt ∧ v2.toInt ≤ (7 : Int))) := by
  unfold f_Mod_areManWoman
  refine bind_i (sf_Mod_isOne v1 M hJ) (fun x1 e_x1 q => ?_)
  obtain ⟨h1, h2, h3⟩ := q
  refine if_i (fun c => ?_) (fun c => ?_)
  · have c4 := c
    have d5 : x1.toInt = (0 : Int) := eqi.mp c4
    exact ⟨(0 : Int32), rfl, (show (0 : Int) ≤ (0 : Int32).toInt by decide), (show (0 : Int32).toInt ≤ (1 : Int) by decide), (fun hh => by have hh : ¬ (0 : Int32).toInt = 0 := hh; have zz : (0 : Int32).toInt = 0 := rfl; omega), (fun hh => by have hh : ¬ (0 : Int32).toInt = 0 := hh; have zz : (0 : Int32).toInt = 0 := rfl; omega)⟩
  · have c6 := c
    have d7 : ¬ x1.toInt = (0 : Int) := neqi.mp c6
    refine bind_i (sf_Mod_isOne v2 M hJ) (fun x2 e_x2 q => ?_)
    obtain ⟨h8, h9, h10⟩ := q
    refine if_i (fun c => ?_) (fun c => ?_)
    · have c11 := c
      have d12 : x2.toInt = (0 : Int) := eqi.mp c11
      exact ⟨(0 : Int32), rfl, (show (0 : Int) ≤ (0 : Int32).toInt by decide), (show (0 : Int32).toInt ≤ (1 : Int) by decide), (fun hh => by have hh : ¬ (0 : Int32).toInt = 0 := hh; have zz : (0 : Int32).toInt = 0 := rfl; omega), (fun hh => by have hh : ¬ (0 : Int32).toInt = 0 := hh; have zz : (0 : Int32).toInt = 0 := rfl; omega)⟩
    · have c13 := c
      have d14 : ¬ x2.toInt = (0 : Int) := neqi.mp c13
      refine bind_i (sf_Mod_has (M.1 162 5) v1) (fun x3 e_x3 q => ?_)
      obtain ⟨h15, h16⟩ := q
      refine if_i (fun c => ?_) (fun c => ?_)
      · have c17 := c
        have d18 : x3.toInt = (0 : Int) := eqi.mp c17
        refine bind_i (sf_Mod_has (M.1 162 5) v2) (fun x4 e_x4 q => ?_)
        obtain ⟨h19, h20⟩ := q
        refine if_i (fun c => ?_) (fun c => ?_)
        · have c21 := c
          have d22 : x4.toInt = (0 : Int) := eqi.mp c21
          exact ⟨(0 : Int32), rfl, (show (0 : Int) ≤ (0 : Int32).toInt by decide), (show (0 : Int32).toInt ≤ (1 : Int) by decide), (fun hh => by have hh : ¬ (0 : Int32).toInt = 0 := hh; have zz : (0 : Int32).toInt = 0 := rfl; omega), (fun hh => by have hh : ¬ (0 : Int32).toInt = 0 := hh; have zz : (0 : Int32).toInt = 0 := rfl; omega)⟩
        · have c23 := c
          have d24 : ¬ x4.toInt = (0 : Int) := neqi.mp c23
          exact ⟨(1 : Int32), rfl, (show (0 : Int) ≤ (1 : Int32).toInt by decide), (show (1 : Int32).toInt ≤ (1 : Int) by decide), (fun hh => by have hh : ¬ (1 : Int32).toInt = 0 := hh; have zz : (1 : Int32).toInt = 1 := rfl; omega), (fun hh => by have hh : ¬ (1 : Int32).toInt = 0 := hh; have zz : (1 : Int32).toInt = 1 := rfl; omega)⟩
      · have c25 := c
        have d26 : ¬ x3.toInt = (0 : Int) := neqi.mp c25
        exact ⟨(0 : Int32), rfl, (show (0 : Int) ≤ (0 : Int32).toInt by decide), (show (0 : Int32).toInt ≤ (1 : Int) by decide), (fun hh => by have hh : ¬ (0 : Int32).toInt = 0 := hh; have zz : (0 : Int32).toInt = 0 := rfl; omega), (fun hh => by have hh : ¬ (0 : Int32).toInt = 0 := hh; have zz : (0 : Int32).toInt = 0 := rfl; omega)⟩
theorem sf_Mod_isOf (v1 : Int32) (v2 : Int32) (M : Mem) (hJ : J M) : ∃ r : Int32, f_Mod_isOf v1 v2 M = some r ∧ ((0 : Int) ≤ r.toInt ∧ r.toInt ≤ (1 : Int) ∧ (¬ r.toInt = 0 → (0 : Int) ≤ v2.toInt ∧ v2.toInt ≤ (35 : Int))) := by
  unfold f_Mod_isOf
  refine bind_i (sf_Mod_isCell v2 M hJ) (fun x1 e_x1 q => ?_)
  obtain ⟨h1, h2, h3⟩ := q
  refine if_i (fun c => ?_) (fun c => ?_)
  · have c4 := c
    have d5 : x1.toInt = (0 : Int) := eqi.mp c4
    exact ⟨(0 : Int32), rfl, (show (0 : Int) ≤ (0 : Int32).toInt by decide), (show (0 : Int32).toInt ≤ (1 : Int) by decide), (fun hh => by have hh : ¬ (0 : Int32).toInt = 0 := hh; have zz : (0 : Int32).toInt = 0 := rfl; omega)⟩
  · have c6 := c
    have d7 : ¬ x1.toInt = (0 : Int) := neqi.mp c6
    refine if_i (fun c => ?_) (fun c => ?_)
    · have c8 := c
      have d9 : v1.toInt = (0 : Int) := eqi.mp c8
      refine inb_i (by omega) (by omega) ?_
      refine if_i (fun c => ?_) (fun c => ?_)
      · have c10 := c
        have d11 : (M.1 164 v2.toNatClampNeg).toInt = (1 : Int) := eqi.mp c10
        exact ⟨(1 : Int32), rfl, (show (0 : Int) ≤ (1 : Int32).toInt by decide), (show (1 : Int32).toInt ≤ (1 : Int) by decide), (fun hh => by have hh : ¬ (1 : Int32).toInt = 0 := hh; have zz : (1 : Int32).toInt = 1 := rfl; omega)⟩
      · have c12 := c
        have d13 : ¬ (M.1 164 v2.toNatClampNeg).toInt = (1 : Int) := neqi.mp c12
        refine inb_i (by omega) (by omega) ?_
        refine if_i (fun c => ?_) (fun c => ?_)
        · have c14 := c
          have d15 : (M.1 164 v2.toNatClampNeg).toInt = (3 : Int) := eqi.mp c14
          exact ⟨(1 : Int32), rfl, (show (0 : Int) ≤ (1 : Int32).toInt by decide), (show (1 : Int32).toInt ≤ (1 : Int) by decide), (fun hh => by have hh : ¬ (1 : Int32).toInt = 0 := hh; have zz : (1 : Int32).toInt = 1 := rfl; omega)⟩
        · have c16 := c
          have d17 : ¬ (M.1 164 v2.toNatClampNeg).toInt = (3 : Int) := neqi.mp c16
          exact ⟨(0 : Int32), rfl, (show (0 : Int) ≤ (0 : Int32).toInt by decide), (show (0 : Int32).toInt ≤ (1 : Int) by decide), (fun hh => by have hh : ¬ (0 : Int32).toInt = 0 := hh; have zz : (0 : Int32).toInt = 0 := rfl; omega)⟩
    · have c18 := c
      have d19 : ¬ v1.toInt = (0 : Int) := neqi.mp c18
      refine inb_i (by omega) (by omega) ?_
      refine if_i (fun c => ?_) (fun c => ?_)
      · have c20 := c
        have d21 : (M.1 164 v2.toNatClampNeg).toInt = (2 : Int) := eqi.mp c20
        exact ⟨(1 : Int32), rfl, (show (0 : Int) ≤ (1 : Int32).toInt by decide), (show (1 : Int32).toInt ≤ (1 : Int) by decide), (fun hh => by have hh : ¬ (1 : Int32).toInt = 0 := hh; have zz : (1 : Int32).toInt = 1 := rfl; omega)⟩
      · have c22 := c
        have d23 : ¬ (M.1 164 v2.toNatClampNeg).toInt = (2 : Int) := neqi.mp c22
        refine inb_i (by omega) (by omega) ?_
        refine if_i (fun c => ?_) (fun c => ?_)
        · have c24 := c
          have d25 : (M.1 164 v2.toNatClampNeg).toInt = (3 : Int) := eqi.mp c24
          exact ⟨(1 : Int32), rfl, (show (0 : Int) ≤ (1 : Int32).toInt by decide), (show (1 : Int32).toInt ≤ (1 : Int) by decide), (fun hh => by have hh : ¬ (1 : Int32).toInt = 0 := hh; have zz : (1 : Int32).toInt = 1 := rfl; omega)⟩
        · have c26 := c
          have d27 : ¬ (M.1 164 v2.toNatClampNeg).toInt = (3 : Int) := neqi.mp c26
          exact ⟨(0 : Int32), rfl, (show (0 : Int) ≤ (0 : Int32).toInt by decide), (show (0 : Int32).toInt ≤ (1 : Int) by decide), (fun hh => by have hh : ¬ (0 : Int32).toInt = 0 := hh; have zz : (0 : Int32).toInt = 0 := rfl; omega)⟩
theorem sf_Mod_isPlaceOf (v1 : Int32) (v2 : Int32) (M : Mem) (hJ : J M) : ∃ r : Int32, f_Mod_isPlaceOf v1 v2 M = some r ∧ ((0 : Int) ≤ r.toInt ∧ r.toInt ≤ (1 : Int) ∧ (¬ r.toInt = 0 → (0 : Int) ≤ v1.toInt ∧ v1.toInt ≤ (1 : Int)) ∧ (¬ r.toInt = 0 → (0 : Int) ≤ v2.toInt ∧ v2.toInt ≤ (35 : Int))) := by
  unfold f_Mod_isPlaceOf
  refine bind_i (sf_Mod_in v1 (0 : Int32) (1 : Int32)) (fun x1 _ q => ?_)
  obtain ⟨h1, h2, h3⟩ := q
  replace h3 : ¬ x1.toInt = 0 → (0 : Int) ≤ v1.toInt ∧ v1.toInt ≤ (1 : Int) := h3
  refine if_i (fun c => ?_) (fun c => ?_)
  · have c4 := c
    have d5 : x1.toInt = (0 : Int) := eqi.mp c4
    exact ⟨(0 : Int32), rfl, (show (0 : Int) ≤ (0 : Int32).toInt by decide), (show (0 : Int32).toInt ≤ (1 : Int) by decide), (fun hh => by have hh : ¬ (0 : Int32).toInt = 0 := hh; have zz : (0 : Int32).toInt = 0 := rfl; omega), (fun hh => by have hh : ¬ (0 : Int32).toInt = 0 := hh; have zz : (0 : Int32).toInt = 0 := rfl; omega)⟩
  · have c6 := c
    have d7 : ¬ x1.toInt = (0 : Int) := neqi.mp c6
    refine bind_i (sf_Mod_isOf v1 v2 M hJ) (fun x2 e_x2 q => ?_)
    obtain ⟨h8, h9, h10⟩ := q
    refine if_i (fun c => ?_) (fun c => ?_)
    · have c11 := c
      have d12 : x2.toInt = (0 : Int) := eqi.mp c11
      exact ⟨(0 : Int32), rfl, (show (0 : Int) ≤ (0 : Int32).toInt by decide), (show (0 : Int32).toInt ≤ (1 : Int) by decide), (fun hh => by have hh : ¬ (0 : Int32).toInt = 0 := hh; have zz : (0 : Int32).toInt = 0 := rfl; omega), (fun hh => by have hh : ¬ (0 : Int32).toInt = 0 := hh; have zz : (0 : Int32).toInt = 0 := rfl; omega)⟩
    · have c13 := c
      have d14 : ¬ x2.toInt = (0 : Int) := neqi.mp c13
      exact ⟨(1 : Int32), rfl, (show (0 : Int) ≤ (1 : Int32).toInt by decide), (show (1 : Int32).toInt ≤ (1 : Int) by decide), (fun hh => by have hh : ¬ (1 : Int32).toInt = 0 := hh; have zz : (1 : Int32).toInt = 1 := rfl; omega), (fun hh => by have hh : ¬ (1 : Int32).toInt = 0 := hh; have zz : (1 : Int32).toInt = 1 := rfl; omega)⟩
theorem sl_Mod_isPlank_2 (v0 : Nat) (v1 : Int32) (v2 : Int32) (M : Mem) (a0_ : Int32) (hk_v0 : St v0) (hJ_M : J M) (i0_ : (0 : Int) ≤ a0_.toInt) (i1_ : a0_.toInt ≤ (6 : Int)) : ∃ x, iter (lb_Mod_isPlank_2 v0 v1 v2 M) FU a0_ = some x ∧ (SQ (fun r : Unit => True) (fun r : Unit => True)) x := by
  refine iter_r (fun s : Int32 => (0 : Int) ≤ s.toInt ∧ s.toInt ≤ (6 : Int)) (fun s : Int32 => (6 - s.toInt).toNat) (SQ (fun r : Unit => True) (fun r : Unit => True)) ?_ FU a0_ ⟨i0_, i1_⟩ (by show (6 - a0_.toInt).toNat < FU; rw [FU_v]; omega)
  clear i1_ i0_
  rintro a0_' ⟨i0_, i1_⟩
  unfold lb_Mod_isPlank_2
  have l1 := St_ln hk_v0
  refine c_i (inb_st hk_v0 (by decide)) ?_
  refine if_i (fun c => ?_) (fun c => ?_)
  · have c2 := c
    have r3 := Jst92 hJ_M hk_v0
    have d4 : (M.1 v0 (92 : Int32).toNatClampNeg).toInt ≤ a0_'.toInt := lei.mp c2
    exact ⟨_, rfl, trivial⟩
  · have c5 := c
    have r6 := Jst92 hJ_M hk_v0
    have d7 : a0_'.toInt < (M.1 v0 (92 : Int32).toNatClampNeg).toInt := nlei.mp c5
    have q8 : ((2 : Int32) * a0_').toInt = (2 : Int) * a0_'.toInt := mul_ti rfl rfl (by omega) (by omega)
    have q9 : ((80 : Int32) + ((2 : Int32) * a0_')).toInt = (80 : Int) + ((2 : Int32) * a0_').toInt := add_ti rfl rfl (by omega) (by omega)
    have l10 := St_ln hk_v0
    refine inb_i (by omega) (by omega) ?_
    have q11 : (((80 : Int32) + ((2 : Int32) * a0_')) + (1 : Int32)).toInt = ((80 : Int32) + ((2 : Int32) * a0_')).toInt + (1 : Int) := add_ti rfl rfl (by omega) (by omega)
    have l12 := St_ln hk_v0
    refine inb_i (by omega) (by omega) ?_
    refine if_i (fun c => ?_) (fun c => ?_)
    · have c13 := c
      have r14 := Jst80 hJ_M hk_v0 (i := ((80 : Int32) + ((2 : Int32) * a0_'))) (by omega) (by omega)
      have d15 : (M.1 v0 ((80 : Int32) + ((2 : Int32) * a0_')).toNatClampNeg).toInt = v1.toInt := eqi.mp c13
      refine if_i (fun c => ?_) (fun c => ?_)
      · have c16 := c
        have r17 := Jst80 hJ_M hk_v0 (i := (((80 : Int32) + ((2 : Int32) * a0_')) + (1 : Int32))) (by omega) (by omega)
        have d18 : (M.1 v0 (((80 : Int32) + ((2 : Int32) * a0_')) + (1 : Int32)).toNatClampNeg).toInt = v2.toInt := eqi.mp c16
        exact ⟨_, rfl, trivial⟩
      · have c19 := c
        have r20 := Jst80 hJ_M hk_v0 (i := (((80 : Int32) + ((2 : Int32) * a0_')) + (1 : Int32))) (by omega) (by omega)
        have d21 : ¬ (M.1 v0 (((80 : Int32) + ((2 : Int32) * a0_')) + (1 : Int32)).toNatClampNeg).toInt = v2.toInt := neqi.mp c19
        unfold j_Mod_isPlank_44_2
        refine if_i (fun c => ?_) (fun c => ?_)
        · have c22 := c
          have d23 : (M.1 v0 ((80 : Int32) + ((2 : Int32) * a0_')).toNatClampNeg).toInt = v2.toInt := eqi.mp c22
          refine if_i (fun c => ?_) (fun c => ?_)
          · have c24 := c
            have d25 : (M.1 v0 (((80 : Int32) + ((2 : Int32) * a0_')) + (1 : Int32)).toNatClampNeg).toInt = v1.toInt := eqi.mp c24
            exact ⟨_, rfl, trivial⟩
          · have c26 := c
            have d27 : ¬ (M.1 v0 (((80 : Int32) + ((2 : Int32) * a0_')) + (1 : Int32)).toNatClampNeg).toInt = v1.toInt := neqi.mp c26
            have q28 : (a0_' + (1 : Int32)).toInt = a0_'.toInt + (1 : Int) := add_ti rfl rfl (by omega) (by omega)
            exact ⟨_, rfl, ⟨(show (0 : Int) ≤ (a0_' + (1 : Int32)).toInt by omega), (show (a0_' + (1 : Int32)).toInt ≤ (6 : Int) by omega)⟩, show (6 - (a0_' + (1 : Int32)).toInt).toNat < (6 - a0_'.toInt).toNat by omega⟩
        · have c29 := c
          have d30 : ¬ (M.1 v0 ((80 : Int32) + ((2 : Int32) * a0_')).toNatClampNeg).toInt = v2.toInt := neqi.mp c29
          have q31 : (a0_' + (1 : Int32)).toInt = a0_'.toInt + (1 : Int) := add_ti rfl rfl (by omega) (by omega)
          exact ⟨_, rfl, ⟨(show (0 : Int) ≤ (a0_' + (1 : Int32)).toInt by omega), (show (a0_' + (1 : Int32)).toInt ≤ (6 : Int) by omega)⟩, show (6 - (a0_' + (1 : Int32)).toInt).toNat < (6 - a0_'.toInt).toNat by omega⟩
    · have c32 := c
      have r33 := Jst80 hJ_M hk_v0 (i := ((80 : Int32) + ((2 : Int32) * a0_'))) (by omega) (by omega)
      have d34 : ¬ (M.1 v0 ((80 : Int32) + ((2 : Int32) * a0_')).toNatClampNeg).toInt = v1.toInt := neqi.mp c32
      unfold j_Mod_isPlank_44_2
      refine if_i (fun c => ?_) (fun c => ?_)
      · have c35 := c
        have d36 : (M.1 v0 ((80 : Int32) + ((2 : Int32) * a0_')).toNatClampNeg).toInt = v2.toInt := eqi.mp c35
        refine if_i (fun c => ?_) (fun c => ?_)
        · have c37 := c
          have r38 := Jst80 hJ_M hk_v0 (i := (((80 : Int32) + ((2 : Int32) * a0_')) + (1 : Int32))) (by omega) (by omega)
          have d39 : (M.1 v0 (((80 : Int32) + ((2 : Int32) * a0_')) + (1 : Int32)).toNatClampNeg).toInt = v1.toInt := eqi.mp c37
          exact ⟨_, rfl, trivial⟩
        · have c40 := c
          have r41 := Jst80 hJ_M hk_v0 (i := (((80 : Int32) + ((2 : Int32) * a0_')) + (1 : Int32))) (by omega) (by omega)
          have d42 : ¬ (M.1 v0 (((80 : Int32) + ((2 : Int32) * a0_')) + (1 : Int32)).toNatClampNeg).toInt = v1.toInt := neqi.mp c40
          have q43 : (a0_' + (1 : Int32)).toInt = a0_'.toInt + (1 : Int) := add_ti rfl rfl (by omega) (by omega)
          exact ⟨_, rfl, ⟨(show (0 : Int) ≤ (a0_' + (1 : Int32)).toInt by omega), (show (a0_' + (1 : Int32)).toInt ≤ (6 : Int) by omega)⟩, show (6 - (a0_' + (1 : Int32)).toInt).toNat < (6 - a0_'.toInt).toNat by omega⟩
      · have c44 := c
        have d45 : ¬ (M.1 v0 ((80 : Int32) + ((2 : Int32) * a0_')).toNatClampNeg).toInt = v2.toInt := neqi.mp c44
        have q46 : (a0_' + (1 : Int32)).toInt = a0_'.toInt + (1 : Int) := add_ti rfl rfl (by omega) (by omega)
        exact ⟨_, rfl, ⟨(show (0 : Int) ≤ (a0_' + (1 : Int32)).toInt by omega), (show (a0_' + (1 : Int32)).toInt ≤ (6 : Int) by omega)⟩, show (6 - (a0_' + (1 : Int32)).toInt).toNat < (6 - a0_'.toInt).toNat by omega⟩
theorem sf_Mod_isPlank (v0 : Nat) (v1 : Int32) (v2 : Int32) (M : Mem) (hk_v0 : St v0) (hJ : J M) : ∃ r : Int32, f_Mod_isPlank v0 v1 v2 M = some r ∧ ((0 : Int) ≤ r.toInt ∧ r.toInt ≤ (1 : Int)) := by
  unfold f_Mod_isPlank
  refine c_i (St_kd hk_v0) ?_
  refine bind_i (sl_Mod_isPlank_2 v0 v1 v2 M (0 : Int32) hk_v0 hJ (show (0 : Int) ≤ (0 : Int32).toInt by decide) (show (0 : Int32).toInt ≤ (6 : Int) by decide)) (fun x1 _ q => ?_)
  rcases x1 with y | y
  · have q9 : True := q
    dsimp only [Sum.elim_inl, Sum.elim_inr]
    exact ⟨(0 : Int32), rfl, (show (0 : Int) ≤ (0 : Int32).toInt by decide), (show (0 : Int32).toInt ≤ (1 : Int) by decide)⟩
  · have q9 : True := q
    dsimp only [Sum.elim_inl, Sum.elim_inr]
    exact ⟨(1 : Int32), rfl, (show (0 : Int) ≤ (1 : Int32).toInt by decide), (show (1 : Int32).toInt ≤ (1 : Int) by decide)⟩
theorem sf_Mod_go (v1 : Nat) (v2 : Int32) (v3 : Int32) (M : Mem) (hk_v1 : St v1) (hp_v2 : (0 : Int) ≤ v2.toInt ∧ v2.toInt ≤ (71 : Int)) (hJ : J M) : ∃ r : Int32, f_Mod_go v1 v2 v3 M = some r ∧ ((-1 : Int) ≤ r.toInt ∧ r.toInt ≤ (71 : Int)) := by
  unfold f_Mod_go
  refine c_i (St_kd hk_v1) ?_
  refine if_i (fun c => ?_) (fun c => ?_)
  · have c1 := c
    have d2 : v3.toInt = (4 : Int) := eqi.mp c1
    exact ⟨v2, rfl, (show (-1 : Int) ≤ v2.toInt by omega), (show v2.toInt ≤ (71 : Int) by omega)⟩
  · have c3 := c
    have d4 : ¬ v3.toInt = (4 : Int) := neqi.mp c3
    refine bind_e (show (f_Mod_levelOf v2) = some (v2 / (36 : Int32)) from rfl) ?_
    refine bind_e (show (f_Mod_cellOf v2) = some (v2 - ((v2 / (36 : Int32)) * (36 : Int32))) from rfl) ?_
    have q5 : (v2 - ((v2 / (36 : Int32)) * (36 : Int32))).toInt = v2.toInt % (36 : Int) := rem_ti rfl rfl (by omega) (by omega)
    refine bind_i (sf_Mod_beside (v2 - ((v2 / (36 : Int32)) * (36 : Int32))) v3 M (⟨show (-1 : Int) ≤ (v2 - ((v2 / (36 : Int32)) * (36 : Int32))).toInt by omega, show (v2 - ((v2 / (36 : Int32)) * (36 : Int32))).toInt ≤ (35 : Int) by omega⟩) hJ) (fun x3 e_x3 q => ?_)
    obtain ⟨h6, h7⟩ := q
    refine if_i (fun c => ?_) (fun c => ?_)
    · have c8 := c
      have d9 : x3.toInt = (-1 : Int) := eqi.mp c8
      exact ⟨(-1 : Int32), rfl, (show (-1 : Int) ≤ (-1 : Int32).toInt by decide), (show (-1 : Int32).toInt ≤ (71 : Int) by decide)⟩
    · have c10 := c
      have d11 : ¬ x3.toInt = (-1 : Int) := neqi.mp c10
      refine bind_i (sf_Mod_isOf (v2 / (36 : Int32)) x3 M hJ) (fun x4 e_x4 q => ?_)
      obtain ⟨h12, h13, h14⟩ := q
      refine if_i (fun c => ?_) (fun c => ?_)
      · have c15 := c
        have d16 : x4.toInt = (0 : Int) := eqi.mp c15
        refine if_i (fun c => ?_) (fun c => ?_)
        · have c17 := c
          have q18 : (v2 / (36 : Int32)).toInt = v2.toInt / (36 : Int) := div_ti rfl rfl (by omega) (by omega)
          have d19 : (v2 / (36 : Int32)).toInt = (0 : Int) := eqi.mp c17
          exact ⟨(-1 : Int32), rfl, (show (-1 : Int) ≤ (-1 : Int32).toInt by decide), (show (-1 : Int32).toInt ≤ (71 : Int) by decide)⟩
        · have c20 := c
          have q21 : (v2 / (36 : Int32)).toInt = v2.toInt / (36 : Int) := div_ti rfl rfl (by omega) (by omega)
          have d22 : ¬ (v2 / (36 : Int32)).toInt = (0 : Int) := neqi.mp c20
          refine bind_i (sf_Mod_beside x3 v3 M (⟨show (-1 : Int) ≤ x3.toInt by omega, show x3.toInt ≤ (35 : Int) by omega⟩) hJ) (fun x5 e_x5 q => ?_)
          obtain ⟨h23, h24⟩ := q
          refine if_i (fun c => ?_) (fun c => ?_)
          · have c25 := c
            have d26 : x5.toInt = (-1 : Int) := eqi.mp c25
            exact ⟨(-1 : Int32), rfl, (show (-1 : Int) ≤ (-1 : Int32).toInt by decide), (show (-1 : Int32).toInt ≤ (71 : Int) by decide)⟩
          · have c27 := c
            have d28 : ¬ x5.toInt = (-1 : Int) := neqi.mp c27
            refine bind_e (show (f_Mod_cellOf v2) = some (v2 - ((v2 / (36 : Int32)) * (36 : Int32))) from rfl) ?_
            refine bind_i (sf_Mod_isPlank v1 (v2 - ((v2 / (36 : Int32)) * (36 : Int32))) x5 M hk_v1 hJ) (fun x7 e_x7 q => ?_)
            obtain ⟨h29, h30⟩ := q
            refine if_i (fun c => ?_) (fun c => ?_)
            · have c31 := c
              have d32 : x7.toInt = (0 : Int) := eqi.mp c31
              exact ⟨(-1 : Int32), rfl, (show (-1 : Int) ≤ (-1 : Int32).toInt by decide), (show (-1 : Int32).toInt ≤ (71 : Int) by decide)⟩
            · have c33 := c
              have d34 : ¬ x7.toInt = (0 : Int) := neqi.mp c33
              refine bind_e (show (f_Mod_placeOf (1 : Int32) x5) = some (((36 : Int32) * (1 : Int32)) + x5) from rfl) ?_
              have q35 : ((36 : Int32) * (1 : Int32)).toInt = (36 : Int) * (1 : Int) := mul_ti rfl rfl (by omega) (by omega)
              have q36 : (((36 : Int32) * (1 : Int32)) + x5).toInt = ((36 : Int32) * (1 : Int32)).toInt + x5.toInt := add_ti rfl rfl (by omega) (by omega)
              exact ⟨(((36 : Int32) * (1 : Int32)) + x5), rfl, (show (-1 : Int) ≤ (((36 : Int32) * (1 : Int32)) + x5).toInt by omega), (show (((36 : Int32) * (1 : Int32)) + x5).toInt ≤ (71 : Int) by omega)⟩
      · have c37 := c
        have d38 : ¬ x4.toInt = (0 : Int) := neqi.mp c37
        refine bind_e (show (f_Mod_placeOf (v2 / (36 : Int32)) x3) = some (((36 : Int32) * (v2 / (36 : Int32))) + x3) from rfl) ?_
        have q39 : (v2 / (36 : Int32)).toInt = v2.toInt / (36 : Int) := div_ti rfl rfl (by omega) (by omega)
        have q40 : ((36 : Int32) * (v2 / (36 : Int32))).toInt = (36 : Int) * (v2 / (36 : Int32)).toInt := mul_ti rfl rfl (by omega) (by omega)
        have q41 : (((36 : Int32) * (v2 / (36 : Int32))) + x3).toInt = ((36 : Int32) * (v2 / (36 : Int32))).toInt + x3.toInt := add_ti rfl rfl (by omega) (by omega)
        exact ⟨(((36 : Int32) * (v2 / (36 : Int32))) + x3), rfl, (show (-1 : Int) ≤ (((36 : Int32) * (v2 / (36 : Int32))) + x3).toInt by omega), (show (((36 : Int32) * (v2 / (36 : Int32))) + x3).toInt ≤ (71 : Int) by omega)⟩
theorem sf_Mod_goes (v1 : Nat) (v2 : Int32) (M : Mem) (hk_v1 : St v1) (hp_v2 : (0 : Int) ≤ v2.toInt ∧ v2.toInt ≤ (7 : Int)) (hJ : J M) : ∃ r : Int32 × Mem, f_Mod_goes v1 v2 M = some r ∧ (J r.2 ∧ Gd 1000 M r.2 ∧ (0 : Int) ≤ r.1.toInt ∧ r.1.toInt ≤ (1 : Int)) := by
  obtain ⟨r, e, h1, h2, h3⟩ := sp_goes hJ v1 v2 hk_v1 hp_v2
  refine ⟨r, e, h1, Gd_fr h3 (fun k i w => ?_), ?_⟩
  · obtain ⟨rfl, w⟩ := w
    have : i = 14 ∨ i = 15 ∨ i = 16 ∨ i = 17 ∨ i = 18 ∨ i = 25 := by omega
    rcases this with rfl | rfl | rfl | rfl | rfl | rfl <;> decide
  rcases h2 with h2 | h2 <;> rw [h2] <;> decide
theorem sl_Mod_onPlace_5 (v1 : Nat) (v2 : Int32) (M : Mem) (a0_ : Int32) (a1_ : Int32) (hk_v1 : St v1) (hJ_M : J M) (i0_ : (0 : Int) ≤ a1_.toInt) (i1_ : a1_.toInt ≤ (8 : Int)) : ∃ x, iter (lb_Mod_onPlace_5 v1 v2 M) FU (a0_, a1_) = some x ∧ (fun r : Int32 => True) x := by
  refine iter_r (fun s : Int32 × Int32 => (0 : Int) ≤ s.2.toInt ∧ s.2.toInt ≤ (8 : Int)) (fun s : Int32 × Int32 => (8 - s.2.toInt).toNat) (fun r : Int32 => True) ?_ FU (a0_, a1_) ⟨i0_, i1_⟩ (by show (8 - a1_.toInt).toNat < FU; rw [FU_v]; omega)
  clear i1_ i0_
  rintro ⟨a0_', a1_'⟩ ⟨i0_, i1_⟩
  dsimp only at i0_ i1_
  unfold lb_Mod_onPlace_5
  dsimp only
  refine if_i (fun c => ?_) (fun c => ?_)
  · have c1 := c
    have r2 := Jr_162_4 hJ_M
    have d3 : (M.1 162 4).toInt ≤ a1_'.toInt := lei.mp c1
    exact ⟨_, rfl, trivial⟩
  · have c4 := c
    have r5 := Jr_162_4 hJ_M
    have d6 : a1_'.toInt < (M.1 162 4).toInt := nlei.mp c4
    have l7 := St_ln hk_v1
    refine inb_i (by omega) (by omega) ?_
    refine if_i (fun c => ?_) (fun c => ?_)
    · have c8 := c
      have r9 := Jst0 hJ_M hk_v1 (i := a1_') (by omega) (by omega)
      have d10 : (M.1 v1 a1_'.toNatClampNeg).toInt = v2.toInt := eqi.mp c8
      have q11 : (a1_' + (1 : Int32)).toInt = a1_'.toInt + (1 : Int) := add_ti rfl rfl (by omega) (by omega)
      exact ⟨_, rfl, ⟨(show (0 : Int) ≤ (a1_' + (1 : Int32)).toInt by omega), (show (a1_' + (1 : Int32)).toInt ≤ (8 : Int) by omega)⟩, show (8 - (a1_' + (1 : Int32)).toInt).toNat < (8 - a1_'.toInt).toNat by omega⟩
    · have c12 := c
      have r13 := Jst0 hJ_M hk_v1 (i := a1_') (by omega) (by omega)
      have d14 : ¬ (M.1 v1 a1_'.toNatClampNeg).toInt = v2.toInt := neqi.mp c12
      have q15 : (a1_' + (1 : Int32)).toInt = a1_'.toInt + (1 : Int) := add_ti rfl rfl (by omega) (by omega)
      exact ⟨_, rfl, ⟨(show (0 : Int) ≤ (a1_' + (1 : Int32)).toInt by omega), (show (a1_' + (1 : Int32)).toInt ≤ (8 : Int) by omega)⟩, show (8 - (a1_' + (1 : Int32)).toInt).toNat < (8 - a1_'.toInt).toNat by omega⟩
theorem sf_Mod_onPlace (v1 : Nat) (v2 : Int32) (M : Mem) (hk_v1 : St v1) (hJ : J M) : ∃ r : Int32, f_Mod_onPlace v1 v2 M = some r ∧ (True) := by
  unfold f_Mod_onPlace
  refine c_i (St_kd hk_v1) ?_
  refine bind_i (sl_Mod_onPlace_5 v1 v2 M (0 : Int32) (0 : Int32) hk_v1 hJ (show (0 : Int) ≤ (0 : Int32).toInt by decide) (show (0 : Int32).toInt ≤ (8 : Int) by decide)) (fun x3 _ q => ?_)
  exact ⟨x3, rfl, trivial⟩
theorem sl_Mod_ways_16 (v1 : Int32) (v2 : Int32) (M : Mem) (a0_ : Int32) (a1_ : Int32) (hp_v1 : (0 : Int) ≤ v1.toInt ∧ v1.toInt ≤ (1 : Int)) (hp_v2 : (0 : Int) ≤ v2.toInt ∧ v2.toInt ≤ (35 : Int)) (hJ_M : J M) (i0_ : (0 : Int) ≤ a1_.toInt) (i1_ : a1_.toInt ≤ (4 : Int)) : ∃ x, iter (lb_Mod_ways_16 v1 v2 M) FU (a0_, a1_) = some x ∧ (fun r : Int32 => True) x := by
  refine iter_r (fun s : Int32 × Int32 => (0 : Int) ≤ s.2.toInt ∧ s.2.toInt ≤ (4 : Int)) (fun s : Int32 × Int32 => (4 - s.2.toInt).toNat) (fun r : Int32 => True) ?_ FU (a0_, a1_) ⟨i0_, i1_⟩ (by show (4 - a1_.toInt).toNat < FU; rw [FU_v]; omega)
  clear i1_ i0_
  rintro ⟨a0_', a1_'⟩ ⟨i0_, i1_⟩
  dsimp only at i0_ i1_
  unfold lb_Mod_ways_16
  dsimp only
  refine if_i (fun c => ?_) (fun c => ?_)
  · have c1 := c
    have d2 : (4 : Int) ≤ a1_'.toInt := lei.mp c1
    exact ⟨_, rfl, trivial⟩
  · have c3 := c
    have d4 : a1_'.toInt < (4 : Int) := nlei.mp c3
    refine bind_e (show (f_Mod_placeOf v1 v2) = some (((36 : Int32) * v1) + v2) from rfl) ?_
    have q5 : ((36 : Int32) * v1).toInt = (36 : Int) * v1.toInt := mul_ti rfl rfl (by omega) (by omega)
    have q6 : (((36 : Int32) * v1) + v2).toInt = ((36 : Int32) * v1).toInt + v2.toInt := add_ti rfl rfl (by omega) (by omega)
    refine bind_i (sf_Mod_go 163 (((36 : Int32) * v1) + v2) a1_' M St_163 (⟨show (0 : Int) ≤ (((36 : Int32) * v1) + v2).toInt by omega, show (((36 : Int32) * v1) + v2).toInt ≤ (71 : Int) by omega⟩) hJ_M) (fun x3 e_x3 q => ?_)
    obtain ⟨h7, h8⟩ := q
    refine if_i (fun c => ?_) (fun c => ?_)
    · have c9 := c
      have d10 : x3.toInt = (-1 : Int) := eqi.mp c9
      have q11 : (a1_' + (1 : Int32)).toInt = a1_'.toInt + (1 : Int) := add_ti rfl rfl (by omega) (by omega)
      exact ⟨_, rfl, ⟨(show (0 : Int) ≤ (a1_' + (1 : Int32)).toInt by omega), (show (a1_' + (1 : Int32)).toInt ≤ (4 : Int) by omega)⟩, show (4 - (a1_' + (1 : Int32)).toInt).toNat < (4 - a1_'.toInt).toNat by omega⟩
    · have c12 := c
      have d13 : ¬ x3.toInt = (-1 : Int) := neqi.mp c12
      have q14 : (a1_' + (1 : Int32)).toInt = a1_'.toInt + (1 : Int) := add_ti rfl rfl (by omega) (by omega)
      exact ⟨_, rfl, ⟨(show (0 : Int) ≤ (a1_' + (1 : Int32)).toInt by omega), (show (a1_' + (1 : Int32)).toInt ≤ (4 : Int) by omega)⟩, show (4 - (a1_' + (1 : Int32)).toInt).toNat < (4 - a1_'.toInt).toNat by omega⟩
theorem sf_Mod_ways (v1 : Int32) (v2 : Int32) (M : Mem) (hp_v1 : (0 : Int) ≤ v1.toInt ∧ v1.toInt ≤ (1 : Int)) (hJ : J M) : ∃ r : Int32, f_Mod_ways v1 v2 M = some r ∧ (True) := by
  unfold f_Mod_ways
  refine bind_i (sf_Mod_isOf v1 v2 M hJ) (fun x1 e_x1 q => ?_)
  obtain ⟨h1, h2, h3⟩ := q
  refine if_i (fun c => ?_) (fun c => ?_)
  · have c4 := c
    have d5 : x1.toInt = (0 : Int) := eqi.mp c4
    exact ⟨(0 : Int32), rfl, trivial⟩
  · have c6 := c
    have d7 : ¬ x1.toInt = (0 : Int) := neqi.mp c6
    refine bind_i (sl_Mod_ways_16 v1 v2 M (0 : Int32) (0 : Int32) (⟨show (0 : Int) ≤ v1.toInt by omega, show v1.toInt ≤ (1 : Int) by omega⟩) (⟨show (0 : Int) ≤ v2.toInt by omega, show v2.toInt ≤ (35 : Int) by omega⟩) hJ (show (0 : Int) ≤ (0 : Int32).toInt by decide) (show (0 : Int32).toInt ≤ (4 : Int) by decide)) (fun x6 _ q => ?_)
    exact ⟨x6, rfl, trivial⟩
theorem sl_Mod_cell_88 (v1 : Int32) (M : Mem) (a0_ : Int32) (a1_ : Int32) (hp_v1 : (0 : Int) ≤ v1.toInt ∧ v1.toInt ≤ (35 : Int)) (hJ_M : J M) (i0_ : (0 : Int) ≤ a1_.toInt) (i1_ : a1_.toInt ≤ (6 : Int)) : ∃ x, iter (lb_Mod_cell_88 v1 M) FU (a0_, a1_) = some x ∧ (fun r : Int32 => True) x := by
  refine iter_r (fun s : Int32 × Int32 => (0 : Int) ≤ s.2.toInt ∧ s.2.toInt ≤ (6 : Int)) (fun s : Int32 × Int32 => (6 - s.2.toInt).toNat) (fun r : Int32 => True) ?_ FU (a0_, a1_) ⟨i0_, i1_⟩ (by show (6 - a1_.toInt).toNat < FU; rw [FU_v]; omega)
  clear i1_ i0_
  rintro ⟨a0_', a1_'⟩ ⟨i0_, i1_⟩
  dsimp only at i0_ i1_
  unfold lb_Mod_cell_88
  dsimp only
  refine if_i (fun c => ?_) (fun c => ?_)
  · have c1 := c
    have r2 := Jst92 hJ_M St_163
    have d3 : (M.1 163 (92 : Int32).toNatClampNeg).toInt ≤ a1_'.toInt := lei.mp c1
    exact ⟨_, rfl, trivial⟩
  · have c4 := c
    have r5 := Jst92 hJ_M St_163
    have d6 : a1_'.toInt < (M.1 163 (92 : Int32).toNatClampNeg).toInt := nlei.mp c4
    have q7 : ((2 : Int32) * a1_').toInt = (2 : Int) * a1_'.toInt := mul_ti rfl rfl (by omega) (by omega)
    have q8 : ((80 : Int32) + ((2 : Int32) * a1_')).toInt = (80 : Int) + ((2 : Int32) * a1_').toInt := add_ti rfl rfl (by omega) (by omega)
    refine inb_i (by omega) (by omega) ?_
    refine if_i (fun c => ?_) (fun c => ?_)
    · have c9 := c
      have r10 := Jst80 hJ_M St_163 (i := ((80 : Int32) + ((2 : Int32) * a1_'))) (by omega) (by omega)
      have d11 : (M.1 163 ((80 : Int32) + ((2 : Int32) * a1_')).toNatClampNeg).toInt = v1.toInt := eqi.mp c9
      have q12 : (a1_' + (1 : Int32)).toInt = a1_'.toInt + (1 : Int) := add_ti rfl rfl (by omega) (by omega)
      exact ⟨_, rfl, ⟨(show (0 : Int) ≤ (a1_' + (1 : Int32)).toInt by omega), (show (a1_' + (1 : Int32)).toInt ≤ (6 : Int) by omega)⟩, show (6 - (a1_' + (1 : Int32)).toInt).toNat < (6 - a1_'.toInt).toNat by omega⟩
    · have c13 := c
      have r14 := Jst80 hJ_M St_163 (i := ((80 : Int32) + ((2 : Int32) * a1_'))) (by omega) (by omega)
      have d15 : ¬ (M.1 163 ((80 : Int32) + ((2 : Int32) * a1_')).toNatClampNeg).toInt = v1.toInt := neqi.mp c13
      have q16 : (((80 : Int32) + ((2 : Int32) * a1_')) + (1 : Int32)).toInt = ((80 : Int32) + ((2 : Int32) * a1_')).toInt + (1 : Int) := add_ti rfl rfl (by omega) (by omega)
      refine inb_i (by omega) (by omega) ?_
      refine if_i (fun c => ?_) (fun c => ?_)
      · have c17 := c
        have r18 := Jst80 hJ_M St_163 (i := (((80 : Int32) + ((2 : Int32) * a1_')) + (1 : Int32))) (by omega) (by omega)
        have d19 : (M.1 163 (((80 : Int32) + ((2 : Int32) * a1_')) + (1 : Int32)).toNatClampNeg).toInt = v1.toInt := eqi.mp c17
        have q20 : (a1_' + (1 : Int32)).toInt = a1_'.toInt + (1 : Int) := add_ti rfl rfl (by omega) (by omega)
        exact ⟨_, rfl, ⟨(show (0 : Int) ≤ (a1_' + (1 : Int32)).toInt by omega), (show (a1_' + (1 : Int32)).toInt ≤ (6 : Int) by omega)⟩, show (6 - (a1_' + (1 : Int32)).toInt).toNat < (6 - a1_'.toInt).toNat by omega⟩
      · have c21 := c
        have r22 := Jst80 hJ_M St_163 (i := (((80 : Int32) + ((2 : Int32) * a1_')) + (1 : Int32))) (by omega) (by omega)
        have d23 : ¬ (M.1 163 (((80 : Int32) + ((2 : Int32) * a1_')) + (1 : Int32)).toNatClampNeg).toInt = v1.toInt := neqi.mp c21
        have q24 : (a1_' + (1 : Int32)).toInt = a1_'.toInt + (1 : Int) := add_ti rfl rfl (by omega) (by omega)
        exact ⟨_, rfl, ⟨(show (0 : Int) ≤ (a1_' + (1 : Int32)).toInt by omega), (show (a1_' + (1 : Int32)).toInt ≤ (6 : Int) by omega)⟩, show (6 - (a1_' + (1 : Int32)).toInt).toNat < (6 - a1_'.toInt).toNat by omega⟩
theorem sf_Mod_cell (v1 : Int32) (v2 : Int32) (M : Mem) (hJ : J M) : ∃ r : Int32 × Mem, f_Mod_cell v1 v2 M = some r ∧ (J r.2 ∧ Gd 1000 M r.2) := by
  unfold f_Mod_cell
  refine mem_i (fun M1 e2 => ?_)
  have hJ3 : J M1 := by rw [e2]; exact Jw_fld okf_162_13 hJ (0 : Int32)
  have hG4 : Gd 1000 M M1 := Gd_i Gd_r e2 (by decide)
  have f5 : (M1.1 162 13).toInt = (0 : Int) := by rw [e2, si_eq]; rfl
  clear e2
  refine bind_i (sf_Mod_isCell v1 M1 hJ3) (fun x2 e_x2 q => ?_)
  obtain ⟨h6, h7, h8⟩ := q
  refine if_i (fun c => ?_) (fun c => ?_)
  · have c9 := c
    have d10 : x2.toInt = (0 : Int) := eqi.mp c9
    unfold j_Mod_cell_22
    refine bind_i (sf_Mod_lost M1 hJ3) (fun x3 _ q => ?_)
    obtain ⟨h11, h12, h13, h14⟩ := q
    have hG15 : Gd 1000 M x3.2 := Gd_t hG4 h12
    exact ⟨(x3.1, x3.2), rfl, h11, hG15⟩
  · have c16 := c
    have d17 : ¬ x2.toInt = (0 : Int) := neqi.mp c16
    refine bind_i (sf_Mod_in v2 (0 : Int32) (5 : Int32)) (fun x4 _ q => ?_)
    obtain ⟨h18, h19, h20⟩ := q
    replace h20 : ¬ x4.toInt = 0 → (0 : Int) ≤ v2.toInt ∧ v2.toInt ≤ (5 : Int) := h20
    refine if_i (fun c => ?_) (fun c => ?_)
    · have c21 := c
      have d22 : x4.toInt = (0 : Int) := eqi.mp c21
      unfold j_Mod_cell_22
      refine bind_i (sf_Mod_lost M1 hJ3) (fun x3 _ q => ?_)
      obtain ⟨h23, h24, h25, h26⟩ := q
      have hG27 : Gd 1000 M x3.2 := Gd_t hG4 h24
      exact ⟨(x3.1, x3.2), rfl, h23, hG27⟩
    · have c28 := c
      have d29 : ¬ x4.toInt = (0 : Int) := neqi.mp c28
      refine if_i (fun c => ?_) (fun c => ?_)
      · have c30 := c
        have d31 : v2.toInt = (0 : Int) := eqi.mp c30
        refine inb_i (by omega) (by omega) ?_
        exact ⟨((M1.1 164 v1.toNatClampNeg), M1), rfl, hJ3, hG4⟩
      · have c32 := c
        have d33 : ¬ v2.toInt = (0 : Int) := neqi.mp c32
        refine if_i (fun c => ?_) (fun c => ?_)
        · have c34 := c
          have d35 : v2.toInt = (1 : Int) := eqi.mp c34
          refine bind_e (show (f_Mod_placeOf (v2 - (1 : Int32)) v1) = some (((36 : Int32) * (v2 - (1 : Int32))) + v1) from rfl) ?_
          refine bind_i (sf_Mod_onPlace 163 (((36 : Int32) * (v2 - (1 : Int32))) + v1) M1 St_163 hJ3) (fun x8 e_x8 q => ?_)
          exact ⟨(x8, M1), rfl, hJ3, hG4⟩
        · have c36 := c
          have d37 : ¬ v2.toInt = (1 : Int) := neqi.mp c36
          refine if_i (fun c => ?_) (fun c => ?_)
          · have c38 := c
            have d39 : v2.toInt = (2 : Int) := eqi.mp c38
            refine bind_e (show (f_Mod_placeOf (v2 - (1 : Int32)) v1) = some (((36 : Int32) * (v2 - (1 : Int32))) + v1) from rfl) ?_
            refine bind_i (sf_Mod_onPlace 163 (((36 : Int32) * (v2 - (1 : Int32))) + v1) M1 St_163 hJ3) (fun x8 e_x8 q => ?_)
            exact ⟨(x8, M1), rfl, hJ3, hG4⟩
          · have c40 := c
            have d41 : ¬ v2.toInt = (2 : Int) := neqi.mp c40
            refine if_i (fun c => ?_) (fun c => ?_)
            · have c42 := c
              have d43 : v2.toInt = (3 : Int) := eqi.mp c42
              refine bind_i (sl_Mod_cell_88 v1 M1 (0 : Int32) (0 : Int32) (⟨show (0 : Int) ≤ v1.toInt by omega, show v1.toInt ≤ (35 : Int) by omega⟩) hJ3 (show (0 : Int) ≤ (0 : Int32).toInt by decide) (show (0 : Int32).toInt ≤ (6 : Int) by decide)) (fun x14 _ q => ?_)
              exact ⟨(x14, M1), rfl, hJ3, hG4⟩
            · have c44 := c
              have d45 : ¬ v2.toInt = (3 : Int) := neqi.mp c44
              have q46 : (v2 - (4 : Int32)).toInt = v2.toInt - (4 : Int) := sub_ti rfl rfl (by omega) (by omega)
              refine bind_i (sf_Mod_ways (v2 - (4 : Int32)) v1 M1 (⟨show (0 : Int) ≤ (v2 - (4 : Int32)).toInt by omega, show (v2 - (4 : Int32)).toInt ≤ (1 : Int) by omega⟩) hJ3) (fun x5 e_x5 q => ?_)
              exact ⟨(x5, M1), rfl, hJ3, hG4⟩
theorem sl_Mod_meetingsOf_4 (v1 : Int32) (M : Mem) (a0_ : Int32) (a1_ : Int32) (hp_v1 : (0 : Int) ≤ v1.toInt ∧ v1.toInt ≤ (7 : Int)) (hJ_M : J M) (i0_ : (0 : Int) ≤ a1_.toInt) (i1_ : a1_.toInt ≤ (8 : Int)) : ∃ x, iter (lb_Mod_meetingsOf_4 v1 M) FU (a0_, a1_) = some x ∧ (fun r : Int32 => True) x := by
  refine iter_r (fun s : Int32 × Int32 => (0 : Int) ≤ s.2.toInt ∧ s.2.toInt ≤ (8 : Int)) (fun s : Int32 × Int32 => (8 - s.2.toInt).toNat) (fun r : Int32 => True) ?_ FU (a0_, a1_) ⟨i0_, i1_⟩ (by show (8 - a1_.toInt).toNat < FU; rw [FU_v]; omega)
  clear i1_ i0_
  rintro ⟨a0_', a1_'⟩ ⟨i0_, i1_⟩
  dsimp only at i0_ i1_
  unfold lb_Mod_meetingsOf_4
  dsimp only
  refine if_i (fun c => ?_) (fun c => ?_)
  · have c1 := c
    have r2 := Jr_162_4 hJ_M
    have d3 : (M.1 162 4).toInt ≤ a1_'.toInt := lei.mp c1
    exact ⟨_, rfl, trivial⟩
  · have c4 := c
    have r5 := Jr_162_4 hJ_M
    have d6 : a1_'.toInt < (M.1 162 4).toInt := nlei.mp c4
    have q7 : ((8 : Int32) * v1).toInt = (8 : Int) * v1.toInt := mul_ti rfl rfl (by omega) (by omega)
    have q8 : ((16 : Int32) + ((8 : Int32) * v1)).toInt = (16 : Int) + ((8 : Int32) * v1).toInt := add_ti rfl rfl (by omega) (by omega)
    have q9 : (((16 : Int32) + ((8 : Int32) * v1)) + a1_').toInt = ((16 : Int32) + ((8 : Int32) * v1)).toInt + a1_'.toInt := add_ti rfl rfl (by omega) (by omega)
    refine inb_i (by omega) (by omega) ?_
    have q10 : (a1_' + (1 : Int32)).toInt = a1_'.toInt + (1 : Int) := add_ti rfl rfl (by omega) (by omega)
    exact ⟨_, rfl, ⟨(show (0 : Int) ≤ (a1_' + (1 : Int32)).toInt by omega), (show (a1_' + (1 : Int32)).toInt ≤ (8 : Int) by omega)⟩, show (8 - (a1_' + (1 : Int32)).toInt).toNat < (8 - a1_'.toInt).toNat by omega⟩
theorem sf_Mod_meetingsOf (v1 : Int32) (M : Mem) (hp_v1 : (0 : Int) ≤ v1.toInt ∧ v1.toInt ≤ (7 : Int)) (hJ : J M) : ∃ r : Int32, f_Mod_meetingsOf v1 M = some r ∧ (True) := by
  unfold f_Mod_meetingsOf
  refine bind_i (sl_Mod_meetingsOf_4 v1 M (0 : Int32) (0 : Int32) (⟨show (0 : Int) ≤ v1.toInt by omega, show v1.toInt ≤ (7 : Int) by omega⟩) hJ (show (0 : Int) ≤ (0 : Int32).toInt by decide) (show (0 : Int32).toInt ≤ (8 : Int) by decide)) (fun x2 _ q => ?_)
  exact ⟨x2, rfl, trivial⟩
theorem sf_Mod_person (v1 : Int32) (v2 : Int32) (M : Mem) (hJ : J M) : ∃ r : Int32 × Mem, f_Mod_person v1 v2 M = some r ∧ (J r.2 ∧ Gd 1000 M r.2) := by
  unfold f_Mod_person
  refine mem_i (fun M1 e2 => ?_)
  have hJ3 : J M1 := by rw [e2]; exact Jw_fld okf_162_13 hJ (0 : Int32)
  have hG4 : Gd 1000 M M1 := Gd_i Gd_r e2 (by decide)
  have f5 : (M1.1 162 13).toInt = (0 : Int) := by rw [e2, si_eq]; rfl
  clear e2
  refine bind_i (sf_Mod_isOne v1 M1 hJ3) (fun x2 e_x2 q => ?_)
  obtain ⟨h6, h7, h8⟩ := q
  refine if_i (fun c => ?_) (fun c => ?_)
  · have c9 := c
    have d10 : x2.toInt = (0 : Int) := eqi.mp c9
    unfold j_Mod_person_23
    refine bind_i (sf_Mod_lost M1 hJ3) (fun x3 _ q => ?_)
    obtain ⟨h11, h12, h13, h14⟩ := q
    have hG15 : Gd 1000 M x3.2 := Gd_t hG4 h12
    exact ⟨(x3.1, x3.2), rfl, h11, hG15⟩
  · have c16 := c
    have d17 : ¬ x2.toInt = (0 : Int) := neqi.mp c16
    refine bind_i (sf_Mod_in v2 (0 : Int32) (7 : Int32)) (fun x4 _ q => ?_)
    obtain ⟨h18, h19, h20⟩ := q
    replace h20 : ¬ x4.toInt = 0 → (0 : Int) ≤ v2.toInt ∧ v2.toInt ≤ (7 : Int) := h20
    refine if_i (fun c => ?_) (fun c => ?_)
    · have c21 := c
      have d22 : x4.toInt = (0 : Int) := eqi.mp c21
      unfold j_Mod_person_23
      refine bind_i (sf_Mod_lost M1 hJ3) (fun x3 _ q => ?_)
      obtain ⟨h23, h24, h25, h26⟩ := q
      have hG27 : Gd 1000 M x3.2 := Gd_t hG4 h24
      exact ⟨(x3.1, x3.2), rfl, h23, hG27⟩
    · have c28 := c
      have d29 : ¬ x4.toInt = (0 : Int) := neqi.mp c28
      refine if_i (fun c => ?_) (fun c => ?_)
      · have c30 := c
        have d31 : v2.toInt = (0 : Int) := eqi.mp c30
        exact ⟨((((M1.1 162 5) >>> (v1 &&& 31)) &&& (1 : Int32)), M1), rfl, hJ3, hG4⟩
      · have c32 := c
        have d33 : ¬ v2.toInt = (0 : Int) := neqi.mp c32
        refine if_i (fun c => ?_) (fun c => ?_)
        · have c34 := c
          have d35 : v2.toInt = (1 : Int) := eqi.mp c34
          refine inb_i (by omega) (by omega) ?_
          refine bind_e (show (f_Mod_cellOf (M1.1 163 v1.toNatClampNeg)) = some ((M1.1 163 v1.toNatClampNeg) - (((M1.1 163 v1.toNatClampNeg) / (36 : Int32)) * (36 : Int32))) from rfl) ?_
          exact ⟨(((M1.1 163 v1.toNatClampNeg) - (((M1.1 163 v1.toNatClampNeg) / (36 : Int32)) * (36 : Int32))), M1), rfl, hJ3, hG4⟩
        · have c36 := c
          have d37 : ¬ v2.toInt = (1 : Int) := neqi.mp c36
          refine if_i (fun c => ?_) (fun c => ?_)
          · have c38 := c
            have d39 : v2.toInt = (2 : Int) := eqi.mp c38
            refine inb_i (by omega) (by omega) ?_
            refine bind_e (show (f_Mod_levelOf (M1.1 163 v1.toNatClampNeg)) = some ((M1.1 163 v1.toNatClampNeg) / (36 : Int32)) from rfl) ?_
            exact ⟨(((M1.1 163 v1.toNatClampNeg) / (36 : Int32)), M1), rfl, hJ3, hG4⟩
          · have c40 := c
            have d41 : ¬ v2.toInt = (2 : Int) := neqi.mp c40
            refine if_i (fun c => ?_) (fun c => ?_)
            · have c42 := c
              have d43 : v2.toInt = (3 : Int) := eqi.mp c42
              have q44 : ((8 : Int32) + v1).toInt = (8 : Int) + v1.toInt := add_ti rfl rfl (by omega) (by omega)
              refine inb_i (by omega) (by omega) ?_
              exact ⟨((M1.1 163 ((8 : Int32) + v1).toNatClampNeg), M1), rfl, hJ3, hG4⟩
            · have c45 := c
              have d46 : ¬ v2.toInt = (3 : Int) := neqi.mp c45
              refine if_i (fun c => ?_) (fun c => ?_)
              · have c47 := c
                have d48 : v2.toInt = (4 : Int) := eqi.mp c47
                refine inb_i (by omega) (by omega) ?_
                exact ⟨((M1.1 166 v1.toNatClampNeg), M1), rfl, hJ3, hG4⟩
              · have c49 := c
                have d50 : ¬ v2.toInt = (4 : Int) := neqi.mp c49
                refine if_i (fun c => ?_) (fun c => ?_)
                · have c51 := c
                  have d52 : v2.toInt = (5 : Int) := eqi.mp c51
                  exact ⟨((((M1.1 163 (93 : Int32).toNatClampNeg) >>> (v1 &&& 31)) &&& (1 : Int32)), M1), rfl, hJ3, hG4⟩
                · have c53 := c
                  have d54 : ¬ v2.toInt = (5 : Int) := neqi.mp c53
                  refine if_i (fun c => ?_) (fun c => ?_)
                  · have c55 := c
                    have d56 : v2.toInt = (6 : Int) := eqi.mp c55
                    refine bind_i (sf_Mod_meetingsOf v1 M1 (⟨show (0 : Int) ≤ v1.toInt by omega, show v1.toInt ≤ (7 : Int) by omega⟩) hJ3) (fun x15 e_x15 q => ?_)
                    exact ⟨(x15, M1), rfl, hJ3, hG4⟩
                  · have c57 := c
                    have d58 : ¬ v2.toInt = (6 : Int) := neqi.mp c57
                    refine bind_i (sf_Mod_goes 163 v1 M1 St_163 (⟨show (0 : Int) ≤ v1.toInt by omega, show v1.toInt ≤ (7 : Int) by omega⟩) hJ3) (fun x5 _ q => ?_)
                    obtain ⟨h59, h60, h61, h62⟩ := q
                    have hG63 : Gd 1000 M x5.2 := Gd_t hG4 h60
                    refine if_i (fun c => ?_) (fun c => ?_)
                    · have c64 := c
                      have d65 : x5.1.toInt = (0 : Int) := eqi.mp c64
                      exact ⟨((0 : Int32), x5.2), rfl, h59, hG63⟩
                    · have c66 := c
                      have d67 : ¬ x5.1.toInt = (0 : Int) := neqi.mp c66
                      exact ⟨((1 : Int32), x5.2), rfl, h59, hG63⟩
theorem sl_Mod_isUnder_2 (v1 : Int32) (M : Mem) (a0_ : Int32) (hp_v1 : (0 : Int) ≤ v1.toInt ∧ v1.toInt ≤ (35 : Int)) (hJ_M : J M) (i0_ : (0 : Int) ≤ a0_.toInt) (i1_ : a0_.toInt ≤ (6 : Int)) : ∃ x, iter (lb_Mod_isUnder_2 v1 M) FU a0_ = some x ∧ (SQ (fun r : Unit => True) (fun r : Unit => True)) x := by
  refine iter_r (fun s : Int32 => (0 : Int) ≤ s.toInt ∧ s.toInt ≤ (6 : Int)) (fun s : Int32 => (6 - s.toInt).toNat) (SQ (fun r : Unit => True) (fun r : Unit => True)) ?_ FU a0_ ⟨i0_, i1_⟩ (by show (6 - a0_.toInt).toNat < FU; rw [FU_v]; omega)
  clear i1_ i0_
  rintro a0_' ⟨i0_, i1_⟩
  unfold lb_Mod_isUnder_2
  refine if_i (fun c => ?_) (fun c => ?_)
  · have c1 := c
    have r2 := Jst92 hJ_M St_163
    have d3 : (M.1 163 (92 : Int32).toNatClampNeg).toInt ≤ a0_'.toInt := lei.mp c1
    exact ⟨_, rfl, trivial⟩
  · have c4 := c
    have r5 := Jst92 hJ_M St_163
    have d6 : a0_'.toInt < (M.1 163 (92 : Int32).toNatClampNeg).toInt := nlei.mp c4
    have q7 : ((2 : Int32) * a0_').toInt = (2 : Int) * a0_'.toInt := mul_ti rfl rfl (by omega) (by omega)
    have q8 : ((80 : Int32) + ((2 : Int32) * a0_')).toInt = (80 : Int) + ((2 : Int32) * a0_').toInt := add_ti rfl rfl (by omega) (by omega)
    refine inb_i (by omega) (by omega) ?_
    have q9 : (((80 : Int32) + ((2 : Int32) * a0_')) + (1 : Int32)).toInt = ((80 : Int32) + ((2 : Int32) * a0_')).toInt + (1 : Int) := add_ti rfl rfl (by omega) (by omega)
    refine inb_i (by omega) (by omega) ?_
    refine if_i (fun c => ?_) (fun c => ?_)
    · have c10 := c
      have r11 := Jst80 hJ_M St_163 (i := ((80 : Int32) + ((2 : Int32) * a0_'))) (by omega) (by omega)
      have r12 := Jst80 hJ_M St_163 (i := (((80 : Int32) + ((2 : Int32) * a0_')) + (1 : Int32))) (by omega) (by omega)
      have q13 : ((M.1 163 ((80 : Int32) + ((2 : Int32) * a0_')).toNatClampNeg) + (M.1 163 (((80 : Int32) + ((2 : Int32) * a0_')) + (1 : Int32)).toNatClampNeg)).toInt = (M.1 163 ((80 : Int32) + ((2 : Int32) * a0_')).toNatClampNeg).toInt + (M.1 163 (((80 : Int32) + ((2 : Int32) * a0_')) + (1 : Int32)).toNatClampNeg).toInt := add_ti rfl rfl (by omega) (by omega)
      have q14 : ((2 : Int32) * v1).toInt = (2 : Int) * v1.toInt := mul_ti rfl rfl (by omega) (by omega)
      have d15 : ((M.1 163 ((80 : Int32) + ((2 : Int32) * a0_')).toNatClampNeg) + (M.1 163 (((80 : Int32) + ((2 : Int32) * a0_')) + (1 : Int32)).toNatClampNeg)).toInt = ((2 : Int32) * v1).toInt := eqi.mp c10
      exact ⟨_, rfl, trivial⟩
    · have c16 := c
      have r17 := Jst80 hJ_M St_163 (i := ((80 : Int32) + ((2 : Int32) * a0_'))) (by omega) (by omega)
      have r18 := Jst80 hJ_M St_163 (i := (((80 : Int32) + ((2 : Int32) * a0_')) + (1 : Int32))) (by omega) (by omega)
      have q19 : ((M.1 163 ((80 : Int32) + ((2 : Int32) * a0_')).toNatClampNeg) + (M.1 163 (((80 : Int32) + ((2 : Int32) * a0_')) + (1 : Int32)).toNatClampNeg)).toInt = (M.1 163 ((80 : Int32) + ((2 : Int32) * a0_')).toNatClampNeg).toInt + (M.1 163 (((80 : Int32) + ((2 : Int32) * a0_')) + (1 : Int32)).toNatClampNeg).toInt := add_ti rfl rfl (by omega) (by omega)
      have q20 : ((2 : Int32) * v1).toInt = (2 : Int) * v1.toInt := mul_ti rfl rfl (by omega) (by omega)
      have d21 : ¬ ((M.1 163 ((80 : Int32) + ((2 : Int32) * a0_')).toNatClampNeg) + (M.1 163 (((80 : Int32) + ((2 : Int32) * a0_')) + (1 : Int32)).toNatClampNeg)).toInt = ((2 : Int32) * v1).toInt := neqi.mp c16
      have q22 : (a0_' + (1 : Int32)).toInt = a0_'.toInt + (1 : Int) := add_ti rfl rfl (by omega) (by omega)
      exact ⟨_, rfl, ⟨(show (0 : Int) ≤ (a0_' + (1 : Int32)).toInt by omega), (show (a0_' + (1 : Int32)).toInt ≤ (6 : Int) by omega)⟩, show (6 - (a0_' + (1 : Int32)).toInt).toNat < (6 - a0_'.toInt).toNat by omega⟩
theorem sf_Mod_isUnder (v1 : Int32) (M : Mem) (hp_v1 : (0 : Int) ≤ v1.toInt ∧ v1.toInt ≤ (35 : Int)) (hJ : J M) : ∃ r : Int32, f_Mod_isUnder v1 M = some r ∧ ((0 : Int) ≤ r.toInt ∧ r.toInt ≤ (1 : Int)) := by
  unfold f_Mod_isUnder
  refine bind_i (sl_Mod_isUnder_2 v1 M (0 : Int32) (⟨show (0 : Int) ≤ v1.toInt by omega, show v1.toInt ≤ (35 : Int) by omega⟩) hJ (show (0 : Int) ≤ (0 : Int32).toInt by decide) (show (0 : Int32).toInt ≤ (6 : Int) by decide)) (fun x1 _ q => ?_)
  rcases x1 with y | y
  · have q9 : True := q
    dsimp only [Sum.elim_inl, Sum.elim_inr]
    exact ⟨(0 : Int32), rfl, (show (0 : Int) ≤ (0 : Int32).toInt by decide), (show (0 : Int32).toInt ≤ (1 : Int) by decide)⟩
  · have q9 : True := q
    dsimp only [Sum.elim_inl, Sum.elim_inr]
    exact ⟨(1 : Int32), rfl, (show (0 : Int) ≤ (1 : Int32).toInt by decide), (show (1 : Int32).toInt ≤ (1 : Int) by decide)⟩
end
section
/-! safety of the reference, 2 -/
theorem sf_Mod_between (v1 : Int32) (v2 : Int32) (M : Mem) (hp_v1 : (0 : Int) ≤ v1.toInt ∧ v1.toInt ≤ (35 : Int)) (hp_v2 : (0 : Int) ≤ v2.toInt ∧ v2.toInt ≤ (35 : Int)) (hJ : J M) : ∃ r : Int32, f_Mod_between v1 v2 M = some r ∧ ((-1 : Int) ≤ r.toInt ∧ r.toInt ≤ (35 : Int)) := by
  unfold f_Mod_between
  have r1 := Jr_162_2 hJ
  refine z_i (nz_of (by omega)) ?_
  refine z_i (nz_of (by omega)) ?_
  refine z_i (nz_of (by omega)) ?_
  refine z_i (nz_of (by omega)) ?_
  refine if_i (fun c => ?_) (fun c => ?_)
  · have c2 := c
    have q3 : (0 : Int) ≤ (if 0 ≤ ((v1 - ((v1 / (M.1 162 2)) * (M.1 162 2))) - (v2 - ((v2 / (M.1 162 2)) * (M.1 162 2)))) then ((v1 - ((v1 / (M.1 162 2)) * (M.1 162 2))) - (v2 - ((v2 / (M.1 162 2)) * (M.1 162 2)))) else (0 - ((v1 - ((v1 / (M.1 162 2)) * (M.1 162 2))) - (v2 - ((v2 / (M.1 162 2)) * (M.1 162 2)))))).toInt ∧ (if 0 ≤ ((v1 - ((v1 / (M.1 162 2)) * (M.1 162 2))) - (v2 - ((v2 / (M.1 162 2)) * (M.1 162 2)))) then ((v1 - ((v1 / (M.1 162 2)) * (M.1 162 2))) - (v2 - ((v2 / (M.1 162 2)) * (M.1 162 2)))) else (0 - ((v1 - ((v1 / (M.1 162 2)) * (M.1 162 2))) - (v2 - ((v2 / (M.1 162 2)) * (M.1 162 2)))))).toInt ≤ (5 : Int) := by
      by_cases cc : 0 ≤ ((v1 - ((v1 / (M.1 162 2)) * (M.1 162 2))) - (v2 - ((v2 / (M.1 162 2)) * (M.1 162 2))))
      · rw [if_pos cc]
        have q4 := rem_rng (a := v1) (b := (M.1 162 2)) (by omega) (by omega)
        have q5 := rem_rng (a := v2) (b := (M.1 162 2)) (by omega) (by omega)
        have q6 : ((v1 - ((v1 / (M.1 162 2)) * (M.1 162 2))) - (v2 - ((v2 / (M.1 162 2)) * (M.1 162 2)))).toInt = (v1 - ((v1 / (M.1 162 2)) * (M.1 162 2))).toInt - (v2 - ((v2 / (M.1 162 2)) * (M.1 162 2))).toInt := sub_ti rfl rfl (by omega) (by omega)
        have d7 : (0 : Int) ≤ ((v1 - ((v1 / (M.1 162 2)) * (M.1 162 2))) - (v2 - ((v2 / (M.1 162 2)) * (M.1 162 2)))).toInt := lei.mp cc
        omega
      · rw [if_neg cc]
        have q8 := rem_rng (a := v1) (b := (M.1 162 2)) (by omega) (by omega)
        have q9 := rem_rng (a := v2) (b := (M.1 162 2)) (by omega) (by omega)
        have q10 : ((v1 - ((v1 / (M.1 162 2)) * (M.1 162 2))) - (v2 - ((v2 / (M.1 162 2)) * (M.1 162 2)))).toInt = (v1 - ((v1 / (M.1 162 2)) * (M.1 162 2))).toInt - (v2 - ((v2 / (M.1 162 2)) * (M.1 162 2))).toInt := sub_ti rfl rfl (by omega) (by omega)
        have d11 : ((v1 - ((v1 / (M.1 162 2)) * (M.1 162 2))) - (v2 - ((v2 / (M.1 162 2)) * (M.1 162 2)))).toInt < (0 : Int) := nlei.mp cc
        have q12 : (0 - ((v1 - ((v1 / (M.1 162 2)) * (M.1 162 2))) - (v2 - ((v2 / (M.1 162 2)) * (M.1 162 2))))).toInt = (0 : Int) - ((v1 - ((v1 / (M.1 162 2)) * (M.1 162 2))) - (v2 - ((v2 / (M.1 162 2)) * (M.1 162 2)))).toInt := sub_ti rfl rfl (by omega) (by omega)
        omega
    have d13 : (if 0 ≤ ((v1 - ((v1 / (M.1 162 2)) * (M.1 162 2))) - (v2 - ((v2 / (M.1 162 2)) * (M.1 162 2)))) then ((v1 - ((v1 / (M.1 162 2)) * (M.1 162 2))) - (v2 - ((v2 / (M.1 162 2)) * (M.1 162 2)))) else (0 - ((v1 - ((v1 / (M.1 162 2)) * (M.1 162 2))) - (v2 - ((v2 / (M.1 162 2)) * (M.1 162 2)))))).toInt = (2 : Int) := eqi.mp c2
    refine if_i (fun c => ?_) (fun c => ?_)
    · have c14 := c
      have q15 : (0 : Int) ≤ (if 0 ≤ ((v1 / (M.1 162 2)) - (v2 / (M.1 162 2))) then ((v1 / (M.1 162 2)) - (v2 / (M.1 162 2))) else (0 - ((v1 / (M.1 162 2)) - (v2 / (M.1 162 2))))).toInt ∧ (if 0 ≤ ((v1 / (M.1 162 2)) - (v2 / (M.1 162 2))) then ((v1 / (M.1 162 2)) - (v2 / (M.1 162 2))) else (0 - ((v1 / (M.1 162 2)) - (v2 / (M.1 162 2))))).toInt ≤ (35 : Int) := by
        by_cases cc : 0 ≤ ((v1 / (M.1 162 2)) - (v2 / (M.1 162 2)))
        · rw [if_pos cc]
          have q16 := div_rng (a := v1) (b := (M.1 162 2)) (by omega) (by omega)
          have q17 := div_rng (a := v2) (b := (M.1 162 2)) (by omega) (by omega)
          have q18 : ((v1 / (M.1 162 2)) - (v2 / (M.1 162 2))).toInt = (v1 / (M.1 162 2)).toInt - (v2 / (M.1 162 2)).toInt := sub_ti rfl rfl (by omega) (by omega)
          have d19 : (0 : Int) ≤ ((v1 / (M.1 162 2)) - (v2 / (M.1 162 2))).toInt := lei.mp cc
          omega
        · rw [if_neg cc]
          have q20 := div_rng (a := v1) (b := (M.1 162 2)) (by omega) (by omega)
          have q21 := div_rng (a := v2) (b := (M.1 162 2)) (by omega) (by omega)
          have q22 : ((v1 / (M.1 162 2)) - (v2 / (M.1 162 2))).toInt = (v1 / (M.1 162 2)).toInt - (v2 / (M.1 162 2)).toInt := sub_ti rfl rfl (by omega) (by omega)
          have d23 : ((v1 / (M.1 162 2)) - (v2 / (M.1 162 2))).toInt < (0 : Int) := nlei.mp cc
          have q24 : (0 - ((v1 / (M.1 162 2)) - (v2 / (M.1 162 2)))).toInt = (0 : Int) - ((v1 / (M.1 162 2)) - (v2 / (M.1 162 2))).toInt := sub_ti rfl rfl (by omega) (by omega)
          omega
      have d25 : (if 0 ≤ ((v1 / (M.1 162 2)) - (v2 / (M.1 162 2))) then ((v1 / (M.1 162 2)) - (v2 / (M.1 162 2))) else (0 - ((v1 / (M.1 162 2)) - (v2 / (M.1 162 2))))).toInt = (0 : Int) := eqi.mp c14
      have q26 : (v1 + v2).toInt = v1.toInt + v2.toInt := add_ti rfl rfl (by omega) (by omega)
      have q27 : ((v1 + v2) / (2 : Int32)).toInt = (v1 + v2).toInt / (2 : Int) := div_ti rfl rfl (by omega) (by omega)
      exact ⟨((v1 + v2) / (2 : Int32)), rfl, (show (-1 : Int) ≤ ((v1 + v2) / (2 : Int32)).toInt by omega), (show ((v1 + v2) / (2 : Int32)).toInt ≤ (35 : Int) by omega)⟩
    · have c28 := c
      have q29 : (0 : Int) ≤ (if 0 ≤ ((v1 / (M.1 162 2)) - (v2 / (M.1 162 2))) then ((v1 / (M.1 162 2)) - (v2 / (M.1 162 2))) else (0 - ((v1 / (M.1 162 2)) - (v2 / (M.1 162 2))))).toInt ∧ (if 0 ≤ ((v1 / (M.1 162 2)) - (v2 / (M.1 162 2))) then ((v1 / (M.1 162 2)) - (v2 / (M.1 162 2))) else (0 - ((v1 / (M.1 162 2)) - (v2 / (M.1 162 2))))).toInt ≤ (35 : Int) := by
        by_cases cc : 0 ≤ ((v1 / (M.1 162 2)) - (v2 / (M.1 162 2)))
        · rw [if_pos cc]
          have q30 := div_rng (a := v1) (b := (M.1 162 2)) (by omega) (by omega)
          have q31 := div_rng (a := v2) (b := (M.1 162 2)) (by omega) (by omega)
          have q32 : ((v1 / (M.1 162 2)) - (v2 / (M.1 162 2))).toInt = (v1 / (M.1 162 2)).toInt - (v2 / (M.1 162 2)).toInt := sub_ti rfl rfl (by omega) (by omega)
          have d33 : (0 : Int) ≤ ((v1 / (M.1 162 2)) - (v2 / (M.1 162 2))).toInt := lei.mp cc
          omega
        · rw [if_neg cc]
          have q34 := div_rng (a := v1) (b := (M.1 162 2)) (by omega) (by omega)
          have q35 := div_rng (a := v2) (b := (M.1 162 2)) (by omega) (by omega)
          have q36 : ((v1 / (M.1 162 2)) - (v2 / (M.1 162 2))).toInt = (v1 / (M.1 162 2)).toInt - (v2 / (M.1 162 2)).toInt := sub_ti rfl rfl (by omega) (by omega)
          have d37 : ((v1 / (M.1 162 2)) - (v2 / (M.1 162 2))).toInt < (0 : Int) := nlei.mp cc
          have q38 : (0 - ((v1 / (M.1 162 2)) - (v2 / (M.1 162 2)))).toInt = (0 : Int) - ((v1 / (M.1 162 2)) - (v2 / (M.1 162 2))).toInt := sub_ti rfl rfl (by omega) (by omega)
          omega
      have d39 : ¬ (if 0 ≤ ((v1 / (M.1 162 2)) - (v2 / (M.1 162 2))) then ((v1 / (M.1 162 2)) - (v2 / (M.1 162 2))) else (0 - ((v1 / (M.1 162 2)) - (v2 / (M.1 162 2))))).toInt = (0 : Int) := neqi.mp c28
      unfold j_Mod_between_45
      refine if_i (fun c => ?_) (fun c => ?_)
      · have c40 := c
        have d41 : (if 0 ≤ ((v1 - ((v1 / (M.1 162 2)) * (M.1 162 2))) - (v2 - ((v2 / (M.1 162 2)) * (M.1 162 2)))) then ((v1 - ((v1 / (M.1 162 2)) * (M.1 162 2))) - (v2 - ((v2 / (M.1 162 2)) * (M.1 162 2)))) else (0 - ((v1 - ((v1 / (M.1 162 2)) * (M.1 162 2))) - (v2 - ((v2 / (M.1 162 2)) * (M.1 162 2)))))).toInt = (0 : Int) := eqi.mp c40
        exfalso; omega
      · have c42 := c
        have d43 : ¬ (if 0 ≤ ((v1 - ((v1 / (M.1 162 2)) * (M.1 162 2))) - (v2 - ((v2 / (M.1 162 2)) * (M.1 162 2)))) then ((v1 - ((v1 / (M.1 162 2)) * (M.1 162 2))) - (v2 - ((v2 / (M.1 162 2)) * (M.1 162 2)))) else (0 - ((v1 - ((v1 / (M.1 162 2)) * (M.1 162 2))) - (v2 - ((v2 / (M.1 162 2)) * (M.1 162 2)))))).toInt = (0 : Int) := neqi.mp c42
        exact ⟨(-1 : Int32), rfl, (show (-1 : Int) ≤ (-1 : Int32).toInt by decide), (show (-1 : Int32).toInt ≤ (35 : Int) by decide)⟩
  · have c44 := c
    have q45 : (0 : Int) ≤ (if 0 ≤ ((v1 - ((v1 / (M.1 162 2)) * (M.1 162 2))) - (v2 - ((v2 / (M.1 162 2)) * (M.1 162 2)))) then ((v1 - ((v1 / (M.1 162 2)) * (M.1 162 2))) - (v2 - ((v2 / (M.1 162 2)) * (M.1 162 2)))) else (0 - ((v1 - ((v1 / (M.1 162 2)) * (M.1 162 2))) - (v2 - ((v2 / (M.1 162 2)) * (M.1 162 2)))))).toInt ∧ (if 0 ≤ ((v1 - ((v1 / (M.1 162 2)) * (M.1 162 2))) - (v2 - ((v2 / (M.1 162 2)) * (M.1 162 2)))) then ((v1 - ((v1 / (M.1 162 2)) * (M.1 162 2))) - (v2 - ((v2 / (M.1 162 2)) * (M.1 162 2)))) else (0 - ((v1 - ((v1 / (M.1 162 2)) * (M.1 162 2))) - (v2 - ((v2 / (M.1 162 2)) * (M.1 162 2)))))).toInt ≤ (5 : Int) := by
      by_cases cc : 0 ≤ ((v1 - ((v1 / (M.1 162 2)) * (M.1 162 2))) - (v2 - ((v2 / (M.1 162 2)) * (M.1 162 2))))
      · rw [if_pos cc]
        have q46 := rem_rng (a := v1) (b := (M.1 162 2)) (by omega) (by omega)
        have q47 := rem_rng (a := v2) (b := (M.1 162 2)) (by omega) (by omega)
        have q48 : ((v1 - ((v1 / (M.1 162 2)) * (M.1 162 2))) - (v2 - ((v2 / (M.1 162 2)) * (M.1 162 2)))).toInt = (v1 - ((v1 / (M.1 162 2)) * (M.1 162 2))).toInt - (v2 - ((v2 / (M.1 162 2)) * (M.1 162 2))).toInt := sub_ti rfl rfl (by omega) (by omega)
        have d49 : (0 : Int) ≤ ((v1 - ((v1 / (M.1 162 2)) * (M.1 162 2))) - (v2 - ((v2 / (M.1 162 2)) * (M.1 162 2)))).toInt := lei.mp cc
        omega
      · rw [if_neg cc]
        have q50 := rem_rng (a := v1) (b := (M.1 162 2)) (by omega) (by omega)
        have q51 := rem_rng (a := v2) (b := (M.1 162 2)) (by omega) (by omega)
        have q52 : ((v1 - ((v1 / (M.1 162 2)) * (M.1 162 2))) - (v2 - ((v2 / (M.1 162 2)) * (M.1 162 2)))).toInt = (v1 - ((v1 / (M.1 162 2)) * (M.1 162 2))).toInt - (v2 - ((v2 / (M.1 162 2)) * (M.1 162 2))).toInt := sub_ti rfl rfl (by omega) (by omega)
        have d53 : ((v1 - ((v1 / (M.1 162 2)) * (M.1 162 2))) - (v2 - ((v2 / (M.1 162 2)) * (M.1 162 2)))).toInt < (0 : Int) := nlei.mp cc
        have q54 : (0 - ((v1 - ((v1 / (M.1 162 2)) * (M.1 162 2))) - (v2 - ((v2 / (M.1 162 2)) * (M.1 162 2))))).toInt = (0 : Int) - ((v1 - ((v1 / (M.1 162 2)) * (M.1 162 2))) - (v2 - ((v2 / (M.1 162 2)) * (M.1 162 2)))).toInt := sub_ti rfl rfl (by omega) (by omega)
        omega
    have d55 : ¬ (if 0 ≤ ((v1 - ((v1 / (M.1 162 2)) * (M.1 162 2))) - (v2 - ((v2 / (M.1 162 2)) * (M.1 162 2)))) then ((v1 - ((v1 / (M.1 162 2)) * (M.1 162 2))) - (v2 - ((v2 / (M.1 162 2)) * (M.1 162 2)))) else (0 - ((v1 - ((v1 / (M.1 162 2)) * (M.1 162 2))) - (v2 - ((v2 / (M.1 162 2)) * (M.1 162 2)))))).toInt = (2 : Int) := neqi.mp c44
    unfold j_Mod_between_45
    refine if_i (fun c => ?_) (fun c => ?_)
    · have c56 := c
      have d57 : (if 0 ≤ ((v1 - ((v1 / (M.1 162 2)) * (M.1 162 2))) - (v2 - ((v2 / (M.1 162 2)) * (M.1 162 2)))) then ((v1 - ((v1 / (M.1 162 2)) * (M.1 162 2))) - (v2 - ((v2 / (M.1 162 2)) * (M.1 162 2)))) else (0 - ((v1 - ((v1 / (M.1 162 2)) * (M.1 162 2))) - (v2 - ((v2 / (M.1 162 2)) * (M.1 162 2)))))).toInt = (0 : Int) := eqi.mp c56
      refine if_i (fun c => ?_) (fun c => ?_)
      · have c58 := c
        have q59 : (0 : Int) ≤ (if 0 ≤ ((v1 / (M.1 162 2)) - (v2 / (M.1 162 2))) then ((v1 / (M.1 162 2)) - (v2 / (M.1 162 2))) else (0 - ((v1 / (M.1 162 2)) - (v2 / (M.1 162 2))))).toInt ∧ (if 0 ≤ ((v1 / (M.1 162 2)) - (v2 / (M.1 162 2))) then ((v1 / (M.1 162 2)) - (v2 / (M.1 162 2))) else (0 - ((v1 / (M.1 162 2)) - (v2 / (M.1 162 2))))).toInt ≤ (35 : Int) := by
          by_cases cc : 0 ≤ ((v1 / (M.1 162 2)) - (v2 / (M.1 162 2)))
          · rw [if_pos cc]
            have q60 := div_rng (a := v1) (b := (M.1 162 2)) (by omega) (by omega)
            have q61 := div_rng (a := v2) (b := (M.1 162 2)) (by omega) (by omega)
            have q62 : ((v1 / (M.1 162 2)) - (v2 / (M.1 162 2))).toInt = (v1 / (M.1 162 2)).toInt - (v2 / (M.1 162 2)).toInt := sub_ti rfl rfl (by omega) (by omega)
            have d63 : (0 : Int) ≤ ((v1 / (M.1 162 2)) - (v2 / (M.1 162 2))).toInt := lei.mp cc
            omega
          · rw [if_neg cc]
            have q64 := div_rng (a := v1) (b := (M.1 162 2)) (by omega) (by omega)
            have q65 := div_rng (a := v2) (b := (M.1 162 2)) (by omega) (by omega)
            have q66 : ((v1 / (M.1 162 2)) - (v2 / (M.1 162 2))).toInt = (v1 / (M.1 162 2)).toInt - (v2 / (M.1 162 2)).toInt := sub_ti rfl rfl (by omega) (by omega)
            have d67 : ((v1 / (M.1 162 2)) - (v2 / (M.1 162 2))).toInt < (0 : Int) := nlei.mp cc
            have q68 : (0 - ((v1 / (M.1 162 2)) - (v2 / (M.1 162 2)))).toInt = (0 : Int) - ((v1 / (M.1 162 2)) - (v2 / (M.1 162 2))).toInt := sub_ti rfl rfl (by omega) (by omega)
            omega
        have d69 : (if 0 ≤ ((v1 / (M.1 162 2)) - (v2 / (M.1 162 2))) then ((v1 / (M.1 162 2)) - (v2 / (M.1 162 2))) else (0 - ((v1 / (M.1 162 2)) - (v2 / (M.1 162 2))))).toInt = (2 : Int) := eqi.mp c58
        have q70 : (v1 + v2).toInt = v1.toInt + v2.toInt := add_ti rfl rfl (by omega) (by omega)
        have q71 : ((v1 + v2) / (2 : Int32)).toInt = (v1 + v2).toInt / (2 : Int) := div_ti rfl rfl (by omega) (by omega)
        exact ⟨((v1 + v2) / (2 : Int32)), rfl, (show (-1 : Int) ≤ ((v1 + v2) / (2 : Int32)).toInt by omega), (show ((v1 + v2) / (2 : Int32)).toInt ≤ (35 : Int) by omega)⟩
      · have c72 := c
        have q73 : (0 : Int) ≤ (if 0 ≤ ((v1 / (M.1 162 2)) - (v2 / (M.1 162 2))) then ((v1 / (M.1 162 2)) - (v2 / (M.1 162 2))) else (0 - ((v1 / (M.1 162 2)) - (v2 / (M.1 162 2))))).toInt ∧ (if 0 ≤ ((v1 / (M.1 162 2)) - (v2 / (M.1 162 2))) then ((v1 / (M.1 162 2)) - (v2 / (M.1 162 2))) else (0 - ((v1 / (M.1 162 2)) - (v2 / (M.1 162 2))))).toInt ≤ (35 : Int) := by
          by_cases cc : 0 ≤ ((v1 / (M.1 162 2)) - (v2 / (M.1 162 2)))
          · rw [if_pos cc]
            have q74 := div_rng (a := v1) (b := (M.1 162 2)) (by omega) (by omega)
            have q75 := div_rng (a := v2) (b := (M.1 162 2)) (by omega) (by omega)
            have q76 : ((v1 / (M.1 162 2)) - (v2 / (M.1 162 2))).toInt = (v1 / (M.1 162 2)).toInt - (v2 / (M.1 162 2)).toInt := sub_ti rfl rfl (by omega) (by omega)
            have d77 : (0 : Int) ≤ ((v1 / (M.1 162 2)) - (v2 / (M.1 162 2))).toInt := lei.mp cc
            omega
          · rw [if_neg cc]
            have q78 := div_rng (a := v1) (b := (M.1 162 2)) (by omega) (by omega)
            have q79 := div_rng (a := v2) (b := (M.1 162 2)) (by omega) (by omega)
            have q80 : ((v1 / (M.1 162 2)) - (v2 / (M.1 162 2))).toInt = (v1 / (M.1 162 2)).toInt - (v2 / (M.1 162 2)).toInt := sub_ti rfl rfl (by omega) (by omega)
            have d81 : ((v1 / (M.1 162 2)) - (v2 / (M.1 162 2))).toInt < (0 : Int) := nlei.mp cc
            have q82 : (0 - ((v1 / (M.1 162 2)) - (v2 / (M.1 162 2)))).toInt = (0 : Int) - ((v1 / (M.1 162 2)) - (v2 / (M.1 162 2))).toInt := sub_ti rfl rfl (by omega) (by omega)
            omega
        have d83 : ¬ (if 0 ≤ ((v1 / (M.1 162 2)) - (v2 / (M.1 162 2))) then ((v1 / (M.1 162 2)) - (v2 / (M.1 162 2))) else (0 - ((v1 / (M.1 162 2)) - (v2 / (M.1 162 2))))).toInt = (2 : Int) := neqi.mp c72
        exact ⟨(-1 : Int32), rfl, (show (-1 : Int) ≤ (-1 : Int32).toInt by decide), (show (-1 : Int32).toInt ≤ (35 : Int) by decide)⟩
    · have c84 := c
      have d85 : ¬ (if 0 ≤ ((v1 - ((v1 / (M.1 162 2)) * (M.1 162 2))) - (v2 - ((v2 / (M.1 162 2)) * (M.1 162 2)))) then ((v1 - ((v1 / (M.1 162 2)) * (M.1 162 2))) - (v2 - ((v2 / (M.1 162 2)) * (M.1 162 2)))) else (0 - ((v1 - ((v1 / (M.1 162 2)) * (M.1 162 2))) - (v2 - ((v2 / (M.1 162 2)) * (M.1 162 2)))))).toInt = (0 : Int) := neqi.mp c84
      exact ⟨(-1 : Int32), rfl, (show (-1 : Int) ≤ (-1 : Int32).toInt by decide), (show (-1 : Int32).toInt ≤ (35 : Int) by decide)⟩
theorem sf_Mod_canBridge (v1 : Int32) (v2 : Int32) (M : Mem) (hp_v1 : (0 : Int) ≤ v1.toInt ∧ v1.toInt ≤ (35 : Int)) (hp_v2 : (0 : Int) ≤ v2.toInt ∧ v2.toInt ≤ (35 : Int)) (hJ : J M) : ∃ r : Int32, f_Mod_canBridge v1 v2 M = some r ∧ ((0 : Int) ≤ r.toInt ∧ r.toInt ≤ (1 : Int)) := by
  unfold f_Mod_canBridge
  refine bind_i (sf_Mod_between v1 v2 M (⟨show (0 : Int) ≤ v1.toInt by omega, show v1.toInt ≤ (35 : Int) by omega⟩) (⟨show (0 : Int) ≤ v2.toInt by omega, show v2.toInt ≤ (35 : Int) by omega⟩) hJ) (fun x1 e_x1 q => ?_)
  obtain ⟨h1, h2⟩ := q
  refine if_i (fun c => ?_) (fun c => ?_)
  · have c3 := c
    have d4 : x1.toInt = (-1 : Int) := eqi.mp c3
    exact ⟨(0 : Int32), rfl, (show (0 : Int) ≤ (0 : Int32).toInt by decide), (show (0 : Int32).toInt ≤ (1 : Int) by decide)⟩
  · have c5 := c
    have d6 : ¬ x1.toInt = (-1 : Int) := neqi.mp c5
    refine bind_i (sf_Mod_isOf (1 : Int32) v1 M hJ) (fun x2 e_x2 q => ?_)
    obtain ⟨h7, h8, h9⟩ := q
    refine if_i (fun c => ?_) (fun c => ?_)
    · have c10 := c
      have d11 : x2.toInt = (0 : Int) := eqi.mp c10
      exact ⟨(0 : Int32), rfl, (show (0 : Int) ≤ (0 : Int32).toInt by decide), (show (0 : Int32).toInt ≤ (1 : Int) by decide)⟩
    · have c12 := c
      have d13 : ¬ x2.toInt = (0 : Int) := neqi.mp c12
      refine bind_i (sf_Mod_isOf (1 : Int32) v2 M hJ) (fun x3 e_x3 q => ?_)
      obtain ⟨h14, h15, h16⟩ := q
      refine if_i (fun c => ?_) (fun c => ?_)
      · have c17 := c
        have d18 : x3.toInt = (0 : Int) := eqi.mp c17
        exact ⟨(0 : Int32), rfl, (show (0 : Int) ≤ (0 : Int32).toInt by decide), (show (0 : Int32).toInt ≤ (1 : Int) by decide)⟩
      · have c19 := c
        have d20 : ¬ x3.toInt = (0 : Int) := neqi.mp c19
        refine bind_i (sf_Mod_isOf (1 : Int32) x1 M hJ) (fun x4 e_x4 q => ?_)
        obtain ⟨h21, h22, h23⟩ := q
        refine if_i (fun c => ?_) (fun c => ?_)
        · have c24 := c
          have d25 : x4.toInt = (0 : Int) := eqi.mp c24
          exact ⟨(1 : Int32), rfl, (show (0 : Int) ≤ (1 : Int32).toInt by decide), (show (1 : Int32).toInt ≤ (1 : Int) by decide)⟩
        · have c26 := c
          have d27 : ¬ x4.toInt = (0 : Int) := neqi.mp c26
          exact ⟨(0 : Int32), rfl, (show (0 : Int) ≤ (0 : Int32).toInt by decide), (show (0 : Int32).toInt ≤ (1 : Int) by decide)⟩
theorem sl_lay (v0 v1 : Nat) (v2 : Int32) {M : Mem} (h : J M) (hs0 : St v0) (hs1 : stb v1 = true) (h2 : 0 ≤ v2.toInt) (hl : v2.toInt + 96 ≤ ln v1) (hl2 : ln v1 ≤ 2000) (hm : v2.toInt % 96 = 0) : ∃ x, iter (lb_Mod_lay_2 v0 v1 v2) FU ((0 : Int32), M) = some x ∧ (J x ∧ Fr (fun k _ => k = v1) M x ∧ x.2 = M.2) := by
  have l0 := St_ln hs0
  refine cnt_r _ (fun _ N => J N ∧ Fr (fun k _ => k = v1) M N ∧ N.2 = M.2) 96 (by decide) ?_ M ⟨h, Fr.r, rfl⟩ (by decide)
  intro k N k0 k1 hI
  have c36 : (96 : Int32).toInt = 96 := rfl
  unfold lb_Mod_lay_2
  dsimp only
  refine if_i (fun c => ⟨_, rfl, .inl ⟨_, rfl, hI⟩⟩) (fun c => ?_)
  have d := nlei.mp c
  have es : (v2 + k).toInt = v2.toInt + k.toInt := add_ti rfl rfl (by omega) (by omega)
  refine inb_i k0 (by omega) (inb_i (by omega) (by omega) ?_)
  refine mem_i (fun m e => ⟨_, rfl, .inr ⟨by omega, m, rfl, ?_⟩⟩)
  rw [e]
  refine ⟨Jwcopy hI.1 hs1 (St_b hs0) _ _ ?_, hI.2.1.i rfl, hI.2.2⟩
  rw [tcn', tcn', es]; omega
theorem sp_lay (v0 v1 : Nat) (v2 : Int32) {M : Mem} (h : J M) (hs0 : St v0) (hs1 : stb v1 = true) (hk1 : kd v1 = 1) (h2 : 0 ≤ v2.toInt) (hl : v2.toInt + 96 ≤ ln v1) (hl2 : ln v1 ≤ 2000) (hm : v2.toInt % 96 = 0) : ∃ r : Mem, f_Mod_lay v0 v1 v2 M = some r ∧ (J r ∧ Fr (fun k _ => k = v1) M r ∧ r.2 = M.2) := by
  unfold f_Mod_lay
  refine c_i (St_kd hs0) (c_i hk1 ?_)
  exact bind_i (sl_lay v0 v1 v2 h hs0 hs1 h2 hl hl2 hm) (fun x _ q => ⟨_, rfl, q⟩)
theorem sf_Mod_lay (v0 : Nat) (v1 : Nat) (v2 : Int32) (M : Mem) (hk_v0 : St v0) (hk_v1 : Sx v1) (hp_v2 : (0 : Int) ≤ v2.toInt ∧ v2.toInt ≤ (0 : Int)) (hJ : J M) : ∃ r : Mem, f_Mod_lay v0 v1 v2 M = some r ∧ (J r ∧ Gd 1000 M r) := by
  have l := St_ln (Sx_St hk_v1)
  obtain ⟨r, e, h, f, -⟩ := sp_lay v0 v1 v2 hJ hk_v0 (St_b (Sx_St hk_v1)) (St_kd (Sx_St hk_v1)) hp_v2.1 (by omega) (by omega) (by omega)
  exact ⟨r, e, h, Gd_1 (c := v1) (by rw [show v1 = 176 from hk_v1]; decide) f⟩
theorem sl_Mod_sheet_43 (v1 : Int32) (v2 : Int32) (v4 : Int32) (a0_ : Int32) (a1_ : Int32) (a2_ : Int32) (N_ : Mem) (B_ : Mem) (hp_v1 : (0 : Int) ≤ v1.toInt ∧ v1.toInt ≤ (3 : Int)) (hp_v2 : v2.toInt ≤ (8 : Int)) (hN : J N_) (hG : Gd 163 B_ N_) (i2_ : (0 : Int) ≤ a2_.toInt) (i3_ : a2_.toInt ≤ (8 : Int)) : ∃ x, iter (lb_Mod_sheet_43 v1 v2 v4) FU (a0_, a1_, a2_, N_) = some x ∧ (fun r : Int32 × Mem => J r.2 ∧ Gd 163 B_ r.2) x := by
  refine iter_r (fun s : Int32 × Int32 × Int32 × Mem => J s.2.2.2 ∧ Gd 163 B_ s.2.2.2 ∧ (0 : Int) ≤ s.2.2.1.toInt ∧ s.2.2.1.toInt ≤ (8 : Int)) (fun s : Int32 × Int32 × Int32 × Mem => (8 - s.2.2.1.toInt).toNat) (fun r : Int32 × Mem => J r.2 ∧ Gd 163 B_ r.2) ?_ FU (a0_, a1_, a2_, N_) ⟨hN, hG, i2_, i3_⟩ (by show (8 - a2_.toInt).toNat < FU; rw [FU_v]; omega)
  clear i3_ i2_ hG hN
  rintro ⟨a0_', a1_', a2_', N_'⟩ ⟨hN, hG, i2_, i3_⟩
  dsimp only at hN hG i2_ i3_
  unfold lb_Mod_sheet_43
  dsimp only
  refine if_i (fun c => ?_) (fun c => ?_)
  · have c1 := c
    have r2 := Jr_162_4 hN
    have d3 : (N_'.1 162 4).toInt ≤ a2_'.toInt := lei.mp c1
    exact ⟨_, rfl, hN, hG⟩
  · have c4 := c
    have r5 := Jr_162_4 hN
    have d6 : a2_'.toInt < (N_'.1 162 4).toInt := nlei.mp c4
    refine if_i (fun c => ?_) (fun c => ?_)
    · have c7 := c
      have d8 : v1.toInt = (0 : Int) := eqi.mp c7
      unfold j_Mod_sheet_75_43
      refine if_i (fun c => ?_) (fun c => ?_)
      · have c9 := c
        have d10 : v1.toInt = (3 : Int) := eqi.mp c9
        exfalso; omega
      · have c11 := c
        have d12 : ¬ v1.toInt = (3 : Int) := neqi.mp c11
        refine if_i (fun c => ?_) (fun c => ?_)
        · have c13 := c
          have d14 : a2_'.toInt < v2.toInt := lti.mp c13
          refine inb_i (by omega) (by omega) ?_
          unfold j_Mod_sheet_119_43
          have q15 : ((8 : Int32) + a2_').toInt = (8 : Int) + a2_'.toInt := add_ti rfl rfl (by omega) (by omega)
          refine inb_i (by omega) (by omega) ?_
          have q17 : (0 : Int) ≤ (if (0 : Int32) < (if a1_'.toInt8.toInt32 < ((N_'.1 166 a2_'.toNatClampNeg) - (1 : Int32)) then a1_'.toInt8.toInt32 else ((N_'.1 166 a2_'.toNatClampNeg) - (1 : Int32))) then (if a1_'.toInt8.toInt32 < ((N_'.1 166 a2_'.toNatClampNeg) - (1 : Int32)) then a1_'.toInt8.toInt32 else ((N_'.1 166 a2_'.toNatClampNeg) - (1 : Int32))) else (0 : Int32)).toInt ∧ (if (0 : Int32) < (if a1_'.toInt8.toInt32 < ((N_'.1 166 a2_'.toNatClampNeg) - (1 : Int32)) then a1_'.toInt8.toInt32 else ((N_'.1 166 a2_'.toNatClampNeg) - (1 : Int32))) then (if a1_'.toInt8.toInt32 < ((N_'.1 166 a2_'.toNatClampNeg) - (1 : Int32)) then a1_'.toInt8.toInt32 else ((N_'.1 166 a2_'.toNatClampNeg) - (1 : Int32))) else (0 : Int32)).toInt ≤ (8 : Int) := by
            by_cases cc : (0 : Int32) < (if a1_'.toInt8.toInt32 < ((N_'.1 166 a2_'.toNatClampNeg) - (1 : Int32)) then a1_'.toInt8.toInt32 else ((N_'.1 166 a2_'.toNatClampNeg) - (1 : Int32)))
            · rw [if_pos cc]
              have q18 : (if a1_'.toInt8.toInt32 < ((N_'.1 166 a2_'.toNatClampNeg) - (1 : Int32)) then a1_'.toInt8.toInt32 else ((N_'.1 166 a2_'.toNatClampNeg) - (1 : Int32))).toInt ≤ (8 : Int) := by
                by_cases cc : a1_'.toInt8.toInt32 < ((N_'.1 166 a2_'.toNatClampNeg) - (1 : Int32))
                · rw [if_pos cc]
                  have r19 := Jr_166 hN a2_'.toNatClampNeg
                  have q20 : ((N_'.1 166 a2_'.toNatClampNeg) - (1 : Int32)).toInt = (N_'.1 166 a2_'.toNatClampNeg).toInt - (1 : Int) := sub_ti rfl rfl (by omega) (by omega)
                  have d21 : a1_'.toInt8.toInt32.toInt < ((N_'.1 166 a2_'.toNatClampNeg) - (1 : Int32)).toInt := lti.mp cc
                  omega
                · rw [if_neg cc]
                  have r22 := Jr_166 hN a2_'.toNatClampNeg
                  have q23 : ((N_'.1 166 a2_'.toNatClampNeg) - (1 : Int32)).toInt = (N_'.1 166 a2_'.toNatClampNeg).toInt - (1 : Int) := sub_ti rfl rfl (by omega) (by omega)
                  have d24 : ((N_'.1 166 a2_'.toNatClampNeg) - (1 : Int32)).toInt ≤ a1_'.toInt8.toInt32.toInt := nlti.mp cc
                  omega
              have d25 : (0 : Int) < (if a1_'.toInt8.toInt32 < ((N_'.1 166 a2_'.toNatClampNeg) - (1 : Int32)) then a1_'.toInt8.toInt32 else ((N_'.1 166 a2_'.toNatClampNeg) - (1 : Int32))).toInt := lti.mp cc
              omega
            · rw [if_neg cc]
              have q26 : (if a1_'.toInt8.toInt32 < ((N_'.1 166 a2_'.toNatClampNeg) - (1 : Int32)) then a1_'.toInt8.toInt32 else ((N_'.1 166 a2_'.toNatClampNeg) - (1 : Int32))).toInt ≤ (8 : Int) := by
                by_cases cc : a1_'.toInt8.toInt32 < ((N_'.1 166 a2_'.toNatClampNeg) - (1 : Int32))
                · rw [if_pos cc]
                  have r27 := Jr_166 hN a2_'.toNatClampNeg
                  have q28 : ((N_'.1 166 a2_'.toNatClampNeg) - (1 : Int32)).toInt = (N_'.1 166 a2_'.toNatClampNeg).toInt - (1 : Int) := sub_ti rfl rfl (by omega) (by omega)
                  have d29 : a1_'.toInt8.toInt32.toInt < ((N_'.1 166 a2_'.toNatClampNeg) - (1 : Int32)).toInt := lti.mp cc
                  omega
                · rw [if_neg cc]
                  have r30 := Jr_166 hN a2_'.toNatClampNeg
                  have q31 : ((N_'.1 166 a2_'.toNatClampNeg) - (1 : Int32)).toInt = (N_'.1 166 a2_'.toNatClampNeg).toInt - (1 : Int) := sub_ti rfl rfl (by omega) (by omega)
                  have d32 : ((N_'.1 166 a2_'.toNatClampNeg) - (1 : Int32)).toInt ≤ a1_'.toInt8.toInt32.toInt := nlti.mp cc
                  omega
              have d33 : (if a1_'.toInt8.toInt32 < ((N_'.1 166 a2_'.toNatClampNeg) - (1 : Int32)) then a1_'.toInt8.toInt32 else ((N_'.1 166 a2_'.toNatClampNeg) - (1 : Int32))).toInt ≤ (0 : Int) := nlti.mp cc
              decide
          refine mem_i (fun M3 e34 => ?_)
          have hJ35 : J M3 := by rw [e34]; exact Jws8 hN St_163 (i := ((8 : Int32) + a2_')) (by omega) (by omega) (if (0 : Int32) < (if a1_'.toInt8.toInt32 < ((N_'.1 166 a2_'.toNatClampNeg) - (1 : Int32)) then a1_'.toInt8.toInt32 else ((N_'.1 166 a2_'.toNatClampNeg) - (1 : Int32))) then (if a1_'.toInt8.toInt32 < ((N_'.1 166 a2_'.toNatClampNeg) - (1 : Int32)) then a1_'.toInt8.toInt32 else ((N_'.1 166 a2_'.toNatClampNeg) - (1 : Int32))) else (0 : Int32)) (show (0 : Int) ≤ (if (0 : Int32) < (if a1_'.toInt8.toInt32 < ((N_'.1 166 a2_'.toNatClampNeg) - (1 : Int32)) then a1_'.toInt8.toInt32 else ((N_'.1 166 a2_'.toNatClampNeg) - (1 : Int32))) then (if a1_'.toInt8.toInt32 < ((N_'.1 166 a2_'.toNatClampNeg) - (1 : Int32)) then a1_'.toInt8.toInt32 else ((N_'.1 166 a2_'.toNatClampNeg) - (1 : Int32))) else (0 : Int32)).toInt by omega) (show (if (0 : Int32) < (if a1_'.toInt8.toInt32 < ((N_'.1 166 a2_'.toNatClampNeg) - (1 : Int32)) then a1_'.toInt8.toInt32 else ((N_'.1 166 a2_'.toNatClampNeg) - (1 : Int32))) then (if a1_'.toInt8.toInt32 < ((N_'.1 166 a2_'.toNatClampNeg) - (1 : Int32)) then a1_'.toInt8.toInt32 else ((N_'.1 166 a2_'.toNatClampNeg) - (1 : Int32))) else (0 : Int32)).toInt ≤ (8 : Int) by omega)
          have hG36 : Gd 163 B_ M3 := Gd_st hG e34 (by show ((8 : Int32) + a2_').toInt.toNat < 80 ∨ 92 < ((8 : Int32) + a2_').toInt.toNat; omega)
          have f37 : (M3.1 162 4).toInt = (N_'.1 162 4).toInt := by rw [e34]; rw [si_ne (by exact fun e => absurd e.1 (by decide))]
          clear e34
          refine inb_i (by omega) (by omega) ?_
          have q38 : (a2_' + (1 : Int32)).toInt = a2_'.toInt + (1 : Int) := add_ti rfl rfl (by omega) (by omega)
          exact ⟨_, rfl, ⟨hJ35, hG36, (show (0 : Int) ≤ (a2_' + (1 : Int32)).toInt by omega), (show (a2_' + (1 : Int32)).toInt ≤ (8 : Int) by omega)⟩, show (8 - (a2_' + (1 : Int32)).toInt).toNat < (8 - a2_'.toInt).toNat by omega⟩
        · have c39 := c
          have d40 : v2.toInt ≤ a2_'.toInt := nlti.mp c39
          unfold j_Mod_sheet_119_43
          have q41 : ((8 : Int32) + a2_').toInt = (8 : Int) + a2_'.toInt := add_ti rfl rfl (by omega) (by omega)
          refine inb_i (by omega) (by omega) ?_
          refine mem_i (fun M3 e43 => ?_)
          have hJ44 : J M3 := by rw [e43]; exact Jws8 hN St_163 (i := ((8 : Int32) + a2_')) (by omega) (by omega) (0 : Int32) (show (0 : Int) ≤ (0 : Int32).toInt by decide) (show (0 : Int32).toInt ≤ (8 : Int) by decide)
          have hG45 : Gd 163 B_ M3 := Gd_st hG e43 (by show ((8 : Int32) + a2_').toInt.toNat < 80 ∨ 92 < ((8 : Int32) + a2_').toInt.toNat; omega)
          have f46 : (M3.1 162 4).toInt = (N_'.1 162 4).toInt := by rw [e43]; rw [si_ne (by exact fun e => absurd e.1 (by decide))]
          clear e43
          refine inb_i (by omega) (by omega) ?_
          have q47 : (a2_' + (1 : Int32)).toInt = a2_'.toInt + (1 : Int) := add_ti rfl rfl (by omega) (by omega)
          exact ⟨_, rfl, ⟨hJ44, hG45, (show (0 : Int) ≤ (a2_' + (1 : Int32)).toInt by omega), (show (a2_' + (1 : Int32)).toInt ≤ (8 : Int) by omega)⟩, show (8 - (a2_' + (1 : Int32)).toInt).toNat < (8 - a2_'.toInt).toNat by omega⟩
    · have c48 := c
      have d49 : ¬ v1.toInt = (0 : Int) := neqi.mp c48
      refine if_i (fun c => ?_) (fun c => ?_)
      · have c50 := c
        have d51 : v1.toInt = (1 : Int) := eqi.mp c50
        unfold j_Mod_sheet_75_43
        refine if_i (fun c => ?_) (fun c => ?_)
        · have c52 := c
          have d53 : v1.toInt = (3 : Int) := eqi.mp c52
          exfalso; omega
        · have c54 := c
          have d55 : ¬ v1.toInt = (3 : Int) := neqi.mp c54
          refine if_i (fun c => ?_) (fun c => ?_)
          · have c56 := c
            have d57 : a2_'.toInt < v2.toInt := lti.mp c56
            refine inb_i (by omega) (by omega) ?_
            unfold j_Mod_sheet_119_43
            have q58 : ((8 : Int32) + a2_').toInt = (8 : Int) + a2_'.toInt := add_ti rfl rfl (by omega) (by omega)
            refine inb_i (by omega) (by omega) ?_
            have q60 : (0 : Int) ≤ (if (0 : Int32) < (if a1_'.toInt16.toInt32 < ((N_'.1 166 a2_'.toNatClampNeg) - (1 : Int32)) then a1_'.toInt16.toInt32 else ((N_'.1 166 a2_'.toNatClampNeg) - (1 : Int32))) then (if a1_'.toInt16.toInt32 < ((N_'.1 166 a2_'.toNatClampNeg) - (1 : Int32)) then a1_'.toInt16.toInt32 else ((N_'.1 166 a2_'.toNatClampNeg) - (1 : Int32))) else (0 : Int32)).toInt ∧ (if (0 : Int32) < (if a1_'.toInt16.toInt32 < ((N_'.1 166 a2_'.toNatClampNeg) - (1 : Int32)) then a1_'.toInt16.toInt32 else ((N_'.1 166 a2_'.toNatClampNeg) - (1 : Int32))) then (if a1_'.toInt16.toInt32 < ((N_'.1 166 a2_'.toNatClampNeg) - (1 : Int32)) then a1_'.toInt16.toInt32 else ((N_'.1 166 a2_'.toNatClampNeg) - (1 : Int32))) else (0 : Int32)).toInt ≤ (8 : Int) := by
              by_cases cc : (0 : Int32) < (if a1_'.toInt16.toInt32 < ((N_'.1 166 a2_'.toNatClampNeg) - (1 : Int32)) then a1_'.toInt16.toInt32 else ((N_'.1 166 a2_'.toNatClampNeg) - (1 : Int32)))
              · rw [if_pos cc]
                have q61 : (if a1_'.toInt16.toInt32 < ((N_'.1 166 a2_'.toNatClampNeg) - (1 : Int32)) then a1_'.toInt16.toInt32 else ((N_'.1 166 a2_'.toNatClampNeg) - (1 : Int32))).toInt ≤ (8 : Int) := by
                  by_cases cc : a1_'.toInt16.toInt32 < ((N_'.1 166 a2_'.toNatClampNeg) - (1 : Int32))
                  · rw [if_pos cc]
                    have r62 := Jr_166 hN a2_'.toNatClampNeg
                    have q63 : ((N_'.1 166 a2_'.toNatClampNeg) - (1 : Int32)).toInt = (N_'.1 166 a2_'.toNatClampNeg).toInt - (1 : Int) := sub_ti rfl rfl (by omega) (by omega)
                    have d64 : a1_'.toInt16.toInt32.toInt < ((N_'.1 166 a2_'.toNatClampNeg) - (1 : Int32)).toInt := lti.mp cc
                    omega
                  · rw [if_neg cc]
                    have r65 := Jr_166 hN a2_'.toNatClampNeg
                    have q66 : ((N_'.1 166 a2_'.toNatClampNeg) - (1 : Int32)).toInt = (N_'.1 166 a2_'.toNatClampNeg).toInt - (1 : Int) := sub_ti rfl rfl (by omega) (by omega)
                    have d67 : ((N_'.1 166 a2_'.toNatClampNeg) - (1 : Int32)).toInt ≤ a1_'.toInt16.toInt32.toInt := nlti.mp cc
                    omega
                have d68 : (0 : Int) < (if a1_'.toInt16.toInt32 < ((N_'.1 166 a2_'.toNatClampNeg) - (1 : Int32)) then a1_'.toInt16.toInt32 else ((N_'.1 166 a2_'.toNatClampNeg) - (1 : Int32))).toInt := lti.mp cc
                omega
              · rw [if_neg cc]
                have q69 : (if a1_'.toInt16.toInt32 < ((N_'.1 166 a2_'.toNatClampNeg) - (1 : Int32)) then a1_'.toInt16.toInt32 else ((N_'.1 166 a2_'.toNatClampNeg) - (1 : Int32))).toInt ≤ (8 : Int) := by
                  by_cases cc : a1_'.toInt16.toInt32 < ((N_'.1 166 a2_'.toNatClampNeg) - (1 : Int32))
                  · rw [if_pos cc]
                    have r70 := Jr_166 hN a2_'.toNatClampNeg
                    have q71 : ((N_'.1 166 a2_'.toNatClampNeg) - (1 : Int32)).toInt = (N_'.1 166 a2_'.toNatClampNeg).toInt - (1 : Int) := sub_ti rfl rfl (by omega) (by omega)
                    have d72 : a1_'.toInt16.toInt32.toInt < ((N_'.1 166 a2_'.toNatClampNeg) - (1 : Int32)).toInt := lti.mp cc
                    omega
                  · rw [if_neg cc]
                    have r73 := Jr_166 hN a2_'.toNatClampNeg
                    have q74 : ((N_'.1 166 a2_'.toNatClampNeg) - (1 : Int32)).toInt = (N_'.1 166 a2_'.toNatClampNeg).toInt - (1 : Int) := sub_ti rfl rfl (by omega) (by omega)
                    have d75 : ((N_'.1 166 a2_'.toNatClampNeg) - (1 : Int32)).toInt ≤ a1_'.toInt16.toInt32.toInt := nlti.mp cc
                    omega
                have d76 : (if a1_'.toInt16.toInt32 < ((N_'.1 166 a2_'.toNatClampNeg) - (1 : Int32)) then a1_'.toInt16.toInt32 else ((N_'.1 166 a2_'.toNatClampNeg) - (1 : Int32))).toInt ≤ (0 : Int) := nlti.mp cc
                decide
            refine mem_i (fun M3 e77 => ?_)
            have hJ78 : J M3 := by rw [e77]; exact Jws8 hN St_163 (i := ((8 : Int32) + a2_')) (by omega) (by omega) (if (0 : Int32) < (if a1_'.toInt16.toInt32 < ((N_'.1 166 a2_'.toNatClampNeg) - (1 : Int32)) then a1_'.toInt16.toInt32 else ((N_'.1 166 a2_'.toNatClampNeg) - (1 : Int32))) then (if a1_'.toInt16.toInt32 < ((N_'.1 166 a2_'.toNatClampNeg) - (1 : Int32)) then a1_'.toInt16.toInt32 else ((N_'.1 166 a2_'.toNatClampNeg) - (1 : Int32))) else (0 : Int32)) (show (0 : Int) ≤ (if (0 : Int32) < (if a1_'.toInt16.toInt32 < ((N_'.1 166 a2_'.toNatClampNeg) - (1 : Int32)) then a1_'.toInt16.toInt32 else ((N_'.1 166 a2_'.toNatClampNeg) - (1 : Int32))) then (if a1_'.toInt16.toInt32 < ((N_'.1 166 a2_'.toNatClampNeg) - (1 : Int32)) then a1_'.toInt16.toInt32 else ((N_'.1 166 a2_'.toNatClampNeg) - (1 : Int32))) else (0 : Int32)).toInt by omega) (show (if (0 : Int32) < (if a1_'.toInt16.toInt32 < ((N_'.1 166 a2_'.toNatClampNeg) - (1 : Int32)) then a1_'.toInt16.toInt32 else ((N_'.1 166 a2_'.toNatClampNeg) - (1 : Int32))) then (if a1_'.toInt16.toInt32 < ((N_'.1 166 a2_'.toNatClampNeg) - (1 : Int32)) then a1_'.toInt16.toInt32 else ((N_'.1 166 a2_'.toNatClampNeg) - (1 : Int32))) else (0 : Int32)).toInt ≤ (8 : Int) by omega)
            have hG79 : Gd 163 B_ M3 := Gd_st hG e77 (by show ((8 : Int32) + a2_').toInt.toNat < 80 ∨ 92 < ((8 : Int32) + a2_').toInt.toNat; omega)
            have f80 : (M3.1 162 4).toInt = (N_'.1 162 4).toInt := by rw [e77]; rw [si_ne (by exact fun e => absurd e.1 (by decide))]
            clear e77
            refine inb_i (by omega) (by omega) ?_
            have q81 : (a2_' + (1 : Int32)).toInt = a2_'.toInt + (1 : Int) := add_ti rfl rfl (by omega) (by omega)
            exact ⟨_, rfl, ⟨hJ78, hG79, (show (0 : Int) ≤ (a2_' + (1 : Int32)).toInt by omega), (show (a2_' + (1 : Int32)).toInt ≤ (8 : Int) by omega)⟩, show (8 - (a2_' + (1 : Int32)).toInt).toNat < (8 - a2_'.toInt).toNat by omega⟩
          · have c82 := c
            have d83 : v2.toInt ≤ a2_'.toInt := nlti.mp c82
            unfold j_Mod_sheet_119_43
            have q84 : ((8 : Int32) + a2_').toInt = (8 : Int) + a2_'.toInt := add_ti rfl rfl (by omega) (by omega)
            refine inb_i (by omega) (by omega) ?_
            refine mem_i (fun M3 e86 => ?_)
            have hJ87 : J M3 := by rw [e86]; exact Jws8 hN St_163 (i := ((8 : Int32) + a2_')) (by omega) (by omega) (0 : Int32) (show (0 : Int) ≤ (0 : Int32).toInt by decide) (show (0 : Int32).toInt ≤ (8 : Int) by decide)
            have hG88 : Gd 163 B_ M3 := Gd_st hG e86 (by show ((8 : Int32) + a2_').toInt.toNat < 80 ∨ 92 < ((8 : Int32) + a2_').toInt.toNat; omega)
            have f89 : (M3.1 162 4).toInt = (N_'.1 162 4).toInt := by rw [e86]; rw [si_ne (by exact fun e => absurd e.1 (by decide))]
            clear e86
            refine inb_i (by omega) (by omega) ?_
            have q90 : (a2_' + (1 : Int32)).toInt = a2_'.toInt + (1 : Int) := add_ti rfl rfl (by omega) (by omega)
            exact ⟨_, rfl, ⟨hJ87, hG88, (show (0 : Int) ≤ (a2_' + (1 : Int32)).toInt by omega), (show (a2_' + (1 : Int32)).toInt ≤ (8 : Int) by omega)⟩, show (8 - (a2_' + (1 : Int32)).toInt).toNat < (8 - a2_'.toInt).toNat by omega⟩
      · have c91 := c
        have d92 : ¬ v1.toInt = (1 : Int) := neqi.mp c91
        unfold j_Mod_sheet_75_43
        refine if_i (fun c => ?_) (fun c => ?_)
        · have c93 := c
          have d94 : v1.toInt = (3 : Int) := eqi.mp c93
          unfold j_Mod_sheet_119_43
          have q95 : ((8 : Int32) + a2_').toInt = (8 : Int) + a2_'.toInt := add_ti rfl rfl (by omega) (by omega)
          refine inb_i (by omega) (by omega) ?_
          refine mem_i (fun M3 e97 => ?_)
          have hJ98 : J M3 := by rw [e97]; exact Jws8 hN St_163 (i := ((8 : Int32) + a2_')) (by omega) (by omega) (0 : Int32) (show (0 : Int) ≤ (0 : Int32).toInt by decide) (show (0 : Int32).toInt ≤ (8 : Int) by decide)
          have hG99 : Gd 163 B_ M3 := Gd_st hG e97 (by show ((8 : Int32) + a2_').toInt.toNat < 80 ∨ 92 < ((8 : Int32) + a2_').toInt.toNat; omega)
          have f100 : (M3.1 162 4).toInt = (N_'.1 162 4).toInt := by rw [e97]; rw [si_ne (by exact fun e => absurd e.1 (by decide))]
          clear e97
          refine inb_i (by omega) (by omega) ?_
          have q101 : (a2_' + (1 : Int32)).toInt = a2_'.toInt + (1 : Int) := add_ti rfl rfl (by omega) (by omega)
          exact ⟨_, rfl, ⟨hJ98, hG99, (show (0 : Int) ≤ (a2_' + (1 : Int32)).toInt by omega), (show (a2_' + (1 : Int32)).toInt ≤ (8 : Int) by omega)⟩, show (8 - (a2_' + (1 : Int32)).toInt).toNat < (8 - a2_'.toInt).toNat by omega⟩
        · have c102 := c
          have d103 : ¬ v1.toInt = (3 : Int) := neqi.mp c102
          refine if_i (fun c => ?_) (fun c => ?_)
          · have c104 := c
            have d105 : a2_'.toInt < v2.toInt := lti.mp c104
            refine inb_i (by omega) (by omega) ?_
            unfold j_Mod_sheet_119_43
            have q106 : ((8 : Int32) + a2_').toInt = (8 : Int) + a2_'.toInt := add_ti rfl rfl (by omega) (by omega)
            refine inb_i (by omega) (by omega) ?_
            have q108 : (0 : Int) ≤ (if (0 : Int32) < (if a1_' < ((N_'.1 166 a2_'.toNatClampNeg) - (1 : Int32)) then a1_' else ((N_'.1 166 a2_'.toNatClampNeg) - (1 : Int32))) then (if a1_' < ((N_'.1 166 a2_'.toNatClampNeg) - (1 : Int32)) then a1_' else ((N_'.1 166 a2_'.toNatClampNeg) - (1 : Int32))) else (0 : Int32)).toInt ∧ (if (0 : Int32) < (if a1_' < ((N_'.1 166 a2_'.toNatClampNeg) - (1 : Int32)) then a1_' else ((N_'.1 166 a2_'.toNatClampNeg) - (1 : Int32))) then (if a1_' < ((N_'.1 166 a2_'.toNatClampNeg) - (1 : Int32)) then a1_' else ((N_'.1 166 a2_'.toNatClampNeg) - (1 : Int32))) else (0 : Int32)).toInt ≤ (8 : Int) := by
              by_cases cc : (0 : Int32) < (if a1_' < ((N_'.1 166 a2_'.toNatClampNeg) - (1 : Int32)) then a1_' else ((N_'.1 166 a2_'.toNatClampNeg) - (1 : Int32)))
              · rw [if_pos cc]
                have q109 : (if a1_' < ((N_'.1 166 a2_'.toNatClampNeg) - (1 : Int32)) then a1_' else ((N_'.1 166 a2_'.toNatClampNeg) - (1 : Int32))).toInt ≤ (8 : Int) := by
                  by_cases cc : a1_' < ((N_'.1 166 a2_'.toNatClampNeg) - (1 : Int32))
                  · rw [if_pos cc]
                    have r110 := Jr_166 hN a2_'.toNatClampNeg
                    have q111 : ((N_'.1 166 a2_'.toNatClampNeg) - (1 : Int32)).toInt = (N_'.1 166 a2_'.toNatClampNeg).toInt - (1 : Int) := sub_ti rfl rfl (by omega) (by omega)
                    have d112 : a1_'.toInt < ((N_'.1 166 a2_'.toNatClampNeg) - (1 : Int32)).toInt := lti.mp cc
                    omega
                  · rw [if_neg cc]
                    have r113 := Jr_166 hN a2_'.toNatClampNeg
                    have q114 : ((N_'.1 166 a2_'.toNatClampNeg) - (1 : Int32)).toInt = (N_'.1 166 a2_'.toNatClampNeg).toInt - (1 : Int) := sub_ti rfl rfl (by omega) (by omega)
                    have d115 : ((N_'.1 166 a2_'.toNatClampNeg) - (1 : Int32)).toInt ≤ a1_'.toInt := nlti.mp cc
                    omega
                have d116 : (0 : Int) < (if a1_' < ((N_'.1 166 a2_'.toNatClampNeg) - (1 : Int32)) then a1_' else ((N_'.1 166 a2_'.toNatClampNeg) - (1 : Int32))).toInt := lti.mp cc
                omega
              · rw [if_neg cc]
                have q117 : (if a1_' < ((N_'.1 166 a2_'.toNatClampNeg) - (1 : Int32)) then a1_' else ((N_'.1 166 a2_'.toNatClampNeg) - (1 : Int32))).toInt ≤ (8 : Int) := by
                  by_cases cc : a1_' < ((N_'.1 166 a2_'.toNatClampNeg) - (1 : Int32))
                  · rw [if_pos cc]
                    have r118 := Jr_166 hN a2_'.toNatClampNeg
                    have q119 : ((N_'.1 166 a2_'.toNatClampNeg) - (1 : Int32)).toInt = (N_'.1 166 a2_'.toNatClampNeg).toInt - (1 : Int) := sub_ti rfl rfl (by omega) (by omega)
                    have d120 : a1_'.toInt < ((N_'.1 166 a2_'.toNatClampNeg) - (1 : Int32)).toInt := lti.mp cc
                    omega
                  · rw [if_neg cc]
                    have r121 := Jr_166 hN a2_'.toNatClampNeg
                    have q122 : ((N_'.1 166 a2_'.toNatClampNeg) - (1 : Int32)).toInt = (N_'.1 166 a2_'.toNatClampNeg).toInt - (1 : Int) := sub_ti rfl rfl (by omega) (by omega)
                    have d123 : ((N_'.1 166 a2_'.toNatClampNeg) - (1 : Int32)).toInt ≤ a1_'.toInt := nlti.mp cc
                    omega
                have d124 : (if a1_' < ((N_'.1 166 a2_'.toNatClampNeg) - (1 : Int32)) then a1_' else ((N_'.1 166 a2_'.toNatClampNeg) - (1 : Int32))).toInt ≤ (0 : Int) := nlti.mp cc
                decide
            refine mem_i (fun M3 e125 => ?_)
            have hJ126 : J M3 := by rw [e125]; exact Jws8 hN St_163 (i := ((8 : Int32) + a2_')) (by omega) (by omega) (if (0 : Int32) < (if a1_' < ((N_'.1 166 a2_'.toNatClampNeg) - (1 : Int32)) then a1_' else ((N_'.1 166 a2_'.toNatClampNeg) - (1 : Int32))) then (if a1_' < ((N_'.1 166 a2_'.toNatClampNeg) - (1 : Int32)) then a1_' else ((N_'.1 166 a2_'.toNatClampNeg) - (1 : Int32))) else (0 : Int32)) (show (0 : Int) ≤ (if (0 : Int32) < (if a1_' < ((N_'.1 166 a2_'.toNatClampNeg) - (1 : Int32)) then a1_' else ((N_'.1 166 a2_'.toNatClampNeg) - (1 : Int32))) then (if a1_' < ((N_'.1 166 a2_'.toNatClampNeg) - (1 : Int32)) then a1_' else ((N_'.1 166 a2_'.toNatClampNeg) - (1 : Int32))) else (0 : Int32)).toInt by omega) (show (if (0 : Int32) < (if a1_' < ((N_'.1 166 a2_'.toNatClampNeg) - (1 : Int32)) then a1_' else ((N_'.1 166 a2_'.toNatClampNeg) - (1 : Int32))) then (if a1_' < ((N_'.1 166 a2_'.toNatClampNeg) - (1 : Int32)) then a1_' else ((N_'.1 166 a2_'.toNatClampNeg) - (1 : Int32))) else (0 : Int32)).toInt ≤ (8 : Int) by omega)
            have hG127 : Gd 163 B_ M3 := Gd_st hG e125 (by show ((8 : Int32) + a2_').toInt.toNat < 80 ∨ 92 < ((8 : Int32) + a2_').toInt.toNat; omega)
            have f128 : (M3.1 162 4).toInt = (N_'.1 162 4).toInt := by rw [e125]; rw [si_ne (by exact fun e => absurd e.1 (by decide))]
            clear e125
            refine inb_i (by omega) (by omega) ?_
            have q129 : (a2_' + (1 : Int32)).toInt = a2_'.toInt + (1 : Int) := add_ti rfl rfl (by omega) (by omega)
            exact ⟨_, rfl, ⟨hJ126, hG127, (show (0 : Int) ≤ (a2_' + (1 : Int32)).toInt by omega), (show (a2_' + (1 : Int32)).toInt ≤ (8 : Int) by omega)⟩, show (8 - (a2_' + (1 : Int32)).toInt).toNat < (8 - a2_'.toInt).toNat by omega⟩
          · have c130 := c
            have d131 : v2.toInt ≤ a2_'.toInt := nlti.mp c130
            unfold j_Mod_sheet_119_43
            have q132 : ((8 : Int32) + a2_').toInt = (8 : Int) + a2_'.toInt := add_ti rfl rfl (by omega) (by omega)
            refine inb_i (by omega) (by omega) ?_
            refine mem_i (fun M3 e134 => ?_)
            have hJ135 : J M3 := by rw [e134]; exact Jws8 hN St_163 (i := ((8 : Int32) + a2_')) (by omega) (by omega) (0 : Int32) (show (0 : Int) ≤ (0 : Int32).toInt by decide) (show (0 : Int32).toInt ≤ (8 : Int) by decide)
            have hG136 : Gd 163 B_ M3 := Gd_st hG e134 (by show ((8 : Int32) + a2_').toInt.toNat < 80 ∨ 92 < ((8 : Int32) + a2_').toInt.toNat; omega)
            have f137 : (M3.1 162 4).toInt = (N_'.1 162 4).toInt := by rw [e134]; rw [si_ne (by exact fun e => absurd e.1 (by decide))]
            clear e134
            refine inb_i (by omega) (by omega) ?_
            have q138 : (a2_' + (1 : Int32)).toInt = a2_'.toInt + (1 : Int) := add_ti rfl rfl (by omega) (by omega)
            exact ⟨_, rfl, ⟨hJ135, hG136, (show (0 : Int) ≤ (a2_' + (1 : Int32)).toInt by omega), (show (a2_' + (1 : Int32)).toInt ≤ (8 : Int) by omega)⟩, show (8 - (a2_' + (1 : Int32)).toInt).toNat < (8 - a2_'.toInt).toNat by omega⟩
theorem sf_Mod_sheet (v1 : Int32) (v2 : Int32) (v3 : Int32) (v4 : Int32) (M : Mem) (hJ : J M) : ∃ r : Int32 × Mem, f_Mod_sheet v1 v2 v3 v4 M = some r ∧ (J r.2 ∧ Gd 163 M r.2) := by
  unfold f_Mod_sheet
  refine mem_i (fun M1 e2 => ?_)
  have hJ3 : J M1 := by rw [e2]; exact Jw_fld okf_162_13 hJ (0 : Int32)
  have hG4 : Gd 163 M M1 := Gd_i Gd_r e2 (by decide)
  have f5 : (M1.1 162 13).toInt = (0 : Int) := by rw [e2, si_eq]; rfl
  clear e2
  refine bind_i (sf_Mod_in v1 (0 : Int32) (3 : Int32)) (fun x2 _ q => ?_)
  obtain ⟨h6, h7, h8⟩ := q
  replace h8 : ¬ x2.toInt = 0 → (0 : Int) ≤ v1.toInt ∧ v1.toInt ≤ (3 : Int) := h8
  refine if_i (fun c => ?_) (fun c => ?_)
  · have c9 := c
    have d10 : x2.toInt = (0 : Int) := eqi.mp c9
    exact ⟨((-1 : Int32), M1), rfl, hJ3, hG4⟩
  · have c11 := c
    have d12 : ¬ x2.toInt = (0 : Int) := neqi.mp c11
    refine if_i (fun c => ?_) (fun c => ?_)
    · have c13 := c
      have d14 : v2.toInt ≤ (8 : Int) := lei.mp c13
      refine if_i (fun c => ?_) (fun c => ?_)
      · have c15 := c
        have d16 : (3 : Int) ≤ v1.toInt := lei.mp c15
        refine bind_i (sl_Mod_sheet_43 v1 v2 v4 (0 : Int32) v3 (0 : Int32) M1 M (⟨show (0 : Int) ≤ v1.toInt by omega, show v1.toInt ≤ (3 : Int) by omega⟩) (show v2.toInt ≤ (8 : Int) by omega) hJ3 hG4 (show (0 : Int) ≤ (0 : Int32).toInt by decide) (show (0 : Int32).toInt ≤ (8 : Int) by decide)) (fun x9 _ q => ?_)
        obtain ⟨h17, h18⟩ := q
        refine if_i (fun c => ?_) (fun c => ?_)
        · have c19 := c
          have d20 : v1.toInt = (3 : Int) := eqi.mp c19
          exact ⟨((-3 : Int32), x9.2), rfl, h17, h18⟩
        · have c21 := c
          have d22 : ¬ v1.toInt = (3 : Int) := neqi.mp c21
          exfalso; omega
      · have c23 := c
        have d24 : v1.toInt < (3 : Int) := nlei.mp c23
        refine if_i (fun c => ?_) (fun c => ?_)
        · have c25 := c
          have d26 : (0 : Int) ≤ v2.toInt := lei.mp c25
          refine bind_i (sl_Mod_sheet_43 v1 v2 v4 (0 : Int32) v3 (0 : Int32) M1 M (⟨show (0 : Int) ≤ v1.toInt by omega, show v1.toInt ≤ (3 : Int) by omega⟩) (show v2.toInt ≤ (8 : Int) by omega) hJ3 hG4 (show (0 : Int) ≤ (0 : Int32).toInt by decide) (show (0 : Int32).toInt ≤ (8 : Int) by decide)) (fun x11 _ q => ?_)
          obtain ⟨h27, h28⟩ := q
          refine if_i (fun c => ?_) (fun c => ?_)
          · have c29 := c
            have d30 : v1.toInt = (3 : Int) := eqi.mp c29
            exfalso; omega
          · have c31 := c
            have d32 : ¬ v1.toInt = (3 : Int) := neqi.mp c31
            exact ⟨(x11.1, x11.2), rfl, h27, h28⟩
        · have c33 := c
          have d34 : v2.toInt < (0 : Int) := nlei.mp c33
          exact ⟨((-2 : Int32), M1), rfl, hJ3, hG4⟩
    · have c35 := c
      have d36 : (8 : Int) < v2.toInt := nlei.mp c35
      exact ⟨((-1 : Int32), M1), rfl, hJ3, hG4⟩
theorem sf_Mod_canTell (v1 : Int32) (M : Mem) (hJ : J M) : ∃ r : Int32, f_Mod_canTell v1 M = some r ∧ ((0 : Int) ≤ r.toInt ∧ r.toInt ≤ (1 : Int)) := by
  unfold f_Mod_canTell
  refine bind_i (sf_Mod_isOne v1 M hJ) (fun x1 e_x1 q => ?_)
  obtain ⟨h1, h2, h3⟩ := q
  refine if_i (fun c => ?_) (fun c => ?_)
  · have c4 := c
    have d5 : x1.toInt = (0 : Int) := eqi.mp c4
    exact ⟨(0 : Int32), rfl, (show (0 : Int) ≤ (0 : Int32).toInt by decide), (show (0 : Int32).toInt ≤ (1 : Int) by decide)⟩
  · have c6 := c
    have d7 : ¬ x1.toInt = (0 : Int) := neqi.mp c6
    refine bind_i (sf_Mod_has (M.1 163 (93 : Int32).toNatClampNeg) v1) (fun x2 e_x2 q => ?_)
    obtain ⟨h8, h9⟩ := q
    refine if_i (fun c => ?_) (fun c => ?_)
    · have c10 := c
      have d11 : x2.toInt = (0 : Int) := eqi.mp c10
      exact ⟨(1 : Int32), rfl, (show (0 : Int) ≤ (1 : Int32).toInt by decide), (show (1 : Int32).toInt ≤ (1 : Int) by decide)⟩
    · have c12 := c
      have d13 : ¬ x2.toInt = (0 : Int) := neqi.mp c12
      exact ⟨(0 : Int32), rfl, (show (0 : Int) ≤ (0 : Int32).toInt by decide), (show (0 : Int32).toInt ≤ (1 : Int) by decide)⟩
theorem sl_Mod_womenBelow_4 (M : Mem) (a0_ : Int32) (a1_ : Int32) (hJ_M : J M) (i0_ : (0 : Int) ≤ a1_.toInt) (i1_ : a1_.toInt ≤ (8 : Int)) : ∃ x, iter (lb_Mod_womenBelow_4 M) FU (a0_, a1_) = some x ∧ (fun r : Int32 => True) x := by
  refine iter_r (fun s : Int32 × Int32 => (0 : Int) ≤ s.2.toInt ∧ s.2.toInt ≤ (8 : Int)) (fun s : Int32 × Int32 => (8 - s.2.toInt).toNat) (fun r : Int32 => True) ?_ FU (a0_, a1_) ⟨i0_, i1_⟩ (by show (8 - a1_.toInt).toNat < FU; rw [FU_v]; omega)
  clear i1_ i0_
  rintro ⟨a0_', a1_'⟩ ⟨i0_, i1_⟩
  dsimp only at i0_ i1_
  unfold lb_Mod_womenBelow_4
  dsimp only
  refine if_i (fun c => ?_) (fun c => ?_)
  · have c1 := c
    have r2 := Jr_162_4 hJ_M
    have d3 : (M.1 162 4).toInt ≤ a1_'.toInt := lei.mp c1
    exact ⟨_, rfl, trivial⟩
  · have c4 := c
    have r5 := Jr_162_4 hJ_M
    have d6 : a1_'.toInt < (M.1 162 4).toInt := nlei.mp c4
    refine bind_i (sf_Mod_has (M.1 162 5) a1_') (fun x1 e_x1 q => ?_)
    obtain ⟨h7, h8⟩ := q
    refine if_i (fun c => ?_) (fun c => ?_)
    · have c9 := c
      have d10 : x1.toInt = (0 : Int) := eqi.mp c9
      have q11 : (a1_' + (1 : Int32)).toInt = a1_'.toInt + (1 : Int) := add_ti rfl rfl (by omega) (by omega)
      exact ⟨_, rfl, ⟨(show (0 : Int) ≤ (a1_' + (1 : Int32)).toInt by omega), (show (a1_' + (1 : Int32)).toInt ≤ (8 : Int) by omega)⟩, show (8 - (a1_' + (1 : Int32)).toInt).toNat < (8 - a1_'.toInt).toNat by omega⟩
    · have c12 := c
      have d13 : ¬ x1.toInt = (0 : Int) := neqi.mp c12
      refine inb_i (by omega) (by omega) ?_
      refine bind_e (show (f_Mod_levelOf (M.1 163 a1_'.toNatClampNeg)) = some ((M.1 163 a1_'.toNatClampNeg) / (36 : Int32)) from rfl) ?_
      refine if_i (fun c => ?_) (fun c => ?_)
      · have c14 := c
        have r15 := Jst0 hJ_M St_163 (i := a1_') (by omega) (by omega)
        have q16 : ((M.1 163 a1_'.toNatClampNeg) / (36 : Int32)).toInt = (M.1 163 a1_'.toNatClampNeg).toInt / (36 : Int) := div_ti rfl rfl (by omega) (by omega)
        have d17 : ((M.1 163 a1_'.toNatClampNeg) / (36 : Int32)).toInt = (0 : Int) := eqi.mp c14
        have q18 : (a1_' + (1 : Int32)).toInt = a1_'.toInt + (1 : Int) := add_ti rfl rfl (by omega) (by omega)
        exact ⟨_, rfl, ⟨(show (0 : Int) ≤ (a1_' + (1 : Int32)).toInt by omega), (show (a1_' + (1 : Int32)).toInt ≤ (8 : Int) by omega)⟩, show (8 - (a1_' + (1 : Int32)).toInt).toNat < (8 - a1_'.toInt).toNat by omega⟩
      · have c19 := c
        have r20 := Jst0 hJ_M St_163 (i := a1_') (by omega) (by omega)
        have q21 : ((M.1 163 a1_'.toNatClampNeg) / (36 : Int32)).toInt = (M.1 163 a1_'.toNatClampNeg).toInt / (36 : Int) := div_ti rfl rfl (by omega) (by omega)
        have d22 : ¬ ((M.1 163 a1_'.toNatClampNeg) / (36 : Int32)).toInt = (0 : Int) := neqi.mp c19
        have q23 : (a1_' + (1 : Int32)).toInt = a1_'.toInt + (1 : Int) := add_ti rfl rfl (by omega) (by omega)
        exact ⟨_, rfl, ⟨(show (0 : Int) ≤ (a1_' + (1 : Int32)).toInt by omega), (show (a1_' + (1 : Int32)).toInt ≤ (8 : Int) by omega)⟩, show (8 - (a1_' + (1 : Int32)).toInt).toNat < (8 - a1_'.toInt).toNat by omega⟩
theorem sf_Mod_womenBelow (M : Mem) (hJ : J M) : ∃ r : Int32, f_Mod_womenBelow M = some r ∧ (True) := by
  unfold f_Mod_womenBelow
  refine bind_i (sl_Mod_womenBelow_4 M (0 : Int32) (0 : Int32) hJ (show (0 : Int) ≤ (0 : Int32).toInt by decide) (show (0 : Int32).toInt ≤ (8 : Int) by decide)) (fun x6 _ q => ?_)
  exact ⟨x6, rfl, trivial⟩
theorem sl_Mod_canFeast_31 (M : Mem) (a0_ : Int32) (hJ_M : J M) (i0_ : (0 : Int) ≤ a0_.toInt) (i1_ : a0_.toInt ≤ (8 : Int)) : ∃ x, iter (lb_Mod_canFeast_31 M) FU a0_ = some x ∧ (SQ (fun r : Unit => True) (fun r : Unit => True)) x := by
  refine iter_r (fun s : Int32 => (0 : Int) ≤ s.toInt ∧ s.toInt ≤ (8 : Int)) (fun s : Int32 => (8 - s.toInt).toNat) (SQ (fun r : Unit => True) (fun r : Unit => True)) ?_ FU a0_ ⟨i0_, i1_⟩ (by show (8 - a0_.toInt).toNat < FU; rw [FU_v]; omega)
  clear i1_ i0_
  rintro a0_' ⟨i0_, i1_⟩
  unfold lb_Mod_canFeast_31
  refine if_i (fun c => ?_) (fun c => ?_)
  · have c1 := c
    have r2 := Jr_162_4 hJ_M
    have d3 : (M.1 162 4).toInt ≤ a0_'.toInt := lei.mp c1
    exact ⟨_, rfl, trivial⟩
  · have c4 := c
    have r5 := Jr_162_4 hJ_M
    have d6 : a0_'.toInt < (M.1 162 4).toInt := nlei.mp c4
    refine bind_i (sf_Mod_has (M.1 162 5) a0_') (fun x2 e_x2 q => ?_)
    obtain ⟨h7, h8⟩ := q
    refine if_i (fun c => ?_) (fun c => ?_)
    · have c9 := c
      have d10 : x2.toInt = (0 : Int) := eqi.mp c9
      have q11 : (a0_' + (1 : Int32)).toInt = a0_'.toInt + (1 : Int) := add_ti rfl rfl (by omega) (by omega)
      exact ⟨_, rfl, ⟨(show (0 : Int) ≤ (a0_' + (1 : Int32)).toInt by omega), (show (a0_' + (1 : Int32)).toInt ≤ (8 : Int) by omega)⟩, show (8 - (a0_' + (1 : Int32)).toInt).toNat < (8 - a0_'.toInt).toNat by omega⟩
    · have c12 := c
      have d13 : ¬ x2.toInt = (0 : Int) := neqi.mp c12
      refine inb_i (by omega) (by omega) ?_
      refine bind_e (show (f_Mod_levelOf (M.1 163 a0_'.toNatClampNeg)) = some ((M.1 163 a0_'.toNatClampNeg) / (36 : Int32)) from rfl) ?_
      refine if_i (fun c => ?_) (fun c => ?_)
      · have c14 := c
        have r15 := Jst0 hJ_M St_163 (i := a0_') (by omega) (by omega)
        have q16 : ((M.1 163 a0_'.toNatClampNeg) / (36 : Int32)).toInt = (M.1 163 a0_'.toNatClampNeg).toInt / (36 : Int) := div_ti rfl rfl (by omega) (by omega)
        have d17 : ((M.1 163 a0_'.toNatClampNeg) / (36 : Int32)).toInt = (0 : Int) := eqi.mp c14
        refine inb_i (by omega) (by omega) ?_
        refine bind_e (show (f_Mod_cellOf (M.1 163 a0_'.toNatClampNeg)) = some ((M.1 163 a0_'.toNatClampNeg) - (((M.1 163 a0_'.toNatClampNeg) / (36 : Int32)) * (36 : Int32))) from rfl) ?_
        have q18 : ((M.1 163 a0_'.toNatClampNeg) - (((M.1 163 a0_'.toNatClampNeg) / (36 : Int32)) * (36 : Int32))).toInt = (M.1 163 a0_'.toNatClampNeg).toInt % (36 : Int) := rem_ti rfl rfl (by omega) (by omega)
        refine inb_i (by omega) (by omega) ?_
        refine if_i (fun c => ?_) (fun c => ?_)
        · have c19 := c
          have d20 : (M.1 164 ((M.1 163 a0_'.toNatClampNeg) - (((M.1 163 a0_'.toNatClampNeg) / (36 : Int32)) * (36 : Int32))).toNatClampNeg).toInt = (3 : Int) := eqi.mp c19
          have q21 : (a0_' + (1 : Int32)).toInt = a0_'.toInt + (1 : Int) := add_ti rfl rfl (by omega) (by omega)
          exact ⟨_, rfl, ⟨(show (0 : Int) ≤ (a0_' + (1 : Int32)).toInt by omega), (show (a0_' + (1 : Int32)).toInt ≤ (8 : Int) by omega)⟩, show (8 - (a0_' + (1 : Int32)).toInt).toNat < (8 - a0_'.toInt).toNat by omega⟩
        · have c22 := c
          have d23 : ¬ (M.1 164 ((M.1 163 a0_'.toNatClampNeg) - (((M.1 163 a0_'.toNatClampNeg) / (36 : Int32)) * (36 : Int32))).toNatClampNeg).toInt = (3 : Int) := neqi.mp c22
          exact ⟨_, rfl, trivial⟩
      · have c24 := c
        have r25 := Jst0 hJ_M St_163 (i := a0_') (by omega) (by omega)
        have q26 : ((M.1 163 a0_'.toNatClampNeg) / (36 : Int32)).toInt = (M.1 163 a0_'.toNatClampNeg).toInt / (36 : Int) := div_ti rfl rfl (by omega) (by omega)
        have d27 : ¬ ((M.1 163 a0_'.toNatClampNeg) / (36 : Int32)).toInt = (0 : Int) := neqi.mp c24
        have q28 : (a0_' + (1 : Int32)).toInt = a0_'.toInt + (1 : Int) := add_ti rfl rfl (by omega) (by omega)
        exact ⟨_, rfl, ⟨(show (0 : Int) ≤ (a0_' + (1 : Int32)).toInt by omega), (show (a0_' + (1 : Int32)).toInt ≤ (8 : Int) by omega)⟩, show (8 - (a0_' + (1 : Int32)).toInt).toNat < (8 - a0_'.toInt).toNat by omega⟩
theorem sf_Mod_canFeast (v1 : Int32) (M : Mem) (hJ : J M) : ∃ r : Int32, f_Mod_canFeast v1 M = some r ∧ ((0 : Int) ≤ r.toInt ∧ r.toInt ≤ (1 : Int) ∧ (¬ r.toInt = 0 → (0 : Int) ≤ v1.toInt ∧ v1.toInt ≤ (1 : Int))) := by
  unfold f_Mod_canFeast
  refine bind_i (sf_Mod_in v1 (0 : Int32) (1 : Int32)) (fun x1 _ q => ?_)
  obtain ⟨h1, h2, h3⟩ := q
  replace h3 : ¬ x1.toInt = 0 → (0 : Int) ≤ v1.toInt ∧ v1.toInt ≤ (1 : Int) := h3
  refine if_i (fun c => ?_) (fun c => ?_)
  · have c4 := c
    have d5 : x1.toInt = (0 : Int) := eqi.mp c4
    exact ⟨(0 : Int32), rfl, (show (0 : Int) ≤ (0 : Int32).toInt by decide), (show (0 : Int32).toInt ≤ (1 : Int) by decide), (fun hh => by have hh : ¬ (0 : Int32).toInt = 0 := hh; have zz : (0 : Int32).toInt = 0 := rfl; omega)⟩
  · have c6 := c
    have d7 : ¬ x1.toInt = (0 : Int) := neqi.mp c6
    refine if_i (fun c => ?_) (fun c => ?_)
    · have c8 := c
      have r9 := Jst94 hJ St_163
      have d10 : (M.1 163 (94 : Int32).toNatClampNeg).toInt = v1.toInt := eqi.mp c8
      exact ⟨(0 : Int32), rfl, (show (0 : Int) ≤ (0 : Int32).toInt by decide), (show (0 : Int32).toInt ≤ (1 : Int) by decide), (fun hh => by have hh : ¬ (0 : Int32).toInt = 0 := hh; have zz : (0 : Int32).toInt = 0 := rfl; omega)⟩
    · have c11 := c
      have r12 := Jst94 hJ St_163
      have d13 : ¬ (M.1 163 (94 : Int32).toNatClampNeg).toInt = v1.toInt := neqi.mp c11
      refine if_i (fun c => ?_) (fun c => ?_)
      · have c14 := c
        have d15 : v1.toInt = (1 : Int) := eqi.mp c14
        exact ⟨(1 : Int32), rfl, (show (0 : Int) ≤ (1 : Int32).toInt by decide), (show (1 : Int32).toInt ≤ (1 : Int) by decide), (fun hh => by have hh : ¬ (1 : Int32).toInt = 0 := hh; have zz : (1 : Int32).toInt = 1 := rfl; omega)⟩
      · have c16 := c
        have d17 : ¬ v1.toInt = (1 : Int) := neqi.mp c16
        refine bind_i (sl_Mod_canFeast_31 M (0 : Int32) hJ (show (0 : Int) ≤ (0 : Int32).toInt by decide) (show (0 : Int32).toInt ≤ (8 : Int) by decide)) (fun x18 _ q => ?_)
        rcases x18 with y | y
        · have q9 : True := q
          dsimp only [Sum.elim_inl, Sum.elim_inr]
          exact ⟨(1 : Int32), rfl, (show (0 : Int) ≤ (1 : Int32).toInt by decide), (show (1 : Int32).toInt ≤ (1 : Int) by decide), (fun hh => by have hh : ¬ (1 : Int32).toInt = 0 := hh; have zz : (1 : Int32).toInt = 1 := rfl; omega)⟩
        · have q9 : True := q
          dsimp only [Sum.elim_inl, Sum.elim_inr]
          exact ⟨(0 : Int32), rfl, (show (0 : Int) ≤ (0 : Int32).toInt by decide), (show (0 : Int32).toInt ≤ (1 : Int) by decide), (fun hh => by have hh : ¬ (0 : Int32).toInt = 0 := hh; have zz : (0 : Int32).toInt = 0 := rfl; omega)⟩
end
