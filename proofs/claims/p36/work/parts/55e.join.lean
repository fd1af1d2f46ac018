section
/-! safety of the reference, 5 -/
theorem sl_Mod_errand_177 (v7 : Int32) (v8 : Int32) (M : Mem) (a0_ : Int32) (a1_ : Int32) (a2_ : Int32) (a3_ : Int32) (a4_ : Int32) (hp_v7 : (0 : Int) ≤ v7.toInt ∧ v7.toInt ≤ (7 : Int)) (hp_v8 : (0 : Int) ≤ v8.toInt ∧ v8.toInt ≤ (7 : Int)) (hJ_M : J M) (i0_ : (0 : Int) ≤ a0_.toInt) (i1_ : a0_.toInt ≤ (1000000 : Int)) (i2_ : (0 : Int) ≤ a1_.toInt) (i3_ : a1_.toInt ≤ (7 : Int)) (i4_ : (0 : Int) ≤ a2_.toInt) (i5_ : a2_.toInt ≤ (7 : Int)) (i6_ : (0 : Int) ≤ a3_.toInt) (i7_ : a3_.toInt ≤ (35 : Int)) (i8_ : (0 : Int) ≤ a4_.toInt) (i9_ : a4_.toInt ≤ (36 : Int)) : ∃ x, iter (lb_Mod_errand_177 v7 v8 M) FU (a0_, a1_, a2_, a3_, a4_) = some x ∧ (fun r : Int32 × Int32 × Int32 × Int32 => (0 : Int) ≤ r.1.toInt ∧ r.1.toInt ≤ (1000000 : Int) ∧ (0 : Int) ≤ r.2.1.toInt ∧ r.2.1.toInt ≤ (7 : Int) ∧ (0 : Int) ≤ r.2.2.1.toInt ∧ r.2.2.1.toInt ≤ (7 : Int) ∧ (0 : Int) ≤ r.2.2.2.toInt ∧ r.2.2.2.toInt ≤ (35 : Int)) x := by
  refine iter_r (fun s : Int32 × Int32 × Int32 × Int32 × Int32 => (0 : Int) ≤ s.1.toInt ∧ s.1.toInt ≤ (1000000 : Int) ∧ (0 : Int) ≤ s.2.1.toInt ∧ s.2.1.toInt ≤ (7 : Int) ∧ (0 : Int) ≤ s.2.2.1.toInt ∧ s.2.2.1.toInt ≤ (7 : Int) ∧ (0 : Int) ≤ s.2.2.2.1.toInt ∧ s.2.2.2.1.toInt ≤ (35 : Int) ∧ (0 : Int) ≤ s.2.2.2.2.toInt ∧ s.2.2.2.2.toInt ≤ (36 : Int)) (fun s : Int32 × Int32 × Int32 × Int32 × Int32 => (36 - s.2.2.2.2.toInt).toNat) (fun r : Int32 × Int32 × Int32 × Int32 => (0 : Int) ≤ r.1.toInt ∧ r.1.toInt ≤ (1000000 : Int) ∧ (0 : Int) ≤ r.2.1.toInt ∧ r.2.1.toInt ≤ (7 : Int) ∧ (0 : Int) ≤ r.2.2.1.toInt ∧ r.2.2.1.toInt ≤ (7 : Int) ∧ (0 : Int) ≤ r.2.2.2.toInt ∧ r.2.2.2.toInt ≤ (35 : Int)) ?_ FU (a0_, a1_, a2_, a3_, a4_) ⟨i0_, i1_, i2_, i3_, i4_, i5_, i6_, i7_, i8_, i9_⟩ (by show (36 - a4_.toInt).toNat < FU; rw [FU_v]; omega)
  clear i9_ i8_ i7_ i6_ i5_ i4_ i3_ i2_ i1_ i0_
  rintro ⟨a0_', a1_', a2_', a3_', a4_'⟩ ⟨i0_, i1_, i2_, i3_, i4_, i5_, i6_, i7_, i8_, i9_⟩
  dsimp only at i0_ i1_ i2_ i3_ i4_ i5_ i6_ i7_ i8_ i9_
  unfold lb_Mod_errand_177
  dsimp only
  refine bind_e (show (f_Mod_cells M) = some ((M.1 162 2) * (M.1 162 3)) from rfl) ?_
  refine if_i (fun c => ?_) (fun c => ?_)
  · have c1 := c
    have r2 := Jr_162_2 hJ_M
    have r3 := Jr_162_3 hJ_M
    have q4 := mul_rng (a := (M.1 162 2)) (b := (M.1 162 3)) (x := 6) (y := 6) (by omega) (by omega) (by omega) (by omega) (by decide)
    have d5 : ((M.1 162 2) * (M.1 162 3)).toInt ≤ a4_'.toInt := lei.mp c1
    exact ⟨_, rfl, (show (0 : Int) ≤ a0_'.toInt by omega), (show a0_'.toInt ≤ (1000000 : Int) by omega), (show (0 : Int) ≤ a1_'.toInt by omega), (show a1_'.toInt ≤ (7 : Int) by omega), (show (0 : Int) ≤ a2_'.toInt by omega), (show a2_'.toInt ≤ (7 : Int) by omega), (show (0 : Int) ≤ a3_'.toInt by omega), (show a3_'.toInt ≤ (35 : Int) by omega)⟩
  · have c6 := c
    have r7 := Jr_162_2 hJ_M
    have r8 := Jr_162_3 hJ_M
    have q9 := mul_rng (a := (M.1 162 2)) (b := (M.1 162 3)) (x := 6) (y := 6) (by omega) (by omega) (by omega) (by omega) (by decide)
    have d10 : a4_'.toInt < ((M.1 162 2) * (M.1 162 3)).toInt := nlei.mp c6
    refine bind_e (show (f_Mod_placeOf (1 : Int32) a4_') = some (((36 : Int32) * (1 : Int32)) + a4_') from rfl) ?_
    refine inb_i (by omega) (by omega) ?_
    refine if_i (fun c => ?_) (fun c => ?_)
    · have c11 := c
      have d12 : (M.1 164 a4_'.toNatClampNeg).toInt = (3 : Int) := eqi.mp c11
      refine inb_i (by omega) (by omega) ?_
      refine if_i (fun c => ?_) (fun c => ?_)
      · have c13 := c
        have r14 := Jr_181 hJ_M a4_'.toNatClampNeg
        have d15 : (1000000 : Int) ≤ (M.1 181 a4_'.toNatClampNeg).toInt := lei.mp c13
        have q16 : (a4_' + (1 : Int32)).toInt = a4_'.toInt + (1 : Int) := add_ti rfl rfl (by omega) (by omega)
        exact ⟨_, rfl, ⟨(show (0 : Int) ≤ a0_'.toInt by omega), (show a0_'.toInt ≤ (1000000 : Int) by omega), (show (0 : Int) ≤ a1_'.toInt by omega), (show a1_'.toInt ≤ (7 : Int) by omega), (show (0 : Int) ≤ a2_'.toInt by omega), (show a2_'.toInt ≤ (7 : Int) by omega), (show (0 : Int) ≤ a3_'.toInt by omega), (show a3_'.toInt ≤ (35 : Int) by omega), (show (0 : Int) ≤ (a4_' + (1 : Int32)).toInt by omega), (show (a4_' + (1 : Int32)).toInt ≤ (36 : Int) by omega)⟩, show (36 - (a4_' + (1 : Int32)).toInt).toNat < (36 - a4_'.toInt).toNat by omega⟩
      · have c17 := c
        have r18 := Jr_181 hJ_M a4_'.toNatClampNeg
        have d19 : (M.1 181 a4_'.toNatClampNeg).toInt < (1000000 : Int) := nlei.mp c17
        have q20 : ((36 : Int32) * (1 : Int32)).toInt = (36 : Int) * (1 : Int) := mul_ti rfl rfl (by omega) (by omega)
        have q21 : (((36 : Int32) * (1 : Int32)) + a4_').toInt = ((36 : Int32) * (1 : Int32)).toInt + a4_'.toInt := add_ti rfl rfl (by omega) (by omega)
        refine inb_i (by omega) (by omega) ?_
        refine if_i (fun c => ?_) (fun c => ?_)
        · have c22 := c
          have r23 := Jr_177 hJ_M (((36 : Int32) * (1 : Int32)) + a4_').toNatClampNeg
          have d24 : (1000000 : Int) ≤ (M.1 177 (((36 : Int32) * (1 : Int32)) + a4_').toNatClampNeg).toInt := lei.mp c22
          have q25 : (a4_' + (1 : Int32)).toInt = a4_'.toInt + (1 : Int) := add_ti rfl rfl (by omega) (by omega)
          exact ⟨_, rfl, ⟨(show (0 : Int) ≤ a0_'.toInt by omega), (show a0_'.toInt ≤ (1000000 : Int) by omega), (show (0 : Int) ≤ a1_'.toInt by omega), (show a1_'.toInt ≤ (7 : Int) by omega), (show (0 : Int) ≤ a2_'.toInt by omega), (show a2_'.toInt ≤ (7 : Int) by omega), (show (0 : Int) ≤ a3_'.toInt by omega), (show a3_'.toInt ≤ (35 : Int) by omega), (show (0 : Int) ≤ (a4_' + (1 : Int32)).toInt by omega), (show (a4_' + (1 : Int32)).toInt ≤ (36 : Int) by omega)⟩, show (36 - (a4_' + (1 : Int32)).toInt).toNat < (36 - a4_'.toInt).toNat by omega⟩
        · have c26 := c
          have r27 := Jr_177 hJ_M (((36 : Int32) * (1 : Int32)) + a4_').toNatClampNeg
          have d28 : (M.1 177 (((36 : Int32) * (1 : Int32)) + a4_').toNatClampNeg).toInt < (1000000 : Int) := nlei.mp c26
          refine inb_i (by omega) (by omega) ?_
          refine if_i (fun c => ?_) (fun c => ?_)
          · have c29 := c
            have r30 := Jr_182 hJ_M (((36 : Int32) * (1 : Int32)) + a4_').toNatClampNeg
            have d31 : (M.1 182 (((36 : Int32) * (1 : Int32)) + a4_').toNatClampNeg).toInt < (1000000 : Int) := lti.mp c29
            refine inb_i (by omega) (by omega) ?_
            have r32 := Jst0 hJ_M St_163 (i := v7) (by omega) (by omega)
            refine inb_i (by omega) (by omega) ?_
            refine inb_i (by omega) (by omega) ?_
            refine inb_i (by omega) (by omega) ?_
            refine inb_i (by omega) (by omega) ?_
            refine if_i (fun c => ?_) (fun c => ?_)
            · have c33 := c
              have q34 : (0 : Int) ≤ (if ((M.1 181 (M.1 163 v7.toNatClampNeg).toNatClampNeg) + (M.1 181 a4_'.toNatClampNeg)) < (M.1 177 (((36 : Int32) * (1 : Int32)) + a4_').toNatClampNeg) then (M.1 177 (((36 : Int32) * (1 : Int32)) + a4_').toNatClampNeg) else ((M.1 181 (M.1 163 v7.toNatClampNeg).toNatClampNeg) + (M.1 181 a4_'.toNatClampNeg))).toInt ∧ (if ((M.1 181 (M.1 163 v7.toNatClampNeg).toNatClampNeg) + (M.1 181 a4_'.toNatClampNeg)) < (M.1 177 (((36 : Int32) * (1 : Int32)) + a4_').toNatClampNeg) then (M.1 177 (((36 : Int32) * (1 : Int32)) + a4_').toNatClampNeg) else ((M.1 181 (M.1 163 v7.toNatClampNeg).toNatClampNeg) + (M.1 181 a4_'.toNatClampNeg))).toInt ≤ (1999999 : Int) := by
                by_cases cc : ((M.1 181 (M.1 163 v7.toNatClampNeg).toNatClampNeg) + (M.1 181 a4_'.toNatClampNeg)) < (M.1 177 (((36 : Int32) * (1 : Int32)) + a4_').toNatClampNeg)
                · rw [if_pos cc]
                  have r35 := Jr_181 hJ_M (M.1 163 v7.toNatClampNeg).toNatClampNeg
                  have q36 : ((M.1 181 (M.1 163 v7.toNatClampNeg).toNatClampNeg) + (M.1 181 a4_'.toNatClampNeg)).toInt = (M.1 181 (M.1 163 v7.toNatClampNeg).toNatClampNeg).toInt + (M.1 181 a4_'.toNatClampNeg).toInt := add_ti rfl rfl (by omega) (by omega)
                  have d37 : ((M.1 181 (M.1 163 v7.toNatClampNeg).toNatClampNeg) + (M.1 181 a4_'.toNatClampNeg)).toInt < (M.1 177 (((36 : Int32) * (1 : Int32)) + a4_').toNatClampNeg).toInt := lti.mp cc
                  omega
                · rw [if_neg cc]
                  have r38 := Jr_181 hJ_M (M.1 163 v7.toNatClampNeg).toNatClampNeg
                  have q39 : ((M.1 181 (M.1 163 v7.toNatClampNeg).toNatClampNeg) + (M.1 181 a4_'.toNatClampNeg)).toInt = (M.1 181 (M.1 163 v7.toNatClampNeg).toNatClampNeg).toInt + (M.1 181 a4_'.toNatClampNeg).toInt := add_ti rfl rfl (by omega) (by omega)
                  have d40 : (M.1 177 (((36 : Int32) * (1 : Int32)) + a4_').toNatClampNeg).toInt ≤ ((M.1 181 (M.1 163 v7.toNatClampNeg).toNatClampNeg) + (M.1 181 a4_'.toNatClampNeg)).toInt := nlti.mp cc
                  omega
              have q41 : ((if ((M.1 181 (M.1 163 v7.toNatClampNeg).toNatClampNeg) + (M.1 181 a4_'.toNatClampNeg)) < (M.1 177 (((36 : Int32) * (1 : Int32)) + a4_').toNatClampNeg) then (M.1 177 (((36 : Int32) * (1 : Int32)) + a4_').toNatClampNeg) else ((M.1 181 (M.1 163 v7.toNatClampNeg).toNatClampNeg) + (M.1 181 a4_'.toNatClampNeg))) + (M.1 182 (((36 : Int32) * (1 : Int32)) + a4_').toNatClampNeg)).toInt = (if ((M.1 181 (M.1 163 v7.toNatClampNeg).toNatClampNeg) + (M.1 181 a4_'.toNatClampNeg)) < (M.1 177 (((36 : Int32) * (1 : Int32)) + a4_').toNatClampNeg) then (M.1 177 (((36 : Int32) * (1 : Int32)) + a4_').toNatClampNeg) else ((M.1 181 (M.1 163 v7.toNatClampNeg).toNatClampNeg) + (M.1 181 a4_'.toNatClampNeg))).toInt + (M.1 182 (((36 : Int32) * (1 : Int32)) + a4_').toNatClampNeg).toInt := add_ti rfl rfl (by omega) (by omega)
              have d42 : ((if ((M.1 181 (M.1 163 v7.toNatClampNeg).toNatClampNeg) + (M.1 181 a4_'.toNatClampNeg)) < (M.1 177 (((36 : Int32) * (1 : Int32)) + a4_').toNatClampNeg) then (M.1 177 (((36 : Int32) * (1 : Int32)) + a4_').toNatClampNeg) else ((M.1 181 (M.1 163 v7.toNatClampNeg).toNatClampNeg) + (M.1 181 a4_'.toNatClampNeg))) + (M.1 182 (((36 : Int32) * (1 : Int32)) + a4_').toNatClampNeg)).toInt < a0_'.toInt := lti.mp c33
              have q43 : (a4_' + (1 : Int32)).toInt = a4_'.toInt + (1 : Int) := add_ti rfl rfl (by omega) (by omega)
              exact ⟨_, rfl, ⟨(show (0 : Int) ≤ ((if ((M.1 181 (M.1 163 v7.toNatClampNeg).toNatClampNeg) + (M.1 181 a4_'.toNatClampNeg)) < (M.1 177 (((36 : Int32) * (1 : Int32)) + a4_').toNatClampNeg) then (M.1 177 (((36 : Int32) * (1 : Int32)) + a4_').toNatClampNeg) else ((M.1 181 (M.1 163 v7.toNatClampNeg).toNatClampNeg) + (M.1 181 a4_'.toNatClampNeg))) + (M.1 182 (((36 : Int32) * (1 : Int32)) + a4_').toNatClampNeg)).toInt by omega), (show ((if ((M.1 181 (M.1 163 v7.toNatClampNeg).toNatClampNeg) + (M.1 181 a4_'.toNatClampNeg)) < (M.1 177 (((36 : Int32) * (1 : Int32)) + a4_').toNatClampNeg) then (M.1 177 (((36 : Int32) * (1 : Int32)) + a4_').toNatClampNeg) else ((M.1 181 (M.1 163 v7.toNatClampNeg).toNatClampNeg) + (M.1 181 a4_'.toNatClampNeg))) + (M.1 182 (((36 : Int32) * (1 : Int32)) + a4_').toNatClampNeg)).toInt ≤ (1000000 : Int) by omega), (show (0 : Int) ≤ v7.toInt by omega), (show v7.toInt ≤ (7 : Int) by omega), (show (0 : Int) ≤ v8.toInt by omega), (show v8.toInt ≤ (7 : Int) by omega), (show (0 : Int) ≤ a4_'.toInt by omega), (show a4_'.toInt ≤ (35 : Int) by omega), (show (0 : Int) ≤ (a4_' + (1 : Int32)).toInt by omega), (show (a4_' + (1 : Int32)).toInt ≤ (36 : Int) by omega)⟩, show (36 - (a4_' + (1 : Int32)).toInt).toNat < (36 - a4_'.toInt).toNat by omega⟩
            · have c44 := c
              have q45 : (0 : Int) ≤ (if ((M.1 181 (M.1 163 v7.toNatClampNeg).toNatClampNeg) + (M.1 181 a4_'.toNatClampNeg)) < (M.1 177 (((36 : Int32) * (1 : Int32)) + a4_').toNatClampNeg) then (M.1 177 (((36 : Int32) * (1 : Int32)) + a4_').toNatClampNeg) else ((M.1 181 (M.1 163 v7.toNatClampNeg).toNatClampNeg) + (M.1 181 a4_'.toNatClampNeg))).toInt ∧ (if ((M.1 181 (M.1 163 v7.toNatClampNeg).toNatClampNeg) + (M.1 181 a4_'.toNatClampNeg)) < (M.1 177 (((36 : Int32) * (1 : Int32)) + a4_').toNatClampNeg) then (M.1 177 (((36 : Int32) * (1 : Int32)) + a4_').toNatClampNeg) else ((M.1 181 (M.1 163 v7.toNatClampNeg).toNatClampNeg) + (M.1 181 a4_'.toNatClampNeg))).toInt ≤ (1999999 : Int) := by
                by_cases cc : ((M.1 181 (M.1 163 v7.toNatClampNeg).toNatClampNeg) + (M.1 181 a4_'.toNatClampNeg)) < (M.1 177 (((36 : Int32) * (1 : Int32)) + a4_').toNatClampNeg)
                · rw [if_pos cc]
                  have r46 := Jr_181 hJ_M (M.1 163 v7.toNatClampNeg).toNatClampNeg
                  have q47 : ((M.1 181 (M.1 163 v7.toNatClampNeg).toNatClampNeg) + (M.1 181 a4_'.toNatClampNeg)).toInt = (M.1 181 (M.1 163 v7.toNatClampNeg).toNatClampNeg).toInt + (M.1 181 a4_'.toNatClampNeg).toInt := add_ti rfl rfl (by omega) (by omega)
                  have d48 : ((M.1 181 (M.1 163 v7.toNatClampNeg).toNatClampNeg) + (M.1 181 a4_'.toNatClampNeg)).toInt < (M.1 177 (((36 : Int32) * (1 : Int32)) + a4_').toNatClampNeg).toInt := lti.mp cc
                  omega
                · rw [if_neg cc]
                  have r49 := Jr_181 hJ_M (M.1 163 v7.toNatClampNeg).toNatClampNeg
                  have q50 : ((M.1 181 (M.1 163 v7.toNatClampNeg).toNatClampNeg) + (M.1 181 a4_'.toNatClampNeg)).toInt = (M.1 181 (M.1 163 v7.toNatClampNeg).toNatClampNeg).toInt + (M.1 181 a4_'.toNatClampNeg).toInt := add_ti rfl rfl (by omega) (by omega)
                  have d51 : (M.1 177 (((36 : Int32) * (1 : Int32)) + a4_').toNatClampNeg).toInt ≤ ((M.1 181 (M.1 163 v7.toNatClampNeg).toNatClampNeg) + (M.1 181 a4_'.toNatClampNeg)).toInt := nlti.mp cc
                  omega
              have q52 : ((if ((M.1 181 (M.1 163 v7.toNatClampNeg).toNatClampNeg) + (M.1 181 a4_'.toNatClampNeg)) < (M.1 177 (((36 : Int32) * (1 : Int32)) + a4_').toNatClampNeg) then (M.1 177 (((36 : Int32) * (1 : Int32)) + a4_').toNatClampNeg) else ((M.1 181 (M.1 163 v7.toNatClampNeg).toNatClampNeg) + (M.1 181 a4_'.toNatClampNeg))) + (M.1 182 (((36 : Int32) * (1 : Int32)) + a4_').toNatClampNeg)).toInt = (if ((M.1 181 (M.1 163 v7.toNatClampNeg).toNatClampNeg) + (M.1 181 a4_'.toNatClampNeg)) < (M.1 177 (((36 : Int32) * (1 : Int32)) + a4_').toNatClampNeg) then (M.1 177 (((36 : Int32) * (1 : Int32)) + a4_').toNatClampNeg) else ((M.1 181 (M.1 163 v7.toNatClampNeg).toNatClampNeg) + (M.1 181 a4_'.toNatClampNeg))).toInt + (M.1 182 (((36 : Int32) * (1 : Int32)) + a4_').toNatClampNeg).toInt := add_ti rfl rfl (by omega) (by omega)
              have d53 : a0_'.toInt ≤ ((if ((M.1 181 (M.1 163 v7.toNatClampNeg).toNatClampNeg) + (M.1 181 a4_'.toNatClampNeg)) < (M.1 177 (((36 : Int32) * (1 : Int32)) + a4_').toNatClampNeg) then (M.1 177 (((36 : Int32) * (1 : Int32)) + a4_').toNatClampNeg) else ((M.1 181 (M.1 163 v7.toNatClampNeg).toNatClampNeg) + (M.1 181 a4_'.toNatClampNeg))) + (M.1 182 (((36 : Int32) * (1 : Int32)) + a4_').toNatClampNeg)).toInt := nlti.mp c44
              have q54 : (a4_' + (1 : Int32)).toInt = a4_'.toInt + (1 : Int) := add_ti rfl rfl (by omega) (by omega)
              exact ⟨_, rfl, ⟨(show (0 : Int) ≤ a0_'.toInt by omega), (show a0_'.toInt ≤ (1000000 : Int) by omega), (show (0 : Int) ≤ a1_'.toInt by omega), (show a1_'.toInt ≤ (7 : Int) by omega), (show (0 : Int) ≤ a2_'.toInt by omega), (show a2_'.toInt ≤ (7 : Int) by omega), (show (0 : Int) ≤ a3_'.toInt by omega), (show a3_'.toInt ≤ (35 : Int) by omega), (show (0 : Int) ≤ (a4_' + (1 : Int32)).toInt by omega), (show (a4_' + (1 : Int32)).toInt ≤ (36 : Int) by omega)⟩, show (36 - (a4_' + (1 : Int32)).toInt).toNat < (36 - a4_'.toInt).toNat by omega⟩
          · have c55 := c
            have r56 := Jr_182 hJ_M (((36 : Int32) * (1 : Int32)) + a4_').toNatClampNeg
            have d57 : (1000000 : Int) ≤ (M.1 182 (((36 : Int32) * (1 : Int32)) + a4_').toNatClampNeg).toInt := nlti.mp c55
            have q58 : (a4_' + (1 : Int32)).toInt = a4_'.toInt + (1 : Int) := add_ti rfl rfl (by omega) (by omega)
            exact ⟨_, rfl, ⟨(show (0 : Int) ≤ a0_'.toInt by omega), (show a0_'.toInt ≤ (1000000 : Int) by omega), (show (0 : Int) ≤ a1_'.toInt by omega), (show a1_'.toInt ≤ (7 : Int) by omega), (show (0 : Int) ≤ a2_'.toInt by omega), (show a2_'.toInt ≤ (7 : Int) by omega), (show (0 : Int) ≤ a3_'.toInt by omega), (show a3_'.toInt ≤ (35 : Int) by omega), (show (0 : Int) ≤ (a4_' + (1 : Int32)).toInt by omega), (show (a4_' + (1 : Int32)).toInt ≤ (36 : Int) by omega)⟩, show (36 - (a4_' + (1 : Int32)).toInt).toNat < (36 - a4_'.toInt).toNat by omega⟩
    · have c59 := c
      have d60 : ¬ (M.1 164 a4_'.toNatClampNeg).toInt = (3 : Int) := neqi.mp c59
      have q61 : (a4_' + (1 : Int32)).toInt = a4_'.toInt + (1 : Int) := add_ti rfl rfl (by omega) (by omega)
      exact ⟨_, rfl, ⟨(show (0 : Int) ≤ a0_'.toInt by omega), (show a0_'.toInt ≤ (1000000 : Int) by omega), (show (0 : Int) ≤ a1_'.toInt by omega), (show a1_'.toInt ≤ (7 : Int) by omega), (show (0 : Int) ≤ a2_'.toInt by omega), (show a2_'.toInt ≤ (7 : Int) by omega), (show (0 : Int) ≤ a3_'.toInt by omega), (show a3_'.toInt ≤ (35 : Int) by omega), (show (0 : Int) ≤ (a4_' + (1 : Int32)).toInt by omega), (show (a4_' + (1 : Int32)).toInt ≤ (36 : Int) by omega)⟩, show (36 - (a4_' + (1 : Int32)).toInt).toNat < (36 - a4_'.toInt).toNat by omega⟩
theorem sl_Mod_errand_126 (v7 : Int32) (a0_ : Int32) (a1_ : Int32) (a2_ : Int32) (a3_ : Int32) (a4_ : Int32) (N_ : Mem) (B_ : Mem) (hp_v7 : (0 : Int) ≤ v7.toInt ∧ v7.toInt ≤ (7 : Int)) (hN : J N_) (hG : Gd 1000 B_ N_) (i2_ : (0 : Int) ≤ a0_.toInt) (i3_ : a0_.toInt ≤ (1000000 : Int)) (i4_ : (0 : Int) ≤ a1_.toInt) (i5_ : a1_.toInt ≤ (7 : Int)) (i6_ : (0 : Int) ≤ a2_.toInt) (i7_ : a2_.toInt ≤ (7 : Int)) (i8_ : (0 : Int) ≤ a3_.toInt) (i9_ : a3_.toInt ≤ (35 : Int)) (i10_ : (0 : Int) ≤ a4_.toInt) (i11_ : a4_.toInt ≤ (8 : Int)) : ∃ x, iter (lb_Mod_errand_126 v7) FU (a0_, a1_, a2_, a3_, a4_, N_) = some x ∧ (fun r : Int32 × Int32 × Int32 × Int32 × Mem => J r.2.2.2.2 ∧ Gd 1000 B_ r.2.2.2.2 ∧ (0 : Int) ≤ r.1.toInt ∧ r.1.toInt ≤ (1000000 : Int) ∧ (0 : Int) ≤ r.2.1.toInt ∧ r.2.1.toInt ≤ (7 : Int) ∧ (0 : Int) ≤ r.2.2.1.toInt ∧ r.2.2.1.toInt ≤ (7 : Int) ∧ (0 : Int) ≤ r.2.2.2.1.toInt ∧ r.2.2.2.1.toInt ≤ (35 : Int)) x := by
  refine iter_r (fun s : Int32 × Int32 × Int32 × Int32 × Int32 × Mem => J s.2.2.2.2.2 ∧ Gd 1000 B_ s.2.2.2.2.2 ∧ (0 : Int) ≤ s.1.toInt ∧ s.1.toInt ≤ (1000000 : Int) ∧ (0 : Int) ≤ s.2.1.toInt ∧ s.2.1.toInt ≤ (7 : Int) ∧ (0 : Int) ≤ s.2.2.1.toInt ∧ s.2.2.1.toInt ≤ (7 : Int) ∧ (0 : Int) ≤ s.2.2.2.1.toInt ∧ s.2.2.2.1.toInt ≤ (35 : Int) ∧ (0 : Int) ≤ s.2.2.2.2.1.toInt ∧ s.2.2.2.2.1.toInt ≤ (8 : Int)) (fun s : Int32 × Int32 × Int32 × Int32 × Int32 × Mem => (8 - s.2.2.2.2.1.toInt).toNat) (fun r : Int32 × Int32 × Int32 × Int32 × Mem => J r.2.2.2.2 ∧ Gd 1000 B_ r.2.2.2.2 ∧ (0 : Int) ≤ r.1.toInt ∧ r.1.toInt ≤ (1000000 : Int) ∧ (0 : Int) ≤ r.2.1.toInt ∧ r.2.1.toInt ≤ (7 : Int) ∧ (0 : Int) ≤ r.2.2.1.toInt ∧ r.2.2.1.toInt ≤ (7 : Int) ∧ (0 : Int) ≤ r.2.2.2.1.toInt ∧ r.2.2.2.1.toInt ≤ (35 : Int)) ?_ FU (a0_, a1_, a2_, a3_, a4_, N_) ⟨hN, hG, i2_, i3_, i4_, i5_, i6_, i7_, i8_, i9_, i10_, i11_⟩ (by show (8 - a4_.toInt).toNat < FU; rw [FU_v]; omega)
  clear i11_ i10_ i9_ i8_ i7_ i6_ i5_ i4_ i3_ i2_ hG hN
  rintro ⟨a0_', a1_', a2_', a3_', a4_', N_'⟩ ⟨hN, hG, i2_, i3_, i4_, i5_, i6_, i7_, i8_, i9_, i10_, i11_⟩
  dsimp only at hN hG i2_ i3_ i4_ i5_ i6_ i7_ i8_ i9_ i10_ i11_
  unfold lb_Mod_errand_126
  dsimp only
  refine if_i (fun c => ?_) (fun c => ?_)
  · have c1 := c
    have r2 := Jr_162_4 hN
    have d3 : (N_'.1 162 4).toInt ≤ a4_'.toInt := lei.mp c1
    exact ⟨_, rfl, hN, hG, (show (0 : Int) ≤ a0_'.toInt by omega), (show a0_'.toInt ≤ (1000000 : Int) by omega), (show (0 : Int) ≤ a1_'.toInt by omega), (show a1_'.toInt ≤ (7 : Int) by omega), (show (0 : Int) ≤ a2_'.toInt by omega), (show a2_'.toInt ≤ (7 : Int) by omega), (show (0 : Int) ≤ a3_'.toInt by omega), (show a3_'.toInt ≤ (35 : Int) by omega)⟩
  · have c4 := c
    have r5 := Jr_162_4 hN
    have d6 : a4_'.toInt < (N_'.1 162 4).toInt := nlei.mp c4
    refine bind_i (sf_Mod_has (N_'.1 162 5) a4_') (fun x11 e_x11 q => ?_)
    obtain ⟨h7, h8⟩ := q
    refine if_i (fun c => ?_) (fun c => ?_)
    · have c9 := c
      have d10 : x11.toInt = (0 : Int) := eqi.mp c9
      have q11 : (a4_' + (1 : Int32)).toInt = a4_'.toInt + (1 : Int) := add_ti rfl rfl (by omega) (by omega)
      exact ⟨_, rfl, ⟨hN, hG, (show (0 : Int) ≤ a0_'.toInt by omega), (show a0_'.toInt ≤ (1000000 : Int) by omega), (show (0 : Int) ≤ a1_'.toInt by omega), (show a1_'.toInt ≤ (7 : Int) by omega), (show (0 : Int) ≤ a2_'.toInt by omega), (show a2_'.toInt ≤ (7 : Int) by omega), (show (0 : Int) ≤ a3_'.toInt by omega), (show a3_'.toInt ≤ (35 : Int) by omega), (show (0 : Int) ≤ (a4_' + (1 : Int32)).toInt by omega), (show (a4_' + (1 : Int32)).toInt ≤ (8 : Int) by omega)⟩, show (8 - (a4_' + (1 : Int32)).toInt).toNat < (8 - a4_'.toInt).toNat by omega⟩
    · have c12 := c
      have d13 : ¬ x11.toInt = (0 : Int) := neqi.mp c12
      refine inb_i (by omega) (by omega) ?_
      refine bind_e (show (f_Mod_levelOf (N_'.1 163 a4_'.toNatClampNeg)) = some ((N_'.1 163 a4_'.toNatClampNeg) / (36 : Int32)) from rfl) ?_
      refine if_i (fun c => ?_) (fun c => ?_)
      · have c14 := c
        have r15 := Jst0 hN St_163 (i := a4_') (by omega) (by omega)
        have q16 : ((N_'.1 163 a4_'.toNatClampNeg) / (36 : Int32)).toInt = (N_'.1 163 a4_'.toNatClampNeg).toInt / (36 : Int) := div_ti rfl rfl (by omega) (by omega)
        have d17 : ((N_'.1 163 a4_'.toNatClampNeg) / (36 : Int32)).toInt = (0 : Int) := eqi.mp c14
        have q18 : (a4_' + (1 : Int32)).toInt = a4_'.toInt + (1 : Int) := add_ti rfl rfl (by omega) (by omega)
        exact ⟨_, rfl, ⟨hN, hG, (show (0 : Int) ≤ a0_'.toInt by omega), (show a0_'.toInt ≤ (1000000 : Int) by omega), (show (0 : Int) ≤ a1_'.toInt by omega), (show a1_'.toInt ≤ (7 : Int) by omega), (show (0 : Int) ≤ a2_'.toInt by omega), (show a2_'.toInt ≤ (7 : Int) by omega), (show (0 : Int) ≤ a3_'.toInt by omega), (show a3_'.toInt ≤ (35 : Int) by omega), (show (0 : Int) ≤ (a4_' + (1 : Int32)).toInt by omega), (show (a4_' + (1 : Int32)).toInt ≤ (8 : Int) by omega)⟩, show (8 - (a4_' + (1 : Int32)).toInt).toNat < (8 - a4_'.toInt).toNat by omega⟩
      · have c19 := c
        have r20 := Jst0 hN St_163 (i := a4_') (by omega) (by omega)
        have q21 : ((N_'.1 163 a4_'.toNatClampNeg) / (36 : Int32)).toInt = (N_'.1 163 a4_'.toNatClampNeg).toInt / (36 : Int) := div_ti rfl rfl (by omega) (by omega)
        have d22 : ¬ ((N_'.1 163 a4_'.toNatClampNeg) / (36 : Int32)).toInt = (0 : Int) := neqi.mp c19
        refine inb_i (by omega) (by omega) ?_
        refine bind_i (sf_Mod_findFar (N_'.1 163 a4_'.toNatClampNeg) N_' (⟨show (0 : Int) ≤ (N_'.1 163 a4_'.toNatClampNeg).toInt by omega, show (N_'.1 163 a4_'.toNatClampNeg).toInt ≤ (71 : Int) by omega⟩) hN) (fun x13 _ q => ?_)
        obtain ⟨h23, h24⟩ := q
        have hG25 : Gd 1000 B_ x13 := Gd_t hG h24
        refine bind_i (sl_Mod_errand_177 v7 a4_' x13 a0_' a1_' a2_' a3_' (0 : Int32) (⟨show (0 : Int) ≤ v7.toInt by omega, show v7.toInt ≤ (7 : Int) by omega⟩) (⟨show (0 : Int) ≤ a4_'.toInt by omega, show a4_'.toInt ≤ (7 : Int) by omega⟩) h23 (show (0 : Int) ≤ a0_'.toInt by omega) (show a0_'.toInt ≤ (1000000 : Int) by omega) (show (0 : Int) ≤ a1_'.toInt by omega) (show a1_'.toInt ≤ (7 : Int) by omega) (show (0 : Int) ≤ a2_'.toInt by omega) (show a2_'.toInt ≤ (7 : Int) by omega) (show (0 : Int) ≤ a3_'.toInt by omega) (show a3_'.toInt ≤ (35 : Int) by omega) (show (0 : Int) ≤ (0 : Int32).toInt by decide) (show (0 : Int32).toInt ≤ (36 : Int) by decide)) (fun x22 _ q => ?_)
        obtain ⟨h26, h27, h28, h29, h30, h31, h32, h33⟩ := q
        have q34 : (a4_' + (1 : Int32)).toInt = a4_'.toInt + (1 : Int) := add_ti rfl rfl (by omega) (by omega)
        exact ⟨_, rfl, ⟨h23, hG25, (show (0 : Int) ≤ x22.1.toInt by omega), (show x22.1.toInt ≤ (1000000 : Int) by omega), (show (0 : Int) ≤ x22.2.1.toInt by omega), (show x22.2.1.toInt ≤ (7 : Int) by omega), (show (0 : Int) ≤ x22.2.2.1.toInt by omega), (show x22.2.2.1.toInt ≤ (7 : Int) by omega), (show (0 : Int) ≤ x22.2.2.2.toInt by omega), (show x22.2.2.2.toInt ≤ (35 : Int) by omega), (show (0 : Int) ≤ (a4_' + (1 : Int32)).toInt by omega), (show (a4_' + (1 : Int32)).toInt ≤ (8 : Int) by omega)⟩, show (8 - (a4_' + (1 : Int32)).toInt).toNat < (8 - a4_'.toInt).toNat by omega⟩
theorem sl_Mod_errand_81  (a0_ : Int32) (a1_ : Int32) (a2_ : Int32) (a3_ : Int32) (a4_ : Int32) (N_ : Mem) (B_ : Mem) (hN : J N_) (hG : Gd 1000 B_ N_) (i2_ : (0 : Int) ≤ a0_.toInt) (i3_ : a0_.toInt ≤ (1000000 : Int)) (i4_ : (0 : Int) ≤ a1_.toInt) (i5_ : a1_.toInt ≤ (7 : Int)) (i6_ : (0 : Int) ≤ a2_.toInt) (i7_ : a2_.toInt ≤ (7 : Int)) (i8_ : (0 : Int) ≤ a3_.toInt) (i9_ : a3_.toInt ≤ (35 : Int)) (i10_ : (0 : Int) ≤ a4_.toInt) (i11_ : a4_.toInt ≤ (8 : Int)) : ∃ x, iter (lb_Mod_errand_81) FU (a0_, a1_, a2_, a3_, a4_, N_) = some x ∧ (fun r : Int32 × Int32 × Int32 × Int32 × Mem => J r.2.2.2.2 ∧ Gd 1000 B_ r.2.2.2.2 ∧ (0 : Int) ≤ r.1.toInt ∧ r.1.toInt ≤ (1000000 : Int) ∧ (0 : Int) ≤ r.2.1.toInt ∧ r.2.1.toInt ≤ (7 : Int) ∧ (0 : Int) ≤ r.2.2.1.toInt ∧ r.2.2.1.toInt ≤ (7 : Int) ∧ (0 : Int) ≤ r.2.2.2.1.toInt ∧ r.2.2.2.1.toInt ≤ (35 : Int)) x := by
  refine iter_r (fun s : Int32 × Int32 × Int32 × Int32 × Int32 × Mem => J s.2.2.2.2.2 ∧ Gd 1000 B_ s.2.2.2.2.2 ∧ (0 : Int) ≤ s.1.toInt ∧ s.1.toInt ≤ (1000000 : Int) ∧ (0 : Int) ≤ s.2.1.toInt ∧ s.2.1.toInt ≤ (7 : Int) ∧ (0 : Int) ≤ s.2.2.1.toInt ∧ s.2.2.1.toInt ≤ (7 : Int) ∧ (0 : Int) ≤ s.2.2.2.1.toInt ∧ s.2.2.2.1.toInt ≤ (35 : Int) ∧ (0 : Int) ≤ s.2.2.2.2.1.toInt ∧ s.2.2.2.2.1.toInt ≤ (8 : Int)) (fun s : Int32 × Int32 × Int32 × Int32 × Int32 × Mem => (8 - s.2.2.2.2.1.toInt).toNat) (fun r : Int32 × Int32 × Int32 × Int32 × Mem => J r.2.2.2.2 ∧ Gd 1000 B_ r.2.2.2.2 ∧ (0 : Int) ≤ r.1.toInt ∧ r.1.toInt ≤ (1000000 : Int) ∧ (0 : Int) ≤ r.2.1.toInt ∧ r.2.1.toInt ≤ (7 : Int) ∧ (0 : Int) ≤ r.2.2.1.toInt ∧ r.2.2.1.toInt ≤ (7 : Int) ∧ (0 : Int) ≤ r.2.2.2.1.toInt ∧ r.2.2.2.1.toInt ≤ (35 : Int)) ?_ FU (a0_, a1_, a2_, a3_, a4_, N_) ⟨hN, hG, i2_, i3_, i4_, i5_, i6_, i7_, i8_, i9_, i10_, i11_⟩ (by show (8 - a4_.toInt).toNat < FU; rw [FU_v]; omega)
  clear i11_ i10_ i9_ i8_ i7_ i6_ i5_ i4_ i3_ i2_ hG hN
  rintro ⟨a0_', a1_', a2_', a3_', a4_', N_'⟩ ⟨hN, hG, i2_, i3_, i4_, i5_, i6_, i7_, i8_, i9_, i10_, i11_⟩
  dsimp only at hN hG i2_ i3_ i4_ i5_ i6_ i7_ i8_ i9_ i10_ i11_
  unfold lb_Mod_errand_81
  dsimp only
  refine if_i (fun c => ?_) (fun c => ?_)
  · have c1 := c
    have r2 := Jr_162_4 hN
    have d3 : (N_'.1 162 4).toInt ≤ a4_'.toInt := lei.mp c1
    exact ⟨_, rfl, hN, hG, (show (0 : Int) ≤ a0_'.toInt by omega), (show a0_'.toInt ≤ (1000000 : Int) by omega), (show (0 : Int) ≤ a1_'.toInt by omega), (show a1_'.toInt ≤ (7 : Int) by omega), (show (0 : Int) ≤ a2_'.toInt by omega), (show a2_'.toInt ≤ (7 : Int) by omega), (show (0 : Int) ≤ a3_'.toInt by omega), (show a3_'.toInt ≤ (35 : Int) by omega)⟩
  · have c4 := c
    have r5 := Jr_162_4 hN
    have d6 : a4_'.toInt < (N_'.1 162 4).toInt := nlei.mp c4
    refine bind_i (sf_Mod_has (N_'.1 162 5) a4_') (fun x10 e_x10 q => ?_)
    obtain ⟨h7, h8⟩ := q
    refine if_i (fun c => ?_) (fun c => ?_)
    · have c9 := c
      have d10 : x10.toInt = (0 : Int) := eqi.mp c9
      refine inb_i (by omega) (by omega) ?_
      have r11 := Jst0 hN St_163 (i := a4_') (by omega) (by omega)
      refine inb_i (by omega) (by omega) ?_
      refine if_i (fun c => ?_) (fun c => ?_)
      · have c12 := c
        have r13 := Jr_181 hN (N_'.1 163 a4_'.toNatClampNeg).toNatClampNeg
        have d14 : (N_'.1 181 (N_'.1 163 a4_'.toNatClampNeg).toNatClampNeg).toInt < (1000000 : Int) := lti.mp c12
        refine bind_i (sl_Mod_errand_126 a4_' a0_' a1_' a2_' a3_' (0 : Int32) N_' B_ (⟨show (0 : Int) ≤ a4_'.toInt by omega, show a4_'.toInt ≤ (7 : Int) by omega⟩) hN hG (show (0 : Int) ≤ a0_'.toInt by omega) (show a0_'.toInt ≤ (1000000 : Int) by omega) (show (0 : Int) ≤ a1_'.toInt by omega) (show a1_'.toInt ≤ (7 : Int) by omega) (show (0 : Int) ≤ a2_'.toInt by omega) (show a2_'.toInt ≤ (7 : Int) by omega) (show (0 : Int) ≤ a3_'.toInt by omega) (show a3_'.toInt ≤ (35 : Int) by omega) (show (0 : Int) ≤ (0 : Int32).toInt by decide) (show (0 : Int32).toInt ≤ (8 : Int) by decide)) (fun x26 _ q => ?_)
        obtain ⟨h15, h16, h17, h18, h19, h20, h21, h22, h23, h24⟩ := q
        have q25 : (a4_' + (1 : Int32)).toInt = a4_'.toInt + (1 : Int) := add_ti rfl rfl (by omega) (by omega)
        exact ⟨_, rfl, ⟨h15, h16, (show (0 : Int) ≤ x26.1.toInt by omega), (show x26.1.toInt ≤ (1000000 : Int) by omega), (show (0 : Int) ≤ x26.2.1.toInt by omega), (show x26.2.1.toInt ≤ (7 : Int) by omega), (show (0 : Int) ≤ x26.2.2.1.toInt by omega), (show x26.2.2.1.toInt ≤ (7 : Int) by omega), (show (0 : Int) ≤ x26.2.2.2.1.toInt by omega), (show x26.2.2.2.1.toInt ≤ (35 : Int) by omega), (show (0 : Int) ≤ (a4_' + (1 : Int32)).toInt by omega), (show (a4_' + (1 : Int32)).toInt ≤ (8 : Int) by omega)⟩, show (8 - (a4_' + (1 : Int32)).toInt).toNat < (8 - a4_'.toInt).toNat by omega⟩
      · have c26 := c
        have r27 := Jr_181 hN (N_'.1 163 a4_'.toNatClampNeg).toNatClampNeg
        have d28 : (1000000 : Int) ≤ (N_'.1 181 (N_'.1 163 a4_'.toNatClampNeg).toNatClampNeg).toInt := nlti.mp c26
        have q29 : (a4_' + (1 : Int32)).toInt = a4_'.toInt + (1 : Int) := add_ti rfl rfl (by omega) (by omega)
        exact ⟨_, rfl, ⟨hN, hG, (show (0 : Int) ≤ a0_'.toInt by omega), (show a0_'.toInt ≤ (1000000 : Int) by omega), (show (0 : Int) ≤ a1_'.toInt by omega), (show a1_'.toInt ≤ (7 : Int) by omega), (show (0 : Int) ≤ a2_'.toInt by omega), (show a2_'.toInt ≤ (7 : Int) by omega), (show (0 : Int) ≤ a3_'.toInt by omega), (show a3_'.toInt ≤ (35 : Int) by omega), (show (0 : Int) ≤ (a4_' + (1 : Int32)).toInt by omega), (show (a4_' + (1 : Int32)).toInt ≤ (8 : Int) by omega)⟩, show (8 - (a4_' + (1 : Int32)).toInt).toNat < (8 - a4_'.toInt).toNat by omega⟩
    · have c30 := c
      have d31 : ¬ x10.toInt = (0 : Int) := neqi.mp c30
      have q32 : (a4_' + (1 : Int32)).toInt = a4_'.toInt + (1 : Int) := add_ti rfl rfl (by omega) (by omega)
      exact ⟨_, rfl, ⟨hN, hG, (show (0 : Int) ≤ a0_'.toInt by omega), (show a0_'.toInt ≤ (1000000 : Int) by omega), (show (0 : Int) ≤ a1_'.toInt by omega), (show a1_'.toInt ≤ (7 : Int) by omega), (show (0 : Int) ≤ a2_'.toInt by omega), (show a2_'.toInt ≤ (7 : Int) by omega), (show (0 : Int) ≤ a3_'.toInt by omega), (show a3_'.toInt ≤ (35 : Int) by omega), (show (0 : Int) ≤ (a4_' + (1 : Int32)).toInt by omega), (show (a4_' + (1 : Int32)).toInt ≤ (8 : Int) by omega)⟩, show (8 - (a4_' + (1 : Int32)).toInt).toNat < (8 - a4_'.toInt).toNat by omega⟩
theorem sf_Mod_errand (v1 : Int32) (v2 : Int32) (M : Mem) (hJ : J M) : ∃ r : Int32 × Mem, f_Mod_errand v1 v2 M = some r ∧ (J r.2 ∧ Gd 1000 M r.2 ∧ (-2 : Int) ≤ r.1.toInt ∧ r.1.toInt ≤ (999999 : Int)) := by
  unfold f_Mod_errand
  refine mem_i (fun M1 e2 => ?_)
  have hJ3 : J M1 := by rw [e2]; exact Jw_fld okf_162_13 hJ (0 : Int32)
  have hG4 : Gd 1000 M M1 := Gd_i Gd_r e2 (by decide)
  have f5 : (M1.1 162 13).toInt = (0 : Int) := by rw [e2, si_eq]; rfl
  clear e2
  refine bind_i (sf_Mod_isPlaceOf (0 : Int32) v1 M1 hJ3) (fun x2 e_x2 q => ?_)
  obtain ⟨h6, h7, h8, h9⟩ := q
  clear h8
  refine if_i (fun c => ?_) (fun c => ?_)
  · have c10 := c
    have d11 : x2.toInt = (0 : Int) := eqi.mp c10
    exact ⟨((-1 : Int32), M1), rfl, hJ3, hG4, (show (-2 : Int) ≤ (-1 : Int32).toInt by decide), (show (-1 : Int32).toInt ≤ (999999 : Int) by decide)⟩
  · have c12 := c
    have d13 : ¬ x2.toInt = (0 : Int) := neqi.mp c12
    refine bind_i (sf_Mod_isPlaceOf (1 : Int32) v2 M1 hJ3) (fun x3 e_x3 q => ?_)
    obtain ⟨h14, h15, h16, h17⟩ := q
    clear h16
    refine if_i (fun c => ?_) (fun c => ?_)
    · have c18 := c
      have d19 : x3.toInt = (0 : Int) := eqi.mp c18
      exact ⟨((-1 : Int32), M1), rfl, hJ3, hG4, (show (-2 : Int) ≤ (-1 : Int32).toInt by decide), (show (-1 : Int32).toInt ≤ (999999 : Int) by decide)⟩
    · have c20 := c
      have d21 : ¬ x3.toInt = (0 : Int) := neqi.mp c20
      refine bind_e (show (f_Mod_placeOf (0 : Int32) v1) = some (((36 : Int32) * (0 : Int32)) + v1) from rfl) ?_
      have q22 : ((36 : Int32) * (0 : Int32)).toInt = (36 : Int) * (0 : Int) := mul_ti rfl rfl (by omega) (by omega)
      have q23 : (((36 : Int32) * (0 : Int32)) + v1).toInt = ((36 : Int32) * (0 : Int32)).toInt + v1.toInt := add_ti rfl rfl (by omega) (by omega)
      refine bind_i (sf_Mod_findFar (((36 : Int32) * (0 : Int32)) + v1) M1 (⟨show (0 : Int) ≤ (((36 : Int32) * (0 : Int32)) + v1).toInt by omega, show (((36 : Int32) * (0 : Int32)) + v1).toInt ≤ (71 : Int) by omega⟩) hJ3) (fun x5 _ q => ?_)
      obtain ⟨h24, h25⟩ := q
      have hG26 : Gd 1000 M x5 := Gd_t hG4 h25
      refine bind_i (sf_Mod_copy 177 181 x5 FR_177 FR_181 h24) (fun x6 _ q => ?_)
      obtain ⟨h27, h28⟩ := q
      have hG29 : Gd 1000 M x6 := Gd_t hG26 h28
      refine bind_e (show (f_Mod_placeOf (1 : Int32) v2) = some (((36 : Int32) * (1 : Int32)) + v2) from rfl) ?_
      have q30 : ((36 : Int32) * (1 : Int32)).toInt = (36 : Int) * (1 : Int) := mul_ti rfl rfl (by omega) (by omega)
      have q31 : (((36 : Int32) * (1 : Int32)) + v2).toInt = ((36 : Int32) * (1 : Int32)).toInt + v2.toInt := add_ti rfl rfl (by omega) (by omega)
      refine bind_i (sf_Mod_findFar (((36 : Int32) * (1 : Int32)) + v2) x6 (⟨show (0 : Int) ≤ (((36 : Int32) * (1 : Int32)) + v2).toInt by omega, show (((36 : Int32) * (1 : Int32)) + v2).toInt ≤ (71 : Int) by omega⟩) h27) (fun x8 _ q => ?_)
      obtain ⟨h32, h33⟩ := q
      have hG34 : Gd 1000 M x8 := Gd_t hG29 h33
      refine bind_i (sf_Mod_copy 177 182 x8 FR_177 FR_182 h32) (fun x9 _ q => ?_)
      obtain ⟨h35, h36⟩ := q
      have hG37 : Gd 1000 M x9 := Gd_t hG34 h36
      refine bind_i (sl_Mod_errand_81  (1000000 : Int32) (0 : Int32) (0 : Int32) (0 : Int32) (0 : Int32) x9 M h35 hG37 (show (0 : Int) ≤ (1000000 : Int32).toInt by decide) (show (1000000 : Int32).toInt ≤ (1000000 : Int) by decide) (show (0 : Int) ≤ (0 : Int32).toInt by decide) (show (0 : Int32).toInt ≤ (7 : Int) by decide) (show (0 : Int) ≤ (0 : Int32).toInt by decide) (show (0 : Int32).toInt ≤ (7 : Int) by decide) (show (0 : Int) ≤ (0 : Int32).toInt by decide) (show (0 : Int32).toInt ≤ (35 : Int) by decide) (show (0 : Int) ≤ (0 : Int32).toInt by decide) (show (0 : Int32).toInt ≤ (8 : Int) by decide)) (fun x30 _ q => ?_)
      obtain ⟨h38, h39, h40, h41, h42, h43, h44, h45, h46, h47⟩ := q
      refine if_i (fun c => ?_) (fun c => ?_)
      · have c48 := c
        have d49 : x30.1.toInt = (1000000 : Int) := eqi.mp c48
        exact ⟨((-2 : Int32), x30.2.2.2.2), rfl, h38, h39, (show (-2 : Int) ≤ (-2 : Int32).toInt by decide), (show (-2 : Int32).toInt ≤ (999999 : Int) by decide)⟩
      · have c50 := c
        have d51 : ¬ x30.1.toInt = (1000000 : Int) := neqi.mp c50
        refine mem_i (fun M31 e53 => ?_)
        have hJ54 : J M31 := by rw [e53]; exact Jw_162_12 h38 (0 : Int32) (show (0 : Int) ≤ (0 : Int32).toInt by decide) (show (0 : Int32).toInt ≤ (16 : Int) by decide)
        have hG55 : Gd 1000 M M31 := Gd_i h39 e53 (by decide)
        have f56 : (M31.1 162 12).toInt = (0 : Int) := by rw [e53, si_eq]; rfl
        clear e53
        refine bind_i (sf_Mod_put x30.2.1 M31 hJ54 (show (M31.1 162 12).toInt ≤ (15 : Int) by omega)) (fun x32 _ q => ?_)
        obtain ⟨h57, h58, h59⟩ := q
        have hG60 : Gd 1000 M x32 := Gd_t hG55 h58
        have r61 := Jr_162_12 h57
        refine bind_i (sf_Mod_put x30.2.2.1 x32 h57 (show (x32.1 162 12).toInt ≤ (15 : Int) by omega)) (fun x33 _ q => ?_)
        obtain ⟨h62, h63, h64⟩ := q
        have hG65 : Gd 1000 M x33 := Gd_t hG60 h63
        have r66 := Jr_162_12 h62
        refine bind_i (sf_Mod_put x30.2.2.2.1 x33 h62 (show (x33.1 162 12).toInt ≤ (15 : Int) by omega)) (fun x34 _ q => ?_)
        obtain ⟨h67, h68, h69⟩ := q
        have hG70 : Gd 1000 M x34 := Gd_t hG65 h68
        exact ⟨(x30.1, x34), rfl, h67, hG70, (show (-2 : Int) ≤ x30.1.toInt by omega), (show x30.1.toInt ≤ (999999 : Int) by omega)⟩
theorem sl_Mod_findTryst_38 (v1 : Int32) (v2 : Int32) (a0_ : Int32) (a1_ : Int32) (N_ : Mem) (B_ : Mem) (hp_v1 : (0 : Int) ≤ v1.toInt ∧ v1.toInt ≤ (7 : Int)) (hp_v2 : (0 : Int) ≤ v2.toInt ∧ v2.toInt ≤ (7 : Int)) (hN : J N_) (hG : Gd 1000 B_ N_) (i2_ : (0 : Int) ≤ a0_.toInt) (i3_ : a0_.toInt ≤ (1000000 : Int)) (i4_ : (0 : Int) ≤ a1_.toInt) (i5_ : a1_.toInt ≤ (36 : Int)) : ∃ x, iter (lb_Mod_findTryst_38 v1 v2) FU (a0_, a1_, N_) = some x ∧ (fun r : Int32 × Mem => J r.2 ∧ Gd 1000 B_ r.2 ∧ (0 : Int) ≤ r.1.toInt ∧ r.1.toInt ≤ (1000000 : Int)) x := by
  refine iter_r (fun s : Int32 × Int32 × Mem => J s.2.2 ∧ Gd 1000 B_ s.2.2 ∧ (0 : Int) ≤ s.1.toInt ∧ s.1.toInt ≤ (1000000 : Int) ∧ (0 : Int) ≤ s.2.1.toInt ∧ s.2.1.toInt ≤ (36 : Int)) (fun s : Int32 × Int32 × Mem => (36 - s.2.1.toInt).toNat) (fun r : Int32 × Mem => J r.2 ∧ Gd 1000 B_ r.2 ∧ (0 : Int) ≤ r.1.toInt ∧ r.1.toInt ≤ (1000000 : Int)) ?_ FU (a0_, a1_, N_) ⟨hN, hG, i2_, i3_, i4_, i5_⟩ (by show (36 - a1_.toInt).toNat < FU; rw [FU_v]; omega)
  clear i5_ i4_ i3_ i2_ hG hN
  rintro ⟨a0_', a1_', N_'⟩ ⟨hN, hG, i2_, i3_, i4_, i5_⟩
  dsimp only at hN hG i2_ i3_ i4_ i5_
  unfold lb_Mod_findTryst_38
  dsimp only
  refine bind_e (show (f_Mod_cells N_') = some ((N_'.1 162 2) * (N_'.1 162 3)) from rfl) ?_
  refine if_i (fun c => ?_) (fun c => ?_)
  · have c1 := c
    have r2 := Jr_162_2 hN
    have r3 := Jr_162_3 hN
    have q4 := mul_rng (a := (N_'.1 162 2)) (b := (N_'.1 162 3)) (x := 6) (y := 6) (by omega) (by omega) (by omega) (by omega) (by decide)
    have d5 : ((N_'.1 162 2) * (N_'.1 162 3)).toInt ≤ a1_'.toInt := lei.mp c1
    exact ⟨_, rfl, hN, hG, (show (0 : Int) ≤ a0_'.toInt by omega), (show a0_'.toInt ≤ (1000000 : Int) by omega)⟩
  · have c6 := c
    have r7 := Jr_162_2 hN
    have r8 := Jr_162_3 hN
    have q9 := mul_rng (a := (N_'.1 162 2)) (b := (N_'.1 162 3)) (x := 6) (y := 6) (by omega) (by omega) (by omega) (by omega) (by decide)
    have d10 : a1_'.toInt < ((N_'.1 162 2) * (N_'.1 162 3)).toInt := nlei.mp c6
    refine inb_i (by omega) (by omega) ?_
    refine if_i (fun c => ?_) (fun c => ?_)
    · have c11 := c
      have d12 : (N_'.1 164 a1_'.toNatClampNeg).toInt = (3 : Int) := eqi.mp c11
      refine inb_i (by omega) (by omega) ?_
      refine bind_e (show (f_Mod_levelOf (N_'.1 163 v1.toNatClampNeg)) = some ((N_'.1 163 v1.toNatClampNeg) / (36 : Int32)) from rfl) ?_
      refine bind_e (show (f_Mod_placeOf ((N_'.1 163 v1.toNatClampNeg) / (36 : Int32)) a1_') = some (((36 : Int32) * ((N_'.1 163 v1.toNatClampNeg) / (36 : Int32))) + a1_') from rfl) ?_
      have r13 := Jst0 hN St_163 (i := v1) (by omega) (by omega)
      have q14 : ((N_'.1 163 v1.toNatClampNeg) / (36 : Int32)).toInt = (N_'.1 163 v1.toNatClampNeg).toInt / (36 : Int) := div_ti rfl rfl (by omega) (by omega)
      have q15 : ((36 : Int32) * ((N_'.1 163 v1.toNatClampNeg) / (36 : Int32))).toInt = (36 : Int) * ((N_'.1 163 v1.toNatClampNeg) / (36 : Int32)).toInt := mul_ti rfl rfl (by omega) (by omega)
      have q16 : (((36 : Int32) * ((N_'.1 163 v1.toNatClampNeg) / (36 : Int32))) + a1_').toInt = ((36 : Int32) * ((N_'.1 163 v1.toNatClampNeg) / (36 : Int32))).toInt + a1_'.toInt := add_ti rfl rfl (by omega) (by omega)
      refine inb_i (by omega) (by omega) ?_
      refine inb_i (by omega) (by omega) ?_
      refine bind_e (show (f_Mod_levelOf (N_'.1 163 v2.toNatClampNeg)) = some ((N_'.1 163 v2.toNatClampNeg) / (36 : Int32)) from rfl) ?_
      refine bind_e (show (f_Mod_placeOf ((N_'.1 163 v2.toNatClampNeg) / (36 : Int32)) a1_') = some (((36 : Int32) * ((N_'.1 163 v2.toNatClampNeg) / (36 : Int32))) + a1_') from rfl) ?_
      have r17 := Jst0 hN St_163 (i := v2) (by omega) (by omega)
      have q18 : ((N_'.1 163 v2.toNatClampNeg) / (36 : Int32)).toInt = (N_'.1 163 v2.toNatClampNeg).toInt / (36 : Int) := div_ti rfl rfl (by omega) (by omega)
      have q19 : ((36 : Int32) * ((N_'.1 163 v2.toNatClampNeg) / (36 : Int32))).toInt = (36 : Int) * ((N_'.1 163 v2.toNatClampNeg) / (36 : Int32)).toInt := mul_ti rfl rfl (by omega) (by omega)
      have q20 : (((36 : Int32) * ((N_'.1 163 v2.toNatClampNeg) / (36 : Int32))) + a1_').toInt = ((36 : Int32) * ((N_'.1 163 v2.toNatClampNeg) / (36 : Int32))).toInt + a1_'.toInt := add_ti rfl rfl (by omega) (by omega)
      refine inb_i (by omega) (by omega) ?_
      refine if_i (fun c => ?_) (fun c => ?_)
      · have c21 := c
        have q22 : (0 : Int) ≤ (if (N_'.1 183 (((36 : Int32) * ((N_'.1 163 v1.toNatClampNeg) / (36 : Int32))) + a1_').toNatClampNeg) < (N_'.1 177 (((36 : Int32) * ((N_'.1 163 v2.toNatClampNeg) / (36 : Int32))) + a1_').toNatClampNeg) then (N_'.1 177 (((36 : Int32) * ((N_'.1 163 v2.toNatClampNeg) / (36 : Int32))) + a1_').toNatClampNeg) else (N_'.1 183 (((36 : Int32) * ((N_'.1 163 v1.toNatClampNeg) / (36 : Int32))) + a1_').toNatClampNeg)).toInt ∧ (if (N_'.1 183 (((36 : Int32) * ((N_'.1 163 v1.toNatClampNeg) / (36 : Int32))) + a1_').toNatClampNeg) < (N_'.1 177 (((36 : Int32) * ((N_'.1 163 v2.toNatClampNeg) / (36 : Int32))) + a1_').toNatClampNeg) then (N_'.1 177 (((36 : Int32) * ((N_'.1 163 v2.toNatClampNeg) / (36 : Int32))) + a1_').toNatClampNeg) else (N_'.1 183 (((36 : Int32) * ((N_'.1 163 v1.toNatClampNeg) / (36 : Int32))) + a1_').toNatClampNeg)).toInt ≤ (1000000 : Int) := by
          by_cases cc : (N_'.1 183 (((36 : Int32) * ((N_'.1 163 v1.toNatClampNeg) / (36 : Int32))) + a1_').toNatClampNeg) < (N_'.1 177 (((36 : Int32) * ((N_'.1 163 v2.toNatClampNeg) / (36 : Int32))) + a1_').toNatClampNeg)
          · rw [if_pos cc]
            have r23 := Jr_183 hN (((36 : Int32) * ((N_'.1 163 v1.toNatClampNeg) / (36 : Int32))) + a1_').toNatClampNeg
            have r24 := Jr_177 hN (((36 : Int32) * ((N_'.1 163 v2.toNatClampNeg) / (36 : Int32))) + a1_').toNatClampNeg
            have d25 : (N_'.1 183 (((36 : Int32) * ((N_'.1 163 v1.toNatClampNeg) / (36 : Int32))) + a1_').toNatClampNeg).toInt < (N_'.1 177 (((36 : Int32) * ((N_'.1 163 v2.toNatClampNeg) / (36 : Int32))) + a1_').toNatClampNeg).toInt := lti.mp cc
            omega
          · rw [if_neg cc]
            have r26 := Jr_183 hN (((36 : Int32) * ((N_'.1 163 v1.toNatClampNeg) / (36 : Int32))) + a1_').toNatClampNeg
            have r27 := Jr_177 hN (((36 : Int32) * ((N_'.1 163 v2.toNatClampNeg) / (36 : Int32))) + a1_').toNatClampNeg
            have d28 : (N_'.1 177 (((36 : Int32) * ((N_'.1 163 v2.toNatClampNeg) / (36 : Int32))) + a1_').toNatClampNeg).toInt ≤ (N_'.1 183 (((36 : Int32) * ((N_'.1 163 v1.toNatClampNeg) / (36 : Int32))) + a1_').toNatClampNeg).toInt := nlti.mp cc
            omega
        have d29 : (if (N_'.1 183 (((36 : Int32) * ((N_'.1 163 v1.toNatClampNeg) / (36 : Int32))) + a1_').toNatClampNeg) < (N_'.1 177 (((36 : Int32) * ((N_'.1 163 v2.toNatClampNeg) / (36 : Int32))) + a1_').toNatClampNeg) then (N_'.1 177 (((36 : Int32) * ((N_'.1 163 v2.toNatClampNeg) / (36 : Int32))) + a1_').toNatClampNeg) else (N_'.1 183 (((36 : Int32) * ((N_'.1 163 v1.toNatClampNeg) / (36 : Int32))) + a1_').toNatClampNeg)).toInt < a0_'.toInt := lti.mp c21
        refine mem_i (fun M9 e31 => ?_)
        have hJ32 : J M9 := by rw [e31]; exact Jw_fld okf_162_42 hN a1_'
        have hG33 : Gd 1000 B_ M9 := Gd_i hG e31 (by decide)
        have f34 : (M9.1 164 a1_'.toNatClampNeg).toInt = (N_'.1 164 a1_'.toNatClampNeg).toInt := by rw [e31]; rw [si_ne (by exact fun e => absurd e.1 (by decide))]
        have f35 : (M9.1 162 42).toInt = a1_'.toInt := by rw [e31, si_eq]
        clear e31
        have q36 : (a1_' + (1 : Int32)).toInt = a1_'.toInt + (1 : Int) := add_ti rfl rfl (by omega) (by omega)
        exact ⟨_, rfl, ⟨hJ32, hG33, (show (0 : Int) ≤ (if (N_'.1 183 (((36 : Int32) * ((N_'.1 163 v1.toNatClampNeg) / (36 : Int32))) + a1_').toNatClampNeg) < (N_'.1 177 (((36 : Int32) * ((N_'.1 163 v2.toNatClampNeg) / (36 : Int32))) + a1_').toNatClampNeg) then (N_'.1 177 (((36 : Int32) * ((N_'.1 163 v2.toNatClampNeg) / (36 : Int32))) + a1_').toNatClampNeg) else (N_'.1 183 (((36 : Int32) * ((N_'.1 163 v1.toNatClampNeg) / (36 : Int32))) + a1_').toNatClampNeg)).toInt by omega), (show (if (N_'.1 183 (((36 : Int32) * ((N_'.1 163 v1.toNatClampNeg) / (36 : Int32))) + a1_').toNatClampNeg) < (N_'.1 177 (((36 : Int32) * ((N_'.1 163 v2.toNatClampNeg) / (36 : Int32))) + a1_').toNatClampNeg) then (N_'.1 177 (((36 : Int32) * ((N_'.1 163 v2.toNatClampNeg) / (36 : Int32))) + a1_').toNatClampNeg) else (N_'.1 183 (((36 : Int32) * ((N_'.1 163 v1.toNatClampNeg) / (36 : Int32))) + a1_').toNatClampNeg)).toInt ≤ (1000000 : Int) by omega), (show (0 : Int) ≤ (a1_' + (1 : Int32)).toInt by omega), (show (a1_' + (1 : Int32)).toInt ≤ (36 : Int) by omega)⟩, show (36 - (a1_' + (1 : Int32)).toInt).toNat < (36 - a1_'.toInt).toNat by omega⟩
      · have c37 := c
        have q38 : (0 : Int) ≤ (if (N_'.1 183 (((36 : Int32) * ((N_'.1 163 v1.toNatClampNeg) / (36 : Int32))) + a1_').toNatClampNeg) < (N_'.1 177 (((36 : Int32) * ((N_'.1 163 v2.toNatClampNeg) / (36 : Int32))) + a1_').toNatClampNeg) then (N_'.1 177 (((36 : Int32) * ((N_'.1 163 v2.toNatClampNeg) / (36 : Int32))) + a1_').toNatClampNeg) else (N_'.1 183 (((36 : Int32) * ((N_'.1 163 v1.toNatClampNeg) / (36 : Int32))) + a1_').toNatClampNeg)).toInt ∧ (if (N_'.1 183 (((36 : Int32) * ((N_'.1 163 v1.toNatClampNeg) / (36 : Int32))) + a1_').toNatClampNeg) < (N_'.1 177 (((36 : Int32) * ((N_'.1 163 v2.toNatClampNeg) / (36 : Int32))) + a1_').toNatClampNeg) then (N_'.1 177 (((36 : Int32) * ((N_'.1 163 v2.toNatClampNeg) / (36 : Int32))) + a1_').toNatClampNeg) else (N_'.1 183 (((36 : Int32) * ((N_'.1 163 v1.toNatClampNeg) / (36 : Int32))) + a1_').toNatClampNeg)).toInt ≤ (1000000 : Int) := by
          by_cases cc : (N_'.1 183 (((36 : Int32) * ((N_'.1 163 v1.toNatClampNeg) / (36 : Int32))) + a1_').toNatClampNeg) < (N_'.1 177 (((36 : Int32) * ((N_'.1 163 v2.toNatClampNeg) / (36 : Int32))) + a1_').toNatClampNeg)
          · rw [if_pos cc]
            have r39 := Jr_183 hN (((36 : Int32) * ((N_'.1 163 v1.toNatClampNeg) / (36 : Int32))) + a1_').toNatClampNeg
            have r40 := Jr_177 hN (((36 : Int32) * ((N_'.1 163 v2.toNatClampNeg) / (36 : Int32))) + a1_').toNatClampNeg
            have d41 : (N_'.1 183 (((36 : Int32) * ((N_'.1 163 v1.toNatClampNeg) / (36 : Int32))) + a1_').toNatClampNeg).toInt < (N_'.1 177 (((36 : Int32) * ((N_'.1 163 v2.toNatClampNeg) / (36 : Int32))) + a1_').toNatClampNeg).toInt := lti.mp cc
            omega
          · rw [if_neg cc]
            have r42 := Jr_183 hN (((36 : Int32) * ((N_'.1 163 v1.toNatClampNeg) / (36 : Int32))) + a1_').toNatClampNeg
            have r43 := Jr_177 hN (((36 : Int32) * ((N_'.1 163 v2.toNatClampNeg) / (36 : Int32))) + a1_').toNatClampNeg
            have d44 : (N_'.1 177 (((36 : Int32) * ((N_'.1 163 v2.toNatClampNeg) / (36 : Int32))) + a1_').toNatClampNeg).toInt ≤ (N_'.1 183 (((36 : Int32) * ((N_'.1 163 v1.toNatClampNeg) / (36 : Int32))) + a1_').toNatClampNeg).toInt := nlti.mp cc
            omega
        have d45 : a0_'.toInt ≤ (if (N_'.1 183 (((36 : Int32) * ((N_'.1 163 v1.toNatClampNeg) / (36 : Int32))) + a1_').toNatClampNeg) < (N_'.1 177 (((36 : Int32) * ((N_'.1 163 v2.toNatClampNeg) / (36 : Int32))) + a1_').toNatClampNeg) then (N_'.1 177 (((36 : Int32) * ((N_'.1 163 v2.toNatClampNeg) / (36 : Int32))) + a1_').toNatClampNeg) else (N_'.1 183 (((36 : Int32) * ((N_'.1 163 v1.toNatClampNeg) / (36 : Int32))) + a1_').toNatClampNeg)).toInt := nlti.mp c37
        have q46 : (a1_' + (1 : Int32)).toInt = a1_'.toInt + (1 : Int) := add_ti rfl rfl (by omega) (by omega)
        exact ⟨_, rfl, ⟨hN, hG, (show (0 : Int) ≤ a0_'.toInt by omega), (show a0_'.toInt ≤ (1000000 : Int) by omega), (show (0 : Int) ≤ (a1_' + (1 : Int32)).toInt by omega), (show (a1_' + (1 : Int32)).toInt ≤ (36 : Int) by omega)⟩, show (36 - (a1_' + (1 : Int32)).toInt).toNat < (36 - a1_'.toInt).toNat by omega⟩
    · have c47 := c
      have d48 : ¬ (N_'.1 164 a1_'.toNatClampNeg).toInt = (3 : Int) := neqi.mp c47
      have q49 : (a1_' + (1 : Int32)).toInt = a1_'.toInt + (1 : Int) := add_ti rfl rfl (by omega) (by omega)
      exact ⟨_, rfl, ⟨hN, hG, (show (0 : Int) ≤ a0_'.toInt by omega), (show a0_'.toInt ≤ (1000000 : Int) by omega), (show (0 : Int) ≤ (a1_' + (1 : Int32)).toInt by omega), (show (a1_' + (1 : Int32)).toInt ≤ (36 : Int) by omega)⟩, show (36 - (a1_' + (1 : Int32)).toInt).toNat < (36 - a1_'.toInt).toNat by omega⟩
theorem sf_Mod_findTryst (v1 : Int32) (v2 : Int32) (M : Mem) (hp_v1 : (0 : Int) ≤ v1.toInt ∧ v1.toInt ≤ (7 : Int)) (hp_v2 : (0 : Int) ≤ v2.toInt ∧ v2.toInt ≤ (7 : Int)) (hJ : J M) : ∃ r : Int32 × Mem, f_Mod_findTryst v1 v2 M = some r ∧ (J r.2 ∧ Gd 1000 M r.2 ∧ (0 : Int) ≤ r.1.toInt ∧ r.1.toInt ≤ (1000000 : Int)) := by
  unfold f_Mod_findTryst
  refine inb_i (by omega) (by omega) ?_
  have r1 := Jst0 hJ St_163 (i := v1) (by omega) (by omega)
  refine bind_i (sf_Mod_findFar (M.1 163 v1.toNatClampNeg) M (⟨show (0 : Int) ≤ (M.1 163 v1.toNatClampNeg).toInt by omega, show (M.1 163 v1.toNatClampNeg).toInt ≤ (71 : Int) by omega⟩) hJ) (fun x1 _ q => ?_)
  obtain ⟨h2, h3⟩ := q
  have hG4 : Gd 1000 M x1 := Gd_t Gd_r h3
  refine bind_i (sf_Mod_copy 177 183 x1 FR_177 FR_183 h2) (fun x2 _ q => ?_)
  obtain ⟨h5, h6⟩ := q
  have hG7 : Gd 1000 M x2 := Gd_t hG4 h6
  refine inb_i (by omega) (by omega) ?_
  have r8 := Jst0 h5 St_163 (i := v2) (by omega) (by omega)
  refine bind_i (sf_Mod_findFar (x2.1 163 v2.toNatClampNeg) x2 (⟨show (0 : Int) ≤ (x2.1 163 v2.toNatClampNeg).toInt by omega, show (x2.1 163 v2.toNatClampNeg).toInt ≤ (71 : Int) by omega⟩) h5) (fun x3 _ q => ?_)
  obtain ⟨h9, h10⟩ := q
  have hG11 : Gd 1000 M x3 := Gd_t hG7 h10
  refine bind_i (sl_Mod_findTryst_38 v1 v2 (1000000 : Int32) (0 : Int32) x3 M (⟨show (0 : Int) ≤ v1.toInt by omega, show v1.toInt ≤ (7 : Int) by omega⟩) (⟨show (0 : Int) ≤ v2.toInt by omega, show v2.toInt ≤ (7 : Int) by omega⟩) h9 hG11 (show (0 : Int) ≤ (1000000 : Int32).toInt by decide) (show (1000000 : Int32).toInt ≤ (1000000 : Int) by decide) (show (0 : Int) ≤ (0 : Int32).toInt by decide) (show (0 : Int32).toInt ≤ (36 : Int) by decide)) (fun x13 _ q => ?_)
  obtain ⟨h12, h13, h14, h15⟩ := q
  exact ⟨(x13.1, x13.2), rfl, h12, h13, (show (0 : Int) ≤ x13.1.toInt by omega), (show x13.1.toInt ≤ (1000000 : Int) by omega)⟩
theorem sf_Mod_tryst (v1 : Int32) (v2 : Int32) (M : Mem) (hJ : J M) : ∃ r : Int32 × Mem, f_Mod_tryst v1 v2 M = some r ∧ (J r.2 ∧ Gd 1000 M r.2) := by
  unfold f_Mod_tryst
  refine mem_i (fun M1 e2 => ?_)
  have hJ3 : J M1 := by rw [e2]; exact Jw_fld okf_162_13 hJ (0 : Int32)
  have hG4 : Gd 1000 M M1 := Gd_i Gd_r e2 (by decide)
  have f5 : (M1.1 162 13).toInt = (0 : Int) := by rw [e2, si_eq]; rfl
  clear e2
  refine bind_i (sf_Mod_areManWoman v1 v2 M1 hJ3) (fun x2 e_x2 q => ?_)
  obtain ⟨h6, h7, h8, h9⟩ := q
  refine if_i (fun c => ?_) (fun c => ?_)
  · have c10 := c
    have d11 : x2.toInt = (0 : Int) := eqi.mp c10
    exact ⟨((-1 : Int32), M1), rfl, hJ3, hG4⟩
  · have c12 := c
    have d13 : ¬ x2.toInt = (0 : Int) := neqi.mp c12
    refine bind_i (sf_Mod_findTryst v1 v2 M1 (⟨show (0 : Int) ≤ v1.toInt by omega, show v1.toInt ≤ (7 : Int) by omega⟩) (⟨show (0 : Int) ≤ v2.toInt by omega, show v2.toInt ≤ (7 : Int) by omega⟩) hJ3) (fun x3 _ q => ?_)
    obtain ⟨h14, h15, h16, h17⟩ := q
    have hG18 : Gd 1000 M x3.2 := Gd_t hG4 h15
    refine if_i (fun c => ?_) (fun c => ?_)
    · have c19 := c
      have d20 : x3.1.toInt = (1000000 : Int) := eqi.mp c19
      exact ⟨((-2 : Int32), x3.2), rfl, h14, hG18⟩
    · have c21 := c
      have d22 : ¬ x3.1.toInt = (1000000 : Int) := neqi.mp c21
      refine mem_i (fun M4 e24 => ?_)
      have hJ25 : J M4 := by rw [e24]; exact Jw_162_12 h14 (0 : Int32) (show (0 : Int) ≤ (0 : Int32).toInt by decide) (show (0 : Int32).toInt ≤ (16 : Int) by decide)
      have hG26 : Gd 1000 M M4 := Gd_i hG18 e24 (by decide)
      have f27 : (M4.1 162 12).toInt = (0 : Int) := by rw [e24, si_eq]; rfl
      clear e24
      refine bind_i (sf_Mod_put x3.1 M4 hJ25 (show (M4.1 162 12).toInt ≤ (15 : Int) by omega)) (fun x5 _ q => ?_)
      obtain ⟨h28, h29, h30⟩ := q
      have hG31 : Gd 1000 M x5 := Gd_t hG26 h29
      exact ⟨((x5.1 162 42), x5), rfl, h28, hG31⟩
theorem sf_Mod_open (v1 v2 : Int32) (M : Mem) (hJ : J M) : ∃ r : Int32 × Mem, f_Mod_open v1 v2 M = some r ∧ (J r.2 ∧ Gd 1000 M r.2) := by
  unfold f_Mod_open
  refine mem_i (fun M1 e1 => ?_)
  have j1 : J M1 := by rw [e1]; exact Jw_fld okf_162_13 hJ _
  have g1 : Gd 1000 M M1 := Gd_i Gd_r e1 (by decide)
  refine bind_i (sf_Mod_areManWoman v1 v2 M1 j1) (fun x2 _ q2 => if_i (fun _ => ⟨_, rfl, j1, g1⟩) (fun c2 => ?_))
  have h1 := q2.2.2.1 (neqi.mp c2)
  have h2 := q2.2.2.2 (neqi.mp c2)
  have hl : ∃ x, iter (lb_Mod_open_27 v1 v2) FU ((-2 : Int32), (1000000 : Int32), (0 : Int32), M1) = some x ∧ (J x.2.2 ∧ Gd 1000 M x.2.2) := by
    refine iter_r (fun s : Int32 × Int32 × Int32 × Mem => (J s.2.2.2 ∧ Gd 1000 M s.2.2.2) ∧ 0 ≤ s.2.2.1.toInt ∧ s.2.2.1.toInt ≤ 36) (fun s : Int32 × Int32 × Int32 × Mem => (36 - s.2.2.1.toInt).toNat) _ ?_ FU _ ⟨⟨j1, g1⟩, (by show (0 : Int) ≤ (0 : Int32).toInt; decide), (by show (0 : Int32).toInt ≤ 36; decide)⟩ (by show (36 - (0 : Int)).toNat < FU; rw [FU_v]; decide)
    rintro ⟨a, b, k, N⟩ ⟨⟨j, g⟩, i1, i2⟩
    dsimp only at j g i1 i2
    have wh := awh j
    have we := wh_ti j
    unfold lb_Mod_open_27
    dsimp only
    refine bind_e cells_e (if_i (fun c => ⟨_, rfl, j, g⟩) (fun c => ?_))
    have d := nlei.mp c
    rw [we] at d
    have ek : (k + (1 : Int32)).toInt = k.toInt + 1 := add_ti rfl rfl (by omega) (by omega)
    have on : ∀ (y z : Int32) (K : Mem), J K → Gd 1000 M K → LPq (fun s : Int32 × Int32 × Int32 × Mem => (J s.2.2.2 ∧ Gd 1000 M s.2.2.2) ∧ 0 ≤ s.2.2.1.toInt ∧ s.2.2.1.toInt ≤ 36) (fun s : Int32 × Int32 × Int32 × Mem => (36 - s.2.2.1.toInt).toNat) (fun x : Int32 × Int32 × Mem => J x.2.2 ∧ Gd 1000 M x.2.2) (36 - k.toInt).toNat (.inl (y, z, k + (1 : Int32), K)) := by
      intro y z K y1 y2
      refine ⟨⟨⟨y1, y2⟩, ?_, ?_⟩, ?_⟩
      · show 0 ≤ (k + (1 : Int32)).toInt; omega
      · show (k + (1 : Int32)).toInt ≤ 36; omega
      · show (36 - (k + (1 : Int32)).toInt).toNat < (36 - k.toInt).toNat; omega
    have key : ∃ r, j_Mod_open_57_27 v1 v2 a b k (N.1 164 k.toNatClampNeg) N = some r ∧ LPq (fun s : Int32 × Int32 × Int32 × Mem => (J s.2.2.2 ∧ Gd 1000 M s.2.2.2) ∧ 0 ≤ s.2.2.1.toInt ∧ s.2.2.1.toInt ≤ 36) (fun s : Int32 × Int32 × Int32 × Mem => (36 - s.2.2.1.toInt).toNat) (fun x : Int32 × Int32 × Mem => J x.2.2 ∧ Gd 1000 M x.2.2) (36 - k.toInt).toNat r := by
      unfold j_Mod_open_57_27
      refine bind_i (sf_Mod_isUnder k N ⟨i1, by omega⟩ j) (fun x4 _ _ => if_i (fun _ => ?_) (fun _ => ⟨_, rfl, on _ _ N j g⟩))
      refine inb_i i1 (by omega) (mem_i (fun M5 e5 => ?_))
      have j5 : J M5 := by rw [e5]; exact Jw_any ok_164 j _ _
      refine bind_i (sf_Mod_findTryst v1 v2 M5 h1 h2 j5) (fun x6 _ q6 => inb_i i1 (by omega) (mem_i (fun M7 e7 => ?_)))
      have j7 : J M7 := by rw [e7]; exact Jw_any ok_164 q6.1 _ _
      have g7 : Gd 1000 N M7 := by
        intro y i w
        by_cases z : y = 164 ∧ i = k.toNatClampNeg
        · obtain ⟨rfl, rfl⟩ := z
          rw [e7, si_eq]
        · rw [e7, si_ne z, q6.2.1 y i w, e5, si_ne z]
      exact if_i (fun _ => ⟨_, rfl, on _ _ M7 j7 (Gd_t g g7)⟩) (fun _ => ⟨_, rfl, on _ _ M7 j7 (Gd_t g g7)⟩)
    exact inb_i i1 (by omega) (if_i (fun _ => key) (fun _ => if_i (fun _ => key) (fun _ => ⟨_, rfl, on _ _ N j g⟩)))
  refine bind_i hl (fun x13 _ q => if_i (fun _ => mem_i (fun M14 e14 => ?_)) (fun _ => ⟨_, rfl, q⟩))
  have j14 : J M14 := by rw [e14]; exact Jw_162_12 q.1 _ (by decide) (by decide)
  have g14 : Gd 1000 M M14 := Gd_i q.2 e14 (by decide)
  have z14 : (M14.1 162 12).toInt ≤ 15 := by rw [e14, si_eq]; decide
  exact bind_i (sf_Mod_put _ M14 j14 z14) (fun x15 _ q15 => ⟨_, rfl, q15.1, Gd_t g14 q15.2.1⟩)
end
section
/-! safety of the reference, 6 -/
theorem sp_parts (v1 v2 : Int32) (h1 : 0 ≤ v1.toInt ∧ v1.toInt ≤ 7) (h2 : 0 ≤ v2.toInt ∧ v2.toInt ≤ 7) : ∀ (n : Nat) (a b c : Int32) (M : Mem), J M → 0 ≤ a.toInt → a.toInt ≤ b.toInt → b.toInt ≤ 3 → b.toInt - a.toInt < n → 0 ≤ c.toInt → c.toInt ≤ 36 → ∃ r, fr_parts n v1 v2 a b c M = some r ∧ (J r.2 ∧ Gd 1000 M r.2 ∧ (0 : Int) ≤ r.1.toInt ∧ r.1.toInt ≤ (1 : Int)) := by
  intro n
  induction n with
  | zero => intro a b c M h ha hab hb hn; omega
  | succ n ih =>
    intro a b c M h ha hab hb hn hc hc2
    show ∃ r, fb_Mod_parts (fr_parts n) v1 v2 a b c M = some r ∧ _
    unfold fb_Mod_parts
    refine if_i (fun _ => ?_) (fun e => ?_)
    · refine bind_i (sf_Mod_findTryst v1 v2 M h1 h2 h) (fun x16 _ q => ?_)
      exact if_i (fun _ => ⟨_, rfl, q.1, q.2.1, (by show (0 : Int) ≤ (1 : Int32).toInt; decide), (by show (1 : Int32).toInt ≤ 1; decide)⟩) (fun _ => ⟨_, rfl, q.1, q.2.1, (by show (0 : Int) ≤ (0 : Int32).toInt; decide), (by show (0 : Int32).toInt ≤ 1; decide)⟩)
    have dab := neqi.mp e
    have hl : ∃ x, iter (lb_Mod_parts_28 (fr_parts n) v1 v2 a b) FU (c, M) = some x ∧ SQ (fun r : Mem => J r ∧ Gd 1000 M r) (fun r : Mem => J r ∧ Gd 1000 M r) x := by
      refine iter_r (fun s : Int32 × Mem => (J s.2 ∧ Gd 1000 M s.2) ∧ 0 ≤ s.1.toInt ∧ s.1.toInt ≤ 36) (fun s : Int32 × Mem => (36 - s.1.toInt).toNat) _ ?_ FU _ ⟨⟨h, Gd_r⟩, hc, hc2⟩ (by show (36 - c.toInt).toNat < FU; rw [FU_v]; omega)
      rintro ⟨k, N⟩ ⟨⟨j, g⟩, i1, i2⟩
      dsimp only at j g i1 i2
      have wh := awh j
      have we := wh_ti j
      unfold lb_Mod_parts_28 f_Mod_cellOf
      dsimp only
      refine bind_e cells_e (if_i (fun c => ⟨_, rfl, j, g⟩) (fun c => ?_))
      have d := nlei.mp c
      rw [we] at d
      have ek : (k + (1 : Int32)).toInt = k.toInt + 1 := add_ti rfl rfl (by omega) (by omega)
      have on : ∀ K : Mem, J K → Gd 1000 M K → LPq (fun s : Int32 × Mem => (J s.2 ∧ Gd 1000 M s.2) ∧ 0 ≤ s.1.toInt ∧ s.1.toInt ≤ 36) (fun s : Int32 × Mem => (36 - s.1.toInt).toNat) (SQ (fun r : Mem => J r ∧ Gd 1000 M r) (fun r : Mem => J r ∧ Gd 1000 M r)) (36 - k.toInt).toNat (.inl (k + (1 : Int32), K)) := by
        intro K y1 y2
        refine ⟨⟨⟨y1, y2⟩, ?_, ?_⟩, ?_⟩
        · show 0 ≤ (k + (1 : Int32)).toInt; omega
        · show (k + (1 : Int32)).toInt ≤ 36; omega
        · show (36 - (k + (1 : Int32)).toInt).toNat < (36 - k.toInt).toNat; omega
      refine inb_i i1 (by omega) (if_i (fun e3 => ?_) (fun _ => ⟨_, rfl, on N j g⟩))
      refine inb_i h1.1 (by omega) ?_
      rw [Option.bind_some]
      refine if_i (fun _ => ⟨_, rfl, on N j g⟩) (fun _ => inb_i h2.1 (by omega) ?_)
      rw [Option.bind_some]
      refine if_i (fun _ => ⟨_, rfl, on N j g⟩) (fun _ => inb_i ha (by omega) (mem_i (fun M4 e4 => inb_i i1 (by omega) (mem_i (fun M5 e5 => ?_)))))
      have j4 : J M4 := by rw [e4]; exact Jw_any ok_184 j _ _
      have j5 : J M5 := by rw [e5]; exact Jw_any ok_164 j4 _ _
      have ea : (a + (1 : Int32)).toInt = a.toInt + 1 := add_ti rfl rfl (by omega) (by omega)
      refine bind_i (ih (a + (1 : Int32)) b (k + (1 : Int32)) M5 j5 (by omega) (by omega) hb (by omega) (by omega) (by omega)) (fun x6 _ q6 => inb_i i1 (by omega) (mem_i (fun M7 e7 => ?_)))
      have j7 : J M7 := by rw [e7]; exact Jw_any ok_164 q6.1 _ _
      have g7 : Gd 1000 N M7 := by
        intro y i w
        by_cases z : y = 164 ∧ i = k.toNatClampNeg
        · obtain ⟨rfl, rfl⟩ := z
          rw [e7, si_eq]; exact e3.symm
        · rw [e7, si_ne z, q6.2.1 y i w, e5, si_ne z, e4, si_ne (fun u => by
            have u1 := u.1
            subst u1
            rcases w with w | w
            · exact absurd w.1 (by
                have : pq 184 i = false := rfl
                rw [this]; decide)
            · exact absurd w.1 (by decide))]
      exact if_i (fun _ => ⟨_, rfl, on M7 j7 (Gd_t g g7)⟩) (fun _ => ⟨_, rfl, j7, Gd_t g g7⟩)
    refine bind_i hl (fun x _ q => ?_)
    rcases x with y | y
    · exact ⟨_, rfl, q.1, q.2, (by show (0 : Int) ≤ (0 : Int32).toInt; decide), (by show (0 : Int32).toInt ≤ 1; decide)⟩
    · exact ⟨_, rfl, q.1, q.2, (by show (0 : Int) ≤ (1 : Int32).toInt; decide), (by show (1 : Int32).toInt ≤ 1; decide)⟩
theorem sf_Mod_parts (a0 : Int32) (a1 : Int32) (a2 : Int32) (a3 : Int32) (a4 : Int32) (M : Mem) (hp_a0 : (0 : Int) ≤ a0.toInt ∧ a0.toInt ≤ (7 : Int)) (hp_a1 : (0 : Int) ≤ a1.toInt ∧ a1.toInt ≤ (7 : Int)) (hp_a2 : (0 : Int) ≤ a2.toInt ∧ a2.toInt ≤ (0 : Int)) (hp_a3 : (0 : Int) ≤ a3.toInt ∧ a3.toInt ≤ (3 : Int)) (hp_a4 : (0 : Int) ≤ a4.toInt ∧ a4.toInt ≤ (0 : Int)) (hJ : J M) : ∃ r : Int32 × Mem, f_Mod_parts a0 a1 a2 a3 a4 M = some r ∧ (J r.2 ∧ Gd 1000 M r.2 ∧ (0 : Int) ≤ r.1.toInt ∧ r.1.toInt ≤ (1 : Int)) :=
  sp_parts a0 a1 hp_a0 hp_a1 8 a2 a3 a4 M hJ (by omega) (by omega) (by omega) (by omega) (by omega) (by omega)
theorem sl_Mod_part_18 (v1 : Int32) (v2 : Int32) (a0_ : Int32) (N_ : Mem) (B_ : Mem) (hp_v1 : (0 : Int) ≤ v1.toInt ∧ v1.toInt ≤ (7 : Int)) (hp_v2 : (0 : Int) ≤ v2.toInt ∧ v2.toInt ≤ (7 : Int)) (hN : J N_) (hG : Gd 1000 B_ N_) (i2_ : (0 : Int) ≤ a0_.toInt) (i3_ : a0_.toInt ≤ (4 : Int)) : ∃ x, iter (lb_Mod_part_18 v1 v2) FU (a0_, N_) = some x ∧ (SQ (fun r : Mem => J r ∧ Gd 1000 B_ r) (fun r : Int32 × Mem => J r.2 ∧ Gd 1000 B_ r.2 ∧ (0 : Int) ≤ r.1.toInt ∧ r.1.toInt ≤ (3 : Int))) x := by
  refine iter_r (fun s : Int32 × Mem => J s.2 ∧ Gd 1000 B_ s.2 ∧ (0 : Int) ≤ s.1.toInt ∧ s.1.toInt ≤ (4 : Int)) (fun s : Int32 × Mem => (4 - s.1.toInt).toNat) (SQ (fun r : Mem => J r ∧ Gd 1000 B_ r) (fun r : Int32 × Mem => J r.2 ∧ Gd 1000 B_ r.2 ∧ (0 : Int) ≤ r.1.toInt ∧ r.1.toInt ≤ (3 : Int))) ?_ FU (a0_, N_) ⟨hN, hG, i2_, i3_⟩ (by show (4 - a0_.toInt).toNat < FU; rw [FU_v]; omega)
  clear i3_ i2_ hG hN
  rintro ⟨a0_', N_'⟩ ⟨hN, hG, i2_, i3_⟩
  dsimp only at hN hG i2_ i3_
  unfold lb_Mod_part_18
  dsimp only
  refine if_i (fun c => ?_) (fun c => ?_)
  · have c1 := c
    have d2 : (3 : Int) < a0_'.toInt := lti.mp c1
    exact ⟨_, rfl, hN, hG⟩
  · have c3 := c
    have d4 : a0_'.toInt ≤ (3 : Int) := nlti.mp c3
    refine bind_i (sf_Mod_parts v1 v2 (0 : Int32) a0_' (0 : Int32) N_' (⟨show (0 : Int) ≤ v1.toInt by omega, show v1.toInt ≤ (7 : Int) by omega⟩) (⟨show (0 : Int) ≤ v2.toInt by omega, show v2.toInt ≤ (7 : Int) by omega⟩) (⟨by decide, by decide⟩) (⟨show (0 : Int) ≤ a0_'.toInt by omega, show a0_'.toInt ≤ (3 : Int) by omega⟩) (⟨by decide, by decide⟩) hN) (fun x3 _ q => ?_)
    obtain ⟨h5, h6, h7, h8⟩ := q
    have hG9 : Gd 1000 B_ x3.2 := Gd_t hG h6
    refine if_i (fun c => ?_) (fun c => ?_)
    · have c10 := c
      have d11 : x3.1.toInt = (0 : Int) := eqi.mp c10
      have q12 : (a0_' + (1 : Int32)).toInt = a0_'.toInt + (1 : Int) := add_ti rfl rfl (by omega) (by omega)
      exact ⟨_, rfl, ⟨h5, hG9, (show (0 : Int) ≤ (a0_' + (1 : Int32)).toInt by omega), (show (a0_' + (1 : Int32)).toInt ≤ (4 : Int) by omega)⟩, show (4 - (a0_' + (1 : Int32)).toInt).toNat < (4 - a0_'.toInt).toNat by omega⟩
    · have c13 := c
      have d14 : ¬ x3.1.toInt = (0 : Int) := neqi.mp c13
      exact ⟨_, rfl, h5, hG9, (show (0 : Int) ≤ a0_'.toInt by omega), (show a0_'.toInt ≤ (3 : Int) by omega)⟩
theorem sl_Mod_part_46 (v3 : Int32) (a0_ : Int32) (N_ : Mem) (B_ : Mem) (hp_v3 : (0 : Int) ≤ v3.toInt ∧ v3.toInt ≤ (3 : Int)) (hN : J N_) (hG : Gd 1000 B_ N_) (i2_ : (0 : Int) ≤ a0_.toInt) (i3_ : a0_.toInt ≤ (3 : Int)) (i4_ : (N_.1 162 12).toInt = a0_.toInt) : ∃ x, iter (lb_Mod_part_46 v3) FU (a0_, N_) = some x ∧ (fun r : Mem => J r ∧ Gd 1000 B_ r) x := by
  refine iter_r (fun s : Int32 × Mem => J s.2 ∧ Gd 1000 B_ s.2 ∧ (0 : Int) ≤ s.1.toInt ∧ s.1.toInt ≤ (3 : Int) ∧ (s.2.1 162 12).toInt = s.1.toInt) (fun s : Int32 × Mem => (3 - s.1.toInt).toNat) (fun r : Mem => J r ∧ Gd 1000 B_ r) ?_ FU (a0_, N_) ⟨hN, hG, i2_, i3_, i4_⟩ (by show (3 - a0_.toInt).toNat < FU; rw [FU_v]; omega)
  clear i4_ i3_ i2_ hG hN
  rintro ⟨a0_', N_'⟩ ⟨hN, hG, i2_, i3_, i4_⟩
  dsimp only at hN hG i2_ i3_ i4_
  unfold lb_Mod_part_46
  dsimp only
  refine if_i (fun c => ?_) (fun c => ?_)
  · have c1 := c
    have d2 : v3.toInt ≤ a0_'.toInt := lei.mp c1
    exact ⟨_, rfl, hN, hG⟩
  · have c3 := c
    have d4 : a0_'.toInt < v3.toInt := nlei.mp c3
    refine inb_i (by omega) (by omega) ?_
    have r5 := Jr_162_12 hN
    refine bind_i (sf_Mod_put (N_'.1 184 a0_'.toNatClampNeg) N_' hN (show (N_'.1 162 12).toInt ≤ (15 : Int) by omega)) (fun x10 _ q => ?_)
    obtain ⟨h6, h7, h8⟩ := q
    have hG9 : Gd 1000 B_ x10 := Gd_t hG h7
    have q10 : (a0_' + (1 : Int32)).toInt = a0_'.toInt + (1 : Int) := add_ti rfl rfl (by omega) (by omega)
    have r11 := Jr_162_12 h6
    exact ⟨_, rfl, ⟨h6, hG9, (show (0 : Int) ≤ (a0_' + (1 : Int32)).toInt by omega), (show (a0_' + (1 : Int32)).toInt ≤ (3 : Int) by omega), (show (x10.1 162 12).toInt = (a0_' + (1 : Int32)).toInt by omega)⟩, show (3 - (a0_' + (1 : Int32)).toInt).toNat < (3 - a0_'.toInt).toNat by omega⟩
theorem sf_Mod_part (v1 : Int32) (v2 : Int32) (M : Mem) (hJ : J M) : ∃ r : Int32 × Mem, f_Mod_part v1 v2 M = some r ∧ (J r.2 ∧ Gd 1000 M r.2 ∧ (-2 : Int) ≤ r.1.toInt ∧ r.1.toInt ≤ (3 : Int)) := by
  unfold f_Mod_part
  refine mem_i (fun M1 e2 => ?_)
  have hJ3 : J M1 := by rw [e2]; exact Jw_fld okf_162_13 hJ (0 : Int32)
  have hG4 : Gd 1000 M M1 := Gd_i Gd_r e2 (by decide)
  have f5 : (M1.1 162 13).toInt = (0 : Int) := by rw [e2, si_eq]; rfl
  clear e2
  refine bind_i (sf_Mod_areManWoman v1 v2 M1 hJ3) (fun x2 e_x2 q => ?_)
  obtain ⟨h6, h7, h8, h9⟩ := q
  refine if_i (fun c => ?_) (fun c => ?_)
  · have c10 := c
    have d11 : x2.toInt = (0 : Int) := eqi.mp c10
    exact ⟨((-1 : Int32), M1), rfl, hJ3, hG4, (show (-2 : Int) ≤ (-1 : Int32).toInt by decide), (show (-1 : Int32).toInt ≤ (3 : Int) by decide)⟩
  · have c12 := c
    have d13 : ¬ x2.toInt = (0 : Int) := neqi.mp c12
    refine bind_i (sl_Mod_part_18 v1 v2 (0 : Int32) M1 M (⟨show (0 : Int) ≤ v1.toInt by omega, show v1.toInt ≤ (7 : Int) by omega⟩) (⟨show (0 : Int) ≤ v2.toInt by omega, show v2.toInt ≤ (7 : Int) by omega⟩) hJ3 hG4 (show (0 : Int) ≤ (0 : Int32).toInt by decide) (show (0 : Int32).toInt ≤ (4 : Int) by decide)) (fun x14 _ q => ?_)
    rcases x14 with y | y
    · have q9 : J y ∧ Gd 1000 M y := q
      dsimp only [Sum.elim_inl, Sum.elim_inr]
      obtain ⟨h16, h17⟩ := q9
      exact ⟨((-2 : Int32), y), rfl, h16, h17, (show (-2 : Int) ≤ (-2 : Int32).toInt by decide), (show (-2 : Int32).toInt ≤ (3 : Int) by decide)⟩
    · have q9 : J y.2 ∧ Gd 1000 M y.2 ∧ (0 : Int) ≤ y.1.toInt ∧ y.1.toInt ≤ (3 : Int) := q
      dsimp only [Sum.elim_inl, Sum.elim_inr]
      obtain ⟨h19, h20, h21, h22⟩ := q9
      refine mem_i (fun M9 e24 => ?_)
      have hJ25 : J M9 := by rw [e24]; exact Jw_162_12 h19 (0 : Int32) (show (0 : Int) ≤ (0 : Int32).toInt by decide) (show (0 : Int32).toInt ≤ (16 : Int) by decide)
      have hG26 : Gd 1000 M M9 := Gd_i h20 e24 (by decide)
      have f27 : (M9.1 162 12).toInt = (0 : Int) := by rw [e24, si_eq]; rfl
      clear e24
      refine bind_i (sl_Mod_part_46 y.1 (0 : Int32) M9 M (⟨show (0 : Int) ≤ y.1.toInt by omega, show y.1.toInt ≤ (3 : Int) by omega⟩) hJ25 hG26 (show (0 : Int) ≤ (0 : Int32).toInt by decide) (show (0 : Int32).toInt ≤ (3 : Int) by decide) (show (M9.1 162 12).toInt = 0 by omega)) (fun x12 _ q => ?_)
      obtain ⟨h28, h29⟩ := q
      exact ⟨(y.1, x12), rfl, h28, h29, (show (-2 : Int) ≤ y.1.toInt by omega), (show y.1.toInt ≤ (3 : Int) by omega)⟩
theorem sl_planks102 (v2 v4 : Int32) (h4 : 0 ≤ v4.toInt ∧ v4.toInt ≤ 35) {M : Mem} (h : J M) (acc : Int32) (ha : acc = 0 ∨ acc = 1) : ∃ x, iter (lb_Mod_planks_102 v2 v4) FU (acc, (0 : Int32), M) = some x ∧ SB acc M x.1 x.2 := by
  refine iter_r (fun s : Int32 × Int32 × Mem => SB acc M s.1 s.2.2 ∧ (0 ≤ s.2.1.toInt ∧ s.2.1.toInt ≤ 4)) (fun s : Int32 × Int32 × Mem => (4 - s.2.1.toInt).toNat) _ ?_ FU _ ⟨SB_r h ha, (by show (0 : Int) ≤ (0 : Int32).toInt ∧ (0 : Int32).toInt ≤ 4; decide)⟩ (by show (4 - (0 : Int)).toNat < FU; rw [FU_v]; decide)
  rintro ⟨a, k, N⟩ ⟨i1, i2⟩
  dsimp only at i1 i2
  have c4 : (4 : Int32).toInt = 4 := rfl
  have n1 : (-1 : Int32).toInt = -1 := rfl
  have m2 : (((36 : Int32) * (1 : Int32)) + v4).toInt = 36 + v4.toInt := add_ti rfl rfl (by omega) (by omega)
  unfold lb_Mod_planks_102 f_Mod_placeOf
  dsimp only
  refine if_i (fun c => ⟨_, rfl, i1⟩) (fun c => ?_)
  have d := nlei.mp c
  have ek : (k + (1 : Int32)).toInt = k.toInt + 1 := add_ti rfl rfl (by omega) (by omega)
  have on : ∀ (b : Int32) (K : Mem), SB acc M b K → LPq (fun s : Int32 × Int32 × Mem => SB acc M s.1 s.2.2 ∧ (0 ≤ s.2.1.toInt ∧ s.2.1.toInt ≤ 4)) (fun s : Int32 × Int32 × Mem => (4 - s.2.1.toInt).toNat) (fun x : Int32 × Mem => SB acc M x.1 x.2) (4 - k.toInt).toNat (.inl (b, k + (1 : Int32), K)) := by
    intro b K hK
    refine ⟨⟨hK, ?_⟩, ?_⟩
    · show 0 ≤ (k + (1 : Int32)).toInt ∧ (k + (1 : Int32)).toInt ≤ 4; omega
    · show (4 - (k + (1 : Int32)).toInt).toNat < (4 - k.toInt).toNat; omega
  rw [Option.bind_some]
  refine bind_i (sf_Mod_go 163 _ k N St_163 (by rw [m2]; omega) i1.1) (fun x12 _ q12 => ?_)
  rw [Option.bind_some]
  have r := Jr_180 i1.1 (((36 : Int32) * (1 : Int32)) + v4).toNatClampNeg
  have a1 : ((N.1 180 (((36 : Int32) * (1 : Int32)) + v4).toNatClampNeg) + (1 : Int32)).toInt = (N.1 180 (((36 : Int32) * (1 : Int32)) + v4).toNatClampNeg).toInt + 1 := add_ti rfl rfl (by omega) (by omega)
  refine inb_i (by omega) (by omega) (bind_i (sp_lowerBoth i1.1 x12 _ q12 (by omega) a i1.2.2.1) (fun x14 _ q14 => ?_))
  have S := SB_t i1 q14
  have k172 : ∀ w0 : Int32, (-1 ≤ w0.toInt ∧ w0.toInt ≤ 35) → ∃ r, j_Mod_planks_172_102 v2 (a ||| x14.1) v4 k w0 x14.2 = some r ∧ LPq (fun s : Int32 × Int32 × Mem => SB acc M s.1 s.2.2 ∧ (0 ≤ s.2.1.toInt ∧ s.2.1.toInt ≤ 4)) (fun s : Int32 × Int32 × Mem => (4 - s.2.1.toInt).toNat) (fun x : Int32 × Mem => SB acc M x.1 x.2) (4 - k.toInt).toNat r := by
    intro w0 hw
    unfold j_Mod_planks_172_102 f_Mod_placeOf
    refine if_i (fun _ => ⟨_, rfl, on _ _ S⟩) (fun e => ?_)
    have dw := neqi.mp e
    refine bind_i (sf_Mod_canBridge v4 w0 x14.2 h4 (by omega) S.1) (fun x17 _ _ => if_i (fun _ => ⟨_, rfl, on _ _ S⟩) (fun _ => ?_))
    rw [Option.bind_some, Option.bind_some]
    have mw : (((36 : Int32) * (1 : Int32)) + w0).toInt = 36 + w0.toInt := add_ti rfl rfl (by omega) (by omega)
    have r2 := Jr_180 S.1 (((36 : Int32) * (1 : Int32)) + v4).toNatClampNeg
    have a2 : ((x14.2.1 180 (((36 : Int32) * (1 : Int32)) + v4).toNatClampNeg) + (1001 : Int32)).toInt = (x14.2.1 180 (((36 : Int32) * (1 : Int32)) + v4).toNatClampNeg).toInt + 1001 := add_ti rfl rfl (by omega) (by omega)
    exact inb_i (by omega) (by omega) (bind_i (sp_lowerBoth S.1 _ _ (by rw [mw]; omega) (by omega) _ S.2.2.1) (fun x20 _ q20 => ⟨_, rfl, on _ _ (SB_t S q20)⟩))
  refine bind_i (sf_Mod_beside v4 k x14.2 ⟨by omega, h4.2⟩ S.1) (fun x15 _ q15 => if_i (fun _ => k172 _ (by omega)) (fun _ => ?_))
  exact bind_i (sf_Mod_beside x15 k x14.2 q15 S.1) (fun x16 _ q16 => k172 x16 q16)
theorem sl_planks70 (v2 : Int32) {M : Mem} (h : J M) : ∃ x, iter (lb_Mod_planks_70 v2) FU ((0 : Int32), (0 : Int32), M) = some x ∧ SB 0 M x.1 x.2 := by
  refine iter_r (fun s : Int32 × Int32 × Mem => SB 0 M s.1 s.2.2 ∧ (0 ≤ s.2.1.toInt ∧ s.2.1.toInt ≤ 36)) (fun s : Int32 × Int32 × Mem => (36 - s.2.1.toInt).toNat) _ ?_ FU _ ⟨SB_r h (.inl rfl), (by show (0 : Int) ≤ (0 : Int32).toInt ∧ (0 : Int32).toInt ≤ 36; decide)⟩ (by show (36 - (0 : Int)).toNat < FU; rw [FU_v]; decide)
  rintro ⟨a, k, N⟩ ⟨i1, i2⟩
  dsimp only at i1 i2
  have wh := awh i1.1
  have we := wh_ti i1.1
  unfold lb_Mod_planks_70 f_Mod_placeOf
  dsimp only
  refine bind_e cells_e (if_i (fun c => ⟨_, rfl, i1⟩) (fun c => ?_))
  have d := nlei.mp c
  rw [we] at d
  have ek : (k + (1 : Int32)).toInt = k.toInt + 1 := add_ti rfl rfl (by omega) (by omega)
  have m2 : (((36 : Int32) * (1 : Int32)) + k).toInt = 36 + k.toInt := add_ti rfl rfl (by omega) (by omega)
  have on : ∀ (b : Int32) (K : Mem), SB 0 M b K → LPq (fun s : Int32 × Int32 × Mem => SB 0 M s.1 s.2.2 ∧ (0 ≤ s.2.1.toInt ∧ s.2.1.toInt ≤ 36)) (fun s : Int32 × Int32 × Mem => (36 - s.2.1.toInt).toNat) (fun x : Int32 × Mem => SB 0 M x.1 x.2) (36 - k.toInt).toNat (.inl (b, k + (1 : Int32), K)) := by
    intro b K hK
    refine ⟨⟨hK, ?_⟩, ?_⟩
    · show 0 ≤ (k + (1 : Int32)).toInt ∧ (k + (1 : Int32)).toInt ≤ 36; omega
    · show (36 - (k + (1 : Int32)).toInt).toNat < (36 - k.toInt).toNat; omega
  rw [Option.bind_some]
  refine inb_i (by omega) (by omega) (if_i (fun _ => ?_) (fun _ => ⟨_, rfl, on a N i1⟩))
  exact bind_i (sl_planks102 v2 k ⟨i2.1, by omega⟩ i1.1 a i1.2.2.1) (fun x _ q => ⟨_, rfl, on _ _ (SB_t i1 q)⟩)
theorem sl_planks27 (v1 v2 : Int32) {M : Mem} (h : J M) : ∃ x, iter (lb_Mod_planks_27 v1 v2) FU ((0 : Int32), M) = some x ∧ (J x ∧ Gd 1000 M x) := by
  refine cnt_r _ (fun _ N => J N ∧ Gd 1000 M N) 72 (by decide) ?_ M ⟨h, Gd_r⟩ (by decide)
  intro k N k0 k1 hI
  have c72 : (72 : Int32).toInt = 72 := rfl
  unfold lb_Mod_planks_27
  dsimp only
  refine if_i (fun c => ⟨_, rfl, .inl ⟨_, rfl, hI⟩⟩) (fun c => ?_)
  have d := nlei.mp c
  refine inb_i k0 (by omega) (mem_i (fun m e => ⟨_, rfl, .inr ⟨by omega, m, rfl, ?_, Gd_any hI.2 e (by decide)⟩⟩))
  rw [e]; exact Jw_180 hI.1 _ _ (by decide) (by decide)
theorem sf_Mod_planks (v1 v2 : Int32) (M : Mem) (hJ : J M) : ∃ r : Int32 × Mem, f_Mod_planks v1 v2 M = some r ∧ (J r.2 ∧ Gd 1000 M r.2) := by
  unfold f_Mod_planks
  refine mem_i (fun M1 e1 => ?_)
  have j1 : J M1 := by rw [e1]; exact Jw_fld okf_162_13 hJ _
  have g1 : Gd 1000 M M1 := Gd_i Gd_r e1 (by decide)
  refine bind_i (sf_Mod_isPlaceOf 1 v1 M1 j1) (fun x2 _ q2 => if_i (fun _ => ⟨_, rfl, j1, g1⟩) (fun c2 => ?_))
  have a2 := q2.2.2.2 (neqi.mp c2)
  refine bind_i (sf_Mod_isPlaceOf 1 v2 M1 j1) (fun x3 _ q3 => if_i (fun _ => ⟨_, rfl, j1, g1⟩) (fun c3 => ?_))
  have b2 := q3.2.2.2 (neqi.mp c3)
  have m2 : (((36 : Int32) * (1 : Int32)) + v1).toInt = 36 + v1.toInt := add_ti rfl rfl (by omega) (by omega)
  have m4 : (((36 : Int32) * (1 : Int32)) + v2).toInt = 36 + v2.toInt := add_ti rfl rfl (by omega) (by omega)
  unfold f_Mod_placeOf
  refine bind_i (sl_planks27 v1 v2 j1) (fun x6 _ q6 => ?_)
  rw [Option.bind_some]
  refine inb_i (by omega) (by omega) (mem_i (fun M8 e8 => ?_))
  have j8 : J M8 := by rw [e8]; exact Jw_180 q6.1 _ _ (by decide) (by decide)
  have g8 : Gd 1000 M M8 := Gd_any (Gd_t g1 q6.2) e8 (by decide)
  refine bind_i (while180 (f := lb_Mod_planks_61 v2) (fun N => rfl) (fun a N hN ha => ?_) j8) (fun x24 _ q24 => ?_)
  · obtain ⟨x, ex, hx⟩ := sl_planks70 v2 hN
    refine ⟨x.1, x.2, ?_, hx⟩
    unfold lb_Mod_planks_61
    dsimp only
    rw [if_neg ha, ex, Option.bind_some]
  rw [Option.bind_some]
  have g24 := Gd_t g8 q24.2
  refine inb_i (by omega) (by omega) (if_i (fun _ => mem_i (fun M26 e26 => ?_)) (fun _ => ⟨_, rfl, q24.1, g24⟩))
  have j26 : J M26 := by rw [e26]; exact Jw_162_12 q24.1 _ (by decide) (by decide)
  have g26 : Gd 1000 M M26 := Gd_i g24 e26 (by decide)
  have z26 : (M26.1 162 12).toInt ≤ 15 := by rw [e26, si_eq]; decide
  exact bind_i (sf_Mod_put _ M26 j26 z26) (fun x27 _ q27 => ⟨_, rfl, q27.1, Gd_t g26 q27.2.1⟩)
theorem sl_Mod_fights1_16 (v1 : Int32) (M : Mem) (a0_ : Int32) (a1_ : Int32) (hp_v1 : (0 : Int) ≤ v1.toInt ∧ v1.toInt ≤ (7 : Int)) (hJ_M : J M) (i0_ : (0 : Int) ≤ a0_.toInt) (i1_ : a0_.toInt ≤ (1000000 : Int)) (i2_ : (0 : Int) ≤ a1_.toInt) (i3_ : a1_.toInt ≤ (4 : Int)) : ∃ x, iter (lb_Mod_fights1_16 v1 M) FU (a0_, a1_) = some x ∧ (fun r : Int32 => (0 : Int) ≤ r.toInt ∧ r.toInt ≤ (1000000 : Int)) x := by
  refine iter_r (fun s : Int32 × Int32 => (0 : Int) ≤ s.1.toInt ∧ s.1.toInt ≤ (1000000 : Int) ∧ (0 : Int) ≤ s.2.toInt ∧ s.2.toInt ≤ (4 : Int)) (fun s : Int32 × Int32 => (4 - s.2.toInt).toNat) (fun r : Int32 => (0 : Int) ≤ r.toInt ∧ r.toInt ≤ (1000000 : Int)) ?_ FU (a0_, a1_) ⟨i0_, i1_, i2_, i3_⟩ (by show (4 - a1_.toInt).toNat < FU; rw [FU_v]; omega)
  clear i3_ i2_ i1_ i0_
  rintro ⟨a0_', a1_'⟩ ⟨i0_, i1_, i2_, i3_⟩
  dsimp only at i0_ i1_ i2_ i3_
  unfold lb_Mod_fights1_16
  dsimp only
  refine if_i (fun c => ?_) (fun c => ?_)
  · have c1 := c
    have d2 : (4 : Int) ≤ a1_'.toInt := lei.mp c1
    exact ⟨_, rfl, (show (0 : Int) ≤ a0_'.toInt by omega), (show a0_'.toInt ≤ (1000000 : Int) by omega)⟩
  · have c3 := c
    have d4 : a1_'.toInt < (4 : Int) := nlei.mp c3
    have r5 := Jr_162_8 hJ_M
    refine bind_i (sf_Mod_beside (M.1 162 8) a1_' M (⟨show (-1 : Int) ≤ (M.1 162 8).toInt by omega, show (M.1 162 8).toInt ≤ (35 : Int) by omega⟩) hJ_M) (fun x2 e_x2 q => ?_)
    obtain ⟨h6, h7⟩ := q
    refine if_i (fun c => ?_) (fun c => ?_)
    · have c8 := c
      have d9 : x2.toInt = (-1 : Int) := eqi.mp c8
      have q10 : (a1_' + (1 : Int32)).toInt = a1_'.toInt + (1 : Int) := add_ti rfl rfl (by omega) (by omega)
      exact ⟨_, rfl, ⟨(show (0 : Int) ≤ a0_'.toInt by omega), (show a0_'.toInt ≤ (1000000 : Int) by omega), (show (0 : Int) ≤ (a1_' + (1 : Int32)).toInt by omega), (show (a1_' + (1 : Int32)).toInt ≤ (4 : Int) by omega)⟩, show (4 - (a1_' + (1 : Int32)).toInt).toNat < (4 - a1_'.toInt).toNat by omega⟩
    · have c11 := c
      have d12 : ¬ x2.toInt = (-1 : Int) := neqi.mp c11
      refine inb_i (by omega) (by omega) ?_
      refine bind_e (show (f_Mod_levelOf (M.1 163 v1.toNatClampNeg)) = some ((M.1 163 v1.toNatClampNeg) / (36 : Int32)) from rfl) ?_
      refine bind_e (show (f_Mod_placeOf ((M.1 163 v1.toNatClampNeg) / (36 : Int32)) x2) = some (((36 : Int32) * ((M.1 163 v1.toNatClampNeg) / (36 : Int32))) + x2) from rfl) ?_
      have r13 := Jst0 hJ_M St_163 (i := v1) (by omega) (by omega)
      have q14 : ((M.1 163 v1.toNatClampNeg) / (36 : Int32)).toInt = (M.1 163 v1.toNatClampNeg).toInt / (36 : Int) := div_ti rfl rfl (by omega) (by omega)
      have q15 : ((36 : Int32) * ((M.1 163 v1.toNatClampNeg) / (36 : Int32))).toInt = (36 : Int) * ((M.1 163 v1.toNatClampNeg) / (36 : Int32)).toInt := mul_ti rfl rfl (by omega) (by omega)
      have q16 : (((36 : Int32) * ((M.1 163 v1.toNatClampNeg) / (36 : Int32))) + x2).toInt = ((36 : Int32) * ((M.1 163 v1.toNatClampNeg) / (36 : Int32))).toInt + x2.toInt := add_ti rfl rfl (by omega) (by omega)
      refine inb_i (by omega) (by omega) ?_
      have q17 : (0 : Int) ≤ (if (M.1 177 (((36 : Int32) * ((M.1 163 v1.toNatClampNeg) / (36 : Int32))) + x2).toNatClampNeg) < a0_' then (M.1 177 (((36 : Int32) * ((M.1 163 v1.toNatClampNeg) / (36 : Int32))) + x2).toNatClampNeg) else a0_').toInt ∧ (if (M.1 177 (((36 : Int32) * ((M.1 163 v1.toNatClampNeg) / (36 : Int32))) + x2).toNatClampNeg) < a0_' then (M.1 177 (((36 : Int32) * ((M.1 163 v1.toNatClampNeg) / (36 : Int32))) + x2).toNatClampNeg) else a0_').toInt ≤ (1000000 : Int) := by
        by_cases cc : (M.1 177 (((36 : Int32) * ((M.1 163 v1.toNatClampNeg) / (36 : Int32))) + x2).toNatClampNeg) < a0_'
        · rw [if_pos cc]
          have r18 := Jr_177 hJ_M (((36 : Int32) * ((M.1 163 v1.toNatClampNeg) / (36 : Int32))) + x2).toNatClampNeg
          have d19 : (M.1 177 (((36 : Int32) * ((M.1 163 v1.toNatClampNeg) / (36 : Int32))) + x2).toNatClampNeg).toInt < a0_'.toInt := lti.mp cc
          omega
        · rw [if_neg cc]
          have r20 := Jr_177 hJ_M (((36 : Int32) * ((M.1 163 v1.toNatClampNeg) / (36 : Int32))) + x2).toNatClampNeg
          have d21 : a0_'.toInt ≤ (M.1 177 (((36 : Int32) * ((M.1 163 v1.toNatClampNeg) / (36 : Int32))) + x2).toNatClampNeg).toInt := nlti.mp cc
          omega
      have q22 : (a1_' + (1 : Int32)).toInt = a1_'.toInt + (1 : Int) := add_ti rfl rfl (by omega) (by omega)
      exact ⟨_, rfl, ⟨(show (0 : Int) ≤ (if (M.1 177 (((36 : Int32) * ((M.1 163 v1.toNatClampNeg) / (36 : Int32))) + x2).toNatClampNeg) < a0_' then (M.1 177 (((36 : Int32) * ((M.1 163 v1.toNatClampNeg) / (36 : Int32))) + x2).toNatClampNeg) else a0_').toInt by omega), (show (if (M.1 177 (((36 : Int32) * ((M.1 163 v1.toNatClampNeg) / (36 : Int32))) + x2).toNatClampNeg) < a0_' then (M.1 177 (((36 : Int32) * ((M.1 163 v1.toNatClampNeg) / (36 : Int32))) + x2).toNatClampNeg) else a0_').toInt ≤ (1000000 : Int) by omega), (show (0 : Int) ≤ (a1_' + (1 : Int32)).toInt by omega), (show (a1_' + (1 : Int32)).toInt ≤ (4 : Int) by omega)⟩, show (4 - (a1_' + (1 : Int32)).toInt).toNat < (4 - a1_'.toInt).toNat by omega⟩
theorem sf_Mod_fights1 (v1 : Int32) (M : Mem) (hp_v1 : (0 : Int) ≤ v1.toInt ∧ v1.toInt ≤ (7 : Int)) (hJ : J M) : ∃ r : Int32 × Mem, f_Mod_fights1 v1 M = some r ∧ (J r.2 ∧ Gd 1000 M r.2 ∧ (0 : Int) ≤ r.1.toInt ∧ r.1.toInt ≤ (1000000 : Int)) := by
  unfold f_Mod_fights1
  refine inb_i (by omega) (by omega) ?_
  have r1 := Jst0 hJ St_163 (i := v1) (by omega) (by omega)
  refine bind_i (sf_Mod_findFar (M.1 163 v1.toNatClampNeg) M (⟨show (0 : Int) ≤ (M.1 163 v1.toNatClampNeg).toInt by omega, show (M.1 163 v1.toNatClampNeg).toInt ≤ (71 : Int) by omega⟩) hJ) (fun x1 _ q => ?_)
  obtain ⟨h2, h3⟩ := q
  have hG4 : Gd 1000 M x1 := Gd_t Gd_r h3
  refine bind_i (sl_Mod_fights1_16 v1 x1 (1000000 : Int32) (0 : Int32) (⟨show (0 : Int) ≤ v1.toInt by omega, show v1.toInt ≤ (7 : Int) by omega⟩) h2 (show (0 : Int) ≤ (1000000 : Int32).toInt by decide) (show (1000000 : Int32).toInt ≤ (1000000 : Int) by decide) (show (0 : Int) ≤ (0 : Int32).toInt by decide) (show (0 : Int32).toInt ≤ (4 : Int) by decide)) (fun x7 _ q => ?_)
  obtain ⟨h5, h6⟩ := q
  exact ⟨(x7, x1), rfl, h2, hG4, (show (0 : Int) ≤ x7.toInt by omega), (show x7.toInt ≤ (1000000 : Int) by omega)⟩
theorem sl_Mod_fights_32 (v1 : Int32) (a0_ : Int32) (a1_ : Int32) (N_ : Mem) (B_ : Mem) (hp_v1 : (0 : Int) ≤ v1.toInt ∧ v1.toInt ≤ (60 : Int)) (hN : J N_) (hG : Gd 1000 B_ N_) (i2_ : (0 : Int) ≤ a1_.toInt) (i3_ : a1_.toInt ≤ (8 : Int)) : ∃ x, iter (lb_Mod_fights_32 v1) FU (a0_, a1_, N_) = some x ∧ (fun r : Int32 × Mem => J r.2 ∧ Gd 1000 B_ r.2) x := by
  refine iter_r (fun s : Int32 × Int32 × Mem => J s.2.2 ∧ Gd 1000 B_ s.2.2 ∧ (0 : Int) ≤ s.2.1.toInt ∧ s.2.1.toInt ≤ (8 : Int)) (fun s : Int32 × Int32 × Mem => (8 - s.2.1.toInt).toNat) (fun r : Int32 × Mem => J r.2 ∧ Gd 1000 B_ r.2) ?_ FU (a0_, a1_, N_) ⟨hN, hG, i2_, i3_⟩ (by show (8 - a1_.toInt).toNat < FU; rw [FU_v]; omega)
  clear i3_ i2_ hG hN
  rintro ⟨a0_', a1_', N_'⟩ ⟨hN, hG, i2_, i3_⟩
  dsimp only at hN hG i2_ i3_
  unfold lb_Mod_fights_32
  dsimp only
  refine if_i (fun c => ?_) (fun c => ?_)
  · have c1 := c
    have r2 := Jr_162_4 hN
    have d3 : (N_'.1 162 4).toInt ≤ a1_'.toInt := lei.mp c1
    exact ⟨_, rfl, hN, hG⟩
  · have c4 := c
    have r5 := Jr_162_4 hN
    have d6 : a1_'.toInt < (N_'.1 162 4).toInt := nlei.mp c4
    refine bind_i (sf_Mod_fights1 a1_' N_' (⟨show (0 : Int) ≤ a1_'.toInt by omega, show a1_'.toInt ≤ (7 : Int) by omega⟩) hN) (fun x3 _ q => ?_)
    obtain ⟨h7, h8, h9, h10⟩ := q
    have hG11 : Gd 1000 B_ x3.2 := Gd_t hG h8
    refine if_i (fun c => ?_) (fun c => ?_)
    · have c12 := c
      have d13 : v1.toInt < x3.1.toInt := lti.mp c12
      have q14 : (a1_' + (1 : Int32)).toInt = a1_'.toInt + (1 : Int) := add_ti rfl rfl (by omega) (by omega)
      exact ⟨_, rfl, ⟨h7, hG11, (show (0 : Int) ≤ (a1_' + (1 : Int32)).toInt by omega), (show (a1_' + (1 : Int32)).toInt ≤ (8 : Int) by omega)⟩, show (8 - (a1_' + (1 : Int32)).toInt).toNat < (8 - a1_'.toInt).toNat by omega⟩
    · have c15 := c
      have d16 : x3.1.toInt ≤ v1.toInt := nlti.mp c15
      have q17 : (a1_' + (1 : Int32)).toInt = a1_'.toInt + (1 : Int) := add_ti rfl rfl (by omega) (by omega)
      exact ⟨_, rfl, ⟨h7, hG11, (show (0 : Int) ≤ (a1_' + (1 : Int32)).toInt by omega), (show (a1_' + (1 : Int32)).toInt ≤ (8 : Int) by omega)⟩, show (8 - (a1_' + (1 : Int32)).toInt).toNat < (8 - a1_'.toInt).toNat by omega⟩
theorem sf_Mod_fights (v1 : Int32) (M : Mem) (hJ : J M) : ∃ r : Int32 × Mem, f_Mod_fights v1 M = some r ∧ (J r.2 ∧ Gd 1000 M r.2) := by
  unfold f_Mod_fights
  refine mem_i (fun M1 e2 => ?_)
  have hJ3 : J M1 := by rw [e2]; exact Jw_fld okf_162_13 hJ (0 : Int32)
  have hG4 : Gd 1000 M M1 := Gd_i Gd_r e2 (by decide)
  have f5 : (M1.1 162 13).toInt = (0 : Int) := by rw [e2, si_eq]; rfl
  clear e2
  refine bind_i (sf_Mod_in v1 (0 : Int32) (60 : Int32)) (fun x2 _ q => ?_)
  obtain ⟨h6, h7, h8⟩ := q
  replace h8 : ¬ x2.toInt = 0 → (0 : Int) ≤ v1.toInt ∧ v1.toInt ≤ (60 : Int) := h8
  refine if_i (fun c => ?_) (fun c => ?_)
  · have c9 := c
    have d10 : x2.toInt = (0 : Int) := eqi.mp c9
    exact ⟨((-1 : Int32), M1), rfl, hJ3, hG4⟩
  · have c11 := c
    have d12 : ¬ x2.toInt = (0 : Int) := neqi.mp c11
    refine if_i (fun c => ?_) (fun c => ?_)
    · have c13 := c
      have r14 := Jr_162_8 hJ3
      have d15 : (M1.1 162 8).toInt = (-1 : Int) := eqi.mp c13
      exact ⟨((-2 : Int32), M1), rfl, hJ3, hG4⟩
    · have c16 := c
      have r17 := Jr_162_8 hJ3
      have d18 : ¬ (M1.1 162 8).toInt = (-1 : Int) := neqi.mp c16
      refine bind_i (sl_Mod_fights_32 v1 (0 : Int32) (0 : Int32) M1 M (⟨show (0 : Int) ≤ v1.toInt by omega, show v1.toInt ≤ (60 : Int) by omega⟩) hJ3 hG4 (show (0 : Int) ≤ (0 : Int32).toInt by decide) (show (0 : Int32).toInt ≤ (8 : Int) by decide)) (fun x6 _ q => ?_)
      obtain ⟨h19, h20⟩ := q
      refine mem_i (fun M7 e22 => ?_)
      have hJ23 : J M7 := by rw [e22]; exact Jw_162_12 h19 (0 : Int32) (show (0 : Int) ≤ (0 : Int32).toInt by decide) (show (0 : Int32).toInt ≤ (16 : Int) by decide)
      have hG24 : Gd 1000 M M7 := Gd_i h20 e22 (by decide)
      have f25 : (M7.1 162 12).toInt = (0 : Int) := by rw [e22, si_eq]; rfl
      clear e22
      refine bind_i (sf_JInteger_bitCount (x6.1 &&& ((M7.1 162 5) ^^^ (-1 : Int32)))) (fun x8 _ q => ?_)
      obtain ⟨h26, h27⟩ := q
      refine bind_i (sf_Mod_put x8 M7 hJ23 (show (M7.1 162 12).toInt ≤ (15 : Int) by omega)) (fun x9 _ q => ?_)
      obtain ⟨h28, h29, h30⟩ := q
      have hG31 : Gd 1000 M x9 := Gd_t hG24 h29
      refine bind_i (sf_JInteger_bitCount (x6.1 &&& (x9.1 162 5))) (fun x10 _ q => ?_)
      obtain ⟨h32, h33⟩ := q
      have r34 := Jr_162_12 h28
      refine bind_i (sf_Mod_put x10 x9 h28 (show (x9.1 162 12).toInt ≤ (15 : Int) by omega)) (fun x11 _ q => ?_)
      obtain ⟨h35, h36, h37⟩ := q
      have hG38 : Gd 1000 M x11 := Gd_t hG31 h36
      exact ⟨(x6.1, x11), rfl, h35, hG38⟩
theorem sl_Mod_saved_32  (a0_ : Int32) (a1_ : Int32) (a2_ : Int32) (a3_ : Int32) (a4_ : Int32) (N_ : Mem) (B_ : Mem) (hN : J N_) (hG : Gd 1000 B_ N_) (i2_ : (-1 : Int) ≤ a0_.toInt) (i3_ : a0_.toInt ≤ (7 : Int)) (i4_ : (-1 : Int) ≤ a1_.toInt) (i5_ : a1_.toInt ≤ (7 : Int)) (i6_ : (0 : Int) ≤ a2_.toInt) (i7_ : a2_.toInt ≤ (1000000 : Int)) (i8_ : (0 : Int) ≤ a3_.toInt) (i9_ : a3_.toInt ≤ (1000000 : Int)) (i10_ : (0 : Int) ≤ a4_.toInt) (i11_ : a4_.toInt ≤ (8 : Int)) : ∃ x, iter (lb_Mod_saved_32) FU (a0_, a1_, a2_, a3_, a4_, N_) = some x ∧ (fun r : Int32 × Int32 × Int32 × Int32 × Mem => J r.2.2.2.2 ∧ Gd 1000 B_ r.2.2.2.2 ∧ (-1 : Int) ≤ r.1.toInt ∧ r.1.toInt ≤ (7 : Int) ∧ (-1 : Int) ≤ r.2.1.toInt ∧ r.2.1.toInt ≤ (7 : Int) ∧ (0 : Int) ≤ r.2.2.1.toInt ∧ r.2.2.1.toInt ≤ (1000000 : Int) ∧ (0 : Int) ≤ r.2.2.2.1.toInt ∧ r.2.2.2.1.toInt ≤ (1000000 : Int)) x := by
  refine iter_r (fun s : Int32 × Int32 × Int32 × Int32 × Int32 × Mem => J s.2.2.2.2.2 ∧ Gd 1000 B_ s.2.2.2.2.2 ∧ (-1 : Int) ≤ s.1.toInt ∧ s.1.toInt ≤ (7 : Int) ∧ (-1 : Int) ≤ s.2.1.toInt ∧ s.2.1.toInt ≤ (7 : Int) ∧ (0 : Int) ≤ s.2.2.1.toInt ∧ s.2.2.1.toInt ≤ (1000000 : Int) ∧ (0 : Int) ≤ s.2.2.2.1.toInt ∧ s.2.2.2.1.toInt ≤ (1000000 : Int) ∧ (0 : Int) ≤ s.2.2.2.2.1.toInt ∧ s.2.2.2.2.1.toInt ≤ (8 : Int)) (fun s : Int32 × Int32 × Int32 × Int32 × Int32 × Mem => (8 - s.2.2.2.2.1.toInt).toNat) (fun r : Int32 × Int32 × Int32 × Int32 × Mem => J r.2.2.2.2 ∧ Gd 1000 B_ r.2.2.2.2 ∧ (-1 : Int) ≤ r.1.toInt ∧ r.1.toInt ≤ (7 : Int) ∧ (-1 : Int) ≤ r.2.1.toInt ∧ r.2.1.toInt ≤ (7 : Int) ∧ (0 : Int) ≤ r.2.2.1.toInt ∧ r.2.2.1.toInt ≤ (1000000 : Int) ∧ (0 : Int) ≤ r.2.2.2.1.toInt ∧ r.2.2.2.1.toInt ≤ (1000000 : Int)) ?_ FU (a0_, a1_, a2_, a3_, a4_, N_) ⟨hN, hG, i2_, i3_, i4_, i5_, i6_, i7_, i8_, i9_, i10_, i11_⟩ (by show (8 - a4_.toInt).toNat < FU; rw [FU_v]; omega)
  clear i11_ i10_ i9_ i8_ i7_ i6_ i5_ i4_ i3_ i2_ hG hN
  rintro ⟨a0_', a1_', a2_', a3_', a4_', N_'⟩ ⟨hN, hG, i2_, i3_, i4_, i5_, i6_, i7_, i8_, i9_, i10_, i11_⟩
  dsimp only at hN hG i2_ i3_ i4_ i5_ i6_ i7_ i8_ i9_ i10_ i11_
  unfold lb_Mod_saved_32
  dsimp only
  refine if_i (fun c => ?_) (fun c => ?_)
  · have c1 := c
    have r2 := Jr_162_4 hN
    have d3 : (N_'.1 162 4).toInt ≤ a4_'.toInt := lei.mp c1
    exact ⟨_, rfl, hN, hG, (show (-1 : Int) ≤ a0_'.toInt by omega), (show a0_'.toInt ≤ (7 : Int) by omega), (show (-1 : Int) ≤ a1_'.toInt by omega), (show a1_'.toInt ≤ (7 : Int) by omega), (show (0 : Int) ≤ a2_'.toInt by omega), (show a2_'.toInt ≤ (1000000 : Int) by omega), (show (0 : Int) ≤ a3_'.toInt by omega), (show a3_'.toInt ≤ (1000000 : Int) by omega)⟩
  · have c4 := c
    have r5 := Jr_162_4 hN
    have d6 : a4_'.toInt < (N_'.1 162 4).toInt := nlei.mp c4
    refine bind_i (sf_Mod_fights1 a4_' N_' (⟨show (0 : Int) ≤ a4_'.toInt by omega, show a4_'.toInt ≤ (7 : Int) by omega⟩) hN) (fun x2 _ q => ?_)
    obtain ⟨h7, h8, h9, h10⟩ := q
    have hG11 : Gd 1000 B_ x2.2 := Gd_t hG h8
    refine bind_i (sf_Mod_has (x2.2.1 162 5) a4_') (fun x3 e_x3 q => ?_)
    obtain ⟨h12, h13⟩ := q
    refine if_i (fun c => ?_) (fun c => ?_)
    · have c14 := c
      have d15 : x3.toInt = (0 : Int) := eqi.mp c14
      unfold j_Mod_saved_75_32
      refine bind_e e_x3 ?_
      refine if_i (fun c => ?_) (fun c => ?_)
      · have c16 := c
        have d17 : x3.toInt = (0 : Int) := eqi.mp c16
        refine if_i (fun c => ?_) (fun c => ?_)
        · have c18 := c
          have d19 : a2_'.toInt ≤ x2.1.toInt := lei.mp c18
          have q20 : (a4_' + (1 : Int32)).toInt = a4_'.toInt + (1 : Int) := add_ti rfl rfl (by omega) (by omega)
          exact ⟨_, rfl, ⟨h7, hG11, (show (-1 : Int) ≤ a0_'.toInt by omega), (show a0_'.toInt ≤ (7 : Int) by omega), (show (-1 : Int) ≤ a1_'.toInt by omega), (show a1_'.toInt ≤ (7 : Int) by omega), (show (0 : Int) ≤ a2_'.toInt by omega), (show a2_'.toInt ≤ (1000000 : Int) by omega), (show (0 : Int) ≤ a3_'.toInt by omega), (show a3_'.toInt ≤ (1000000 : Int) by omega), (show (0 : Int) ≤ (a4_' + (1 : Int32)).toInt by omega), (show (a4_' + (1 : Int32)).toInt ≤ (8 : Int) by omega)⟩, show (8 - (a4_' + (1 : Int32)).toInt).toNat < (8 - a4_'.toInt).toNat by omega⟩
        · have c21 := c
          have d22 : x2.1.toInt < a2_'.toInt := nlei.mp c21
          have q23 : (a4_' + (1 : Int32)).toInt = a4_'.toInt + (1 : Int) := add_ti rfl rfl (by omega) (by omega)
          exact ⟨_, rfl, ⟨h7, hG11, (show (-1 : Int) ≤ a4_'.toInt by omega), (show a4_'.toInt ≤ (7 : Int) by omega), (show (-1 : Int) ≤ a1_'.toInt by omega), (show a1_'.toInt ≤ (7 : Int) by omega), (show (0 : Int) ≤ x2.1.toInt by omega), (show x2.1.toInt ≤ (1000000 : Int) by omega), (show (0 : Int) ≤ a3_'.toInt by omega), (show a3_'.toInt ≤ (1000000 : Int) by omega), (show (0 : Int) ≤ (a4_' + (1 : Int32)).toInt by omega), (show (a4_' + (1 : Int32)).toInt ≤ (8 : Int) by omega)⟩, show (8 - (a4_' + (1 : Int32)).toInt).toNat < (8 - a4_'.toInt).toNat by omega⟩
      · have c24 := c
        have d25 : ¬ x3.toInt = (0 : Int) := neqi.mp c24
        exfalso; omega
    · have c26 := c
      have d27 : ¬ x3.toInt = (0 : Int) := neqi.mp c26
      refine if_i (fun c => ?_) (fun c => ?_)
      · have c28 := c
        have d29 : a3_'.toInt ≤ x2.1.toInt := lei.mp c28
        unfold j_Mod_saved_75_32
        refine bind_e e_x3 ?_
        refine if_i (fun c => ?_) (fun c => ?_)
        · have c30 := c
          have d31 : x3.toInt = (0 : Int) := eqi.mp c30
          exfalso; omega
        · have c32 := c
          have d33 : ¬ x3.toInt = (0 : Int) := neqi.mp c32
          have q34 : (a4_' + (1 : Int32)).toInt = a4_'.toInt + (1 : Int) := add_ti rfl rfl (by omega) (by omega)
          exact ⟨_, rfl, ⟨h7, hG11, (show (-1 : Int) ≤ a0_'.toInt by omega), (show a0_'.toInt ≤ (7 : Int) by omega), (show (-1 : Int) ≤ a1_'.toInt by omega), (show a1_'.toInt ≤ (7 : Int) by omega), (show (0 : Int) ≤ a2_'.toInt by omega), (show a2_'.toInt ≤ (1000000 : Int) by omega), (show (0 : Int) ≤ a3_'.toInt by omega), (show a3_'.toInt ≤ (1000000 : Int) by omega), (show (0 : Int) ≤ (a4_' + (1 : Int32)).toInt by omega), (show (a4_' + (1 : Int32)).toInt ≤ (8 : Int) by omega)⟩, show (8 - (a4_' + (1 : Int32)).toInt).toNat < (8 - a4_'.toInt).toNat by omega⟩
      · have c35 := c
        have d36 : x2.1.toInt < a3_'.toInt := nlei.mp c35
        unfold j_Mod_saved_75_32
        refine bind_e e_x3 ?_
        refine if_i (fun c => ?_) (fun c => ?_)
        · have c37 := c
          have d38 : x3.toInt = (0 : Int) := eqi.mp c37
          exfalso; omega
        · have c39 := c
          have d40 : ¬ x3.toInt = (0 : Int) := neqi.mp c39
          have q41 : (a4_' + (1 : Int32)).toInt = a4_'.toInt + (1 : Int) := add_ti rfl rfl (by omega) (by omega)
          exact ⟨_, rfl, ⟨h7, hG11, (show (-1 : Int) ≤ a0_'.toInt by omega), (show a0_'.toInt ≤ (7 : Int) by omega), (show (-1 : Int) ≤ a4_'.toInt by omega), (show a4_'.toInt ≤ (7 : Int) by omega), (show (0 : Int) ≤ a2_'.toInt by omega), (show a2_'.toInt ≤ (1000000 : Int) by omega), (show (0 : Int) ≤ x2.1.toInt by omega), (show x2.1.toInt ≤ (1000000 : Int) by omega), (show (0 : Int) ≤ (a4_' + (1 : Int32)).toInt by omega), (show (a4_' + (1 : Int32)).toInt ≤ (8 : Int) by omega)⟩, show (8 - (a4_' + (1 : Int32)).toInt).toNat < (8 - a4_'.toInt).toNat by omega⟩
theorem sf_Mod_saved (M : Mem) (hJ : J M) : ∃ r : Int32 × Mem, f_Mod_saved M = some r ∧ (J r.2 ∧ Gd 1000 M r.2 ∧ (-2 : Int) ≤ r.1.toInt ∧ r.1.toInt ≤ (60 : Int)) := by
  unfold f_Mod_saved
  refine mem_i (fun M1 e2 => ?_)
  have hJ3 : J M1 := by rw [e2]; exact Jw_fld okf_162_13 hJ (0 : Int32)
  have hG4 : Gd 1000 M M1 := Gd_i Gd_r e2 (by decide)
  have f5 : (M1.1 162 13).toInt = (0 : Int) := by rw [e2, si_eq]; rfl
  clear e2
  refine if_i (fun c => ?_) (fun c => ?_)
  · have c6 := c
    have r7 := Jr_162_8 hJ3
    have d8 : (M1.1 162 8).toInt = (-1 : Int) := eqi.mp c6
    exact ⟨((-2 : Int32), M1), rfl, hJ3, hG4, (show (-2 : Int) ≤ (-2 : Int32).toInt by decide), (show (-2 : Int32).toInt ≤ (60 : Int) by decide)⟩
  · have c9 := c
    have r10 := Jr_162_8 hJ3
    have d11 : ¬ (M1.1 162 8).toInt = (-1 : Int) := neqi.mp c9
    refine bind_i (sl_Mod_saved_32  (-1 : Int32) (-1 : Int32) (1000000 : Int32) (1000000 : Int32) (0 : Int32) M1 M hJ3 hG4 (show (-1 : Int) ≤ (-1 : Int32).toInt by decide) (show (-1 : Int32).toInt ≤ (7 : Int) by decide) (show (-1 : Int) ≤ (-1 : Int32).toInt by decide) (show (-1 : Int32).toInt ≤ (7 : Int) by decide) (show (0 : Int) ≤ (1000000 : Int32).toInt by decide) (show (1000000 : Int32).toInt ≤ (1000000 : Int) by decide) (show (0 : Int) ≤ (1000000 : Int32).toInt by decide) (show (1000000 : Int32).toInt ≤ (1000000 : Int) by decide) (show (0 : Int) ≤ (0 : Int32).toInt by decide) (show (0 : Int32).toInt ≤ (8 : Int) by decide)) (fun x10 _ q => ?_)
    obtain ⟨h12, h13, h14, h15, h16, h17, h18, h19, h20, h21⟩ := q
    refine if_i (fun c => ?_) (fun c => ?_)
    · have c22 := c
      have q23 : (0 : Int) ≤ (if x10.2.2.1 < x10.2.2.2.1 then x10.2.2.2.1 else x10.2.2.1).toInt ∧ (if x10.2.2.1 < x10.2.2.2.1 then x10.2.2.2.1 else x10.2.2.1).toInt ≤ (1000000 : Int) := by
        by_cases cc : x10.2.2.1 < x10.2.2.2.1
        · rw [if_pos cc]
          have d24 : x10.2.2.1.toInt < x10.2.2.2.1.toInt := lti.mp cc
          omega
        · rw [if_neg cc]
          have d25 : x10.2.2.2.1.toInt ≤ x10.2.2.1.toInt := nlti.mp cc
          omega
      have d26 : (if x10.2.2.1 < x10.2.2.2.1 then x10.2.2.2.1 else x10.2.2.1).toInt ≤ (60 : Int) := lei.mp c22
      refine mem_i (fun M11 e28 => ?_)
      have hJ29 : J M11 := by rw [e28]; exact Jw_162_12 h12 (0 : Int32) (show (0 : Int) ≤ (0 : Int32).toInt by decide) (show (0 : Int32).toInt ≤ (16 : Int) by decide)
      have hG30 : Gd 1000 M M11 := Gd_i h13 e28 (by decide)
      have f31 : (M11.1 162 12).toInt = (0 : Int) := by rw [e28, si_eq]; rfl
      clear e28
      refine bind_i (sf_Mod_put x10.1 M11 hJ29 (show (M11.1 162 12).toInt ≤ (15 : Int) by omega)) (fun x12 _ q => ?_)
      obtain ⟨h32, h33, h34⟩ := q
      have hG35 : Gd 1000 M x12 := Gd_t hG30 h33
      have r36 := Jr_162_12 h32
      refine bind_i (sf_Mod_put x10.2.1 x12 h32 (show (x12.1 162 12).toInt ≤ (15 : Int) by omega)) (fun x13 _ q => ?_)
      obtain ⟨h37, h38, h39⟩ := q
      have hG40 : Gd 1000 M x13 := Gd_t hG35 h38
      exact ⟨((if x10.2.2.1 < x10.2.2.2.1 then x10.2.2.2.1 else x10.2.2.1), x13), rfl, h37, hG40, (show (-2 : Int) ≤ (if x10.2.2.1 < x10.2.2.2.1 then x10.2.2.2.1 else x10.2.2.1).toInt by omega), (show (if x10.2.2.1 < x10.2.2.2.1 then x10.2.2.2.1 else x10.2.2.1).toInt ≤ (60 : Int) by omega)⟩
    · have c41 := c
      have q42 : (0 : Int) ≤ (if x10.2.2.1 < x10.2.2.2.1 then x10.2.2.2.1 else x10.2.2.1).toInt ∧ (if x10.2.2.1 < x10.2.2.2.1 then x10.2.2.2.1 else x10.2.2.1).toInt ≤ (1000000 : Int) := by
        by_cases cc : x10.2.2.1 < x10.2.2.2.1
        · rw [if_pos cc]
          have d43 : x10.2.2.1.toInt < x10.2.2.2.1.toInt := lti.mp cc
          omega
        · rw [if_neg cc]
          have d44 : x10.2.2.2.1.toInt ≤ x10.2.2.1.toInt := nlti.mp cc
          omega
      have d45 : (60 : Int) < (if x10.2.2.1 < x10.2.2.2.1 then x10.2.2.2.1 else x10.2.2.1).toInt := nlei.mp c41
      exact ⟨((-2 : Int32), x10.2.2.2.2), rfl, h12, h13, (show (-2 : Int) ≤ (-2 : Int32).toInt by decide), (show (-2 : Int32).toInt ≤ (60 : Int) by decide)⟩
theorem sl_Mod_areNear_9 (v1 : Int32) (v2 : Int32) (M : Mem) (a0_ : Int32) (hp_v1 : (0 : Int) ≤ v1.toInt ∧ v1.toInt ≤ (35 : Int)) (hJ_M : J M) (i0_ : (0 : Int) ≤ a0_.toInt) (i1_ : a0_.toInt ≤ (4 : Int)) : ∃ x, iter (lb_Mod_areNear_9 v1 v2 M) FU a0_ = some x ∧ (SQ (fun r : Unit => True) (fun r : Unit => True)) x := by
  refine iter_r (fun s : Int32 => (0 : Int) ≤ s.toInt ∧ s.toInt ≤ (4 : Int)) (fun s : Int32 => (4 - s.toInt).toNat) (SQ (fun r : Unit => True) (fun r : Unit => True)) ?_ FU a0_ ⟨i0_, i1_⟩ (by show (4 - a0_.toInt).toNat < FU; rw [FU_v]; omega)
  clear i1_ i0_
  rintro a0_' ⟨i0_, i1_⟩
  unfold lb_Mod_areNear_9
  refine if_i (fun c => ?_) (fun c => ?_)
  · have c1 := c
    have d2 : (4 : Int) ≤ a0_'.toInt := lei.mp c1
    exact ⟨_, rfl, trivial⟩
  · have c3 := c
    have d4 : a0_'.toInt < (4 : Int) := nlei.mp c3
    refine bind_i (sf_Mod_beside v1 a0_' M (⟨show (-1 : Int) ≤ v1.toInt by omega, show v1.toInt ≤ (35 : Int) by omega⟩) hJ_M) (fun x1 e_x1 q => ?_)
    obtain ⟨h5, h6⟩ := q
    refine if_i (fun c => ?_) (fun c => ?_)
    · have c7 := c
      have d8 : x1.toInt = v2.toInt := eqi.mp c7
      exact ⟨_, rfl, trivial⟩
    · have c9 := c
      have d10 : ¬ x1.toInt = v2.toInt := neqi.mp c9
      have q11 : (a0_' + (1 : Int32)).toInt = a0_'.toInt + (1 : Int) := add_ti rfl rfl (by omega) (by omega)
      exact ⟨_, rfl, ⟨(show (0 : Int) ≤ (a0_' + (1 : Int32)).toInt by omega), (show (a0_' + (1 : Int32)).toInt ≤ (4 : Int) by omega)⟩, show (4 - (a0_' + (1 : Int32)).toInt).toNat < (4 - a0_'.toInt).toNat by omega⟩
theorem sf_Mod_areNear (v1 : Int32) (v2 : Int32) (M : Mem) (hp_v1 : (0 : Int) ≤ v1.toInt ∧ v1.toInt ≤ (35 : Int)) (hJ : J M) : ∃ r : Int32, f_Mod_areNear v1 v2 M = some r ∧ ((0 : Int) ≤ r.toInt ∧ r.toInt ≤ (1 : Int)) := by
  unfold f_Mod_areNear
  refine if_i (fun c => ?_) (fun c => ?_)
  · have c1 := c
    have d2 : v1.toInt = v2.toInt := eqi.mp c1
    exact ⟨(1 : Int32), rfl, (show (0 : Int) ≤ (1 : Int32).toInt by decide), (show (1 : Int32).toInt ≤ (1 : Int) by decide)⟩
  · have c3 := c
    have d4 : ¬ v1.toInt = v2.toInt := neqi.mp c3
    refine bind_i (sl_Mod_areNear_9 v1 v2 M (0 : Int32) (⟨show (0 : Int) ≤ v1.toInt by omega, show v1.toInt ≤ (35 : Int) by omega⟩) hJ (show (0 : Int) ≤ (0 : Int32).toInt by decide) (show (0 : Int32).toInt ≤ (4 : Int) by decide)) (fun x5 _ q => ?_)
    rcases x5 with y | y
    · have q9 : True := q
      dsimp only [Sum.elim_inl, Sum.elim_inr]
      exact ⟨(0 : Int32), rfl, (show (0 : Int) ≤ (0 : Int32).toInt by decide), (show (0 : Int32).toInt ≤ (1 : Int) by decide)⟩
    · have q9 : True := q
      dsimp only [Sum.elim_inl, Sum.elim_inr]
      exact ⟨(1 : Int32), rfl, (show (0 : Int) ≤ (1 : Int32).toInt by decide), (show (1 : Int32).toInt ≤ (1 : Int) by decide)⟩
theorem sf_Mod_plain (v1 : Int32) (v2 : Int32) (v3 : Int32) (M : Mem) (hp_v2 : (0 : Int) ≤ v2.toInt ∧ v2.toInt ≤ (35 : Int)) (hJ : J M) : ∃ r : Int32, f_Mod_plain v1 v2 v3 M = some r ∧ ((-1 : Int) ≤ r.toInt ∧ r.toInt ≤ (35 : Int)) := by
  unfold f_Mod_plain
  refine if_i (fun c => ?_) (fun c => ?_)
  · have c1 := c
    have d2 : v3.toInt = (4 : Int) := eqi.mp c1
    exact ⟨v2, rfl, (show (-1 : Int) ≤ v2.toInt by omega), (show v2.toInt ≤ (35 : Int) by omega)⟩
  · have c3 := c
    have d4 : ¬ v3.toInt = (4 : Int) := neqi.mp c3
    refine bind_i (sf_Mod_beside v2 v3 M (⟨show (-1 : Int) ≤ v2.toInt by omega, show v2.toInt ≤ (35 : Int) by omega⟩) hJ) (fun x1 e_x1 q => ?_)
    obtain ⟨h5, h6⟩ := q
    refine if_i (fun c => ?_) (fun c => ?_)
    · have c7 := c
      have d8 : x1.toInt = (-1 : Int) := eqi.mp c7
      exact ⟨(-1 : Int32), rfl, (show (-1 : Int) ≤ (-1 : Int32).toInt by decide), (show (-1 : Int32).toInt ≤ (35 : Int) by decide)⟩
    · have c9 := c
      have d10 : ¬ x1.toInt = (-1 : Int) := neqi.mp c9
      refine bind_i (sf_Mod_isOf v1 x1 M hJ) (fun x2 e_x2 q => ?_)
      obtain ⟨h11, h12, h13⟩ := q
      refine if_i (fun c => ?_) (fun c => ?_)
      · have c14 := c
        have d15 : x2.toInt = (0 : Int) := eqi.mp c14
        exact ⟨(-1 : Int32), rfl, (show (-1 : Int) ≤ (-1 : Int32).toInt by decide), (show (-1 : Int32).toInt ≤ (35 : Int) by decide)⟩
      · have c16 := c
        have d17 : ¬ x2.toInt = (0 : Int) := neqi.mp c16
        exact ⟨x1, rfl, (show (-1 : Int) ≤ x1.toInt by omega), (show x1.toInt ≤ (35 : Int) by omega)⟩
theorem sf_Mod_carryTo (v1 : Int32) (v2 : Int32) (v3 : Int32) (M : Mem) (hp_v1 : (0 : Int) ≤ v1.toInt ∧ v1.toInt ≤ (35 : Int)) (hp_v2 : (0 : Int) ≤ v2.toInt ∧ v2.toInt ≤ (35 : Int)) (hp_v3 : (0 : Int) ≤ v3.toInt ∧ v3.toInt ≤ (44 : Int)) (hJ : J M) : ∃ r : Int32, f_Mod_carryTo v1 v2 v3 M = some r ∧ ((-1 : Int) ≤ r.toInt ∧ r.toInt ≤ (1295 : Int)) := by
  unfold f_Mod_carryTo
  refine bind_i (sf_Mod_plain (0 : Int32) v1 (v3 / (10 : Int32)) M (⟨show (0 : Int) ≤ v1.toInt by omega, show v1.toInt ≤ (35 : Int) by omega⟩) hJ) (fun x1 e_x1 q => ?_)
  obtain ⟨h1, h2⟩ := q
  refine bind_i (sf_Mod_plain (1 : Int32) v2 (v3 - ((v3 / (10 : Int32)) * (10 : Int32))) M (⟨show (0 : Int) ≤ v2.toInt by omega, show v2.toInt ≤ (35 : Int) by omega⟩) hJ) (fun x2 e_x2 q => ?_)
  obtain ⟨h3, h4⟩ := q
  refine if_i (fun c => ?_) (fun c => ?_)
  · have c5 := c
    have d6 : x1.toInt = (-1 : Int) := eqi.mp c5
    exact ⟨(-1 : Int32), rfl, (show (-1 : Int) ≤ (-1 : Int32).toInt by decide), (show (-1 : Int32).toInt ≤ (1295 : Int) by decide)⟩
  · have c7 := c
    have d8 : ¬ x1.toInt = (-1 : Int) := neqi.mp c7
    refine if_i (fun c => ?_) (fun c => ?_)
    · have c9 := c
      have d10 : x2.toInt = (-1 : Int) := eqi.mp c9
      exact ⟨(-1 : Int32), rfl, (show (-1 : Int) ≤ (-1 : Int32).toInt by decide), (show (-1 : Int32).toInt ≤ (1295 : Int) by decide)⟩
    · have c11 := c
      have d12 : ¬ x2.toInt = (-1 : Int) := neqi.mp c11
      refine bind_i (sf_Mod_areNear x1 x2 M (⟨show (0 : Int) ≤ x1.toInt by omega, show x1.toInt ≤ (35 : Int) by omega⟩) hJ) (fun x3 e_x3 q => ?_)
      obtain ⟨h13, h14⟩ := q
      refine if_i (fun c => ?_) (fun c => ?_)
      · have c15 := c
        have d16 : x3.toInt = (0 : Int) := eqi.mp c15
        exact ⟨(-1 : Int32), rfl, (show (-1 : Int) ≤ (-1 : Int32).toInt by decide), (show (-1 : Int32).toInt ≤ (1295 : Int) by decide)⟩
      · have c17 := c
        have d18 : ¬ x3.toInt = (0 : Int) := neqi.mp c17
        have q19 : ((36 : Int32) * x1).toInt = (36 : Int) * x1.toInt := mul_ti rfl rfl (by omega) (by omega)
        have q20 : (((36 : Int32) * x1) + x2).toInt = ((36 : Int32) * x1).toInt + x2.toInt := add_ti rfl rfl (by omega) (by omega)
        exact ⟨(((36 : Int32) * x1) + x2), rfl, (show (-1 : Int) ≤ (((36 : Int32) * x1) + x2).toInt by omega), (show (((36 : Int32) * x1) + x2).toInt ≤ (1295 : Int) by omega)⟩
theorem sl_Mod_goThief_2  (a0_ : Int32) (N_ : Mem) (B_ : Mem) (hN : J N_) (hG : Gd 1000 B_ N_) (i2_ : (0 : Int) ≤ a0_.toInt) (i3_ : a0_.toInt ≤ (72 : Int)) : ∃ x, iter (lb_Mod_goThief_2) FU (a0_, N_) = some x ∧ (fun r : Mem => J r ∧ Gd 1000 B_ r) x := by
  refine iter_r (fun s : Int32 × Mem => J s.2 ∧ Gd 1000 B_ s.2 ∧ (0 : Int) ≤ s.1.toInt ∧ s.1.toInt ≤ (72 : Int)) (fun s : Int32 × Mem => (72 - s.1.toInt).toNat) (fun r : Mem => J r ∧ Gd 1000 B_ r) ?_ FU (a0_, N_) ⟨hN, hG, i2_, i3_⟩ (by show (72 - a0_.toInt).toNat < FU; rw [FU_v]; omega)
  clear i3_ i2_ hG hN
  rintro ⟨a0_', N_'⟩ ⟨hN, hG, i2_, i3_⟩
  dsimp only at hN hG i2_ i3_
  unfold lb_Mod_goThief_2
  dsimp only
  refine if_i (fun c => ?_) (fun c => ?_)
  · have c1 := c
    have d2 : (72 : Int) ≤ a0_'.toInt := lei.mp c1
    exact ⟨_, rfl, hN, hG⟩
  · have c3 := c
    have d4 : a0_'.toInt < (72 : Int) := nlei.mp c3
    refine inb_i (by omega) (by omega) ?_
    have q6 := nar01 (0 : Int32)
    refine mem_i (fun M1 e7 => ?_)
    have hJ8 : J M1 := by rw [e7]; exact Jw_187 hN a0_'.toNatClampNeg (vp_nar .boolean (0 : Int32)) (show (0 : Int) ≤ (vp_nar .boolean (0 : Int32)).toInt by omega) (show (vp_nar .boolean (0 : Int32)).toInt ≤ (1 : Int) by omega)
    have hG9 : Gd 1000 B_ M1 := Gd_any hG e7 (by decide)
    clear e7
    have q10 : (a0_' + (1 : Int32)).toInt = a0_'.toInt + (1 : Int) := add_ti rfl rfl (by omega) (by omega)
    exact ⟨_, rfl, ⟨hJ8, hG9, (show (0 : Int) ≤ (a0_' + (1 : Int32)).toInt by omega), (show (a0_' + (1 : Int32)).toInt ≤ (72 : Int) by omega)⟩, show (72 - (a0_' + (1 : Int32)).toInt).toNat < (72 - a0_'.toInt).toNat by omega⟩
theorem sl_Mod_goThief_43 (v1 : Int32) (a0_ : Int32) (N_ : Mem) (B_ : Mem) (hp_v1 : (0 : Int) ≤ v1.toInt ∧ v1.toInt ≤ (71 : Int)) (hN : J N_) (hG : Gd 1000 B_ N_) (i2_ : (0 : Int) ≤ a0_.toInt) (i3_ : a0_.toInt ≤ (5 : Int)) : ∃ x, iter (lb_Mod_goThief_43 v1) FU (a0_, N_) = some x ∧ (fun r : Mem => J r ∧ Gd 1000 B_ r) x := by
  refine iter_r (fun s : Int32 × Mem => J s.2 ∧ Gd 1000 B_ s.2 ∧ (0 : Int) ≤ s.1.toInt ∧ s.1.toInt ≤ (5 : Int)) (fun s : Int32 × Mem => (5 - s.1.toInt).toNat) (fun r : Mem => J r ∧ Gd 1000 B_ r) ?_ FU (a0_, N_) ⟨hN, hG, i2_, i3_⟩ (by show (5 - a0_.toInt).toNat < FU; rw [FU_v]; omega)
  clear i3_ i2_ hG hN
  rintro ⟨a0_', N_'⟩ ⟨hN, hG, i2_, i3_⟩
  dsimp only at hN hG i2_ i3_
  unfold lb_Mod_goThief_43
  dsimp only
  refine if_i (fun c => ?_) (fun c => ?_)
  · have c1 := c
    have d2 : (4 : Int) < a0_'.toInt := lti.mp c1
    exact ⟨_, rfl, hN, hG⟩
  · have c3 := c
    have d4 : a0_'.toInt ≤ (4 : Int) := nlti.mp c3
    refine bind_i (sf_Mod_go 176 v1 a0_' N_' St_176 (⟨show (0 : Int) ≤ v1.toInt by omega, show v1.toInt ≤ (71 : Int) by omega⟩) hN) (fun x4 e_x4 q => ?_)
    obtain ⟨h5, h6⟩ := q
    refine if_i (fun c => ?_) (fun c => ?_)
    · have c7 := c
      have d8 : x4.toInt = (-1 : Int) := eqi.mp c7
      have q9 : (a0_' + (1 : Int32)).toInt = a0_'.toInt + (1 : Int) := add_ti rfl rfl (by omega) (by omega)
      exact ⟨_, rfl, ⟨hN, hG, (show (0 : Int) ≤ (a0_' + (1 : Int32)).toInt by omega), (show (a0_' + (1 : Int32)).toInt ≤ (5 : Int) by omega)⟩, show (5 - (a0_' + (1 : Int32)).toInt).toNat < (5 - a0_'.toInt).toNat by omega⟩
    · have c10 := c
      have d11 : ¬ x4.toInt = (-1 : Int) := neqi.mp c10
      refine bind_e e_x4 ?_
      refine inb_i (by omega) (by omega) ?_
      have q13 := nar01 (1 : Int32)
      refine mem_i (fun M6 e14 => ?_)
      have hJ15 : J M6 := by rw [e14]; exact Jw_187 hN x4.toNatClampNeg (vp_nar .boolean (1 : Int32)) (show (0 : Int) ≤ (vp_nar .boolean (1 : Int32)).toInt by omega) (show (vp_nar .boolean (1 : Int32)).toInt ≤ (1 : Int) by omega)
      have hG16 : Gd 1000 B_ M6 := Gd_any hG e14 (by decide)
      clear e14
      have q17 : (a0_' + (1 : Int32)).toInt = a0_'.toInt + (1 : Int) := add_ti rfl rfl (by omega) (by omega)
      exact ⟨_, rfl, ⟨hJ15, hG16, (show (0 : Int) ≤ (a0_' + (1 : Int32)).toInt by omega), (show (a0_' + (1 : Int32)).toInt ≤ (5 : Int) by omega)⟩, show (5 - (a0_' + (1 : Int32)).toInt).toNat < (5 - a0_'.toInt).toNat by omega⟩
theorem sl_Mod_goThief_23  (a0_ : Int32) (N_ : Mem) (B_ : Mem) (hN : J N_) (hG : Gd 1000 B_ N_) (i2_ : (0 : Int) ≤ a0_.toInt) (i3_ : a0_.toInt ≤ (72 : Int)) : ∃ x, iter (lb_Mod_goThief_23) FU (a0_, N_) = some x ∧ (fun r : Mem => J r ∧ Gd 1000 B_ r) x := by
  refine iter_r (fun s : Int32 × Mem => J s.2 ∧ Gd 1000 B_ s.2 ∧ (0 : Int) ≤ s.1.toInt ∧ s.1.toInt ≤ (72 : Int)) (fun s : Int32 × Mem => (72 - s.1.toInt).toNat) (fun r : Mem => J r ∧ Gd 1000 B_ r) ?_ FU (a0_, N_) ⟨hN, hG, i2_, i3_⟩ (by show (72 - a0_.toInt).toNat < FU; rw [FU_v]; omega)
  clear i3_ i2_ hG hN
  rintro ⟨a0_', N_'⟩ ⟨hN, hG, i2_, i3_⟩
  dsimp only at hN hG i2_ i3_
  unfold lb_Mod_goThief_23
  dsimp only
  refine if_i (fun c => ?_) (fun c => ?_)
  · have c1 := c
    have d2 : (72 : Int) ≤ a0_'.toInt := lei.mp c1
    exact ⟨_, rfl, hN, hG⟩
  · have c3 := c
    have d4 : a0_'.toInt < (72 : Int) := nlei.mp c3
    refine inb_i (by omega) (by omega) ?_
    refine if_i (fun c => ?_) (fun c => ?_)
    · have c5 := c
      have r6 := Jr_186 hN a0_'.toNatClampNeg
      have d7 : (N_'.1 186 a0_'.toNatClampNeg).toInt = (0 : Int) := eqi.mp c5
      have q8 : (a0_' + (1 : Int32)).toInt = a0_'.toInt + (1 : Int) := add_ti rfl rfl (by omega) (by omega)
      exact ⟨_, rfl, ⟨hN, hG, (show (0 : Int) ≤ (a0_' + (1 : Int32)).toInt by omega), (show (a0_' + (1 : Int32)).toInt ≤ (72 : Int) by omega)⟩, show (72 - (a0_' + (1 : Int32)).toInt).toNat < (72 - a0_'.toInt).toNat by omega⟩
    · have c9 := c
      have r10 := Jr_186 hN a0_'.toNatClampNeg
      have d11 : ¬ (N_'.1 186 a0_'.toNatClampNeg).toInt = (0 : Int) := neqi.mp c9
      refine bind_i (sl_Mod_goThief_43 a0_' (0 : Int32) N_' B_ (⟨show (0 : Int) ≤ a0_'.toInt by omega, show a0_'.toInt ≤ (71 : Int) by omega⟩) hN hG (show (0 : Int) ≤ (0 : Int32).toInt by decide) (show (0 : Int32).toInt ≤ (5 : Int) by decide)) (fun x9 _ q => ?_)
      obtain ⟨h12, h13⟩ := q
      refine bind_e (show (f_Mod_cellOf a0_') = some (a0_' - ((a0_' / (36 : Int32)) * (36 : Int32))) from rfl) ?_
      have q14 : (a0_' - ((a0_' / (36 : Int32)) * (36 : Int32))).toInt = a0_'.toInt % (36 : Int) := rem_ti rfl rfl (by omega) (by omega)
      refine inb_i (by omega) (by omega) ?_
      refine if_i (fun c => ?_) (fun c => ?_)
      · have c15 := c
        have d16 : (x9.1 164 (a0_' - ((a0_' / (36 : Int32)) * (36 : Int32))).toNatClampNeg).toInt = (3 : Int) := eqi.mp c15
        refine bind_e (show (f_Mod_levelOf a0_') = some (a0_' / (36 : Int32)) from rfl) ?_
        refine bind_e (show (f_Mod_cellOf a0_') = some (a0_' - ((a0_' / (36 : Int32)) * (36 : Int32))) from rfl) ?_
        refine bind_e (show (f_Mod_placeOf ((1 : Int32) - (a0_' / (36 : Int32))) (a0_' - ((a0_' / (36 : Int32)) * (36 : Int32)))) = some (((36 : Int32) * ((1 : Int32) - (a0_' / (36 : Int32)))) + (a0_' - ((a0_' / (36 : Int32)) * (36 : Int32)))) from rfl) ?_
        have q17 : (a0_' / (36 : Int32)).toInt = a0_'.toInt / (36 : Int) := div_ti rfl rfl (by omega) (by omega)
        have q18 : ((1 : Int32) - (a0_' / (36 : Int32))).toInt = (1 : Int) - (a0_' / (36 : Int32)).toInt := sub_ti rfl rfl (by omega) (by omega)
        have q19 : ((36 : Int32) * ((1 : Int32) - (a0_' / (36 : Int32)))).toInt = (36 : Int) * ((1 : Int32) - (a0_' / (36 : Int32))).toInt := mul_ti rfl rfl (by omega) (by omega)
        have q20 : (((36 : Int32) * ((1 : Int32) - (a0_' / (36 : Int32)))) + (a0_' - ((a0_' / (36 : Int32)) * (36 : Int32)))).toInt = ((36 : Int32) * ((1 : Int32) - (a0_' / (36 : Int32)))).toInt + (a0_' - ((a0_' / (36 : Int32)) * (36 : Int32))).toInt := add_ti rfl rfl (by omega) (by omega)
        refine inb_i (by omega) (by omega) ?_
        have q22 := nar01 (1 : Int32)
        refine mem_i (fun M14 e23 => ?_)
        have hJ24 : J M14 := by rw [e23]; exact Jw_187 h12 (((36 : Int32) * ((1 : Int32) - (a0_' / (36 : Int32)))) + (a0_' - ((a0_' / (36 : Int32)) * (36 : Int32)))).toNatClampNeg (vp_nar .boolean (1 : Int32)) (show (0 : Int) ≤ (vp_nar .boolean (1 : Int32)).toInt by omega) (show (vp_nar .boolean (1 : Int32)).toInt ≤ (1 : Int) by omega)
        have hG25 : Gd 1000 B_ M14 := Gd_any h13 e23 (by decide)
        have f26 : (M14.1 164 (a0_' - ((a0_' / (36 : Int32)) * (36 : Int32))).toNatClampNeg).toInt = (x9.1 164 (a0_' - ((a0_' / (36 : Int32)) * (36 : Int32))).toNatClampNeg).toInt := by rw [e23]; rw [si_ne (by exact fun e => absurd e.1 (by decide))]
        clear e23
        have q27 : (a0_' + (1 : Int32)).toInt = a0_'.toInt + (1 : Int) := add_ti rfl rfl (by omega) (by omega)
        exact ⟨_, rfl, ⟨hJ24, hG25, (show (0 : Int) ≤ (a0_' + (1 : Int32)).toInt by omega), (show (a0_' + (1 : Int32)).toInt ≤ (72 : Int) by omega)⟩, show (72 - (a0_' + (1 : Int32)).toInt).toNat < (72 - a0_'.toInt).toNat by omega⟩
      · have c28 := c
        have d29 : ¬ (x9.1 164 (a0_' - ((a0_' / (36 : Int32)) * (36 : Int32))).toNatClampNeg).toInt = (3 : Int) := neqi.mp c28
        have q30 : (a0_' + (1 : Int32)).toInt = a0_'.toInt + (1 : Int) := add_ti rfl rfl (by omega) (by omega)
        exact ⟨_, rfl, ⟨h12, h13, (show (0 : Int) ≤ (a0_' + (1 : Int32)).toInt by omega), (show (a0_' + (1 : Int32)).toInt ≤ (72 : Int) by omega)⟩, show (72 - (a0_' + (1 : Int32)).toInt).toNat < (72 - a0_'.toInt).toNat by omega⟩
end
