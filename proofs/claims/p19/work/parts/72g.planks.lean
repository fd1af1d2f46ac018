/-! a plank added to both -/
theorem add_q {X R x9 r : Mem} {n : Nat} {a b : Int32} {x8 : Int32 × Mem} (zq : ZQ X R n) (jr : J r) (oa : onN R 1 a.toInt) (ob : onN R 1 b.toInt) (nb : btw (xw R) (xh R) a.toInt b.toInt ≠ -1) (no : ¬ onN R 1 (btw (xw R) (xh R) a.toInt b.toInt)) (m5 : (R.1 163 92).toInt ≤ 5) (e8 : f_Scene_addPlank 11 a b X = some x8) (e80 : x8.1 ≠ 0) (e9 : f_Nets_lay 32 11 (-1 : Int32) x8.2 = some x9) (er : f_Mod_layPlank a b R = some r) : CS X R n x9 r ∧ x9.1 11 6 = r.1 163 92 := by
  obtain ⟨n8, jR, zb, zs, zv, zw⟩ := zq
  have z6 : (6 : Int32).toInt = 6 := rfl
  have z80 : (80 : Int32).toInt = 80 := rfl
  have z0 := o0
  have z1 := o1
  have hw := aw jR
  have hh := ah jR
  have lai : X.1 11 6 = R.1 163 92 := zs.2.2.2.1
  have hb := zv.2.1
  obtain ⟨m, hm⟩ := ti_ofn hb.1
  have hmx : (X.1 11 6).toInt = (m : Int) := by rw [lai]; exact hm
  have r4 : rf 11 4 = 16 := rfl
  have r5 : rf 11 5 = 17 := rfl
  unfold f_Mod_layPlank at er
  rw [show (92 : Int32).toNatClampNeg = 92 from rfl] at er
  have i1 : ((2 : Int32) * (R.1 163 92)).toInt = ((2 * m : Nat) : Int) := by rw [mul_ti o2 hm (by omega) (by omega)]; omega
  have i2 : ((80 : Int32) + ((2 : Int32) * (R.1 163 92))).toInt = ((80 + 2 * m : Nat) : Int) := by rw [add_ti z80 i1 (by omega) (by omega)]; omega
  have i3 : (((80 : Int32) + ((2 : Int32) * (R.1 163 92))) + (1 : Int32)).toInt = ((81 + 2 * m : Nat) : Int) := by rw [add_ti i2 o1 (by omega) (by omega)]; omega
  obtain ⟨_, er⟩ := io_n er
  obtain ⟨M1, m1, er⟩ := mo er
  obtain ⟨_, er⟩ := io_n er
  obtain ⟨M2, m2, er⟩ := mo er
  obtain ⟨M3, m3, er⟩ := mo er
  obtain rfl := Option.some.inj er
  rw [q_nat i2] at m1
  rw [q_nat i3] at m2
  have r92' : M2.1 163 92 = R.1 163 92 := by rw [m2, si_ne (by omega), m1, si_ne (by omega)]
  rw [r92'] at m3
  have fr : ∀ kx i, ¬ (kx = 163 ∧ (i = 80 + 2 * m ∨ i = 81 + 2 * m ∨ i = 92)) → M3.1 kx i = R.1 kx i := fun kx i h => by rw [m3, si_ne (by omega), m2, si_ne (by omega), m1, si_ne (by omega)]
  have ra : M3.1 163 (80 + 2 * m) = a := by rw [m3, si_ne (by omega), m2, si_ne (by omega), m1, si_eq]
  have rb : M3.1 163 (81 + 2 * m) = b := by rw [m3, si_ne (by omega), m2, si_eq]
  have r92 : M3.1 163 92 = R.1 163 92 + 1 := by rw [m3, si_eq]
  have w : (R.1 163 92 + (1 : Int32)).toInt = ((m + 1 : Nat) : Int) := add_ti hm o1 (by omega) (by omega)
  unfold f_Scene_addPlank at e8
  obtain ⟨_, e8⟩ := io_n e8
  rcases io e8 with ⟨_, e⟩ | ⟨_, e8⟩
  · exact absurd (by rw [← Option.some.inj e]) e80
  rcases io e8 with ⟨_, e8⟩ | ⟨_, e⟩
  rotate_left
  · exact absurd (by rw [← Option.some.inj e]) e80
  obtain ⟨_, e8⟩ := io_n e8
  obtain ⟨X1, x1, e8⟩ := mo e8
  rw [q_nat hmx, r4] at x1
  obtain ⟨_, e8⟩ := io_n e8
  obtain ⟨X2, x2, e8⟩ := mo e8
  have l1 : X1.1 11 6 = X.1 11 6 := by rw [x1, si_ne (by omega)]
  rw [l1, q_nat hmx, r5] at x2
  have l2 : X2.1 11 6 = X.1 11 6 := by rw [x2, si_ne (by omega), l1]
  obtain ⟨X3, x3, e8⟩ := mo e8
  rw [l2, lai] at x3
  have e8 := Option.some.inj e8
  rw [← e8] at e9
  have e9 : f_Nets_lay 32 11 (-1 : Int32) X3 = some x9 := e9
  have fx : ∀ kx i, ¬ (kx = 16 ∧ i = m) → ¬ (kx = 17 ∧ i = m) → ¬ (kx = 11 ∧ i = 6) → X3.1 kx i = X.1 kx i := fun kx i h g k => by rw [x3, si_ne k, x2, si_ne g, x1, si_ne h]
  have xa : X3.1 16 m = a := by rw [x3, si_ne (by omega), x2, si_ne (by omega), x1, si_eq]
  have xb : X3.1 17 m = b := by rw [x3, si_ne (by omega), x2, si_eq]
  have x6 : X3.1 11 6 = R.1 163 92 + 1 := by rw [x3, si_eq]
  have xq : X3.2 = X.2 := by rw [x3]; show X2.2 = _; rw [x2]; show X1.2 = _; rw [x1]; rfl
  have agx : AgX X X3 := ⟨fx 3 2 (by omega) (by omega) (by omega), fx 3 3 (by omega) (by omega) (by omega), fun i => fx 4 i (by omega) (by omega) (by omega), fx 6 4 (by omega) (by omega) (by omega), fx 6 5 (by omega) (by omega) (by omega), fun i => fx 7 i (by omega) (by omega) (by omega), fun i => fx 8 i (by omega) (by omega) (by omega), fx 40 4 (by omega) (by omega) (by omega), fun i => fx 41 i (by omega) (by omega) (by omega), fun i => fx 35 i (by omega) (by omega) (by omega), fun i => by rw [xq], fun i => by rw [xq]⟩
  have agr : AgR R M3 := ⟨fr 162 2 (by omega), fr 162 3 (by omega), fr 162 4 (by omega), fr 162 5 (by omega), fr 162 23 (by omega), fun i => fr 164 i (by omega), fun i => fr 165 i (by omega), fun i => fr 166 i (by omega), fun i => fr 172 i (by omega)⟩
  have sc : ∀ j i, j < 10 → j ≠ 6 → (j = 4 ∨ j = 5 → i ≠ m) → scn X3 11 j i = scn X 11 j i := by
    intro j i h10 h6 hj
    unfold scn
    by_cases g : j < 6
    · rw [if_pos g, if_pos g]; exact fx _ _ (by omega) (by omega) (by omega)
    · rw [if_neg g, if_neg g]; exact fx _ _ (by omega) (by omega) (by omega)
  have zs' : ZS (scn X3 11) (M3.1 163) n := by
    obtain ⟨h1, h2, h3, h4, h5, h6, h7, h8⟩ := zs
    refine ⟨fun p hp => ?_, fun p q hp hq => ?_, fun p q hp hq hh => ?_, ?_, fun j hj hl => ?_, ?_, ?_, ?_⟩
    · rw [fr 163 p (by omega), fr 163 (8 + p) (by omega), sc 0 p (by omega) (by omega) (by omega), sc 1 p (by omega) (by omega) (by omega), sc 2 p (by omega) (by omega) (by omega)]; exact h1 p hp
    · rw [fr 163 _ (by omega), sc 3 _ (by omega) (by omega) (by omega), sc 3 _ (by omega) (by omega) (by omega)]; exact h2 p q hp hq
    · rw [sc 3 _ (by omega) (by omega) (by omega)]; exact h3 p q hp hq hh
    · show X3.1 11 6 = M3.1 163 92
      rw [x6, r92]
    · rw [r92, w] at hl
      by_cases g : j = m
      · subst g
        rw [ra, rb]
        exact ⟨xa, xb⟩
      · rw [sc 4 j (by omega) (by omega) (by omega), sc 5 j (by omega) (by omega) (by omega), fr 163 _ (by omega), fr 163 _ (by omega)]; exact h5 j hj (by omega)
    · rw [sc 7 0 (by omega) (by omega) (by omega), fr 163 95 (by omega)]; exact h6
    · rw [sc 8 0 (by omega) (by omega) (by omega), fr 163 93 (by omega)]; exact h7
    · rw [sc 9 0 (by omega) (by omega) (by omega), fr 163 94 (by omega)]; exact h8
  have zv' : ZV M3 (M3.1 163) n := by
    have w1 : xw M3 = xw R := congrArg Int32.toInt agr.1
    have w2 : xh M3 = xh R := congrArg Int32.toInt agr.2.1
    obtain ⟨h1, h2, h3, h4⟩ := zv
    refine ⟨fun p hp => ?_, by rw [r92, w]; omega, by rw [fr 163 94 (by omega)]; exact h3, fun j hj => ?_⟩
    · rw [fr 163 p (by omega), fr 163 (8 + p) (by omega), agr.2.2.2.1, agr.2.2.2.2.2.2.2.1 p]
      obtain ⟨q1, q2⟩ := h1 p hp
      exact ⟨⟨q1.1, q1.2.1, (onN_a agr).mpr q1.2.2⟩, q2⟩
    · rw [r92, w] at hj
      by_cases g : j = m
      · subst g
        rw [ra, rb, w1, w2]
        obtain ⟨s, s0, s3, hs⟩ := bt_i hw hh oa.1 oa.2.1 ob.1 ob.2.1 nb
        have bi := (bb_i hw hh oa.1 oa.2.1 ⟨s0, s3⟩ (by rw [hs]; have := ob.1; omega)).1
        rw [hs] at bi
        obtain ⟨s', rfl⟩ : ∃ s' : Nat, s = (s' : Int) := ⟨s.toNat, by omega⟩
        exact ⟨(onN_a agr).mpr oa, (onN_a agr).mpr ob, s', by omega, hs, fun h => no (by rw [bi]; exact (onN_a agr).mp h)⟩
      · rw [fr 163 _ (by omega), fr 163 _ (by omega), w1, w2]
        obtain ⟨q1, q2, s, q3, q4, q5⟩ := h4 j (by omega)
        exact ⟨(onN_a agr).mpr q1, (onN_a agr).mpr q2, s, q3, q4, fun h => q5 ((onN_a agr).mp h)⟩
  obtain ⟨zq', hf, _, _⟩ := lay_q n8 jr (ZB_a agx agr zb) zs' zv' e9
  exact ⟨⟨zq', HFx_t ⟨⟨fun kx i w => fx kx i (by omega) (by omega) (by omega), fx 46 2 (by omega) (by omega) (by omega), fx 46 3 (by omega) (by omega) (by omega)⟩, fun i => by rw [xq], fun i => by rw [xq]⟩ hf, ⟨fr 162 27 (by omega), fr 162 48 (by omega), fun i => fr 173 i (by omega), fun i => fr 189 i (by omega), fun i => fr 190 i (by omega), fun i => fr 191 i (by omega)⟩, agr⟩, zq'.2.2.2.1.2.2.2.1⟩
theorem plank_2 {X R : Mem} {n : Nat} {a b : Int32} {x r : Int32 × Mem} (za : ZA X R n) (kk : KK R) (jr : J r.2) (ex : f_Top_plank a b X = some x) (er : f_Mod_plank a b R = some r) : x.1 = r.1 ∧ ZA x.2 r.2 n := by
  have jR := za.1.2.1
  have z0 := o0
  have z1 := o1
  unfold f_Top_plank at ex
  unfold f_Mod_plank at er
  rw [show (92 : Int32).toNatClampNeg = 92 from rfl] at er
  obtain ⟨X1, ex1, exa⟩ := bo ex
  obtain ⟨x2, ex2, exb⟩ := bo exa
  obtain ⟨M1, m1, era⟩ := mo er
  obtain ⟨y, ey, erb⟩ := bo era
  have j1 : J M1 := by rw [m1]; exact Jw_fld okf_162_13 jR _
  have zaM : ZA X M1 n := ZA_13 j1 (fun kx i h _ _ => by rw [m1, si_ne (by omega)]) za
  obtain ⟨zq1, _, _⟩ := copy_q (.inl rfl) zaM.1 ex1
  obtain ⟨c1, c2, c3⟩ := copy_i (v0 := 18) (v1 := 11) (by omega) ex1
  rcases ref_2 zq1 ex2 ey with ⟨hy, h⟩ | ⟨hy, oa, ob, nb, no, m5, x8, x9, e8, e80, e9, h⟩
  · rw [h, if_pos (Int32.lt_iff_toInt_lt.mpr (by show y.toInt < _; omega))] at exb
    have exb := Option.some.inj exb
    rw [if_neg (fun h => by have := q_le h; omega)] at erb
    have erb := Option.some.inj erb
    rw [← exb, ← erb]
    exact ⟨rfl, ZA_x (fun kx i h _ _ => c2 kx i (by omega)) c3 zaM⟩
  · subst hy
    rw [if_pos (by decide)] at erb
    obtain ⟨R1, er1, erc⟩ := bo erb
    obtain ⟨r4, er4, erd⟩ := bo erc
    have erd := Option.some.inj erd
    obtain ⟨zq', agr1, rf1⟩ := rem_q zaM (KK_13 jR kk m1) er1
    have zq1' : ZQ X1 R1 n := (copy_q (.inl rfl) zq' ex1).1
    have w1 : xw R1 = xw M1 := congrArg Int32.toInt agr1.1
    have w2 : xh R1 = xh M1 := congrArg Int32.toInt agr1.2.1
    have r1 : R1.1 163 92 = M1.1 163 92 := rf1 163 92 (by omega) (by omega)
    have j4 : J r4 := by rw [← erd] at jr; exact jr
    obtain ⟨cs, l⟩ := add_q zq1' j4 ((onN_a agr1).mpr oa) ((onN_a agr1).mpr ob) (by rw [w1, w2]; exact nb) (by rw [w1, w2]; exact fun h => no ((onN_a agr1).mp h)) (by rw [r1]; exact m5) e8 e80 e9 er4
    have b := cs.1.2.2.2.2.1.2.1
    have p9 : 0 < (r4.1 163 92).toInt := by
      unfold f_Mod_layPlank at er4
      rw [show (92 : Int32).toNatClampNeg = 92 from rfl] at er4
      obtain ⟨_, er4⟩ := io_n er4
      obtain ⟨N1, n1, er4⟩ := mo er4
      obtain ⟨_, er4⟩ := io_n er4
      obtain ⟨N2, n2, er4⟩ := mo er4
      obtain ⟨N3, n3, er4⟩ := mo er4
      obtain rfl := Option.some.inj er4
      obtain ⟨m, hm⟩ := ti_ofn zq1'.2.2.2.2.1.2.1.1
      have m5' : m ≤ 5 := by rw [r1] at hm; omega
      have z80 : (80 : Int32).toInt = 80 := rfl
      have i1 : ((2 : Int32) * (R1.1 163 92)).toInt = ((2 * m : Nat) : Int) := by rw [mul_ti o2 hm (by omega) (by omega)]; omega
      have i2 : ((80 : Int32) + ((2 : Int32) * (R1.1 163 92))).toInt = ((80 + 2 * m : Nat) : Int) := by rw [add_ti z80 i1 (by omega) (by omega)]; omega
      have i3 : (((80 : Int32) + ((2 : Int32) * (R1.1 163 92))) + (1 : Int32)).toInt = ((81 + 2 * m : Nat) : Int) := by rw [add_ti i2 o1 (by omega) (by omega)]; omega
      rw [q_nat i2] at n1
      rw [q_nat i3] at n2
      have r92' : N2.1 163 92 = R1.1 163 92 := by rw [n2, si_ne (by omega), n1, si_ne (by omega)]
      rw [n3, si_eq, r92', add_ti hm o1 (by omega) (by omega)]
      omega
    rw [h, if_neg (fun h => by
      have h1 := q_lt h
      have h2 : ((x9.1 11 6) - (1 : Int32)).toInt = (r4.1 163 92).toInt - 1 := by rw [l]; exact sub_ti rfl o1 (by omega) (by omega)
      have h1 : ((x9.1 11 6) - (1 : Int32)).toInt < (0 : Int32).toInt := h1
      omega)] at exb
    obtain ⟨x3, ex3, exc⟩ := bo exb
    have exc := Option.some.inj exc
    have W := with_hist zaM ex1 er1 cs ex3
    rw [← exc, ← erd]
    exact ⟨by show x9.1 11 6 - 1 = r4.1 163 92 - 1; rw [l], W⟩
