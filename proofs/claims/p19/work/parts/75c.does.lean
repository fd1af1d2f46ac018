/-! an evening's acts done, both sides -/
theorem CS_33 {X R x r r' : Mem} {n : Nat} {w : Int32} (cs : CS X R n x r) (e : r' = s_i r 162 33 w) : CS X R n x r' := by
  have f : ∀ kx i, ¬ (kx = 162 ∧ i = 33) → r'.1 kx i = r.1 kx i := fun kx i h => by rw [e, si_ne h]
  obtain ⟨⟨n8, jR, zb, zs, zv, zw⟩, hx, hr, ag⟩ := cs
  have ag2 : AgR r r' := ⟨f 162 2 (by omega), f 162 3 (by omega), f 162 4 (by omega), f 162 5 (by omega), f 162 23 (by omega), fun i => f 164 i (by omega), fun i => f 165 i (by omega), fun i => f 166 i (by omega), fun i => f 172 i (by omega)⟩
  refine ⟨⟨n8, by rw [e]; exact Jw_fld okf_162_33 jR _, ZB_a AgX_r ag2 zb, ZS_c n8 SEq_r (fun i _ => (f 163 i (by omega)).symm) zs, ZV_a n8 ag2 (fun i _ => f 163 i (by omega)) zv, ZW_a AgX_r ag2 (plk_c (fun i _ _ => f 163 i (by omega)) zv.2.1.2) zw⟩, hx, HFr_t hr ⟨f 162 27 (by omega), f 162 48 (by omega), fun i => f 173 i (by omega), fun i => f 189 i (by omega), fun i => f 190 i (by omega), fun i => f 191 i (by omega)⟩, AgR_t ag ag2⟩
theorem cel_2 {X R : Mem} {n : Nat} {v y : Int32} {x : Int32 × Mem} (zq : ZQ X R n) (hv : 0 ≤ v.toInt ∧ v.toInt ≤ 1) (ex : f_Top_celebrate v X = some x) (ey : f_Mod_canFeast v R = some y) : (x = (0, X) ∧ y = 0) ∨ (x.1 = 1 ∧ y = 1 ∧ x.2.1 45 4 = X.1 45 4 ∧ ∀ r, f_Mod_goFeast v R = some r → CS X R n x.2 r) := by
  have z0 := o0
  have z1 := o1
  unfold f_Mod_canFeast at ey
  rw [show (94 : Int32).toNatClampNeg = 94 from rfl] at ey
  obtain ⟨y2, ey2, ey⟩ := bo ey
  have h2 := some_of (sp_in v 0 1) ey2
  rw [o0, o1] at h2
  rcases h2 with ⟨h, _⟩ | ⟨_, h⟩
  rotate_left
  · exact absurd hv h
  rw [h, if_neg (by decide)] at ey
  have fx := wf_Top_celebrate v X (L := []) (sb_r _) Fx_r ex
  have f45 : x.2.1 45 4 = X.1 45 4 := (fx 45 4 (by decide +kernel) (by simp)).1
  unfold f_Top_celebrate at ex
  have fl : X.1 11 9 = R.1 163 94 := zq.2.2.2.1.2.2.2.2.2.2.2
  rw [fl] at ex
  have go : ∀ A B : Mem, A = s_i X 11 9 v → iter (lb_Top_celebrate_34 v) FU ((0 : Int32), A) = some B → some ((1 : Int32), B) = some x → some (1 : Int32) = some y → (x = (0, X) ∧ y = 0) ∨ (x.1 = 1 ∧ y = 1 ∧ x.2.1 45 4 = X.1 45 4 ∧ ∀ r, f_Mod_goFeast v R = some r → CS X R n x.2 r) := by
    intro A B hA eB e2 ey
    have e2 := Option.some.inj e2
    have ey := Option.some.inj ey
    refine .inr ⟨by rw [← e2], ey.symm, f45, fun r er => ?_⟩
    unfold f_Mod_goFeast at er
    obtain ⟨N, hN, er⟩ := mo er
    obtain ⟨K, eK, er⟩ := bo er
    have er := Option.some.inj er
    subst er
    rw [← e2]
    have f1 := flag_q zq hv hA hN
    exact CS_t f1 (loopF f1.1 hv eB eK)
  rcases io ex with ⟨g, ex⟩ | ⟨g, ex⟩
  · rw [if_pos g] at ey
    exact .inl ⟨(Option.some.inj ex).symm, (Option.some.inj ey).symm⟩
  rw [if_neg g] at ey
  rcases io ex with ⟨g0, ex⟩ | ⟨g0, ex⟩
  · rw [if_neg (by rw [g0]; decide)] at ey
    obtain ⟨a, ea, ex⟩ := bo ex
    rcases astray_2 zq ea ey with ⟨ha, hy⟩ | ⟨ha, hy⟩
    · rw [ha, if_pos rfl] at ex
      obtain ⟨A, hA, ex⟩ := mo ex
      obtain ⟨B, eB, ex⟩ := bo ex
      exact go A B hA eB ex (by rw [hy])
    · rw [ha, if_neg (by decide)] at ex
      exact .inl ⟨(Option.some.inj ex).symm, hy⟩
  · have v0 : v.toInt ≠ 0 := fun h => g0 (Int32.toInt_inj.mp h)
    have v1 : v = 1 := Int32.toInt_inj.mp (by omega)
    rw [if_pos v1] at ey
    obtain ⟨A, hA, ex⟩ := mo ex
    obtain ⟨B, eB, ex⟩ := bo ex
    exact go A B hA eB ex ey
theorem lasts_2 {X R : Mem} {n : Nat} {v : Int32} {x y : Mem} (zq : ZQ X R n) (h4 : X.1 45 4 = R.1 162 33) (ex : iter (lb_Top_lasts_10 v) FU ((0 : Int32), X) = some x) (ey : iter (lb_Mod_act_66 v) FU ((0 : Int32), R) = some y) : CS X R n x y ∧ x.1 45 4 = y.1 162 33 := by
  refine it_2 (I := fun (s t : Int32 × Mem) => s.1 = t.1 ∧ CS X R n s.2 t.2 ∧ s.2.1 45 4 = t.2.1 162 33) (Q := fun (x y : Mem) => CS X R n x y ∧ x.1 45 4 = y.1 162 33) ?_ ex ey ⟨rfl, CS_r zq, h4⟩
  rintro ⟨i, N⟩ ⟨i', T⟩ A B ⟨hi, cs, h5⟩ eA eB
  dsimp only at hi cs h5
  subst hi
  unfold lb_Top_lasts_10 at eA
  unfold lb_Mod_act_66 at eB
  dsimp only at eA eB
  rcases io eA with ⟨g, eA⟩ | ⟨g, eA⟩
  · rw [if_pos g] at eB
    obtain rfl := Option.some.inj eA
    obtain rfl := Option.some.inj eB
    exact .inr ⟨_, _, rfl, rfl, cs, h5⟩
  · rw [if_neg g] at eB
    obtain ⟨z3, ez3, eA⟩ := bo eA
    obtain rfl := Option.some.inj eA
    obtain ⟨w3, ew3, eB⟩ := bo eB
    obtain ⟨M5, m5, eB⟩ := mo eB
    obtain rfl := Option.some.inj eB
    obtain ⟨cs2, pp⟩ := pass_q cs.1 ez3 ew3
    have g33 : w3.1 162 33 = T.1 162 33 := (wf_Mod_goMinute 163 T (C := mG163) (L := []) (by decide +kernel) (oc_c (sb_r _) (by decide +kernel)) Fx_r ew3 162 33 (by decide +kernel) (by simp)).1
    refine .inl ⟨_, _, rfl, rfl, rfl, CS_33 (CS_t cs cs2) m5, ?_⟩
    show z3.1 45 4 = M5.1 162 33
    rw [m5, si_eq, pp.2.2.2.2.2.2.2.2.2.2, pp.2.2.2.2.2.2.2.1, h5, g33]
theorem lp_pos {X R r : Mem} {n : Nat} {a b : Int32} (zq : ZQ X R n) (m5 : (R.1 163 92).toInt ≤ 5) (er4 : f_Mod_layPlank a b R = some r) : 0 < (r.1 163 92).toInt := by
  unfold f_Mod_layPlank at er4
  rw [show (92 : Int32).toNatClampNeg = 92 from rfl] at er4
  obtain ⟨_, er4⟩ := io_n er4
  obtain ⟨N1, n1, er4⟩ := mo er4
  obtain ⟨_, er4⟩ := io_n er4
  obtain ⟨N2, n2, er4⟩ := mo er4
  obtain ⟨N3, n3, er4⟩ := mo er4
  obtain rfl := Option.some.inj er4
  obtain ⟨m, hm⟩ := ti_ofn zq.2.2.2.2.1.2.1.1
  have z80 : (80 : Int32).toInt = 80 := rfl
  have i1 : ((2 : Int32) * (R.1 163 92)).toInt = ((2 * m : Nat) : Int) := by rw [mul_ti o2 hm (by omega) (by omega)]; omega
  have i2 : ((80 : Int32) + ((2 : Int32) * (R.1 163 92))).toInt = ((80 + 2 * m : Nat) : Int) := by rw [add_ti z80 i1 (by omega) (by omega)]; omega
  have i3 : (((80 : Int32) + ((2 : Int32) * (R.1 163 92))) + (1 : Int32)).toInt = ((81 + 2 * m : Nat) : Int) := by rw [add_ti i2 o1 (by omega) (by omega)]; omega
  rw [q_nat i2] at n1
  rw [q_nat i3] at n2
  have r92' : N2.1 163 92 = R.1 163 92 := by rw [n2, si_ne (by omega), n1, si_ne (by omega)]
  rw [n3, si_eq, r92', add_ti hm o1 (by omega) (by omega)]
  omega
def AD (j : Nat) (X S : Mem) : Prop := ∀ i, i < j → X.1 148 i = S.1 175 (3 * i) ∧ ((X.1 148 i).toInt = 109 ∨ (X.1 148 i).toInt = 110 ∨ (X.1 148 i).toInt = 112 ∨ (X.1 148 i).toInt = 120 ∨ (X.1 148 i).toInt = 102) ∧ (((X.1 148 i).toInt = 109 ∨ (X.1 148 i).toInt = 110 ∨ (X.1 148 i).toInt = 112) → X.1 149 i = S.1 175 (3 * i + 1)) ∧ ((X.1 148 i).toInt = 112 → X.1 150 i = S.1 175 (3 * i + 2))
theorem does_2 {X R : Mem} {n d L : Nat} {v w : Int32} {x r : Int32 × Mem} (zq : ZQ X R n) (h4 : X.1 45 4 = R.1 162 33) (hv : v.toInt = (d : Int)) (d32 : d < 32) (hw : w.toInt = ((3 * d : Nat) : Int)) (ad : AD L X R) (dL : d < L) (ex : f_Top_does v X = some x) (er : f_Mod_act w R = some r) : ((x.1 = 0 ∧ r.1 = 0) ∨ (¬ x.1 = 0 ∧ ¬ r.1 = 0)) ∧ CS X R n x.2 r.2 ∧ x.2.1 45 4 = r.2.1 162 33 := by
  have z0 := o0
  have z1 := o1
  have k102 : (102 : Int32).toInt = 102 := rfl
  have k109 : (109 : Int32).toInt = 109 := rfl
  have k110 : (110 : Int32).toInt = 110 := rfl
  have k112 : (112 : Int32).toInt = 112 := rfl
  have k120 : (120 : Int32).toInt = 120 := rfl
  have k32 : (32 : Int32).toInt = 32 := rfl
  have i1 : (w + (1 : Int32)).toInt = ((3 * d + 1 : Nat) : Int) := add_ti hw o1 (by omega) (by omega)
  have i2 : (w + (2 : Int32)).toInt = ((3 * d + 2 : Nat) : Int) := add_ti hw o2 (by omega) (by omega)
  obtain ⟨e0, kinds, e1, e2⟩ := ad d dL
  unfold f_Top_does at ex
  rcases io ex with ⟨c, _⟩ | ⟨_, ex⟩
  · have := q_lt c; omega
  rcases io ex with ⟨_, ex⟩ | ⟨c, _⟩
  rotate_left
  · have := q_nl c; omega
  obtain ⟨_, ex⟩ := io_n ex
  rw [q_nat hv] at ex
  unfold f_Mod_act at er
  obtain ⟨_, er⟩ := io_n er
  obtain ⟨_, er⟩ := io_n er
  rw [q_nat hw, q_nat i1, show (93 : Int32).toNatClampNeg = 93 from rfl, show (92 : Int32).toNatClampNeg = 92 from rfl, show (94 : Int32).toNatClampNeg = 94 from rfl, ← e0] at er
  rcases io ex with ⟨c, ex⟩ | ⟨c, ex⟩
  · -- a feast
    have cc := q_eq c
    rw [if_neg (fun h => by have := q_eq h; omega), if_neg (fun h => by have := q_eq h; omega), if_neg (fun h => by have := q_eq h; omega), if_neg (fun h => by have := q_eq h; omega)] at er
    obtain ⟨x1, ex1, ex⟩ := bo ex
    obtain ⟨_, ex⟩ := io_n ex
    obtain rfl := Option.some.inj ex
    obtain ⟨y1, ey1, er⟩ := bo er
    have fl : X.1 11 9 = R.1 163 94 := zq.2.2.2.1.2.2.2.2.2.2.2
    have fb := zq.2.2.2.2.1.2.2.1
    rw [fl] at ex1
    have hb : ((1 : Int32) - (R.1 163 94)).toInt = 1 - (R.1 163 94).toInt := sub_ti o1 rfl (by omega) (by omega)
    rcases cel_2 zq (by omega) ex1 ey1 with ⟨g1, g2⟩ | ⟨g1, g2, g3, g4⟩
    · rw [g2, if_pos rfl] at er
      obtain rfl := Option.some.inj er
      rw [g1]
      exact ⟨.inl ⟨rfl, rfl⟩, CS_r zq, h4⟩
    · rw [g2, if_neg (by decide)] at er
      obtain ⟨y2, ey2, er⟩ := bo er
      obtain rfl := Option.some.inj er
      refine ⟨.inr ⟨by show ¬ x1.1 = 0; rw [g1]; decide, by show ¬ (1 : Int32) = 0; decide⟩, g4 y2 ey2, ?_⟩
      show x1.2.1 45 4 = y2.1 162 33
      rw [g3, h4]
      have fr := wf_Mod_goFeast _ R (L := []) (sb_r _) Fx_r ey2
      exact ((fr 162 33 (by decide +kernel) (by simp)).1).symm
  have n1 := q_ne c
  rcases io ex with ⟨c, ex⟩ | ⟨c, ex⟩
  · -- minutes
    have cc := q_eq c
    rw [if_pos c] at er
    obtain ⟨_, ex⟩ := io_n ex
    obtain ⟨x3, ex3, ex⟩ := bo ex
    obtain ⟨_, ex⟩ := io_n ex
    obtain rfl := Option.some.inj ex
    rw [← e1 (by omega)] at er
    unfold f_Top_lasts at ex3
    rcases io ex3 with ⟨g, ex3⟩ | ⟨g, ex3⟩
    · rw [if_pos g] at er
      obtain ⟨y7, ey7, er⟩ := bo er
      obtain rfl := Option.some.inj er
      obtain ⟨x4, ex4, ex3⟩ := bo ex3
      obtain rfl := Option.some.inj ex3
      obtain ⟨cs, h5⟩ := lasts_2 zq h4 ex4 ey7
      exact ⟨.inr ⟨by show ¬ (1 : Int32) = 0; decide, by show ¬ (1 : Int32) = 0; decide⟩, cs, h5⟩
    · rw [if_neg g] at er
      obtain rfl := Option.some.inj er
      obtain rfl := Option.some.inj ex3
      exact ⟨.inl ⟨rfl, rfl⟩, CS_r zq, h4⟩
  have n2 := q_ne c
  rw [if_neg c] at er
  rcases io ex with ⟨c, ex⟩ | ⟨c, ex⟩
  · -- the news
    have cc := q_eq c
    rw [if_pos c] at er
    obtain ⟨_, ex⟩ := io_n ex
    obtain ⟨x5, ex5, ex⟩ := bo ex
    obtain ⟨_, ex⟩ := io_n ex
    obtain rfl := Option.some.inj ex
    rw [← e1 (by omega)] at er
    obtain ⟨y10, ey10, er⟩ := bo er
    rcases give_2 zq ex5 ey10 with ⟨g1, g2, g3⟩ | ⟨g1, g2, g3⟩
    · rw [if_pos g2] at er
      obtain rfl := Option.some.inj er
      show ((x5.1 = 0 ∧ _) ∨ _) ∧ CS X R n x5.2 R ∧ x5.2.1 45 4 = R.1 162 33
      rw [g3]
      exact ⟨.inl ⟨g1, rfl⟩, CS_r zq, h4⟩
    · rw [if_neg g2] at er
      obtain ⟨M11, m11, er⟩ := mo er
      obtain rfl := Option.some.inj er
      have cs := give_q (v := X.1 149 d) zq
      rw [← g3, ← m11] at cs
      refine ⟨.inr ⟨g1, by show ¬ (1 : Int32) = 0; decide⟩, cs, ?_⟩
      show x5.2.1 45 4 = M11.1 162 33
      rw [g3, si_ne (by omega), m11, si_ne (by omega)]; exact h4
  have n3 := q_ne c
  rw [if_neg c] at er
  rcases io ex with ⟨c, ex⟩ | ⟨c, ex⟩
  · -- a plank
    have cc := q_eq c
    rw [if_pos c] at er
    obtain ⟨_, ex⟩ := io_n ex
    obtain ⟨_, ex⟩ := io_n ex
    obtain ⟨x7, ex7, ex⟩ := bo ex
    obtain ⟨_, er⟩ := io_n er
    rw [q_nat i2, ← e1 (by omega), ← e2 (by omega)] at er
    obtain ⟨y14, ey14, er⟩ := bo er
    rcases ref_2 zq ex7 ey14 with ⟨hy, h⟩ | ⟨hy, oa, ob, nb, no, m5, x8, x9, e8, e80, e9, h⟩
    · rw [if_neg (fun h => by have := q_le h; omega)] at er
      obtain rfl := Option.some.inj er
      rw [h, if_pos (Int32.lt_iff_toInt_lt.mpr (by show y14.toInt < _; omega))] at ex
      obtain rfl := Option.some.inj ex
      exact ⟨.inl ⟨rfl, rfl⟩, CS_r zq, h4⟩
    · subst hy
      rw [if_pos (by decide)] at er
      obtain ⟨_, er⟩ := io_n er
      obtain ⟨y15, ey15, er⟩ := bo er
      obtain rfl := Option.some.inj er
      have wh := awh zq.2.1
      have j15 := (some_of (fs_layPlank _ _ zq.2.1 ⟨oa.1, by have := oa.2.1; omega⟩ ⟨ob.1, by have := ob.2.1; omega⟩ m5 (KP_v zq.2.2.2.2.1) oa ob) ey15).1
      obtain ⟨cs, l⟩ := add_q zq j15 oa ob nb no m5 e8 e80 e9 ey15
      have fxl := wf_Top_lay _ _ X (L := []) (sb_r _) Fx_r ex7
      have frl := wf_Mod_layPlank _ _ R (L := []) (sb_r _) Fx_r ey15
      have hx7 : x7.2 = x9 := by rw [h]
      have c45 : x9.1 45 4 = y15.1 162 33 := by
        rw [← hx7, (fxl 45 4 (by decide +kernel) (by simp)).1, h4]
        exact ((frl 162 33 (by decide +kernel) (by simp)).1).symm
      have p9 := lp_pos zq m5 ey15
      have b := cs.1.2.2.2.2.1.2.1
      rw [h, if_neg (fun h => by
        have h1 := q_lt h
        have h2 : ((x9.1 11 6) - (1 : Int32)).toInt = (y15.1 163 92).toInt - 1 := by rw [l]; exact sub_ti rfl o1 (by omega) (by omega)
        have h1 : ((x9.1 11 6) - (1 : Int32)).toInt < (0 : Int32).toInt := h1
        omega)] at ex
      obtain rfl := Option.some.inj ex
      exact ⟨.inr ⟨by show ¬ (1 : Int32) = 0; decide, by show ¬ (1 : Int32) = 0; decide⟩, cs, c45⟩
  have n4 := q_ne c
  rw [if_neg c] at er
  have c120 : (X.1 148 d).toInt = 120 := by omega
  rw [if_pos (Int32.toInt_inj.mp (by rw [c120]; rfl))] at ex
  rw [if_pos (Int32.toInt_inj.mp (by rw [c120]; rfl))] at er
  obtain ⟨x10, ex10, ex⟩ := bo ex
  obtain ⟨_, ex⟩ := io_n ex
  obtain rfl := Option.some.inj ex
  have la : X.1 11 6 = R.1 163 92 := zq.2.2.2.1.2.2.2.1
  have lb := zq.2.2.2.2.1.2.1
  have fxl := wf_Top_lift X (L := []) (sb_r _) Fx_r ex10
  unfold f_Top_lift at ex10
  rw [la] at ex10
  rcases io ex10 with ⟨g, ex10⟩ | ⟨g, ex10⟩
  · have g1 := q_lt g
    rw [if_neg (fun h => by have := q_eq h; omega)] at er
    obtain ⟨M18, m18, er⟩ := mo er
    obtain rfl := Option.some.inj er
    obtain ⟨N1, q1, ex10⟩ := mo ex10
    obtain ⟨x2, ex2, ex10⟩ := bo ex10
    have h10 := Option.some.inj ex10
    subst h10
    rw [q1] at ex2
    have cs := lift_q zq (by omega) (sub_ti rfl o1 (by omega) (by omega)) ex2 m18 (w' := 0)
    refine ⟨.inr ⟨by show ¬ (1 : Int32) = 0; decide, by show ¬ (1 : Int32) = 0; decide⟩, cs, ?_⟩
    show x2.1 45 4 = M18.1 162 33
    rw [(fxl 45 4 (by decide +kernel) (by simp)).1, m18, si_ne (by omega)]; exact h4
  · have g1 := q_nl g
    rw [if_pos (Int32.toInt_inj.mp (by omega))] at er
    obtain rfl := Option.some.inj er
    obtain rfl := Option.some.inj ex10
    exact ⟨.inl ⟨rfl, rfl⟩, CS_r zq, h4⟩
