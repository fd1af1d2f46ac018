section
/-! a plank laid -/
theorem has_j {X R : Mem} (z : ZG X R) (jR : J R) {c x : Int32} (e : f_Ground_has c X = some x) : (x = 1 ∧ 0 ≤ c.toInt ∧ c.toInt < xw R * xh R) ∨ (x = 0 ∧ ¬ (0 ≤ c.toInt ∧ c.toInt < xw R * xh R)) := by
  obtain ⟨z1, z2, z3, z4⟩ := z
  have wh := awh jR
  have z0 := o0
  have z36 : (36 : Int32).toInt = 36 := rfl
  unfold f_Ground_has at e
  rcases io e with ⟨k, e⟩ | ⟨k, e⟩
  · obtain rfl := Option.some.inj e; have := q_lt k; exact .inr ⟨rfl, by omega⟩
  have k1 := q_nl k
  rcases io e with ⟨k, e⟩ | ⟨k, e⟩
  · obtain rfl := Option.some.inj e; have := q_le k; exact .inr ⟨rfl, by omega⟩
  have k2 := q_ng k
  rcases io e with ⟨k, e⟩ | ⟨k, e⟩
  · have := q_le k; omega
  obtain rfl := Option.some.inj e
  exact .inl ⟨rfl, by omega, by omega⟩
theorem planksAt_i {X : Mem} {m : Nat} {c x : Int32} (hm : (X.1 11 6).toInt = (m : Int)) (m6 : m ≤ 6) (e : f_Scene_planksAt 11 c X = some x) (d : Nat) : bt x d = true ↔ d < m ∧ (X.1 16 d = c ∨ X.1 17 d = c) := by
  have z6 : (6 : Int32).toInt = 6 := rfl
  have r4 : rf 11 4 = 16 := rfl
  have r5 : rf 11 5 = 17 := rfl
  unfold f_Scene_planksAt at e
  obtain ⟨_, e⟩ := io_n e
  obtain ⟨y, ey, e⟩ := bo e
  obtain rfl := Option.some.inj e
  revert d
  refine it_r (I := fun s : Int32 × Int32 => ∃ p : Nat, p ≤ m ∧ s.2.toInt = (p : Int) ∧ ∀ d, bt s.1 d = true ↔ d < p ∧ (X.1 16 d = c ∨ X.1 17 d = c)) (Q := fun x : Int32 => ∀ d, bt x d = true ↔ d < m ∧ (X.1 16 d = c ∨ X.1 17 d = c)) ?_ ey ⟨0, by omega, rfl, fun d => ⟨fun h => absurd h (by rw [bt_0]; decide), fun h => absurd h.1 (by omega)⟩⟩
  rintro ⟨v, k⟩ r ⟨p, lp, hp, h⟩ e
  unfold lb_Scene_planksAt_4 at e
  dsimp only at hp h e
  rcases io e with ⟨g, e⟩ | ⟨g, e⟩
  · have := q_le g
    obtain rfl := Option.some.inj e
    have : p = m := by omega
    subst this; exact h
  have g1 := q_ng g
  rcases io e with ⟨g, e⟩ | ⟨g, e⟩
  · have := q_le g; omega
  obtain ⟨_, e⟩ := io_n e
  rw [q_nat hp, r4, r5] at e
  have nx : (k + (1 : Int32)).toInt = ((p + 1 : Nat) : Int) := add_ti hp o1 (by omega) (by omega)
  have yes : (X.1 16 p = c ∨ X.1 17 p = c) → ∀ d, bt (v ||| ((1 : Int32) <<< (k &&& 31))) d = true ↔ d < p + 1 ∧ (X.1 16 d = c ∨ X.1 17 d = c) := by
    intro hc d
    rw [bt_b1 _ hp (by omega), Bool.or_eq_true, decide_eq_true_iff, h d]
    constructor
    · rintro (⟨a, b⟩ | rfl)
      · exact ⟨by omega, b⟩
      · exact ⟨by omega, hc⟩
    · rintro ⟨a, b⟩
      by_cases q : d = p
      · exact .inr q
      · exact .inl ⟨by omega, b⟩
  rcases io e with ⟨g, e⟩ | ⟨g, e⟩
  · obtain rfl := Option.some.inj e
    exact ⟨p + 1, by omega, nx, yes (.inl g)⟩
  obtain ⟨_, e⟩ := io_n e
  rcases io e with ⟨g2, e⟩ | ⟨g2, e⟩
  · obtain rfl := Option.some.inj e
    exact ⟨p + 1, by omega, nx, yes (.inr g2)⟩
  · obtain rfl := Option.some.inj e
    refine ⟨p + 1, by omega, nx, fun d => ?_⟩
    show bt v d = true ↔ _
    rw [h d]
    constructor
    · rintro ⟨a, b⟩; exact ⟨by omega, b⟩
    · rintro ⟨a, b⟩
      by_cases q : d = p
      · subst q; rcases b with b | b
        · exact absurd b g
        · exact absurd b g2
      · exact ⟨by omega, b⟩
theorem bt_ex {x : Int32} (h : x ≠ 0) : ∃ d, bt x d = true := by
  by_cases g : ∃ d, bt x d = true
  · exact g
  · refine absurd (bt_ext fun d _ => ?_) h
    rw [bt_0]
    cases hb : bt x d with
    | false => rfl
    | true => exact absurd ⟨d, hb⟩ g
theorem hasPlank_i {X R : Mem} {n : Nat} (zs : ZS (scn X 11) (R.1 163) n) (hb : 0 ≤ (R.1 163 92).toInt ∧ (R.1 163 92).toInt ≤ 6) {a b x : Int32} (hab : a ≠ b) (e : f_Scene_hasPlank 11 a b X = some x) : (x = 1 ∧ plk R 163 a.toInt b.toInt) ∨ (x = 0 ∧ ¬ plk R 163 a.toInt b.toInt) := by
  obtain ⟨m, hm⟩ := ti_ofn hb.1
  have lai : X.1 11 6 = R.1 163 92 := zs.2.2.2.1
  have m6 : m ≤ 6 := by omega
  unfold f_Scene_hasPlank at e
  obtain ⟨_, e⟩ := io_n e
  obtain ⟨x1, e1, e⟩ := bo e
  obtain ⟨x2, e2, e⟩ := bo e
  have A := planksAt_i (by rw [lai]; exact hm) m6 e1
  have B := planksAt_i (by rw [lai]; exact hm) m6 e2
  have P := pd_plk zs hm m6 a.toInt b.toInt
  rcases io e with ⟨g, e⟩ | ⟨g, e⟩
  · obtain rfl := Option.some.inj e
    refine .inr ⟨rfl, fun h => ?_⟩
    obtain ⟨j, hj, h⟩ := P.mpr h
    have q : bt (x1 &&& x2) j = true := by
      rw [bt_and, Bool.and_eq_true, A j, B j]
      rcases h with ⟨h1, h2⟩ | ⟨h1, h2⟩
      · exact ⟨⟨hj, .inl (Int32.toInt_inj.mp h1)⟩, hj, .inr (Int32.toInt_inj.mp h2)⟩
      · exact ⟨⟨hj, .inr (Int32.toInt_inj.mp h1)⟩, hj, .inl (Int32.toInt_inj.mp h2)⟩
    rw [g, bt_0] at q; cases q
  · obtain rfl := Option.some.inj e
    obtain ⟨j, hj⟩ := bt_ex g
    rw [bt_and, Bool.and_eq_true, A j, B j] at hj
    obtain ⟨⟨jm, h1⟩, _, h2⟩ := hj
    refine .inl ⟨rfl, P.mp ⟨j, jm, ?_⟩⟩
    rcases h1 with h1 | h1
    · rcases h2 with h2 | h2
      · exact absurd (h1.symm.trans h2) hab
      · exact .inl ⟨congrArg _ h1, congrArg _ h2⟩
    · rcases h2 with h2 | h2
      · exact .inr ⟨congrArg _ h1, congrArg _ h2⟩
      · exact absurd (h1.symm.trans h2) hab
theorem btw_self {w h a : Int} : btw w h a a = -1 := by
  unfold btw
  rw [if_neg (by omega)]
/-- what refuses a plank, both sides -/
theorem ref_2 {X R : Mem} {n : Nat} {a b y : Int32} {x : Int32 × Mem} (zq : ZQ X R n) (ex : f_Top_lay a b X = some x) (er : f_Mod_plankRefusal a b R = some y) : (y.toInt < 0 ∧ x = (y, X)) ∨ (y = 0 ∧ onN R 1 a.toInt ∧ onN R 1 b.toInt ∧ btw (xw R) (xh R) a.toInt b.toInt ≠ -1 ∧ ¬ onN R 1 (btw (xw R) (xh R) a.toInt b.toInt) ∧ (R.1 163 92).toInt ≤ 5 ∧ ∃ x8 x9, f_Scene_addPlank 11 a b X = some x8 ∧ x8.1 ≠ 0 ∧ f_Nets_lay 32 11 (-1 : Int32) x8.2 = some x9 ∧ x = ((x9.1 11 6) - (1 : Int32), x9)) := by
  obtain ⟨n8, jR, zb, zs, zv, zw⟩ := zq
  have zg := zb.1
  have z6 : (6 : Int32).toInt = 6 := rfl
  have z0 := o0
  have y1 := o1
  have lai : X.1 11 6 = R.1 163 92 := zs.2.2.2.1
  have hb := zv.2.1
  have no : ∀ w : Int32, w.toInt < 0 → some (w, X) = some x → some w = some y → (y.toInt < 0 ∧ x = (y, X)) := by
    intro w hw e1 e2
    obtain rfl := Option.some.inj e2
    exact ⟨hw, (Option.some.inj e1).symm⟩
  unfold f_Top_lay at ex
  unfold f_Mod_plankRefusal at er
  rw [show (92 : Int32).toNatClampNeg = 92 from rfl] at er
  obtain ⟨x1, ex1, ex⟩ := bo ex
  obtain ⟨y1, ey1, er⟩ := bo er
  have A1 := has_j zg jR ex1
  have B1 := some_of (sp_isCell jR a) ey1
  rcases A1 with ⟨rfl, a1, a2⟩ | ⟨rfl, a1⟩
  rotate_left
  · rcases B1 with ⟨rfl, b1, b2, b3⟩ | ⟨rfl, b1⟩
    · exact absurd ⟨b1, b3⟩ a1
    rw [if_pos rfl] at ex er
    exact .inl (no _ (by decide) ex er)
  rcases B1 with ⟨rfl, _, _, _⟩ | ⟨rfl, b1⟩
  rotate_left
  · exact absurd ⟨a1, a2⟩ b1
  rw [if_neg (by decide)] at ex er
  obtain ⟨x2, ex2, ex⟩ := bo ex
  obtain ⟨y2, ey2, er⟩ := bo er
  have A2 := has_j zg jR ex2
  have B2 := some_of (sp_isCell jR b) ey2
  rcases A2 with ⟨rfl, b1, b2⟩ | ⟨rfl, c1⟩
  rotate_left
  · rcases B2 with ⟨rfl, b1, b2, b3⟩ | ⟨rfl, b1⟩
    · exact absurd ⟨b1, b3⟩ c1
    rw [if_pos rfl] at ex er
    exact .inl (no _ (by decide) ex er)
  rcases B2 with ⟨rfl, _, _, _⟩ | ⟨rfl, c1⟩
  rotate_left
  · exact absurd ⟨b1, b2⟩ c1
  rw [if_neg (by decide)] at ex er
  obtain ⟨x3, ex3, ex⟩ := bo ex
  obtain ⟨y3, ey3, er⟩ := bo er
  have A3 := betweenC zg jR a1 a2 b1 b2 ex3
  unfold f_Mod_canBridge at ey3
  obtain ⟨y4, ey4, ey3⟩ := bo ey3
  have B3 := betweenR jR a1 a2 b1 b2 ey4
  have e34 : x3 = y4 := Int32.toInt_inj.mp (A3.trans B3.symm)
  subst e34
  have no2 : some ((-2 : Int32), X) = some x → some (0 : Int32) = some y3 → (y.toInt < 0 ∧ x = (y, X)) := by
    intro e1 e2
    obtain rfl := Option.some.inj e2
    rw [if_pos rfl] at er
    exact no _ (by decide) e1 er
  rcases io ex with ⟨g, ex⟩ | ⟨g, ex⟩
  · rw [if_pos g] at ey3
    exact .inl (no2 ex ey3)
  rw [if_neg g] at ey3
  have g3 : x3.toInt ≠ -1 := fun h => g (Int32.toInt_inj.mp h)
  obtain ⟨x4, ex4, ex⟩ := bo ex
  obtain ⟨y5, ey5, ey3⟩ := bo ey3
  have A4 := holdsC zg jR ex4
  have B4 := some_of (fs_isOf jR 1 a) ey5
  rcases B4 with ⟨rfl, p1⟩ | ⟨rfl, p1⟩
  rotate_left
  · rcases A4 with ⟨_, _, _, h⟩ | ⟨rfl, _⟩
    · exact absurd h p1
    rw [if_pos rfl] at ex ey3
    exact .inl (no2 ex ey3)
  rcases A4 with ⟨rfl, _⟩ | ⟨_, h⟩
  rotate_left
  · exact absurd ⟨by omega, by omega, p1⟩ h
  rw [if_neg (by decide)] at ex ey3
  obtain ⟨x5, ex5, ex⟩ := bo ex
  obtain ⟨y6, ey6, ey3⟩ := bo ey3
  have A5 := holdsC zg jR ex5
  have B5 := some_of (fs_isOf jR 1 b) ey6
  rcases B5 with ⟨rfl, p2⟩ | ⟨rfl, p2⟩
  rotate_left
  · rcases A5 with ⟨_, _, _, h⟩ | ⟨rfl, _⟩
    · exact absurd h p2
    rw [if_pos rfl] at ex ey3
    exact .inl (no2 ex ey3)
  rcases A5 with ⟨rfl, _⟩ | ⟨_, h⟩
  rotate_left
  · exact absurd ⟨by omega, by omega, p2⟩ h
  rw [if_neg (by decide)] at ex ey3
  obtain ⟨x6, ex6, ex⟩ := bo ex
  obtain ⟨y7, ey7, ey3⟩ := bo ey3
  have A6 := holdsC zg jR ex6
  have B6 := some_of (fs_isOf jR 1 x3) ey7
  rcases B6 with ⟨rfl, p3⟩ | ⟨rfl, p3⟩
  · rcases A6 with ⟨rfl, _⟩ | ⟨_, h⟩
    rotate_left
    · exact absurd ⟨by omega, by omega, p3⟩ h
    rw [if_neg (by decide)] at ex ey3
    exact .inl (no2 ex ey3)
  rcases A6 with ⟨_, _, _, h⟩ | ⟨rfl, _⟩
  · exact absurd h p3
  rw [if_pos rfl] at ex ey3
  obtain rfl := Option.some.inj ey3
  rw [if_neg (by decide)] at er
  rw [o1] at p1 p2 p3
  rw [A3] at p3 g3
  have hab : a ≠ b := fun h => g3 (by rw [h]; exact btw_self)
  obtain ⟨x7, ex7, ex⟩ := bo ex
  obtain ⟨y8, ey8, er⟩ := bo er
  have A7 := hasPlank_i zs hb hab ex7
  have B7 := some_of (fs_isPlank jR 163 (.inl rfl) a b) ey8
  rcases B7 with ⟨rfl, q⟩ | ⟨rfl, q⟩
  · rcases A7 with ⟨rfl, _⟩ | ⟨_, h⟩
    rotate_left
    · exact absurd q h
    rw [if_neg (by decide)] at ex er
    exact .inl (no _ (by decide) ex er)
  rcases A7 with ⟨_, h⟩ | ⟨rfl, _⟩
  · exact absurd h q
  rw [if_pos rfl] at ex er
  obtain ⟨x8, ex8, ex⟩ := bo ex
  by_cases m6 : R.1 163 92 = 6
  · rw [if_pos m6] at er
    unfold f_Scene_addPlank at ex8
    obtain ⟨_, ex8⟩ := io_n ex8
    rw [lai, m6, if_neg (by decide), if_neg (by decide)] at ex8
    obtain rfl := Option.some.inj ex8
    rw [if_pos rfl] at ex
    exact .inl (no _ (by decide) ex er)
  · rw [if_neg m6] at er
    have m5 : (R.1 163 92).toInt ≤ 5 := by have := q_ne m6; omega
    obtain rfl := Option.some.inj er
    have x81 : x8.1 ≠ 0 := by
      unfold f_Scene_addPlank at ex8
      obtain ⟨_, ex8⟩ := io_n ex8
      rcases io ex8 with ⟨k, _⟩ | ⟨_, ex8⟩
      · have := q_lt k; rw [lai] at this; omega
      rcases io ex8 with ⟨_, ex8⟩ | ⟨k, _⟩
      · obtain ⟨_, ex8⟩ := io_n ex8
        obtain ⟨_, _, ex8⟩ := mo ex8
        obtain ⟨_, ex8⟩ := io_n ex8
        obtain ⟨_, _, ex8⟩ := mo ex8
        obtain ⟨_, _, ex8⟩ := mo ex8
        obtain rfl := Option.some.inj ex8
        show (1 : Int32) ≠ 0
        decide
      · have := q_nl k; rw [lai] at this; omega
    rw [if_neg x81] at ex
    obtain ⟨x9, ex9, ex⟩ := bo ex
    exact .inr ⟨rfl, p1, p2, g3, p3, m5, x8, x9, ex8, x81, ex9, (Option.some.inj ex).symm⟩
end
section
/-! a plank added to both -/
theorem add_q {X R x9 r : Mem} {n : Nat} {a b : Int32} {x8 : Int32 × Mem} (zq : ZQ X R n) (jr : J r) (oa : onN R 1 a.toInt) (ob : onN R 1 b.toInt) (nb : btw (xw R) (xh R) a.toInt b.toInt ≠ -1) (no : ¬ onN R 1 (btw (xw R) (xh R) a.toInt b.toInt)) (m5 : (R.1 163 92).toInt ≤ 5) (e8 : f_Scene_addPlank 11 a b X = some x8) (e80 : x8.1 ≠ 0) (e9 : f_Nets_lay 32 11 (-1 : Int32) x8.2 = some x9) (er : f_Mod_layPlank a b R = some r) : CS X R n x9 r ∧ x9.1 11 6 = r.1 163 92 := by
  obtain ⟨n8, jR, zb, zs, zv, zw⟩ := zq
  have z6 : (6 : Int32).toInt = 6 := rfl
  have z80 : (80 : Int32).toInt = 80 := rfl
  have z0 := o0
  have z1 := o1
  have hw := aw jR
  have hh := ah jR
  have lai : X.1 11 6 = R.1 163 92 := zs.2.2.2.1
  have hb := zv.2.1
  obtain ⟨m, hm⟩ := ti_ofn hb.1
  have hmx : (X.1 11 6).toInt = (m : Int) := by rw [lai]; exact hm
  have r4 : rf 11 4 = 16 := rfl
  have r5 : rf 11 5 = 17 := rfl
  unfold f_Mod_layPlank at er
  rw [show (92 : Int32).toNatClampNeg = 92 from rfl] at er
  have i1 : ((2 : Int32) * (R.1 163 92)).toInt = ((2 * m : Nat) : Int) := by rw [mul_ti o2 hm (by omega) (by omega)]; omega
  have i2 : ((80 : Int32) + ((2 : Int32) * (R.1 163 92))).toInt = ((80 + 2 * m : Nat) : Int) := by rw [add_ti z80 i1 (by omega) (by omega)]; omega
  have i3 : (((80 : Int32) + ((2 : Int32) * (R.1 163 92))) + (1 : Int32)).toInt = ((81 + 2 * m : Nat) : Int) := by rw [add_ti i2 o1 (by omega) (by omega)]; omega
  obtain ⟨_, er⟩ := io_n er
  obtain ⟨M1, m1, er⟩ := mo er
  obtain ⟨_, er⟩ := io_n er
  obtain ⟨M2, m2, er⟩ := mo er
  obtain ⟨M3, m3, er⟩ := mo er
  obtain rfl := Option.some.inj er
  rw [q_nat i2] at m1
  rw [q_nat i3] at m2
  have r92' : M2.1 163 92 = R.1 163 92 := by rw [m2, si_ne (by omega), m1, si_ne (by omega)]
  rw [r92'] at m3
  have fr : ∀ kx i, ¬ (kx = 163 ∧ (i = 80 + 2 * m ∨ i = 81 + 2 * m ∨ i = 92)) → M3.1 kx i = R.1 kx i := fun kx i h => by rw [m3, si_ne (by omega), m2, si_ne (by omega), m1, si_ne (by omega)]
  have ra : M3.1 163 (80 + 2 * m) = a := by rw [m3, si_ne (by omega), m2, si_ne (by omega), m1, si_eq]
  have rb : M3.1 163 (81 + 2 * m) = b := by rw [m3, si_ne (by omega), m2, si_eq]
  have r92 : M3.1 163 92 = R.1 163 92 + 1 := by rw [m3, si_eq]
  have w : (R.1 163 92 + (1 : Int32)).toInt = ((m + 1 : Nat) : Int) := add_ti hm o1 (by omega) (by omega)
  unfold f_Scene_addPlank at e8
  obtain ⟨_, e8⟩ := io_n e8
  rcases io e8 with ⟨_, e⟩ | ⟨_, e8⟩
  · exact absurd (by rw [← Option.some.inj e]) e80
  rcases io e8 with ⟨_, e8⟩ | ⟨_, e⟩
  rotate_left
  · exact absurd (by rw [← Option.some.inj e]) e80
  obtain ⟨_, e8⟩ := io_n e8
  obtain ⟨X1, x1, e8⟩ := mo e8
  rw [q_nat hmx, r4] at x1
  obtain ⟨_, e8⟩ := io_n e8
  obtain ⟨X2, x2, e8⟩ := mo e8
  have l1 : X1.1 11 6 = X.1 11 6 := by rw [x1, si_ne (by omega)]
  rw [l1, q_nat hmx, r5] at x2
  have l2 : X2.1 11 6 = X.1 11 6 := by rw [x2, si_ne (by omega), l1]
  obtain ⟨X3, x3, e8⟩ := mo e8
  rw [l2, lai] at x3
  have e8 := Option.some.inj e8
  rw [← e8] at e9
  have e9 : f_Nets_lay 32 11 (-1 : Int32) X3 = some x9 := e9
  have fx : ∀ kx i, ¬ (kx = 16 ∧ i = m) → ¬ (kx = 17 ∧ i = m) → ¬ (kx = 11 ∧ i = 6) → X3.1 kx i = X.1 kx i := fun kx i h g k => by rw [x3, si_ne k, x2, si_ne g, x1, si_ne h]
  have xa : X3.1 16 m = a := by rw [x3, si_ne (by omega), x2, si_ne (by omega), x1, si_eq]
  have xb : X3.1 17 m = b := by rw [x3, si_ne (by omega), x2, si_eq]
  have x6 : X3.1 11 6 = R.1 163 92 + 1 := by rw [x3, si_eq]
  have xq : X3.2 = X.2 := by rw [x3]; show X2.2 = _; rw [x2]; show X1.2 = _; rw [x1]; rfl
  have agx : AgX X X3 := ⟨fx 3 2 (by omega) (by omega) (by omega), fx 3 3 (by omega) (by omega) (by omega), fun i => fx 4 i (by omega) (by omega) (by omega), fx 6 4 (by omega) (by omega) (by omega), fx 6 5 (by omega) (by omega) (by omega), fun i => fx 7 i (by omega) (by omega) (by omega), fun i => fx 8 i (by omega) (by omega) (by omega), fx 40 4 (by omega) (by omega) (by omega), fun i => fx 41 i (by omega) (by omega) (by omega), fun i => fx 35 i (by omega) (by omega) (by omega), fun i => by rw [xq], fun i => by rw [xq]⟩
  have agr : AgR R M3 := ⟨fr 162 2 (by omega), fr 162 3 (by omega), fr 162 4 (by omega), fr 162 5 (by omega), fr 162 23 (by omega), fun i => fr 164 i (by omega), fun i => fr 165 i (by omega), fun i => fr 166 i (by omega), fun i => fr 172 i (by omega)⟩
  have sc : ∀ j i, j < 10 → j ≠ 6 → (j = 4 ∨ j = 5 → i ≠ m) → scn X3 11 j i = scn X 11 j i := by
    intro j i h10 h6 hj
    unfold scn
    by_cases g : j < 6
    · rw [if_pos g, if_pos g]; exact fx _ _ (by omega) (by omega) (by omega)
    · rw [if_neg g, if_neg g]; exact fx _ _ (by omega) (by omega) (by omega)
  have zs' : ZS (scn X3 11) (M3.1 163) n := by
    obtain ⟨h1, h2, h3, h4, h5, h6, h7, h8⟩ := zs
    refine ⟨fun p hp => ?_, fun p q hp hq => ?_, fun p q hp hq hh => ?_, ?_, fun j hj hl => ?_, ?_, ?_, ?_⟩
    · rw [fr 163 p (by omega), fr 163 (8 + p) (by omega), sc 0 p (by omega) (by omega) (by omega), sc 1 p (by omega) (by omega) (by omega), sc 2 p (by omega) (by omega) (by omega)]; exact h1 p hp
    · rw [fr 163 _ (by omega), sc 3 _ (by omega) (by omega) (by omega), sc 3 _ (by omega) (by omega) (by omega)]; exact h2 p q hp hq
    · rw [sc 3 _ (by omega) (by omega) (by omega)]; exact h3 p q hp hq hh
    · show X3.1 11 6 = M3.1 163 92
      rw [x6, r92]
    · rw [r92, w] at hl
      by_cases g : j = m
      · subst g
        rw [ra, rb]
        exact ⟨xa, xb⟩
      · rw [sc 4 j (by omega) (by omega) (by omega), sc 5 j (by omega) (by omega) (by omega), fr 163 _ (by omega), fr 163 _ (by omega)]; exact h5 j hj (by omega)
    · rw [sc 7 0 (by omega) (by omega) (by omega), fr 163 95 (by omega)]; exact h6
    · rw [sc 8 0 (by omega) (by omega) (by omega), fr 163 93 (by omega)]; exact h7
    · rw [sc 9 0 (by omega) (by omega) (by omega), fr 163 94 (by omega)]; exact h8
  have zv' : ZV M3 (M3.1 163) n := by
    have w1 : xw M3 = xw R := congrArg Int32.toInt agr.1
    have w2 : xh M3 = xh R := congrArg Int32.toInt agr.2.1
    obtain ⟨h1, h2, h3, h4⟩ := zv
    refine ⟨fun p hp => ?_, by rw [r92, w]; omega, by rw [fr 163 94 (by omega)]; exact h3, fun j hj => ?_⟩
    · rw [fr 163 p (by omega), fr 163 (8 + p) (by omega), agr.2.2.2.1, agr.2.2.2.2.2.2.2.1 p]
      obtain ⟨q1, q2⟩ := h1 p hp
      exact ⟨⟨q1.1, q1.2.1, (onN_a agr).mpr q1.2.2⟩, q2⟩
    · rw [r92, w] at hj
      by_cases g : j = m
      · subst g
        rw [ra, rb, w1, w2]
        obtain ⟨s, s0, s3, hs⟩ := bt_i hw hh oa.1 oa.2.1 ob.1 ob.2.1 nb
        have bi := (bb_i hw hh oa.1 oa.2.1 ⟨s0, s3⟩ (by rw [hs]; have := ob.1; omega)).1
        rw [hs] at bi
        obtain ⟨s', rfl⟩ : ∃ s' : Nat, s = (s' : Int) := ⟨s.toNat, by omega⟩
        exact ⟨(onN_a agr).mpr oa, (onN_a agr).mpr ob, s', by omega, hs, fun h => no (by rw [bi]; exact (onN_a agr).mp h)⟩
      · rw [fr 163 _ (by omega), fr 163 _ (by omega), w1, w2]
        obtain ⟨q1, q2, s, q3, q4, q5⟩ := h4 j (by omega)
        exact ⟨(onN_a agr).mpr q1, (onN_a agr).mpr q2, s, q3, q4, fun h => q5 ((onN_a agr).mp h)⟩
  obtain ⟨zq', hf, _, _⟩ := lay_q n8 jr (ZB_a agx agr zb) zs' zv' e9
  exact ⟨⟨zq', HFx_t ⟨⟨fun kx i w => fx kx i (by omega) (by omega) (by omega), fx 46 2 (by omega) (by omega) (by omega), fx 46 3 (by omega) (by omega) (by omega)⟩, fun i => by rw [xq], fun i => by rw [xq]⟩ hf, ⟨fr 162 27 (by omega), fr 162 48 (by omega), fun i => fr 173 i (by omega), fun i => fr 189 i (by omega), fun i => fr 190 i (by omega), fun i => fr 191 i (by omega)⟩, agr⟩, zq'.2.2.2.1.2.2.2.1⟩
theorem plank_2 {X R : Mem} {n : Nat} {a b : Int32} {x r : Int32 × Mem} (za : ZA X R n) (kk : KK R) (jr : J r.2) (ex : f_Top_plank a b X = some x) (er : f_Mod_plank a b R = some r) : x.1 = r.1 ∧ ZA x.2 r.2 n := by
  have jR := za.1.2.1
  have z0 := o0
  have z1 := o1
  unfold f_Top_plank at ex
  unfold f_Mod_plank at er
  rw [show (92 : Int32).toNatClampNeg = 92 from rfl] at er
  obtain ⟨X1, ex1, exa⟩ := bo ex
  obtain ⟨x2, ex2, exb⟩ := bo exa
  obtain ⟨M1, m1, era⟩ := mo er
  obtain ⟨y, ey, erb⟩ := bo era
  have j1 : J M1 := by rw [m1]; exact Jw_fld okf_162_13 jR _
  have zaM : ZA X M1 n := ZA_13 j1 (fun kx i h _ _ => by rw [m1, si_ne (by omega)]) za
  obtain ⟨zq1, _, _⟩ := copy_q (.inl rfl) zaM.1 ex1
  obtain ⟨c1, c2, c3⟩ := copy_i (v0 := 18) (v1 := 11) (by omega) ex1
  rcases ref_2 zq1 ex2 ey with ⟨hy, h⟩ | ⟨hy, oa, ob, nb, no, m5, x8, x9, e8, e80, e9, h⟩
  · rw [h, if_pos (Int32.lt_iff_toInt_lt.mpr (by show y.toInt < _; omega))] at exb
    have exb := Option.some.inj exb
    rw [if_neg (fun h => by have := q_le h; omega)] at erb
    have erb := Option.some.inj erb
    rw [← exb, ← erb]
    exact ⟨rfl, ZA_x (fun kx i h _ _ => c2 kx i (by omega)) c3 zaM⟩
  · subst hy
    rw [if_pos (by decide)] at erb
    obtain ⟨R1, er1, erc⟩ := bo erb
    obtain ⟨r4, er4, erd⟩ := bo erc
    have erd := Option.some.inj erd
    obtain ⟨zq', agr1, rf1⟩ := rem_q zaM (KK_13 jR kk m1) er1
    have zq1' : ZQ X1 R1 n := (copy_q (.inl rfl) zq' ex1).1
    have w1 : xw R1 = xw M1 := congrArg Int32.toInt agr1.1
    have w2 : xh R1 = xh M1 := congrArg Int32.toInt agr1.2.1
    have r1 : R1.1 163 92 = M1.1 163 92 := rf1 163 92 (by omega) (by omega)
    have j4 : J r4 := by rw [← erd] at jr; exact jr
    obtain ⟨cs, l⟩ := add_q zq1' j4 ((onN_a agr1).mpr oa) ((onN_a agr1).mpr ob) (by rw [w1, w2]; exact nb) (by rw [w1, w2]; exact fun h => no ((onN_a agr1).mp h)) (by rw [r1]; exact m5) e8 e80 e9 er4
    have b := cs.1.2.2.2.2.1.2.1
    have p9 : 0 < (r4.1 163 92).toInt := by
      unfold f_Mod_layPlank at er4
      rw [show (92 : Int32).toNatClampNeg = 92 from rfl] at er4
      obtain ⟨_, er4⟩ := io_n er4
      obtain ⟨N1, n1, er4⟩ := mo er4
      obtain ⟨_, er4⟩ := io_n er4
      obtain ⟨N2, n2, er4⟩ := mo er4
      obtain ⟨N3, n3, er4⟩ := mo er4
      obtain rfl := Option.some.inj er4
      obtain ⟨m, hm⟩ := ti_ofn zq1'.2.2.2.2.1.2.1.1
      have m5' : m ≤ 5 := by rw [r1] at hm; omega
      have z80 : (80 : Int32).toInt = 80 := rfl
      have i1 : ((2 : Int32) * (R1.1 163 92)).toInt = ((2 * m : Nat) : Int) := by rw [mul_ti o2 hm (by omega) (by omega)]; omega
      have i2 : ((80 : Int32) + ((2 : Int32) * (R1.1 163 92))).toInt = ((80 + 2 * m : Nat) : Int) := by rw [add_ti z80 i1 (by omega) (by omega)]; omega
      have i3 : (((80 : Int32) + ((2 : Int32) * (R1.1 163 92))) + (1 : Int32)).toInt = ((81 + 2 * m : Nat) : Int) := by rw [add_ti i2 o1 (by omega) (by omega)]; omega
      rw [q_nat i2] at n1
      rw [q_nat i3] at n2
      have r92' : N2.1 163 92 = R1.1 163 92 := by rw [n2, si_ne (by omega), n1, si_ne (by omega)]
      rw [n3, si_eq, r92', add_ti hm o1 (by omega) (by omega)]
      omega
    rw [h, if_neg (fun h => by
      have h1 := q_lt h
      have h2 : ((x9.1 11 6) - (1 : Int32)).toInt = (r4.1 163 92).toInt - 1 := by rw [l]; exact sub_ti rfl o1 (by omega) (by omega)
      have h1 : ((x9.1 11 6) - (1 : Int32)).toInt < (0 : Int32).toInt := h1
      omega)] at exb
    obtain ⟨x3, ex3, exc⟩ := bo exb
    have exc := Option.some.inj exc
    have W := with_hist zaM ex1 er1 cs ex3
    rw [← exc, ← erd]
    exact ⟨by show x9.1 11 6 - 1 = r4.1 163 92 - 1; rw [l], W⟩
end
section
/-! the feast -/
theorem CS_r {X R : Mem} {n : Nat} (zq : ZQ X R n) : CS X R n X R := ⟨zq, HFx_r, HFr_r, AgR_r⟩
/-- where one stands, both sides -/
theorem whr {X R : Mem} {n p : Nat} (zq : ZQ X R n) (hp : p < n) : (∀ x, f_Mod_cellOf (R.1 163 p) = some x → x = X.1 12 p) ∧ (∀ x, f_Mod_levelOf (R.1 163 p) = some x → x = X.1 13 p) ∧ (0 ≤ (X.1 12 p).toInt ∧ (X.1 12 p).toInt ≤ 35 ∧ (X.1 12 p).toInt < xw R * xh R) ∧ (0 ≤ (X.1 13 p).toInt ∧ (X.1 13 p).toInt ≤ 1) ∧ onN R (X.1 13 p).toInt (X.1 12 p).toInt := by
  obtain ⟨n8, jR, zb, zs, zv, zw⟩ := zq
  obtain ⟨a1, a2, a3, a4, a5, _⟩ := zs.1 p hp
  have a1 : (R.1 163 p).toInt = (X.1 12 p).toInt + 36 * (X.1 13 p).toInt := a1
  have a2 : 0 ≤ (X.1 12 p).toInt := a2
  have a3 : (X.1 12 p).toInt ≤ 35 := a3
  have a4 : 0 ≤ (X.1 13 p).toInt := a4
  have a5 : (X.1 13 p).toInt ≤ 1 := a5
  obtain ⟨⟨o1, o2, o3⟩, _⟩ := zv.1 p hp
  have e1 : (R.1 163 p).toInt % 36 = (X.1 12 p).toInt := by omega
  have e2 : (R.1 163 p).toInt / 36 = (X.1 13 p).toInt := by omega
  rw [e1, e2] at o3
  refine ⟨fun x e => Int32.toInt_inj.mp ?_, fun x e => Int32.toInt_inj.mp ?_, ⟨a2, a3, o3.2.1⟩, ⟨a4, a5⟩, o3⟩
  · rw [(place_i (by omega) (by omega)).1 e, e1]
  · rw [(place_i (by omega) (by omega)).2 e, e2]
theorem stair_r {X R : Mem} {n p : Nat} {x : Int32} (zq : ZQ X R n) (hp : p < n) (ex : f_Ground_isStair (X.1 12 p) X = some x) : (x = 1 ∧ R.1 164 (X.1 12 p).toNatClampNeg = 3) ∨ (x = 0 ∧ R.1 164 (X.1 12 p).toNatClampNeg ≠ 3) := by
  obtain ⟨_, _, ⟨c0, c1, c2⟩, _, _⟩ := whr zq hp
  obtain ⟨c, hc⟩ := ti_ofn c0
  have z3 := o3
  rw [q_nat hc]
  rcases stairC zq.2.2.1.1 zq.2.1 ex with ⟨h, s1, s2, s3⟩ | ⟨h, s⟩
  · rw [hc] at s3
    exact .inl ⟨h, Int32.toInt_inj.mp s3⟩
  · refine .inr ⟨h, fun e => s ⟨c0, c2, ?_⟩⟩
    rw [hc]
    show (R.1 164 c).toInt = 3
    rw [e]; rfl
theorem astray_2 {X R : Mem} {n : Nat} {x y : Int32} (zq : ZQ X R n) (ex : f_Top_womenAreAstray X = some x) (ey : Option.bind (iter (lb_Mod_canFeast_31 R) FU (0 : Int32)) (Sum.elim (fun _ => some (1 : Int32)) (fun _ => some (0 : Int32))) = some y) : (x = 0 ∧ y = 1) ∨ (x = 1 ∧ y = 0) := by
  have n8 := zq.1
  have zc := zq.2.2.1.2.1
  have e65 : X.1 6 5 = R.1 162 5 := zc.2.2.1
  unfold f_Top_womenAreAstray at ex
  obtain ⟨x1, ex1, ex⟩ := bo ex
  obtain ⟨y1, ey1, ey⟩ := bo ey
  have Q : (x1 = .inl () ∧ y1 = .inl ()) ∨ (x1 = .inr () ∧ y1 = .inr ()) := by
    refine it_2 (I := fun s t => s = t ∧ ∃ p : Nat, p ≤ n ∧ s.toInt = (p : Int)) (Q := fun x1 y1 : Unit ⊕ Unit => (x1 = .inl () ∧ y1 = .inl ()) ∨ (x1 = .inr () ∧ y1 = .inr ())) ?_ ex1 ey1 ⟨rfl, 0, by omega, rfl⟩
    rintro s t a b ⟨rfl, p, lp, hp⟩ ea eb
    unfold lb_Top_womenAreAstray_2 at ea
    unfold lb_Mod_canFeast_31 at eb
    rw [zc.2.1] at ea
    rcases io ea with ⟨g, ea⟩ | ⟨g, ea⟩
    · rw [if_pos g] at eb
      exact .inr ⟨_, _, (Option.some.inj ea).symm, (Option.some.inj eb).symm, .inl ⟨rfl, rfl⟩⟩
    rw [if_neg g] at eb
    have g1 := q_ng g
    rw [zc.1] at g1
    have pn : p < n := by omega
    have nx : (s + (1 : Int32)).toInt = ((p + 1 : Nat) : Int) := add_ti hp o1 (by omega) (by omega)
    have next : a = .inl (s + (1 : Int32)) → b = .inl (s + (1 : Int32)) → (∃ s' t', a = .inl s' ∧ b = .inl t' ∧ (s' = t' ∧ ∃ p : Nat, p ≤ n ∧ s'.toInt = (p : Int))) ∨ (∃ x y, a = .inr x ∧ b = .inr y ∧ ((x = .inl () ∧ y = .inl ()) ∨ (x = .inr () ∧ y = (.inr () : Unit ⊕ Unit)))) := fun h1 h2 => .inl ⟨_, _, h1, h2, rfl, p + 1, by omega, nx⟩
    obtain ⟨x2, ex2, ea⟩ := bo ea
    obtain ⟨y2, ey2, eb⟩ := bo eb
    have w1 := womanC hp (by omega) ex2
    have w2 := hasR hp (by omega) ey2
    rw [e65] at w1
    have w : x2 = 0 ↔ y2 = 0 := w1.trans w2.symm
    rcases io ea with ⟨g, ea⟩ | ⟨g, ea⟩
    · rw [if_pos (w.mp g)] at eb
      exact next (Option.some.inj ea).symm (Option.some.inj eb).symm
    rw [if_neg (fun h => g (w.mpr h))] at eb
    obtain ⟨_, ea⟩ := io_n ea
    obtain ⟨_, eb⟩ := io_n eb
    rw [q_nat hp] at ea eb
    obtain ⟨y3, ey3, eb⟩ := bo eb
    obtain ⟨h1, h2, _, _, _⟩ := whr zq pn
    obtain rfl := h2 _ ey3
    rcases io ea with ⟨g, ea⟩ | ⟨g, ea⟩
    · rw [if_pos g] at eb
      obtain ⟨_, ea⟩ := io_n ea
      obtain ⟨_, eb⟩ := io_n eb
      obtain ⟨x4, ex4, ea⟩ := bo ea
      obtain ⟨y4, ey4, eb⟩ := bo eb
      obtain rfl := h1 _ ey4
      obtain ⟨_, eb⟩ := io_n eb
      rcases stair_r zq pn ex4 with ⟨k, l⟩ | ⟨k, l⟩
      · rw [k, if_neg (by decide)] at ea
        rw [if_pos l] at eb
        exact next (Option.some.inj ea).symm (Option.some.inj eb).symm
      · rw [k, if_pos rfl] at ea
        rw [if_neg l] at eb
        exact .inr ⟨_, _, (Option.some.inj ea).symm, (Option.some.inj eb).symm, .inr ⟨rfl, rfl⟩⟩
    · rw [if_neg g] at eb
      exact next (Option.some.inj ea).symm (Option.some.inj eb).symm
  rcases Q with ⟨rfl, rfl⟩ | ⟨rfl, rfl⟩
  · exact .inl ⟨(Option.some.inj ex).symm, (Option.some.inj ey).symm⟩
  · exact .inr ⟨(Option.some.inj ex).symm, (Option.some.inj ey).symm⟩
theorem below_2 {X R : Mem} {n : Nat} {x y : Int32} (zq : ZQ X R n) (ex : f_Top_womenBelow X = some x) (ey : f_Mod_womenBelow R = some y) : x = y := by
  have n8 := zq.1
  have zc := zq.2.2.1.2.1
  have e65 : X.1 6 5 = R.1 162 5 := zc.2.2.1
  unfold f_Top_womenBelow at ex
  unfold f_Mod_womenBelow at ey
  obtain ⟨x1, ex1, ex⟩ := bo ex
  obtain ⟨y1, ey1, ey⟩ := bo ey
  obtain rfl := Option.some.inj ex
  obtain rfl := Option.some.inj ey
  refine it_2 (I := fun s t : Int32 × Int32 => s = t ∧ ∃ p : Nat, p ≤ n ∧ s.2.toInt = (p : Int)) (Q := fun x1 y1 : Int32 => x1 = y1) ?_ ex1 ey1 ⟨rfl, 0, by omega, rfl⟩
  rintro ⟨u, s⟩ t a b ⟨rfl, p, lp, hp⟩ ea eb
  unfold lb_Top_womenBelow_4 at ea
  unfold lb_Mod_womenBelow_4 at eb
  dsimp only at ea eb hp
  rw [zc.2.1] at ea
  rw [Int32.add_zero] at eb
  rcases io ea with ⟨g, ea⟩ | ⟨g, ea⟩
  · rw [if_pos g] at eb
    exact .inr ⟨_, _, (Option.some.inj ea).symm, (Option.some.inj eb).symm, rfl⟩
  rw [if_neg g] at eb
  have g1 := q_ng g
  rw [zc.1] at g1
  have pn : p < n := by omega
  have nx : (s + (1 : Int32)).toInt = ((p + 1 : Nat) : Int) := add_ti hp o1 (by omega) (by omega)
  have next : ∀ w : Int32, some (Sum.inl (w, s + (1 : Int32))) = some a → some (Sum.inl (w, s + (1 : Int32))) = some b → (∃ s' t' : Int32 × Int32, a = .inl s' ∧ b = .inl t' ∧ (s' = t' ∧ ∃ p : Nat, p ≤ n ∧ s'.2.toInt = (p : Int))) ∨ (∃ x y : Int32, a = .inr x ∧ b = .inr y ∧ x = y) := fun w h1 h2 => .inl ⟨_, _, (Option.some.inj h1).symm, (Option.some.inj h2).symm, rfl, p + 1, by omega, nx⟩
  obtain ⟨x2, ex2, ea⟩ := bo ea
  obtain ⟨y2, ey2, eb⟩ := bo eb
  have w1 := womanC hp (by omega) ex2
  have w2 := hasR hp (by omega) ey2
  rw [e65] at w1
  have w : x2 = 0 ↔ y2 = 0 := w1.trans w2.symm
  rcases io ea with ⟨g, ea⟩ | ⟨g, ea⟩
  · rw [if_pos (w.mp g)] at eb
    exact next _ ea eb
  rw [if_neg (fun h => g (w.mpr h))] at eb
  obtain ⟨_, ea⟩ := io_n ea
  obtain ⟨_, eb⟩ := io_n eb
  rw [q_nat hp] at ea eb
  obtain ⟨y3, ey3, eb⟩ := bo eb
  obtain ⟨h1, h2, _, _, _⟩ := whr zq pn
  obtain rfl := h2 _ ey3
  rcases io ea with ⟨g, ea⟩ | ⟨g, ea⟩
  · rw [if_pos g] at eb; exact next _ ea eb
  · rw [if_neg g] at eb; exact next _ ea eb
/-- a level, or the feast's flag, changed on both sides -/
theorem lev_q {X R x r : Mem} {n p : Nat} {l v : Int32} (zq : ZQ X R n) (hp : p < n) (hl : 0 ≤ l.toInt ∧ l.toInt ≤ 1) (hv : v.toInt = (X.1 12 p).toInt + 36 * l.toInt) (ho : onN R l.toInt (X.1 12 p).toInt) (hw : bt (R.1 162 5) p = true) (jr : J r) (hx : x = s_i X 13 p l) (hr : r = s_i R 163 p v) : CS X R n x r := by
  have wq := whr zq hp
  obtain ⟨n8, jR, zb, zs, zv, zw⟩ := zq
  have fx : ∀ kx i, ¬ (kx = 13 ∧ i = p) → x.1 kx i = X.1 kx i := fun kx i h => by rw [hx, si_ne h]
  have fr : ∀ kx i, ¬ (kx = 163 ∧ i = p) → r.1 kx i = R.1 kx i := fun kx i h => by rw [hr, si_ne h]
  have x13 : x.1 13 p = l := by rw [hx, si_eq]
  have r13 : r.1 163 p = v := by rw [hr, si_eq]
  have x2 : x.2 = X.2 := by rw [hx]; rfl
  have agx : AgX X x := ⟨fx 3 2 (by omega), fx 3 3 (by omega), fun i => fx 4 i (by omega), fx 6 4 (by omega), fx 6 5 (by omega), fun i => fx 7 i (by omega), fun i => fx 8 i (by omega), fx 40 4 (by omega), fun i => fx 41 i (by omega), fun i => fx 35 i (by omega), fun i => by rw [x2], fun i => by rw [x2]⟩
  have agr : AgR R r := ⟨fr 162 2 (by omega), fr 162 3 (by omega), fr 162 4 (by omega), fr 162 5 (by omega), fr 162 23 (by omega), fun i => fr 164 i (by omega), fun i => fr 165 i (by omega), fun i => fr 166 i (by omega), fun i => fr 172 i (by omega)⟩
  have sc : ∀ j i, j < 10 → (j = 1 → i ≠ p) → scn x 11 j i = scn X 11 j i := by
    intro j i h10 hj
    unfold scn
    by_cases g : j < 6
    · rw [if_pos g, if_pos g]; exact fx _ _ (by omega)
    · rw [if_neg g, if_neg g]; exact fx _ _ (by omega)
  have zs' : ZS (scn x 11) (r.1 163) n := by
    obtain ⟨h1, h2, h3, h4, h5, h6, h7, h8⟩ := zs
    refine ⟨fun q hq => ?_, fun q u hq hu => ?_, fun q u hq hu hh => ?_, ?_, fun j hj hl => ?_, ?_, ?_, ?_⟩
    · by_cases g : q = p
      · subst g
        obtain ⟨_, b2, b3, _, _, b6⟩ := h1 q hq
        rw [r13, fr 163 (8 + q) (by omega), sc 0 q (by omega) (by omega), sc 2 q (by omega) (by omega), show scn x 11 1 q = l from x13]
        exact ⟨hv, b2, b3, hl.1, hl.2, b6⟩
      · rw [fr 163 q (by omega), fr 163 (8 + q) (by omega), sc 0 q (by omega) (by omega), sc 1 q (by omega) (by omega), sc 2 q (by omega) (by omega)]; exact h1 q hq
    · rw [fr 163 _ (by omega), sc 3 _ (by omega) (by omega), sc 3 _ (by omega) (by omega)]; exact h2 q u hq hu
    · rw [sc 3 _ (by omega) (by omega)]; exact h3 q u hq hu hh
    · rw [sc 6 0 (by omega) (by omega), fr 163 92 (by omega)]; exact h4
    · rw [fr 163 92 (by omega)] at hl
      rw [sc 4 j (by omega) (by omega), sc 5 j (by omega) (by omega), fr 163 _ (by omega), fr 163 _ (by omega)]; exact h5 j hj hl
    · rw [sc 7 0 (by omega) (by omega), fr 163 95 (by omega)]; exact h6
    · rw [sc 8 0 (by omega) (by omega), fr 163 93 (by omega)]; exact h7
    · rw [sc 9 0 (by omega) (by omega), fr 163 94 (by omega)]; exact h8
  have zv' : ZV r (r.1 163) n := by
    have w1 : xw r = xw R := congrArg Int32.toInt agr.1
    have w2 : xh r = xh R := congrArg Int32.toInt agr.2.1
    obtain ⟨h1, h2, h3, h4⟩ := zv
    refine ⟨fun q hq => ?_, by rw [fr 163 92 (by omega)]; exact h2, by rw [fr 163 94 (by omega)]; exact h3, fun j hj => ?_⟩
    · obtain ⟨q1, q2, q3⟩ := h1 q hq
      by_cases g : q = p
      · subst g
        rw [r13, fr 163 (8 + q) (by omega), agr.2.2.2.1, agr.2.2.2.2.2.2.2.1 q, hw]
        refine ⟨⟨by omega, by omega, ?_⟩, fun h => (by cases h), q3⟩
        rw [show v.toInt / 36 = l.toInt by omega, show v.toInt % 36 = (X.1 12 q).toInt by omega]
        exact (onN_a agr).mpr ho
      · rw [fr 163 q (by omega), fr 163 (8 + q) (by omega), agr.2.2.2.1, agr.2.2.2.2.2.2.2.1 q]
        exact ⟨⟨q1.1, q1.2.1, (onN_a agr).mpr q1.2.2⟩, q2, q3⟩
    · rw [fr 163 92 (by omega)] at hj
      rw [fr 163 _ (by omega), fr 163 _ (by omega), w1, w2]
      obtain ⟨q1, q2, s, q3, q4, q5⟩ := h4 j hj
      exact ⟨(onN_a agr).mpr q1, (onN_a agr).mpr q2, s, q3, q4, fun h => q5 ((onN_a agr).mp h)⟩
  exact ⟨⟨n8, jr, ZB_a agx agr zb, zs', zv', ZW_a agx agr (plk_c (fun i a b => fr 163 i (by omega)) zv.2.1.2) zw⟩, ⟨⟨fun kx i h => fx kx i (by omega), fx 46 2 (by omega), fx 46 3 (by omega)⟩, fun i => by rw [x2], fun i => by rw [x2]⟩, ⟨fr 162 27 (by omega), fr 162 48 (by omega), fun i => fr 173 i (by omega), fun i => fr 189 i (by omega), fun i => fr 190 i (by omega), fun i => fr 191 i (by omega)⟩, agr⟩
theorem flag_q {X R x r : Mem} {n : Nat} {v : Int32} (zq : ZQ X R n) (hl : 0 ≤ v.toInt ∧ v.toInt ≤ 1) (hx : x = s_i X 11 9 v) (hr : r = s_i R 163 94 v) : CS X R n x r := by
  obtain ⟨n8, jR, zb, zs, zv, zw⟩ := zq
  have jr : J r := by rw [hr]; exact Jws94 jR (.inl rfl) v hl.1 hl.2
  have fx : ∀ kx i, ¬ (kx = 11 ∧ i = 9) → x.1 kx i = X.1 kx i := fun kx i h => by rw [hx, si_ne h]
  have fr : ∀ kx i, ¬ (kx = 163 ∧ i = 94) → r.1 kx i = R.1 kx i := fun kx i h => by rw [hr, si_ne h]
  have x9 : x.1 11 9 = v := by rw [hx, si_eq]
  have r9 : r.1 163 94 = v := by rw [hr, si_eq]
  have x2 : x.2 = X.2 := by rw [hx]; rfl
  have agx : AgX X x := ⟨fx 3 2 (by omega), fx 3 3 (by omega), fun i => fx 4 i (by omega), fx 6 4 (by omega), fx 6 5 (by omega), fun i => fx 7 i (by omega), fun i => fx 8 i (by omega), fx 40 4 (by omega), fun i => fx 41 i (by omega), fun i => fx 35 i (by omega), fun i => by rw [x2], fun i => by rw [x2]⟩
  have agr : AgR R r := ⟨fr 162 2 (by omega), fr 162 3 (by omega), fr 162 4 (by omega), fr 162 5 (by omega), fr 162 23 (by omega), fun i => fr 164 i (by omega), fun i => fr 165 i (by omega), fun i => fr 166 i (by omega), fun i => fr 172 i (by omega)⟩
  have sc : ∀ j i, j < 9 → scn x 11 j i = scn X 11 j i := by
    intro j i h10
    unfold scn
    by_cases g : j < 6
    · rw [if_pos g, if_pos g]; exact fx _ _ (by omega)
    · rw [if_neg g, if_neg g]; exact fx _ _ (by omega)
  have zs' : ZS (scn x 11) (r.1 163) n := by
    obtain ⟨h1, h2, h3, h4, h5, h6, h7, h8⟩ := zs
    refine ⟨fun q hq => ?_, fun q u hq hu => ?_, fun q u hq hu hh => ?_, ?_, fun j hj hl => ?_, ?_, ?_, ?_⟩
    · rw [fr 163 q (by omega), fr 163 (8 + q) (by omega), sc 0 q (by omega), sc 1 q (by omega), sc 2 q (by omega)]; exact h1 q hq
    · rw [fr 163 _ (by omega), sc 3 _ (by omega), sc 3 _ (by omega)]; exact h2 q u hq hu
    · rw [sc 3 _ (by omega)]; exact h3 q u hq hu hh
    · rw [sc 6 0 (by omega), fr 163 92 (by omega)]; exact h4
    · rw [fr 163 92 (by omega)] at hl
      rw [sc 4 j (by omega), sc 5 j (by omega), fr 163 _ (by omega), fr 163 _ (by omega)]; exact h5 j hj hl
    · rw [sc 7 0 (by omega), fr 163 95 (by omega)]; exact h6
    · rw [sc 8 0 (by omega), fr 163 93 (by omega)]; exact h7
    · show x.1 11 9 = r.1 163 94
      rw [x9, r9]
  have zv' : ZV r (r.1 163) n := by
    have w1 : xw r = xw R := congrArg Int32.toInt agr.1
    have w2 : xh r = xh R := congrArg Int32.toInt agr.2.1
    obtain ⟨h1, h2, h3, h4⟩ := zv
    refine ⟨fun q hq => ?_, by rw [fr 163 92 (by omega)]; exact h2, by rw [r9]; exact hl, fun j hj => ?_⟩
    · obtain ⟨q1, q2, q3⟩ := h1 q hq
      rw [fr 163 q (by omega), fr 163 (8 + q) (by omega), agr.2.2.2.1, agr.2.2.2.2.2.2.2.1 q]
      exact ⟨⟨q1.1, q1.2.1, (onN_a agr).mpr q1.2.2⟩, q2, q3⟩
    · rw [fr 163 92 (by omega)] at hj
      rw [fr 163 _ (by omega), fr 163 _ (by omega), w1, w2]
      obtain ⟨q1, q2, s, q3, q4, q5⟩ := h4 j hj
      exact ⟨(onN_a agr).mpr q1, (onN_a agr).mpr q2, s, q3, q4, fun h => q5 ((onN_a agr).mp h)⟩
  exact ⟨⟨n8, jr, ZB_a agx agr zb, zs', zv', ZW_a agx agr (plk_c (fun i a b => fr 163 i (by omega)) zv.2.1.2) zw⟩, ⟨⟨fun kx i h => fx kx i (by omega), fx 46 2 (by omega), fx 46 3 (by omega)⟩, fun i => by rw [x2], fun i => by rw [x2]⟩, ⟨fr 162 27 (by omega), fr 162 48 (by omega), fun i => fr 173 i (by omega), fun i => fr 189 i (by omega), fun i => fr 190 i (by omega), fun i => fr 191 i (by omega)⟩, agr⟩
end
section
/-! the feast, the whole command -/
theorem loopF {X R x r : Mem} {n : Nat} {v : Int32} (zq : ZQ X R n) (hv : 0 ≤ v.toInt ∧ v.toInt ≤ 1) (ex : iter (lb_Top_celebrate_34 v) FU ((0 : Int32), X) = some x) (er : iter (lb_Mod_goFeast_10 v) FU ((0 : Int32), R) = some r) : CS X R n x r := by
  have n8 := zq.1
  have z0 := o0
  have z1 := o1
  have z36 : (36 : Int32).toInt = 36 := rfl
  refine it_2 (I := fun s t : Int32 × Mem => s.1 = t.1 ∧ (∃ p : Nat, p ≤ n ∧ s.1.toInt = (p : Int)) ∧ CS X R n s.2 t.2) (Q := fun x r : Mem => CS X R n x r) ?_ ex er ⟨rfl, ⟨0, by omega, rfl⟩, CS_r zq⟩
  rintro ⟨s, N⟩ ⟨t, K⟩ a b ⟨hst, ⟨p, lp, hp⟩, cs⟩ ea eb
  dsimp only at hst hp cs
  subst hst
  have zq' := cs.1
  have zc := zq'.2.2.1.2.1
  have e65 : N.1 6 5 = K.1 162 5 := zc.2.2.1
  unfold lb_Top_celebrate_34 at ea
  unfold lb_Mod_goFeast_10 at eb
  dsimp only at ea eb
  rw [zc.2.1] at ea
  rcases io ea with ⟨g, ea⟩ | ⟨g, ea⟩
  · rw [if_pos g] at eb
    exact .inr ⟨_, _, (Option.some.inj ea).symm, (Option.some.inj eb).symm, cs⟩
  rw [if_neg g] at eb
  have g1 := q_ng g
  rw [zc.1] at g1
  have pn : p < n := by omega
  have nx : (s + (1 : Int32)).toInt = ((p + 1 : Nat) : Int) := add_ti hp o1 (by omega) (by omega)
  have next : ∀ A B : Mem, CS X R n A B → some (Sum.inl (s + (1 : Int32), A)) = some a → some (Sum.inl (s + (1 : Int32), B)) = some b → (∃ s' t' : Int32 × Mem, a = .inl s' ∧ b = .inl t' ∧ (s'.1 = t'.1 ∧ (∃ p : Nat, p ≤ n ∧ s'.1.toInt = (p : Int)) ∧ CS X R n s'.2 t'.2)) ∨ (∃ x y : Mem, a = .inr x ∧ b = .inr y ∧ CS X R n x y) := fun A B h h1 h2 => .inl ⟨_, _, (Option.some.inj h1).symm, (Option.some.inj h2).symm, rfl, ⟨p + 1, by omega, nx⟩, h⟩
  obtain ⟨x2, ex2, ea⟩ := bo ea
  obtain ⟨y2, ey2, eb⟩ := bo eb
  have w1 := womanC hp (by omega) ex2
  have w2 := hasR hp (by omega) ey2
  rw [e65] at w1
  have w : x2 = 0 ↔ y2 = 0 := w1.trans w2.symm
  rcases io ea with ⟨g, ea⟩ | ⟨g, ea⟩
  · rw [if_pos (w.mp g)] at eb
    exact next _ _ cs ea eb
  rw [if_neg (fun h => g (w.mpr h))] at eb
  have hw : bt (K.1 162 5) p = true := by
    cases hb : bt (K.1 162 5) p with
    | true => rfl
    | false => exact absurd (w1.mpr hb) g
  obtain ⟨_, ea⟩ := io_n ea
  obtain ⟨_, eb⟩ := io_n eb
  rw [q_nat hp] at ea eb
  obtain ⟨y3, ey3, eb⟩ := bo eb
  obtain ⟨h1, h2, ⟨c0, c1, c2⟩, _, _⟩ := whr zq' pn
  obtain rfl := h1 _ ey3
  obtain ⟨_, eb⟩ := io_n eb
  obtain ⟨x4, ex4, ea⟩ := bo ea
  rcases stair_r zq' pn ex4 with ⟨k, l⟩ | ⟨k, l⟩
  rotate_left
  · rw [k, if_pos rfl] at ea
    rw [if_neg l] at eb
    exact next _ _ cs ea eb
  rw [k, if_neg (by decide)] at ea
  rw [if_pos l] at eb
  obtain ⟨_, eb⟩ := io_n eb
  obtain ⟨y5, ey5, eb⟩ := bo eb
  obtain rfl := h1 _ ey5
  obtain ⟨y6, ey6, eb⟩ := bo eb
  obtain ⟨_, eb⟩ := io_n eb
  obtain ⟨B, hB, eb⟩ := mo eb
  unfold f_Mod_placeOf at ey6
  have ey6 := Option.some.inj ey6
  have u1 : ((1 : Int32) - v).toInt = 1 - v.toInt := sub_ti o1 rfl (by omega) (by omega)
  have u2 : ((36 : Int32) * ((1 : Int32) - v)).toInt = 36 * (1 - v.toInt) := mul_ti z36 u1 (by omega) (by omega)
  have u3 : y6.toInt = 36 * (1 - v.toInt) + (N.1 12 p).toInt := by rw [← ey6]; exact add_ti u2 rfl (by omega) (by omega)
  have hst : ∀ q : Int, onN K q (N.1 12 p).toInt := by
    intro q
    obtain ⟨c, hc⟩ := ti_ofn c0
    rw [q_nat hc] at l
    have l3 : (K.1 164 (N.1 12 p).toInt.toNat).toInt = 3 := by rw [hc]; show (K.1 164 c).toInt = 3; rw [l]; rfl
    refine ⟨c0, c2, ?_⟩
    split
    · exact .inr l3
    · exact .inr l3
  have jB : J B := by
    have := Jws0 (i := s) zq'.2.1 (k := 163) (.inl rfl) (by omega) (by omega) y6 (by omega) (by omega)
    rw [q_nat hp] at this
    rw [hB]; exact this
  have fin : ∀ (lv : Int32) (A : Mem), lv.toInt = 1 - v.toInt → A = s_i N 13 p lv → CS X R n A B := by
    intro lv A hlv hA
    exact CS_t cs (lev_q zq' pn (by omega) (by omega) (hst _) hw jB hA hB)
  rcases io ea with ⟨g, ea⟩ | ⟨g, ea⟩
  · obtain ⟨_, ea⟩ := io_n ea
    obtain ⟨A, hA, ea⟩ := mo ea
    exact next _ _ (fin 0 A (by rw [g]; rfl) hA) ea eb
  · obtain ⟨_, ea⟩ := io_n ea
    obtain ⟨A, hA, ea⟩ := mo ea
    have v0 : v.toInt ≠ 1 := fun h => g (Int32.toInt_inj.mp h)
    exact next _ _ (fin 1 A (by omega) hA) ea eb
theorem feast_2 {X R : Mem} {n : Nat} {v : Int32} {x r : Int32 × Mem} (za : ZA X R n) (kk : KK R) (ex : f_Top_feast v X = some x) (er : f_Mod_feast v R = some r) : x.1 = r.1 ∧ ZA x.2 r.2 n := by
  have jR := za.1.2.1
  have z0 := o0
  have z1 := o1
  unfold f_Top_feast at ex
  unfold f_Mod_feast at er
  obtain ⟨X1, ex1, exa⟩ := bo ex
  obtain ⟨M1, m1, era⟩ := mo er
  obtain ⟨y, ey, erb⟩ := bo era
  have j1 : J M1 := by rw [m1]; exact Jw_fld okf_162_13 jR _
  have zaM : ZA X M1 n := ZA_13 j1 (fun kx i h _ _ => by rw [m1, si_ne (by omega)]) za
  obtain ⟨zq1, _, _⟩ := copy_q (.inl rfl) zaM.1 ex1
  obtain ⟨c1, c2, c3⟩ := copy_i (v0 := 18) (v1 := 11) (by omega) ex1
  have no : some ((-1 : Int32), X1) = some x → some (0 : Int32) = some y → x.1 = r.1 ∧ ZA x.2 r.2 n := by
    intro e1 e2
    rw [← Option.some.inj e2, if_pos rfl] at erb
    rw [← Option.some.inj e1, ← Option.some.inj erb]
    exact ⟨rfl, ZA_x (fun kx i h _ _ => c2 kx i (by omega)) c3 zaM⟩
  unfold f_Mod_canFeast at ey
  rw [show (94 : Int32).toNatClampNeg = 94 from rfl] at ey
  obtain ⟨y2, ey2, ey⟩ := bo ey
  have h2 := some_of (sp_in v 0 1) ey2
  rw [o0, o1] at h2
  have out : ¬ (0 ≤ v.toInt ∧ v.toInt ≤ 1) → some ((-1 : Int32), X1) = some x → x.1 = r.1 ∧ ZA x.2 r.2 n := by
    intro hn e
    rcases h2 with ⟨_, h⟩ | ⟨h, _⟩
    · exact absurd h hn
    · rw [h, if_pos rfl] at ey
      exact no e ey
  rcases io exa with ⟨g, exa⟩ | ⟨g, exa⟩
  · exact out (by have := q_lt g; omega) exa
  have g1 := q_nl g
  rcases io exa with ⟨g, exa⟩ | ⟨g, exa⟩
  · exact out (by have := q_lt g; omega) exa
  have g2 := q_nl g
  have hv : 0 ≤ v.toInt ∧ v.toInt ≤ 1 := by omega
  rcases h2 with ⟨h, _⟩ | ⟨_, h⟩
  rotate_left
  · exact absurd hv h
  rw [h, if_neg (by decide)] at ey
  obtain ⟨x2, ex2, exb⟩ := bo exa
  unfold f_Top_celebrate at ex2
  have fl : X1.1 11 9 = M1.1 163 94 := zq1.2.2.2.1.2.2.2.2.2.2.2
  rw [fl] at ex2
  have no2 : some ((0 : Int32), X1) = some x2 → some (0 : Int32) = some y → x.1 = r.1 ∧ ZA x.2 r.2 n := by
    intro e1 e2
    rw [← Option.some.inj e1, if_pos rfl] at exb
    exact no exb e2
  have go : ∀ A B : Mem, A = s_i X1 11 9 v → iter (lb_Top_celebrate_34 v) FU ((0 : Int32), A) = some B → some ((1 : Int32), B) = some x2 → some (1 : Int32) = some y → x.1 = r.1 ∧ ZA x.2 r.2 n := by
    intro A B hA eB e2 ey
    rw [← Option.some.inj e2, if_neg (by show ¬ (1 : Int32) = 0; decide)] at exb
    rw [← Option.some.inj ey, if_neg (by decide)] at erb
    obtain ⟨x3, ex3, exc⟩ := bo exb
    obtain ⟨x4, ex4, exd⟩ := bo exc
    obtain ⟨R1, er1, erc⟩ := bo erb
    obtain ⟨r4, er4, erd⟩ := bo erc
    obtain ⟨r5, er5, ere⟩ := bo erd
    obtain ⟨zq', agr1, rf1⟩ := rem_q zaM (KK_13 jR kk m1) er1
    have zq1' : ZQ X1 R1 n := (copy_q (.inl rfl) zq' ex1).1
    unfold f_Mod_goFeast at er4
    obtain ⟨N, hN, er4⟩ := mo er4
    obtain ⟨K, eK, er4⟩ := bo er4
    have er4 := Option.some.inj er4
    subst er4
    have f1 := flag_q zq1' hv hA hN
    have cs := CS_t f1 (loopF f1.1 hv eB eK)
    have W := with_hist zaM ex1 er1 cs ex3
    rw [← Option.some.inj exd, ← Option.some.inj ere]
    exact ⟨below_2 W.1 ex4 er5, W⟩
  rcases io ex2 with ⟨g, ex2⟩ | ⟨g, ex2⟩
  · rw [if_pos g] at ey
    exact no2 ex2 ey
  rw [if_neg g] at ey
  rcases io ex2 with ⟨g0, ex2⟩ | ⟨g0, ex2⟩
  · rw [if_neg (by rw [g0]; decide)] at ey
    obtain ⟨a, ea, ex2⟩ := bo ex2
    rcases astray_2 zq1 ea ey with ⟨ha, hy⟩ | ⟨ha, hy⟩
    · rw [ha, if_pos rfl] at ex2
      obtain ⟨A, hA, ex2⟩ := mo ex2
      obtain ⟨B, eB, ex2⟩ := bo ex2
      exact go A B hA eB ex2 (by rw [hy])
    · rw [ha, if_neg (by decide)] at ex2
      exact no2 ex2 (by rw [hy])
  · have v0 : v.toInt ≠ 0 := fun h => g0 (Int32.toInt_inj.mp h)
    have v1 : v = 1 := Int32.toInt_inj.mp (by omega)
    rw [if_pos v1] at ey
    obtain ⟨A, hA, ex2⟩ := mo ex2
    obtain ⟨B, eB, ex2⟩ := bo ex2
    exact go A B hA eB ex2 ey
end
section
/-! the sheet -/
theorem ZA_cs {X R x r : Mem} {n : Nat} (za : ZA X R n) (cs : CS X R n x r) : ZA x r n := by
  obtain ⟨⟨n8, _⟩, zh, zk⟩ := za
  obtain ⟨zq, ⟨⟨f1, f2, f3⟩, f4, f5⟩, ⟨r1, r2, r3, r4, r5, r6⟩, agr⟩ := cs
  exact ⟨zq, ZH_a n8 f2 (fun kx i a b => f1 kx i (by omega)) f4 agr r1 r3 zh, ZK_a n8 f3 (fun kx i a b => f1 kx i (by omega)) f5 agr r2 r4 r5 r6 zk⟩
def nar (v1 w : Int32) : Int32 := if v1 = 0 then w.toInt8.toInt32 else if v1 = 1 then w.toInt16.toInt32 else w
def clm (len w : Int32) : Int32 := if (0 : Int32) < (if (len - (1 : Int32)) < w then (len - (1 : Int32)) else w) then (if (len - (1 : Int32)) < w then (len - (1 : Int32)) else w) else (0 : Int32)
def sw (g : Nat → Int32) (n : Nat) (v1 v2 v3 v4 : Int32) (p : Nat) : Int32 := if v1 = 3 then 0 else if v2 ≤ Int32.ofInt (p : Int) then 0 else if n ≤ p then 0 else clm (g p) (nar v1 (v3 + Int32.ofInt (p : Int) * v4))
def smm (f : Nat → Int32) : Nat → Int32
  | 0 => 0
  | p + 1 => smm f p + f p
theorem smm_n {f : Nat → Int32} {n : Nat} (h : ∀ p, n ≤ p → f p = 0) (k : Nat) : smm f (n + k) = smm f n := by
  induction k with
  | zero => rfl
  | succ k ih =>
    show smm f (n + k) + f (n + k) = _
    rw [ih, h _ (by omega), Int32.add_zero]
theorem min_c (a b : Int32) : (if a < b then a else b) = (if b < a then b else a) := by
  by_cases g : a < b
  · have := q_lt g
    rw [if_pos g, if_neg (fun h => by have := q_lt h; omega)]
  · have g1 := q_nl g
    rw [if_neg g]
    by_cases k : b < a
    · rw [if_pos k]
    · have := q_nl k
      rw [if_neg k]
      exact Int32.toInt_inj.mp (by omega)
theorem clm_b {len w : Int32} (h1 : 1 ≤ len.toInt) : 0 ≤ (clm len w).toInt ∧ (clm len w).toInt < len.toInt := by
  have z0 := o0
  have hi := i32hi len
  have l1 : (len - (1 : Int32)).toInt = len.toInt - 1 := sub_ti rfl o1 (by omega) (by omega)
  unfold clm
  by_cases g : len - (1 : Int32) < w
  · rw [if_pos g]
    by_cases k : (0 : Int32) < len - (1 : Int32)
    · have := q_lt k
      rw [if_pos k]; omega
    · rw [if_neg k]; omega
  · have g1 := q_nl g
    rw [if_neg g]
    by_cases k : (0 : Int32) < w
    · have := q_lt k
      rw [if_pos k]; omega
    · rw [if_neg k]; omega
theorem of_s {s : Int32} {p : Nat} (h : s.toInt = (p : Int)) : Int32.ofInt (p : Int) = s := by rw [← h, Int32.ofInt_toInt]
theorem sheet_r {R : Mem} {n : Nat} {v1 v2 v3 v4 : Int32} {x : Int32 × Mem} (hn : (R.1 162 4).toInt = (n : Int)) (n8 : n ≤ 8) (e : iter (lb_Mod_sheet_43 v1 v2 v4) FU ((0 : Int32), v3, (0 : Int32), R) = some x) : x.1 = smm (sw (R.1 166) n v1 v2 v3 v4) n ∧ (∀ i, i < n → x.2.1 163 (8 + i) = sw (R.1 166) n v1 v2 v3 v4 i) ∧ (∀ kx i, ¬ (kx = 163 ∧ 8 ≤ i ∧ i < 8 + n) → x.2.1 kx i = R.1 kx i) := by
  have z8 : (8 : Int32).toInt = 8 := rfl
  refine it_r (I := fun s : Int32 × Int32 × Int32 × Mem => ∃ p : Nat, p ≤ n ∧ s.2.2.1.toInt = (p : Int) ∧ s.1 = smm (sw (R.1 166) n v1 v2 v3 v4) p ∧ s.2.1 = v3 + s.2.2.1 * v4 ∧ (∀ i, i < p → s.2.2.2.1 163 (8 + i) = sw (R.1 166) n v1 v2 v3 v4 i) ∧ (∀ kx i, ¬ (kx = 163 ∧ 8 ≤ i ∧ i < 8 + p) → s.2.2.2.1 kx i = R.1 kx i)) (Q := fun x : Int32 × Mem => x.1 = smm (sw (R.1 166) n v1 v2 v3 v4) n ∧ (∀ i, i < n → x.2.1 163 (8 + i) = sw (R.1 166) n v1 v2 v3 v4 i) ∧ (∀ kx i, ¬ (kx = 163 ∧ 8 ≤ i ∧ i < 8 + n) → x.2.1 kx i = R.1 kx i)) ?_ e ⟨0, by omega, rfl, rfl, by show v3 = v3 + 0 * v4; rw [Int32.zero_mul, Int32.add_zero], fun i hi => absurd hi (by omega), fun _ _ _ => rfl⟩
  rintro ⟨v5, v6, v7, N⟩ r ⟨p, lp, hp, h1, h2, h3, h4⟩ e
  unfold lb_Mod_sheet_43 at e
  dsimp only at hp h1 h2 h3 h4 e
  rw [h4 162 4 (by omega)] at e
  rcases io e with ⟨g, e⟩ | ⟨g, e⟩
  · have g1 := q_le g
    rw [hn] at g1
    obtain rfl := Option.some.inj e
    have : p = n := by omega
    subst this
    exact ⟨h1, h3, h4⟩
  have g1 := q_ng g
  rw [hn] at g1
  have pn : p < n := by omega
  have i8 : ((8 : Int32) + v7).toInt = ((8 + p : Nat) : Int) := by rw [add_ti z8 hp (by omega) (by omega)]; omega
  have nx : (v7 + (1 : Int32)).toInt = ((p + 1 : Nat) : Int) := add_ti hp o1 (by omega) (by omega)
  have e' : j_Mod_sheet_75_43 v1 v2 v4 v5 v6 v7 (nar v1 v6) N = some r := by
    unfold nar
    rcases io e with ⟨g, e⟩ | ⟨g, e⟩
    · rw [if_pos g]; exact e
    rw [if_neg g]
    rcases io e with ⟨g, e⟩ | ⟨g, e⟩
    · rw [if_pos g]; exact e
    rw [if_neg g]; exact e
  clear e
  have fin : ∀ w : Int32, w = sw (R.1 166) n v1 v2 v3 v4 p → j_Mod_sheet_119_43 v1 v2 v4 v5 v6 v7 w ((8 : Int32) + v7) N = some r → Sum.elim (fun s : Int32 × Int32 × Int32 × Mem => ∃ p : Nat, p ≤ n ∧ s.2.2.1.toInt = (p : Int) ∧ s.1 = smm (sw (R.1 166) n v1 v2 v3 v4) p ∧ s.2.1 = v3 + s.2.2.1 * v4 ∧ (∀ i, i < p → s.2.2.2.1 163 (8 + i) = sw (R.1 166) n v1 v2 v3 v4 i) ∧ (∀ kx i, ¬ (kx = 163 ∧ 8 ≤ i ∧ i < 8 + p) → s.2.2.2.1 kx i = R.1 kx i)) (fun x : Int32 × Mem => x.1 = smm (sw (R.1 166) n v1 v2 v3 v4) n ∧ (∀ i, i < n → x.2.1 163 (8 + i) = sw (R.1 166) n v1 v2 v3 v4 i) ∧ (∀ kx i, ¬ (kx = 163 ∧ 8 ≤ i ∧ i < 8 + n) → x.2.1 kx i = R.1 kx i)) r := by
    intro w hw e
    unfold j_Mod_sheet_119_43 at e
    rw [q_nat i8] at e
    obtain ⟨_, e⟩ := io_n e
    obtain ⟨K, hK, e⟩ := mo e
    obtain ⟨_, e⟩ := io_n e
    obtain rfl := Option.some.inj e
    have kw : K.1 163 (8 + p) = w := by rw [hK, si_eq]
    refine ⟨p + 1, by omega, nx, ?_, ?_, fun i hi => ?_, fun kx i hk => ?_⟩
    · show v5 + K.1 163 (8 + p) = smm _ p + _
      rw [kw, h1, hw]
    · show v6 + v4 = v3 + (v7 + 1) * v4
      rw [h2, Int32.add_mul, Int32.one_mul, Int32.add_assoc]
    · show K.1 163 (8 + i) = _
      by_cases q : i = p
      · subst q; rw [kw, hw]
      · rw [hK, si_ne (by omega)]; exact h3 i (by omega)
    · show K.1 kx i = _
      rw [hK, si_ne (by omega)]; exact h4 kx i (by omega)
  unfold j_Mod_sheet_75_43 at e'
  rcases io e' with ⟨g, e⟩ | ⟨g, e⟩
  · exact fin 0 (by unfold sw; rw [if_pos g]) e
  rcases io e with ⟨k, e⟩ | ⟨k, e⟩
  · obtain ⟨_, e⟩ := io_n e
    have k1 := q_lt k
    rw [q_nat hp, h4 166 p (by omega)] at e
    refine fin _ ?_ e
    have hs : sw (R.1 166) n v1 v2 v3 v4 p = clm (R.1 166 p) (nar v1 v6) := by
      unfold sw
      rw [if_neg g, of_s hp, if_neg (fun h => by have := q_le h; omega), if_neg (by omega), h2]
    rw [hs]
    unfold clm
    rw [min_c (nar v1 v6) ((R.1 166 p) - (1 : Int32))]
  · have k1 := q_nl k
    refine fin 0 ?_ e
    unfold sw
    rw [if_neg g, of_s hp, if_pos (Int32.le_iff_toInt_le.mpr k1)]
theorem sheet_c {X R : Mem} {n : Nat} {v1 v2 v3 v4 : Int32} {x : Int32 × Mem} (hn : (X.1 6 4).toInt = (n : Int)) (n8 : n ≤ 8) (hl : ∀ p, p < n → X.1 8 p = R.1 166 p) (e : iter (lb_Top_sheet_35 v1 v2 v3 v4) FU ((0 : Int32), (0 : Int32), X) = some x) : x.1 = smm (sw (R.1 166) n v1 v2 v3 v4) 8 ∧ (∀ i, i < 8 → x.2.1 14 i = sw (R.1 166) n v1 v2 v3 v4 i) ∧ (∀ kx i, ¬ kx = 14 → x.2.1 kx i = X.1 kx i) ∧ x.2.2 = X.2 := by
  have z8 : (8 : Int32).toInt = 8 := rfl
  refine it_r (I := fun s : Int32 × Int32 × Mem => ∃ p : Nat, p ≤ 8 ∧ s.2.1.toInt = (p : Int) ∧ s.1 = smm (sw (R.1 166) n v1 v2 v3 v4) p ∧ (∀ i, i < p → s.2.2.1 14 i = sw (R.1 166) n v1 v2 v3 v4 i) ∧ (∀ kx i, ¬ kx = 14 → s.2.2.1 kx i = X.1 kx i) ∧ s.2.2.2 = X.2) (Q := fun x : Int32 × Mem => x.1 = smm (sw (R.1 166) n v1 v2 v3 v4) 8 ∧ (∀ i, i < 8 → x.2.1 14 i = sw (R.1 166) n v1 v2 v3 v4 i) ∧ (∀ kx i, ¬ kx = 14 → x.2.1 kx i = X.1 kx i) ∧ x.2.2 = X.2) ?_ e ⟨0, by omega, rfl, rfl, fun i hi => absurd hi (by omega), fun _ _ _ => rfl, rfl⟩
  rintro ⟨v5, v6, N⟩ r ⟨p, lp, hp, h1, h3, h4, h5⟩ e
  unfold lb_Top_sheet_35 at e
  dsimp only at hp h1 h3 h4 h5 e
  rcases io e with ⟨g, e⟩ | ⟨g, e⟩
  · have g1 := q_le g
    obtain rfl := Option.some.inj e
    have : p = 8 := by omega
    subst this
    exact ⟨h1, h3, h4, h5⟩
  have g1 := q_ng g
  have p8 : p < 8 := by omega
  have nx : (v6 + (1 : Int32)).toInt = ((p + 1 : Nat) : Int) := add_ti hp o1 (by omega) (by omega)
  have fin : ∀ w : Int32, w = sw (R.1 166) n v1 v2 v3 v4 p → j_Top_sheet_78_35 v1 v2 v3 v4 v5 v6 w N = some r → Sum.elim (fun s : Int32 × Int32 × Mem => ∃ p : Nat, p ≤ 8 ∧ s.2.1.toInt = (p : Int) ∧ s.1 = smm (sw (R.1 166) n v1 v2 v3 v4) p ∧ (∀ i, i < p → s.2.2.1 14 i = sw (R.1 166) n v1 v2 v3 v4 i) ∧ (∀ kx i, ¬ kx = 14 → s.2.2.1 kx i = X.1 kx i) ∧ s.2.2.2 = X.2) (fun x : Int32 × Mem => x.1 = smm (sw (R.1 166) n v1 v2 v3 v4) 8 ∧ (∀ i, i < 8 → x.2.1 14 i = sw (R.1 166) n v1 v2 v3 v4 i) ∧ (∀ kx i, ¬ kx = 14 → x.2.1 kx i = X.1 kx i) ∧ x.2.2 = X.2) r := by
    intro w hw e
    unfold j_Top_sheet_78_35 at e
    rw [q_nat hp] at e
    obtain ⟨_, e⟩ := io_n e
    obtain ⟨K, hK, e⟩ := mo e
    obtain rfl := Option.some.inj e
    have kw : K.1 14 p = w := by rw [hK, si_eq]
    refine ⟨p + 1, by omega, nx, ?_, fun i hi => ?_, fun kx i hk => ?_, ?_⟩
    · show v5 + w = smm _ p + _
      rw [h1, hw]
    · show K.1 14 i = _
      by_cases q : i = p
      · subst q; rw [kw, hw]
      · rw [hK, si_ne (by omega)]; exact h3 i (by omega)
    · show K.1 kx i = _
      rw [hK, si_ne (by omega)]; exact h4 kx i hk
    · show K.2 = _
      rw [hK]; exact h5
  rcases io e with ⟨g, e⟩ | ⟨g, e⟩
  · exact fin 0 (by unfold sw; rw [if_pos g]) e
  rcases io e with ⟨k, e⟩ | ⟨k, e⟩
  · refine fin 0 ?_ e
    unfold sw
    rw [if_neg g, of_s hp, if_pos k]
  obtain ⟨x2, ex2, e⟩ := bo e
  obtain ⟨x3, ex3, e⟩ := bo e
  have hx2 : x2 = nar v1 (v3 + (v6 * v4)) := by
    unfold f_Top_narrow at ex2
    unfold nar
    rcases io ex2 with ⟨g, e⟩ | ⟨g, e⟩
    · rw [if_pos g]; exact (Option.some.inj e).symm
    rw [if_neg g]
    rcases io e with ⟨g, e⟩ | ⟨g, e⟩
    · rw [if_pos g]; exact (Option.some.inj e).symm
    rw [if_neg g]; exact (Option.some.inj e).symm
  refine fin x3 ?_ e
  unfold sw
  rw [if_neg g, of_s hp, if_neg k, ← hx2]
  unfold f_Crowd_within at ex3
  obtain ⟨x4, ex4, ex3⟩ := bo ex3
  rcases crowd_has (n := n) (by rw [h4 6 4 (by omega)]; exact hn) n8 ex4 with ⟨q, q1, q2⟩ | ⟨q, q1⟩
  · rw [q, if_neg (by decide)] at ex3
    obtain ⟨_, ex3⟩ := io_n ex3
    rw [q_nat hp, h4 8 p (by omega), hl p (by omega)] at ex3
    rw [if_neg (by omega)]
    exact (Option.some.inj ex3).symm
  · rw [q, if_pos rfl] at ex3
    rw [if_pos (by omega)]
    exact (Option.some.inj ex3).symm
theorem sheet_2 {X R : Mem} {n : Nat} {v1 v2 v3 v4 : Int32} {x r : Int32 × Mem} (za : ZA X R n) (jr : J r.2) (ex : f_Top_sheet v1 v2 v3 v4 X = some x) (er : f_Mod_sheet v1 v2 v3 v4 R = some r) : x.1 = r.1 ∧ ZA x.2 r.2 n := by
  have jR := za.1.2.1
  have z0 := o0
  have z3 := o3
  have z8 : (8 : Int32).toInt = 8 := rfl
  unfold f_Mod_sheet at er
  obtain ⟨M1, m1, era⟩ := mo er
  obtain ⟨y2, ey2, era⟩ := bo era
  have h2 := some_of (sp_in v1 0 3) ey2
  rw [o0, o3] at h2
  have j1 : J M1 := by rw [m1]; exact Jw_fld okf_162_13 jR _
  have zaM : ZA X M1 n := ZA_13 j1 (fun kx i h _ _ => by rw [m1, si_ne (by omega)]) za
  have no : ∀ w : Int32, some (w, X) = some x → some (w, M1) = some r → x.1 = r.1 ∧ ZA x.2 r.2 n := by
    intro w e1 e2
    rw [← Option.some.inj e1, ← Option.some.inj e2]
    exact ⟨rfl, zaM⟩
  have go : ∀ a b : Int32 × Mem, iter (lb_Top_sheet_35 v1 v2 v3 v4) FU ((0 : Int32), (0 : Int32), X) = some a → iter (lb_Mod_sheet_43 v1 v2 v4) FU ((0 : Int32), v3, (0 : Int32), M1) = some b → r.2 = b.2 → a.1 = b.1 ∧ ZA a.2 b.2 n := by
    intro a b ea eb hb
    have zaM' := zaM
    obtain ⟨⟨n8, _, zb, zs, zv, zw⟩, _, _⟩ := zaM
    have zc := zb.2.1
    obtain ⟨a1, a2, a3, a4⟩ := sheet_c (R := M1) (by rw [zc.2.1]; exact zc.1) n8 (fun p hp => (zc.2.2.2.1 p hp).1) ea
    obtain ⟨b1, b2, b3⟩ := sheet_r zc.1 n8 eb
    obtain ⟨k, hk⟩ : ∃ k, 8 = n + k := ⟨8 - n, by omega⟩
    refine ⟨?_, ZA_cs zaM' ?_⟩
    · rw [a1, b1, hk]
      exact smm_n (fun p hp => by
        unfold sw
        rw [if_pos hp]
        split
        · rfl
        · split <;> rfl) k
    have agx : AgX X a.2 := ⟨a3 3 2 (by omega), a3 3 3 (by omega), fun i => a3 4 i (by omega), a3 6 4 (by omega), a3 6 5 (by omega), fun i => a3 7 i (by omega), fun i => a3 8 i (by omega), a3 40 4 (by omega), fun i => a3 41 i (by omega), fun i => a3 35 i (by omega), fun i => by rw [a4], fun i => by rw [a4]⟩
    have agr : AgR M1 b.2 := ⟨b3 162 2 (by omega), b3 162 3 (by omega), b3 162 4 (by omega), b3 162 5 (by omega), b3 162 23 (by omega), fun i => b3 164 i (by omega), fun i => b3 165 i (by omega), fun i => b3 166 i (by omega), fun i => b3 172 i (by omega)⟩
    have sc : ∀ j i, j < 10 → j ≠ 2 → scn a.2 11 j i = scn X 11 j i := by
      intro j i h10 hj
      unfold scn
      by_cases g : j < 6
      · rw [if_pos g, if_pos g]; exact a3 _ _ (by omega)
      · rw [if_neg g, if_neg g]; exact a3 _ _ (by omega)
    have zs' : ZS (scn a.2 11) (b.2.1 163) n := by
      obtain ⟨h1, h2, h3, h4, h5, h6, h7, h8⟩ := zs
      refine ⟨fun q hq => ?_, fun q u hq hu => ?_, fun q u hq hu hh => ?_, ?_, fun j hj hl => ?_, ?_, ?_, ?_⟩
      · obtain ⟨b1', b2', b3', b4', b5', _⟩ := h1 q hq
        rw [b3 163 q (by omega), b2 q hq, sc 0 q (by omega) (by omega), sc 1 q (by omega) (by omega), show scn a.2 11 2 q = sw (M1.1 166) n v1 v2 v3 v4 q from a2 q (by omega)]
        exact ⟨b1', b2', b3', b4', b5', rfl⟩
      · rw [b3 163 _ (by omega), sc 3 _ (by omega) (by omega), sc 3 _ (by omega) (by omega)]; exact h2 q u hq hu
      · rw [sc 3 _ (by omega) (by omega)]; exact h3 q u hq hu hh
      · rw [sc 6 0 (by omega) (by omega), b3 163 92 (by omega)]; exact h4
      · rw [b3 163 92 (by omega)] at hl
        rw [sc 4 j (by omega) (by omega), sc 5 j (by omega) (by omega), b3 163 _ (by omega), b3 163 _ (by omega)]; exact h5 j hj hl
      · rw [sc 7 0 (by omega) (by omega), b3 163 95 (by omega)]; exact h6
      · rw [sc 8 0 (by omega) (by omega), b3 163 93 (by omega)]; exact h7
      · rw [sc 9 0 (by omega) (by omega), b3 163 94 (by omega)]; exact h8
    have zv' : ZV b.2 (b.2.1 163) n := by
      have w1 : xw b.2 = xw M1 := congrArg Int32.toInt agr.1
      have w2 : xh b.2 = xh M1 := congrArg Int32.toInt agr.2.1
      obtain ⟨h1, h2, h3, h4⟩ := zv
      refine ⟨fun q hq => ?_, by rw [b3 163 92 (by omega)]; exact h2, by rw [b3 163 94 (by omega)]; exact h3, fun j hj => ?_⟩
      · obtain ⟨q1, q2, q3, q4⟩ := h1 q hq
        rw [b3 163 q (by omega), b2 q hq, agr.2.2.2.1, agr.2.2.2.2.2.2.2.1 q]
        refine ⟨⟨q1.1, q1.2.1, (onN_a agr).mpr q1.2.2⟩, q2, ?_⟩
        have len := (zc.2.2.2.1 q hq).2.1
        unfold sw
        split
        · exact ⟨by rw [o0]; omega, by rw [o0]; omega⟩
        split
        · exact ⟨by rw [o0]; omega, by rw [o0]; omega⟩
        rw [if_neg (by omega)]
        exact clm_b len
      · rw [b3 163 92 (by omega)] at hj
        rw [b3 163 _ (by omega), b3 163 _ (by omega), w1, w2]
        obtain ⟨q1, q2, s, q3, q4, q5⟩ := h4 j hj
        exact ⟨(onN_a agr).mpr q1, (onN_a agr).mpr q2, s, q3, q4, fun h => q5 ((onN_a agr).mp h)⟩
    exact ⟨⟨n8, by rw [← hb]; exact jr, ZB_a agx agr zb, zs', zv', ZW_a agx agr (plk_c (fun i a b => b3 163 i (by omega)) zv.2.1.2) zw⟩, ⟨⟨fun kx i h => a3 kx i (by omega), a3 46 2 (by omega), a3 46 3 (by omega)⟩, fun i => by rw [a4], fun i => by rw [a4]⟩, ⟨b3 162 27 (by omega), b3 162 48 (by omega), fun i => b3 173 i (by omega), fun i => b3 189 i (by omega), fun i => b3 190 i (by omega), fun i => b3 191 i (by omega)⟩, agr⟩
  have run : ∀ a b : Int32 × Mem, iter (lb_Top_sheet_35 v1 v2 v3 v4) FU ((0 : Int32), (0 : Int32), X) = some a → iter (lb_Mod_sheet_43 v1 v2 v4) FU ((0 : Int32), v3, (0 : Int32), M1) = some b → (if v1 = (3 : Int32) then some ((-3 : Int32), a.2) else some (a.1, a.2)) = some x → (if v1 = (3 : Int32) then some ((-3 : Int32), b.2) else some (b.1, b.2)) = some r → x.1 = r.1 ∧ ZA x.2 r.2 n := by
    intro a b ea eb e1 e2
    rcases io e1 with ⟨g, e1⟩ | ⟨g, e1⟩
    · rw [if_pos g] at e2
      have e1 := Option.some.inj e1
      have e2 := Option.some.inj e2
      have G := go a b ea eb (by rw [← e2])
      rw [← e1, ← e2]
      exact ⟨rfl, G.2⟩
    · rw [if_neg g] at e2
      have e1 := Option.some.inj e1
      have e2 := Option.some.inj e2
      have G := go a b ea eb (by rw [← e2])
      rw [← e1, ← e2]
      exact ⟨G.1, G.2⟩
  unfold f_Top_sheet at ex
  have out : ¬ (0 ≤ v1.toInt ∧ v1.toInt ≤ 3) → some ((-1 : Int32), X) = some x → x.1 = r.1 ∧ ZA x.2 r.2 n := by
    intro hn e
    rcases h2 with ⟨_, h⟩ | ⟨h, _⟩
    · exact absurd h hn
    · rw [h, if_pos rfl] at era
      exact no _ e era
  rcases io ex with ⟨g, ex⟩ | ⟨g, ex⟩
  · exact out (by have := q_lt g; omega) ex
  have g1 := q_nl g
  rcases io ex with ⟨g, ex⟩ | ⟨g, ex⟩
  · exact out (by have := q_lt g; omega) ex
  have g2 := q_nl g
  rcases h2 with ⟨h, _⟩ | ⟨_, h⟩
  rotate_left
  · exact absurd (⟨by omega, by omega⟩ : 0 ≤ v1.toInt ∧ v1.toInt ≤ 3) h
  rw [h, if_neg (by decide)] at era
  rcases io ex with ⟨g, ex⟩ | ⟨g, ex⟩
  rotate_left
  · rw [if_neg g] at era
    exact no _ ex era
  rw [if_pos g] at era
  rcases io ex with ⟨k, ex⟩ | ⟨k, ex⟩
  · rw [if_pos (by rw [k]; decide)] at era
    obtain ⟨a, ea, ex⟩ := bo ex
    obtain ⟨b, eb, era⟩ := bo era
    exact run a b ea eb ex era
  · have k1 := q_ne k
    rw [if_neg (fun h => by have := q_le h; omega)] at era
    rcases io ex with ⟨k, ex⟩ | ⟨k, ex⟩
    · rw [if_pos k] at era
      obtain ⟨a, ea, ex⟩ := bo ex
      obtain ⟨b, eb, era⟩ := bo era
      exact run a b ea eb ex era
    · rw [if_neg k] at era
      exact no _ ex era
end
section
/-! may a cell become another -/
theorem btw_even {w h a b : Int} (hn : btw w h a b ≠ -1) : a + b = 2 * btw w h a b := by
  unfold btw at hn ⊢
  by_cases g : ((a % w - b % w).natAbs = 2 ∧ (a / w - b / w).natAbs = 0) ∨ ((a % w - b % w).natAbs = 0 ∧ (a / w - b / w).natAbs = 2)
  · rw [if_pos g]
    have ea := Int.emod_add_mul_ediv a w
    have eb := Int.emod_add_mul_ediv b w
    rcases g with ⟨g1, g2⟩ | ⟨g1, g2⟩
    · have q : a / w = b / w := by omega
      rw [q] at ea
      omega
    · have q : a / w = b / w + 2 ∨ a / w = b / w - 2 := by omega
      rcases q with q | q
      · rw [q, Int.mul_add] at ea; omega
      · rw [q, Int.mul_sub] at ea; omega
  · rw [if_neg g] at hn; exact absurd rfl hn
/-- the planks of a row: two ends, and what lies between -/
theorem pl_v {R : Mem} {g : Nat → Int32} {n j : Nat} (jR : J R) (zv : ZV R g n) (hj : (j : Int) < (g 92).toInt) : onN R 1 (g (80 + 2 * j)).toInt ∧ onN R 1 (g (81 + 2 * j)).toInt ∧ btw (xw R) (xh R) (g (80 + 2 * j)).toInt (g (81 + 2 * j)).toInt ≠ -1 ∧ ¬ onN R 1 (btw (xw R) (xh R) (g (80 + 2 * j)).toInt (g (81 + 2 * j)).toInt) := by
  obtain ⟨h1, h2, s, s4, h3, h4⟩ := zv.2.2.2 j hj
  have bi := (bb_i (aw jR) (ah jR) h1.1 h1.2.1 (s := s) (by omega) (by rw [h3]; have := h2.1; omega)).1
  rw [h3] at bi
  refine ⟨h1, h2, ?_, by rw [bi]; exact h4⟩
  rw [bi]
  intro h
  unfold bb at h3
  rw [if_pos h] at h3
  have := h2.1
  omega
def CB (R : Mem) (n : Nat) (c k : Int32) : Prop := (bt k 0 = false → ∀ p, p < n → (R.1 163 p).toInt ≠ c.toInt) ∧ (bt k 1 = false → ∀ p, p < n → (R.1 163 p).toInt ≠ c.toInt + 36) ∧ (bt k 1 = false → ∀ j : Nat, (j : Int) < (R.1 163 92).toInt → (R.1 163 (80 + 2 * j)).toInt ≠ c.toInt ∧ (R.1 163 (81 + 2 * j)).toInt ≠ c.toInt) ∧ (bt k 1 = true → ∀ j : Nat, (j : Int) < (R.1 163 92).toInt → (R.1 163 (80 + 2 * j)).toInt + (R.1 163 (81 + 2 * j)).toInt ≠ 2 * c.toInt)
theorem under_c {X R : Mem} {n : Nat} {c x : Int32} (zq : ZQ X R n) (e : f_Scene_isUnderPlank 11 c X = some x) : (x = 1 ∧ ∃ j : Nat, (j : Int) < (R.1 163 92).toInt ∧ (R.1 163 (80 + 2 * j)).toInt + (R.1 163 (81 + 2 * j)).toInt = 2 * c.toInt) ∨ (x = 0 ∧ ∀ j : Nat, (j : Int) < (R.1 163 92).toInt → (R.1 163 (80 + 2 * j)).toInt + (R.1 163 (81 + 2 * j)).toInt ≠ 2 * c.toInt) := by
  obtain ⟨n8, jR, zb, zs, zv, zw⟩ := zq
  have z6 : (6 : Int32).toInt = 6 := rfl
  have r4 : rf 11 4 = 16 := rfl
  have r5 : rf 11 5 = 17 := rfl
  have lai : X.1 11 6 = R.1 163 92 := zs.2.2.2.1
  have hb := zv.2.1
  unfold f_Scene_isUnderPlank at e
  obtain ⟨_, e⟩ := io_n e
  obtain ⟨y, ey, e⟩ := bo e
  have Q : (y = .inr () ∧ ∃ j : Nat, (j : Int) < (R.1 163 92).toInt ∧ (R.1 163 (80 + 2 * j)).toInt + (R.1 163 (81 + 2 * j)).toInt = 2 * c.toInt) ∨ (y = .inl () ∧ ∀ j : Nat, (j : Int) < (R.1 163 92).toInt → (R.1 163 (80 + 2 * j)).toInt + (R.1 163 (81 + 2 * j)).toInt ≠ 2 * c.toInt) := by
    refine it_r (I := fun s : Int32 => ∃ p : Nat, (p : Int) ≤ (R.1 163 92).toInt ∧ s.toInt = (p : Int) ∧ ∀ j : Nat, j < p → (R.1 163 (80 + 2 * j)).toInt + (R.1 163 (81 + 2 * j)).toInt ≠ 2 * c.toInt) (Q := fun y : Unit ⊕ Unit => (y = .inr () ∧ ∃ j : Nat, (j : Int) < (R.1 163 92).toInt ∧ (R.1 163 (80 + 2 * j)).toInt + (R.1 163 (81 + 2 * j)).toInt = 2 * c.toInt) ∨ (y = .inl () ∧ ∀ j : Nat, (j : Int) < (R.1 163 92).toInt → (R.1 163 (80 + 2 * j)).toInt + (R.1 163 (81 + 2 * j)).toInt ≠ 2 * c.toInt)) ?_ ey ⟨0, by omega, rfl, fun j hj => absurd hj (by omega)⟩
    rintro s r ⟨p, lp, hp, h⟩ e
    unfold lb_Scene_isUnderPlank_2 at e
    rw [lai] at e
    rcases io e with ⟨g, e⟩ | ⟨g, e⟩
    · have := q_le g
      obtain rfl := Option.some.inj e
      exact .inr ⟨rfl, fun j hj => h j (by omega)⟩
    have g1 := q_ng g
    rcases io e with ⟨k, e⟩ | ⟨k, e⟩
    · have := q_le k; omega
    obtain ⟨_, e⟩ := io_n e
    obtain ⟨_, e⟩ := io_n e
    rw [q_nat hp, r4, r5] at e
    have s5 := zs.2.2.2.2.1 p (by omega) (by omega)
    have e4 : X.1 16 p = R.1 163 (80 + 2 * p) := s5.1
    have e5 : X.1 17 p = R.1 163 (81 + 2 * p) := s5.2
    rw [e4, e5] at e
    obtain ⟨x1, ex1, e⟩ := bo e
    obtain ⟨p1, p2, p3, p4⟩ := pl_v jR zv (j := p) (by omega)
    have B := betweenC zb.1 jR p1.1 p1.2.1 p2.1 p2.2.1 ex1
    have E := btw_even p3
    rcases io e with ⟨k, e⟩ | ⟨k, e⟩
    · obtain rfl := Option.some.inj e
      have k1 := q_eq k
      exact .inl ⟨rfl, p, by omega, by omega⟩
    · obtain rfl := Option.some.inj e
      have k1 := q_ne k
      refine ⟨p + 1, by omega, add_ti hp o1 (by omega) (by omega), fun j hj => ?_⟩
      by_cases q : j = p
      · subst q; omega
      · exact h j (by omega)
  rcases Q with ⟨rfl, h⟩ | ⟨rfl, h⟩
  · exact .inl ⟨(Option.some.inj e).symm, h⟩
  · exact .inr ⟨(Option.some.inj e).symm, h⟩
theorem under_r {R : Mem} {n : Nat} {c x : Int32} (zv : ZV R (R.1 163) n) (hc : 0 ≤ c.toInt ∧ c.toInt ≤ 35) (hw : xw R * xh R ≤ 36) (e : f_Mod_isUnder c R = some x) : (x = 1 ∧ ∃ j : Nat, (j : Int) < (R.1 163 92).toInt ∧ (R.1 163 (80 + 2 * j)).toInt + (R.1 163 (81 + 2 * j)).toInt = 2 * c.toInt) ∨ (x = 0 ∧ ∀ j : Nat, (j : Int) < (R.1 163 92).toInt → (R.1 163 (80 + 2 * j)).toInt + (R.1 163 (81 + 2 * j)).toInt ≠ 2 * c.toInt) := by
  have z80 : (80 : Int32).toInt = 80 := rfl
  have hb := zv.2.1
  unfold f_Mod_isUnder at e
  obtain ⟨y, ey, e⟩ := bo e
  have Q : (y = .inr () ∧ ∃ j : Nat, (j : Int) < (R.1 163 92).toInt ∧ (R.1 163 (80 + 2 * j)).toInt + (R.1 163 (81 + 2 * j)).toInt = 2 * c.toInt) ∨ (y = .inl () ∧ ∀ j : Nat, (j : Int) < (R.1 163 92).toInt → (R.1 163 (80 + 2 * j)).toInt + (R.1 163 (81 + 2 * j)).toInt ≠ 2 * c.toInt) := by
    refine it_r (I := fun s : Int32 => ∃ p : Nat, (p : Int) ≤ (R.1 163 92).toInt ∧ s.toInt = (p : Int) ∧ ∀ j : Nat, j < p → (R.1 163 (80 + 2 * j)).toInt + (R.1 163 (81 + 2 * j)).toInt ≠ 2 * c.toInt) (Q := fun y : Unit ⊕ Unit => (y = .inr () ∧ ∃ j : Nat, (j : Int) < (R.1 163 92).toInt ∧ (R.1 163 (80 + 2 * j)).toInt + (R.1 163 (81 + 2 * j)).toInt = 2 * c.toInt) ∨ (y = .inl () ∧ ∀ j : Nat, (j : Int) < (R.1 163 92).toInt → (R.1 163 (80 + 2 * j)).toInt + (R.1 163 (81 + 2 * j)).toInt ≠ 2 * c.toInt)) ?_ ey ⟨0, by omega, rfl, fun j hj => absurd hj (by omega)⟩
    rintro s r ⟨p, lp, hp, h⟩ e
    unfold lb_Mod_isUnder_2 at e
    rw [show (92 : Int32).toNatClampNeg = 92 from rfl] at e
    rcases io e with ⟨g, e⟩ | ⟨g, e⟩
    · have := q_le g
      obtain rfl := Option.some.inj e
      exact .inr ⟨rfl, fun j hj => h j (by omega)⟩
    have g1 := q_ng g
    have i1 : ((2 : Int32) * s).toInt = ((2 * p : Nat) : Int) := by rw [mul_ti o2 hp (by omega) (by omega)]; omega
    have i2 : ((80 : Int32) + ((2 : Int32) * s)).toInt = ((80 + 2 * p : Nat) : Int) := by rw [add_ti z80 i1 (by omega) (by omega)]; omega
    have i3 : (((80 : Int32) + ((2 : Int32) * s)) + (1 : Int32)).toInt = ((81 + 2 * p : Nat) : Int) := by rw [add_ti i2 o1 (by omega) (by omega)]; omega
    obtain ⟨_, e⟩ := io_n e
    obtain ⟨_, e⟩ := io_n e
    rw [q_nat i2, q_nat i3] at e
    obtain ⟨p1, p2, _⟩ := zv.2.2.2 p (by omega)
    have a1 := p1.1
    have a2 := p1.2.1
    have b1 := p2.1
    have b2 := p2.2.1
    have S : ((R.1 163 (80 + 2 * p)) + (R.1 163 (81 + 2 * p))).toInt = (R.1 163 (80 + 2 * p)).toInt + (R.1 163 (81 + 2 * p)).toInt := add_ti rfl rfl (by omega) (by omega)
    have D : ((2 : Int32) * c).toInt = 2 * c.toInt := mul_ti o2 rfl (by omega) (by omega)
    rcases io e with ⟨k, e⟩ | ⟨k, e⟩
    · obtain rfl := Option.some.inj e
      have k1 := q_eq k
      exact .inl ⟨rfl, p, by omega, by omega⟩
    · obtain rfl := Option.some.inj e
      have k1 := q_ne k
      refine ⟨p + 1, by omega, add_ti hp o1 (by omega) (by omega), fun j hj => ?_⟩
      by_cases q : j = p
      · subst q; omega
      · exact h j (by omega)
  rcases Q with ⟨rfl, h⟩ | ⟨rfl, h⟩
  · exact .inl ⟨(Option.some.inj e).symm, h⟩
  · exact .inr ⟨(Option.some.inj e).symm, h⟩
end
section
/-! a cell built -/
theorem stand_p {X R : Mem} {n p : Nat} {c l : Int32} (zq : ZQ X R n) (hp : p < n) (hc : 0 ≤ c.toInt ∧ c.toInt ≤ 35) (hl : 0 ≤ l.toInt ∧ l.toInt ≤ 1) : (X.1 12 p = c ∧ X.1 13 p = l) ↔ (R.1 163 p).toInt = c.toInt + 36 * l.toInt := by
  obtain ⟨a1, a2, a3, a4, a5, _⟩ := zq.2.2.2.1.1 p hp
  have a1 : (R.1 163 p).toInt = (X.1 12 p).toInt + 36 * (X.1 13 p).toInt := a1
  have a2 : 0 ≤ (X.1 12 p).toInt := a2
  have a3 : (X.1 12 p).toInt ≤ 35 := a3
  constructor
  · rintro ⟨h1, h2⟩; rw [a1, h1, h2]
  · intro h
    exact ⟨Int32.toInt_inj.mp (by omega), Int32.toInt_inj.mp (by omega)⟩
theorem lev_c {X R : Mem} {n : Nat} {c k : Int32} {y : Unit ⊕ Unit} (zq : ZQ X R n) (hc : 0 ≤ c.toInt ∧ c.toInt ≤ 35) (e : iter (lb_Top_canBecome_2 c k X) FU (0 : Int32) = some y) : (y = .inl () ∧ ∀ l : Nat, l < 2 → bt k l = false → ∀ p, p < n → (R.1 163 p).toInt ≠ c.toInt + 36 * (l : Int)) ∨ (y = .inr () ∧ ∃ l : Nat, l < 2 ∧ bt k l = false ∧ ∃ p, p < n ∧ (R.1 163 p).toInt = c.toInt + 36 * (l : Int)) := by
  have n8 := zq.1
  have zc := zq.2.2.1.2.1
  have z1 := o1
  have hm : (X.1 6 4).toInt = (n : Int) := by rw [zc.2.1]; exact zc.1
  refine it_r (I := fun s : Int32 => ∃ q : Nat, q ≤ 2 ∧ s.toInt = (q : Int) ∧ ∀ l : Nat, l < q → bt k l = false → ∀ p, p < n → (R.1 163 p).toInt ≠ c.toInt + 36 * (l : Int)) (Q := fun y : Unit ⊕ Unit => (y = .inl () ∧ ∀ l : Nat, l < 2 → bt k l = false → ∀ p, p < n → (R.1 163 p).toInt ≠ c.toInt + 36 * (l : Int)) ∨ (y = .inr () ∧ ∃ l : Nat, l < 2 ∧ bt k l = false ∧ ∃ p, p < n ∧ (R.1 163 p).toInt = c.toInt + 36 * (l : Int))) ?_ e ⟨0, by omega, rfl, fun l hl => absurd hl (by omega)⟩
  rintro s r ⟨q, lq, hq, h⟩ e
  unfold lb_Top_canBecome_2 at e
  rcases io e with ⟨g, e⟩ | ⟨g, e⟩
  · have := q_lt g
    obtain rfl := Option.some.inj e
    have : q = 2 := by omega
    subst this
    exact .inl ⟨rfl, h⟩
  have g1 := q_nl g
  have nx : (s + (1 : Int32)).toInt = ((q + 1 : Nat) : Int) := add_ti hq o1 (by omega) (by omega)
  rw [bt_shr hq (by omega)] at e
  unfold j_Top_canBecome_20_2 at e
  cases hb : bt k q with
  | true =>
    rw [hb, if_pos rfl, if_neg (by decide), if_pos rfl] at e
    obtain rfl := Option.some.inj e
    refine ⟨q + 1, by omega, nx, fun l hl hk => ?_⟩
    by_cases w : l = q
    · subst w; rw [hb] at hk; cases hk
    · exact h l (by omega) hk
  | false =>
    rw [hb, if_neg (show ¬ (false = true) by decide), if_pos rfl, if_neg (by decide)] at e
    obtain ⟨x1, ex1, e⟩ := bo e
    have S := standing_i hm n8 ex1
    rcases io e with ⟨w, e⟩ | ⟨w, e⟩
    · obtain rfl := Option.some.inj e
      refine ⟨q + 1, by omega, nx, fun l hl hk p hp => ?_⟩
      by_cases v : l = q
      · subst v
        intro hh
        have st := (stand_p (l := s) zq hp hc (by omega)).mpr (by rw [hq]; exact hh)
        have := S p
        rw [w, bt_0, decide_eq_true ⟨hp, st.1, st.2⟩] at this
        cases this
      · exact h l (by omega) hk p hp
    · obtain rfl := Option.some.inj e
      obtain ⟨p, hp⟩ := bt_ex w
      rw [S p] at hp
      obtain ⟨p1, p2, p3⟩ := of_decide_eq_true hp
      have st := (stand_p (l := s) zq p1 hc (by omega)).mp ⟨p2, p3⟩
      rw [hq] at st
      exact .inr ⟨rfl, q, by omega, hb, p, p1, st⟩
theorem can_c {X R : Mem} {n : Nat} {c k x : Int32} (zq : ZQ X R n) (hc : 0 ≤ c.toInt ∧ c.toInt ≤ 35) (e : f_Top_canBecome c k X = some x) : (x = 1 ∧ CB R n c k) ∨ (x = 0 ∧ ¬ CB R n c k) := by
  have hb := zq.2.2.2.2.1.2.1
  have zs := zq.2.2.2.1
  obtain ⟨m, hm⟩ := ti_ofn hb.1
  have lai : X.1 11 6 = R.1 163 92 := zs.2.2.2.1
  have pl : ∀ j : Nat, j < m → X.1 16 j = R.1 163 (80 + 2 * j) ∧ X.1 17 j = R.1 163 (81 + 2 * j) := fun j hj => zs.2.2.2.2.1 j (by omega) (by omega)
  unfold f_Top_canBecome at e
  obtain ⟨y, ey, e⟩ := bo e
  rcases lev_c zq hc ey with ⟨rfl, L⟩ | ⟨rfl, l, l2, hl, p, hp, h⟩
  · dsimp only [Sum.elim_inl] at e
    have L0 : bt k 0 = false → ∀ p, p < n → (R.1 163 p).toInt ≠ c.toInt := fun h p hp => by have := L 0 (by omega) h p hp; omega
    have L1 : bt k 1 = false → ∀ p, p < n → (R.1 163 p).toInt ≠ c.toInt + 36 := fun h p hp => by have := L 1 (by omega) h p hp; omega
    rw [bt_shr (v := 1) (d := 1) rfl (by omega)] at e
    cases hb1 : bt k 1 with
    | false =>
      rw [hb1, if_neg (show ¬ (false = true) by decide), if_pos rfl] at e
      unfold j_Top_canBecome_67 at e
      rw [if_pos rfl] at e
      obtain ⟨x8, ex8, e⟩ := bo e
      have A := planksAt_i (by rw [lai]; exact hm) (by omega) ex8
      rcases io e with ⟨w, e⟩ | ⟨w, e⟩
      · refine .inl ⟨(Option.some.inj e).symm, L0, L1, fun _ j hj => ?_, fun h => (by rw [hb1] at h; cases h)⟩
        have P := pl j (by omega)
        have nA : ¬ (j < m ∧ (X.1 16 j = c ∨ X.1 17 j = c)) := fun h => by have := (A j).mpr h; rw [w, bt_0] at this; cases this
        rw [← P.1, ← P.2]
        exact ⟨fun h => nA ⟨by omega, .inl (Int32.toInt_inj.mp h)⟩, fun h => nA ⟨by omega, .inr (Int32.toInt_inj.mp h)⟩⟩
      · refine .inr ⟨(Option.some.inj e).symm, fun cb => ?_⟩
        obtain ⟨j, hj⟩ := bt_ex w
        obtain ⟨j1, j2⟩ := (A j).mp hj
        have P := pl j j1
        obtain ⟨n1, n2⟩ := cb.2.2.1 hb1 j (by omega)
        rw [← P.1] at n1
        rw [← P.2] at n2
        rcases j2 with h | h
        · exact n1 (congrArg _ h)
        · exact n2 (congrArg _ h)
    | true =>
      rw [hb1, if_pos rfl, if_neg (by decide)] at e
      unfold j_Top_canBecome_67 at e
      rw [if_neg (by decide)] at e
      obtain ⟨x10, ex10, e⟩ := bo e
      rcases under_c zq ex10 with ⟨u, j, hj, h⟩ | ⟨u, h⟩
      · rw [u, if_neg (by decide)] at e
        exact .inr ⟨(Option.some.inj e).symm, fun cb => cb.2.2.2 hb1 j hj h⟩
      · rw [u, if_pos rfl] at e
        exact .inl ⟨(Option.some.inj e).symm, L0, L1, fun h => (by rw [hb1] at h; cases h), fun _ => h⟩
  · dsimp only [Sum.elim_inr] at e
    refine .inr ⟨(Option.some.inj e).symm, fun cb => ?_⟩
    have : l = 0 ∨ l = 1 := by omega
    rcases this with rfl | rfl
    · exact cb.1 hl p hp (by omega)
    · exact cb.2.1 hl p hp (by omega)
theorem ends_r {R : Mem} {v1 v2 v3 : Int32} {y : Unit ⊕ Unit} (hb : 0 ≤ (R.1 163 92).toInt ∧ (R.1 163 92).toInt ≤ 6) (e : iter (lb_Mod_build_87 v1 v2 v3 R) FU (0 : Int32) = some y) : (y = .inl () ∧ (v3 = 0 → ∀ i : Nat, (i : Int) < 2 * (R.1 163 92).toInt → R.1 163 (80 + i) ≠ v1)) ∨ (y = .inr () ∧ v3 = 0 ∧ ∃ i : Nat, (i : Int) < 2 * (R.1 163 92).toInt ∧ R.1 163 (80 + i) = v1) := by
  have z80 : (80 : Int32).toInt = 80 := rfl
  refine it_r (I := fun s : Int32 => ∃ q : Nat, (q : Int) ≤ 2 * (R.1 163 92).toInt ∧ s.toInt = (q : Int) ∧ (v3 = 0 → ∀ i : Nat, i < q → R.1 163 (80 + i) ≠ v1)) (Q := fun y : Unit ⊕ Unit => (y = .inl () ∧ (v3 = 0 → ∀ i : Nat, (i : Int) < 2 * (R.1 163 92).toInt → R.1 163 (80 + i) ≠ v1)) ∨ (y = .inr () ∧ v3 = 0 ∧ ∃ i : Nat, (i : Int) < 2 * (R.1 163 92).toInt ∧ R.1 163 (80 + i) = v1)) ?_ e ⟨0, by omega, rfl, fun _ i hi => absurd hi (by omega)⟩
  rintro s r ⟨q, lq, hq, h⟩ e
  unfold lb_Mod_build_87 at e
  rw [show (92 : Int32).toNatClampNeg = 92 from rfl] at e
  have i1 : ((2 : Int32) * (R.1 163 92)).toInt = 2 * (R.1 163 92).toInt := mul_ti o2 rfl (by omega) (by omega)
  rcases io e with ⟨g, e⟩ | ⟨g, e⟩
  · have := q_le g
    obtain rfl := Option.some.inj e
    exact .inl ⟨rfl, fun w i hi => h w i (by omega)⟩
  have g1 := q_ng g
  have i2 : ((80 : Int32) + s).toInt = ((80 + q : Nat) : Int) := by rw [add_ti z80 hq (by omega) (by omega)]; omega
  have nx : (s + (1 : Int32)).toInt = ((q + 1 : Nat) : Int) := add_ti hq o1 (by omega) (by omega)
  obtain ⟨_, e⟩ := io_n e
  rw [q_nat i2] at e
  rcases io e with ⟨k, e⟩ | ⟨k, e⟩
  · rcases io e with ⟨w, e⟩ | ⟨w, e⟩
    · obtain rfl := Option.some.inj e
      exact .inr ⟨rfl, w, q, by omega, k⟩
    · obtain rfl := Option.some.inj e
      exact ⟨q + 1, by omega, nx, fun v => absurd v w⟩
  · obtain rfl := Option.some.inj e
    refine ⟨q + 1, by omega, nx, fun v i hi => ?_⟩
    by_cases w : i = q
    · subst w; exact k
    · exact h v i (by omega)
theorem can_r {R : Mem} {n : Nat} {v1 v2 w0 : Int32} {r : Int32 × Mem} (jR : J R) (zv : ZV R (R.1 163) n) (hn : (R.1 162 4).toInt = (n : Int)) (n8 : n ≤ 8) (hc : 0 ≤ v1.toInt ∧ v1.toInt ≤ 35) (b0 : bt v2 0 = true ↔ (v2 = 1 ∨ v2 = 3)) (b1 : bt v2 1 = true ↔ w0 ≠ 0) (e : j_Mod_build_39 v1 v2 w0 R = some r) : (CB R n v1 v2 ∧ j_Mod_build_141 v1 v2 R = some r) ∨ (¬ CB R n v1 v2 ∧ r = ((-1 : Int32), R)) := by
  have z36 : (36 : Int32).toInt = 36 := rfl
  have hb := zv.2.1
  have wh := awh jR
  have emp : ∀ {x c : Int32}, f_Mod_onPlace 163 c R = some x → (x = 0 ↔ ∀ p, p < n → (R.1 163 p).toInt ≠ c.toInt) := by
    intro x c e
    have S := onPlace_i hn n8 e
    constructor
    · intro w p hp h
      have := S p
      rw [w, bt_0, decide_eq_true ⟨hp, Int32.toInt_inj.mp h⟩] at this
      cases this
    · intro h
      by_cases w : x = 0
      · exact w
      · obtain ⟨p, hp⟩ := bt_ex w
        rw [S p] at hp
        obtain ⟨p1, p2⟩ := of_decide_eq_true hp
        exact absurd (congrArg _ p2) (h p p1)
  have nf : ∀ {v : Int32} {d : Nat}, ¬ bt v d = true → bt v d = false := fun {v d} h => by
    cases hh : bt v d with
    | true => exact absurd hh h
    | false => rfl
  have tf : ∀ {v : Int32} {d : Nat}, bt v d = true → bt v d = false → False := fun h1 h2 => by rw [h1] at h2; cases h2
  have last : (bt v2 0 = false → ∀ p, p < n → (R.1 163 p).toInt ≠ v1.toInt) → (bt v2 1 = false → ∀ p, p < n → (R.1 163 p).toInt ≠ v1.toInt + 36) → Option.bind (iter (lb_Mod_build_87 v1 v2 w0 R) FU (0 : Int32)) (Sum.elim (fun _ => if w0 = 0 then j_Mod_build_141 v1 v2 R else Option.bind (f_Mod_isUnder v1 R) fun x15 => if x15 = 0 then j_Mod_build_141 v1 v2 R else some ((-1 : Int32), R)) (fun _ => some ((-1 : Int32), R))) = some r → (CB R n v1 v2 ∧ j_Mod_build_141 v1 v2 R = some r) ∨ (¬ CB R n v1 v2 ∧ r = ((-1 : Int32), R)) := by
    intro C0 C1 e
    obtain ⟨y, ey, e⟩ := bo e
    rcases ends_r hb ey with ⟨rfl, L⟩ | ⟨rfl, w, i, hi, h⟩
    · dsimp only [Sum.elim_inl] at e
      rcases io e with ⟨w, e⟩ | ⟨w, e⟩
      · refine .inl ⟨⟨C0, C1, fun _ j hj => ⟨fun h => ?_, fun h => ?_⟩, fun h => absurd w (b1.mp h)⟩, e⟩
        · exact L w (2 * j) (by omega) (Int32.toInt_inj.mp h)
        · exact L w (2 * j + 1) (by omega) (by rw [show 80 + (2 * j + 1) = 81 + 2 * j by omega]; exact Int32.toInt_inj.mp h)
      · obtain ⟨x, ex, e⟩ := bo e
        have t1 := b1.mpr w
        rcases under_r zv hc wh.2 ex with ⟨u, j, hj, h⟩ | ⟨u, h⟩
        · rw [u, if_neg (by decide)] at e
          exact .inr ⟨fun cb => cb.2.2.2 t1 j hj h, (Option.some.inj e).symm⟩
        · rw [u, if_pos rfl] at e
          exact .inl ⟨⟨C0, C1, fun h => (tf t1 h).elim, fun _ => h⟩, e⟩
    · dsimp only [Sum.elim_inr] at e
      refine .inr ⟨fun cb => ?_, (Option.some.inj e).symm⟩
      have f1 : bt v2 1 = false := nf fun h => b1.mp h w
      have : i = 2 * (i / 2) ∨ i = 2 * (i / 2) + 1 := by omega
      obtain ⟨n1, n2⟩ := cb.2.2.1 f1 (i / 2) (by omega)
      rcases this with q | q
      · rw [q] at h; exact n1 (congrArg _ h)
      · rw [q, show 80 + (2 * (i / 2) + 1) = 81 + 2 * (i / 2) by omega] at h; exact n2 (congrArg _ h)
  have mid : (bt v2 0 = false → ∀ p, p < n → (R.1 163 p).toInt ≠ v1.toInt) → j_Mod_build_62 v1 v2 w0 R = some r → (CB R n v1 v2 ∧ j_Mod_build_141 v1 v2 R = some r) ∨ (¬ CB R n v1 v2 ∧ r = ((-1 : Int32), R)) := by
    intro C0 e
    unfold j_Mod_build_62 at e
    obtain ⟨x5, ex5, e⟩ := bo e
    obtain ⟨x6, ex6, e⟩ := bo e
    unfold f_Mod_placeOf at ex5
    have ex5 := Option.some.inj ex5
    have h5 : x5.toInt = v1.toInt + 36 := by
      rw [← ex5, add_ti (mul_ti z36 o1 (by omega) (by omega)) rfl (by omega) (by omega)]; omega
    have E := emp ex6
    rw [h5] at E
    rcases io e with ⟨w, e⟩ | ⟨w, e⟩
    · exact last C0 (fun _ => E.mp w) e
    rcases io e with ⟨v, e⟩ | ⟨v, e⟩
    · exact .inr ⟨fun cb => w (E.mpr (cb.2.1 (nf fun h => b1.mp h v))), (Option.some.inj e).symm⟩
    · exact last C0 (fun h => (tf (b1.mpr v) h).elim) e
  unfold j_Mod_build_39 at e
  obtain ⟨x4, ex4, e⟩ := bo e
  have E := emp ex4
  rcases io e with ⟨w, e⟩ | ⟨w, e⟩
  · exact mid (fun _ => E.mp w) e
  rcases io e with ⟨v, e⟩ | ⟨v, e⟩
  · exact mid (fun h => (tf (b0.mpr (.inl v)) h).elim) e
  rcases io e with ⟨u, e⟩ | ⟨u, e⟩
  · exact mid (fun h => (tf (b0.mpr (.inr u)) h).elim) e
  · exact .inr ⟨fun cb => w (E.mpr (cb.1 (nf fun h => (b0.mp h).elim v u))), (Option.some.inj e).symm⟩
end
section
/-! a cell built: the whole command -/
theorem kind_b {v : Int32} (h : 0 ≤ v.toInt ∧ v.toInt ≤ 3) : (bt v 0 = true ↔ (v = 1 ∨ v = 3)) ∧ (bt v 1 = true ↔ (v = 2 ∨ v = 3)) := by
  have hv : v = 0 ∨ v = 1 ∨ v = 2 ∨ v = 3 := by
    have : v.toInt = 0 ∨ v.toInt = 1 ∨ v.toInt = 2 ∨ v.toInt = 3 := by omega
    rcases this with h | h | h | h
    · exact .inl (Int32.toInt_inj.mp h)
    · exact .inr (.inl (Int32.toInt_inj.mp h))
    · exact .inr (.inr (.inl (Int32.toInt_inj.mp h)))
    · exact .inr (.inr (.inr (Int32.toInt_inj.mp h)))
  rcases hv with rfl | rfl | rfl | rfl <;> decide +kernel
theorem built_q {X Y R S : Mem} {n c : Nat} {v : Int32} (zq : ZQ X R n) (jS : J S) (hc : c < 36) (hcw : (c : Int) < xw R * xh R) (hv : 0 ≤ v.toInt ∧ v.toInt ≤ 3) (cb : CB R n (Int32.ofInt (c : Int)) v) (hci : (Int32.ofInt (c : Int)).toInt = (c : Int)) (fx : ∀ kx i, ¬ (kx = 4 ∧ i = c) → ¬ (kx = 46 ∧ (i = 2 ∨ i = 3)) → Y.1 kx i = X.1 kx i) (xc : Y.1 4 c = v) (xq : Y.2 = X.2) (fr : ∀ kx i, ¬ (kx = 164 ∧ i = c) → ¬ (kx = 162 ∧ (i = 27 ∨ i = 48)) → S.1 kx i = R.1 kx i) (rc : S.1 164 c = v) : ZB Y S n ∧ ZS (scn Y 11) (S.1 163) n ∧ ZV S (S.1 163) n := by
  obtain ⟨n8, jR, ⟨⟨g1, g2, g3, g4⟩, ⟨c1, c2, c3, c4, c5, c6⟩, l⟩, zs, zv, zw⟩ := zq
  have w1 : xw S = xw R := congrArg Int32.toInt (fr 162 2 (by omega) (by omega))
  have w2 : xh S = xh R := congrArg Int32.toInt (fr 162 3 (by omega) (by omega))
  obtain ⟨k0, k1⟩ := kind_b hv
  unfold CB at cb
  rw [hci] at cb
  have on_ne : ∀ (l d : Int), d ≠ (c : Int) → (onN S l d ↔ onN R l d) := by
    intro l d hd
    unfold onN
    rw [w1, w2]
    constructor
    · rintro ⟨a, b, h⟩
      rw [fr 164 d.toNat (by omega) (by omega)] at h
      exact ⟨a, b, h⟩
    · rintro ⟨a, b, h⟩
      refine ⟨a, b, ?_⟩
      rw [fr 164 d.toNat (by omega) (by omega)]
      exact h
  have on0 : bt v 0 = true → onN S 0 (c : Int) := by
    intro h
    refine ⟨by omega, by rw [w1, w2]; exact hcw, ?_⟩
    rw [if_pos rfl]
    show (S.1 164 c).toInt = 1 ∨ (S.1 164 c).toInt = 3
    rw [rc]
    rcases k0.mp h with rfl | rfl
    · exact .inl rfl
    · exact .inr rfl
  have on1 : bt v 1 = true → onN S 1 (c : Int) := by
    intro h
    refine ⟨by omega, by rw [w1, w2]; exact hcw, ?_⟩
    rw [if_neg (by omega)]
    show (S.1 164 c).toInt = 2 ∨ (S.1 164 c).toInt = 3
    rw [rc]
    rcases k1.mp h with rfl | rfl
    · exact .inl rfl
    · exact .inr rfl
  have off1 : bt v 1 = false → ¬ onN S 1 (c : Int) := by
    rintro h ⟨_, _, q⟩
    rw [if_neg (by omega)] at q
    have q : (S.1 164 c).toInt = 2 ∨ (S.1 164 c).toInt = 3 := q
    rw [rc] at q
    have : bt v 1 = true := k1.mpr (by
      rcases q with q | q
      · exact .inl (Int32.toInt_inj.mp q)
      · exact .inr (Int32.toInt_inj.mp q))
    rw [h] at this; cases this
  refine ⟨⟨⟨?_, ?_, fun i hi => ?_, fun i hi => ?_⟩, ⟨?_, ?_, ?_, fun p hp => ?_, fun p i hp hi => ?_, fun p hp => ?_⟩, ?_⟩, ZS_c n8 (scn_f (fun kx i a b => fx kx i (by omega) (by omega))) (fun i _ => (fr 163 i (by omega) (by omega)).symm) zs, ?_⟩
  · rw [fx 3 2 (by omega) (by omega), w1]; exact g1
  · rw [fx 3 3 (by omega) (by omega), w1, w2]; exact g2
  · by_cases q : i = c
    · subst q; rw [xc, rc]
    · rw [fx 4 i (by omega) (by omega), fr 164 i (by omega) (by omega)]; exact g3 i hi
  · by_cases q : i = c
    · subst q; rw [rc]; exact hv
    · rw [fr 164 i (by omega) (by omega)]; exact g4 i hi
  · rw [fr 162 4 (by omega) (by omega)]; exact c1
  · rw [fx 6 4 (by omega) (by omega), fr 162 4 (by omega) (by omega)]; exact c2
  · rw [fx 6 5 (by omega) (by omega), fr 162 5 (by omega) (by omega)]; exact c3
  · rw [fx 8 p (by omega) (by omega), fr 166 p (by omega) (by omega)]; exact c4 p hp
  · rw [fr 166 p (by omega) (by omega)] at hi; rw [fx 7 _ (by omega) (by omega), fr 165 _ (by omega) (by omega)]; exact c5 p i hp hi
  · rw [fr 162 5 (by omega) (by omega)]; exact c6 p hp
  · have b5 := fr 162 23 (by omega) (by omega)
    have b9 : ∀ i, S.1 172 i = R.1 172 i := fun i => fr 172 i (by omega) (by omega)
    have rl : rlx S = rlx R := by funext p; unfold rlx; rw [b5, b9]
    unfold ZL at l ⊢
    rw [rl, b5, fx 40 4 (by omega) (by omega)]
    rcases l with l | ⟨l1, l40, l2, Sx, l3, l4, l5, l6, l7, l8, l9⟩
    · exact .inl l
    · exact .inr ⟨l1, l40, fun p hp => by rw [b9]; exact l2 p hp, Sx, l3, l4, l5, l6, l7, l8, stk_c l9 (fun i _ => fx 41 i (by omega) (by omega))⟩
  · have f3 : ∀ i, S.1 163 i = R.1 163 i := fun i => fr 163 i (by omega) (by omega)
    have zv' := zv
    obtain ⟨h1, h2, h3, h4⟩ := zv
    refine ⟨fun p hp => ?_, by rw [f3]; exact h2, by rw [f3]; exact h3, fun j hj => ?_⟩
    · rw [f3 p, f3 (8 + p), fr 162 5 (by omega) (by omega), fr 166 p (by omega) (by omega)]
      obtain ⟨⟨q1, q2, q3⟩, q4⟩ := h1 p hp
      refine ⟨⟨q1, q2, ?_⟩, q4⟩
      by_cases w : (R.1 163 p).toInt % 36 = (c : Int)
      · have : (R.1 163 p).toInt / 36 = 0 ∨ (R.1 163 p).toInt / 36 = 1 := by omega
        rcases this with z | z
        · rw [z, w]
          refine on0 ?_
          cases hb : bt v 0 with
          | true => rfl
          | false => exact absurd (show (R.1 163 p).toInt = (c : Int) by omega) (cb.1 hb p hp)
        · rw [z, w]
          refine on1 ?_
          cases hb : bt v 1 with
          | true => rfl
          | false => exact absurd (show (R.1 163 p).toInt = (c : Int) + 36 by omega) (cb.2.1 hb p hp)
      · exact (on_ne _ _ w).mpr q3
    · rw [f3 92] at hj
      rw [f3, f3, w1, w2]
      obtain ⟨q1, q2, s, q3, q4, q5⟩ := h4 j hj
      obtain ⟨p1, p2, p3, p4⟩ := pl_v jR zv' hj
      have E := btw_even p3
      have bi := (bb_i (aw jR) (ah jR) q1.1 q1.2.1 (s := s) (by omega) (by rw [q4]; have := q2.1; omega)).1
      rw [q4] at bi
      have en : ∀ d : Int, onN R 1 d → (d = (c : Int) → bt v 1 = true) → onN S 1 d := by
        intro d hd hb
        by_cases w : d = (c : Int)
        · rw [w]; exact on1 (hb w)
        · exact (on_ne _ _ w).mpr hd
      refine ⟨en _ q1 (fun w => ?_), en _ q2 (fun w => ?_), s, q3, q4, fun h => ?_⟩
      · cases hb : bt v 1 with
        | true => rfl
        | false => exact absurd w (cb.2.2.1 hb j hj).1
      · cases hb : bt v 1 with
        | true => rfl
        | false => exact absurd w (cb.2.2.1 hb j hj).2
      · by_cases w : bes (xw R) (xh R) (R.1 163 (80 + 2 * j)).toInt s = (c : Int)
        · cases hb : bt v 1 with
          | true => exact cb.2.2.2 hb j hj (by rw [bi, w] at E; exact E)
          | false => rw [w] at h; exact off1 hb h
        · exact q5 ((on_ne _ _ w).mp h)
theorem build_2 {X R : Mem} {n : Nat} {v1 v2 : Int32} {x r : Int32 × Mem} (za : ZA X R n) (kk : KK R) (big : (R.1 162 48).toInt ≤ 2000000) (jr : J r.2) (ex : f_Top_build v1 v2 X = some x) (er : f_Mod_build v1 v2 R = some r) : x.1 = r.1 ∧ ZA x.2 r.2 n := by
  have jR := za.1.2.1
  have z0 := o0
  have z3 := o3
  unfold f_Mod_build at er
  obtain ⟨M1, m1, era⟩ := mo er
  have j1 : J M1 := by rw [m1]; exact Jw_fld okf_162_13 jR _
  have zaM : ZA X M1 n := ZA_13 j1 (fun kx i h _ _ => by rw [m1, si_ne (by omega)]) za
  have no : some ((-1 : Int32), X) = some x → r = ((-1 : Int32), M1) → x.1 = r.1 ∧ ZA x.2 r.2 n := by
    intro e1 e2
    rw [← Option.some.inj e1, e2]
    exact ⟨rfl, zaM⟩
  unfold f_Top_build at ex
  obtain ⟨x1, ex1, ex⟩ := bo ex
  obtain ⟨y1, ey1, era⟩ := bo era
  rcases has_j zaM.1.2.2.1.1 j1 ex1 with ⟨p1, a1, a2⟩ | ⟨p1, a1⟩
  rotate_left
  · rcases some_of (sp_isCell j1 v1) ey1 with ⟨_, b1, b2, b3⟩ | ⟨q, b1⟩
    · exact absurd ⟨b1, b3⟩ a1
    rw [p1, if_pos rfl] at ex
    rw [q, if_pos rfl] at era
    exact no ex (Option.some.inj era).symm
  rcases some_of (sp_isCell j1 v1) ey1 with ⟨q, b1, b2, b3⟩ | ⟨q, b1⟩
  rotate_left
  · exact absurd ⟨a1, a2⟩ b1
  rw [p1, if_neg (by decide)] at ex
  rw [q, if_neg (by decide)] at era
  obtain ⟨y2, ey2, era⟩ := bo era
  have h2 := some_of (sp_in v2 0 3) ey2
  rw [o0, o3] at h2
  have out : ¬ (0 ≤ v2.toInt ∧ v2.toInt ≤ 3) → some ((-1 : Int32), X) = some x → x.1 = r.1 ∧ ZA x.2 r.2 n := by
    intro hn e
    rcases h2 with ⟨_, h⟩ | ⟨h, _⟩
    · exact absurd h hn
    · rw [h, if_pos rfl] at era
      exact no e (Option.some.inj era).symm
  rcases io ex with ⟨g, ex⟩ | ⟨g, ex⟩
  · exact out (by have := q_lt g; omega) ex
  have g1 := q_nl g
  rcases io ex with ⟨g, ex⟩ | ⟨g, ex⟩
  · exact out (by have := q_lt g; omega) ex
  have g2 := q_nl g
  have hv : 0 ≤ v2.toInt ∧ v2.toInt ≤ 3 := by omega
  rcases h2 with ⟨h, _⟩ | ⟨_, h⟩
  rotate_left
  · exact absurd hv h
  rw [h, if_neg (by decide)] at era
  obtain ⟨k0, k1⟩ := kind_b hv
  have zqM := zaM.1
  have zc := zqM.2.2.1.2.1
  have R39 : ∃ w0 : Int32, (bt v2 1 = true ↔ w0 ≠ 0) ∧ j_Mod_build_39 v1 v2 w0 M1 = some r := by
    rcases io era with ⟨g, e⟩ | ⟨g, e⟩
    · exact ⟨1, ⟨fun _ => by decide, fun _ => k1.mpr (.inl g)⟩, e⟩
    rcases io e with ⟨g', e⟩ | ⟨g', e⟩
    · exact ⟨1, ⟨fun _ => by decide, fun _ => k1.mpr (.inr g')⟩, e⟩
    · exact ⟨0, ⟨fun h => ((k1.mp h).elim g g').elim, fun h => absurd rfl h⟩, e⟩
  obtain ⟨w0, hw0, e39⟩ := R39
  have CR := can_r j1 zqM.2.2.2.2.1 zc.1 zqM.1 ⟨a1, b2⟩ k0 hw0 e39
  obtain ⟨x2, ex2, ex⟩ := bo ex
  rcases can_c zqM ⟨a1, b2⟩ ex2 with ⟨u, cb⟩ | ⟨u, cb⟩
  rotate_left
  · rcases CR with ⟨h, _⟩ | ⟨_, h⟩
    · exact absurd h cb
    rw [u, if_pos rfl] at ex
    exact no ex h
  rcases CR with ⟨_, e141⟩ | ⟨h, _⟩
  rotate_left
  · exact absurd cb h
  rw [u, if_neg (by decide)] at ex
  obtain ⟨c, hc⟩ := ti_ofn a1
  have vc := of_s hc
  unfold j_Mod_build_141 at e141
  obtain ⟨_, ex⟩ := io_n ex
  obtain ⟨_, ex⟩ := io_n ex
  obtain ⟨_, e141⟩ := io_n e141
  obtain ⟨_, e141⟩ := io_n e141
  rw [q_nat hc] at ex e141
  obtain ⟨X3, x3, ex⟩ := mo ex
  obtain ⟨X4, ex4, ex⟩ := bo ex
  obtain ⟨X5, ex5, ex⟩ := bo ex
  obtain ⟨x6, ex6, ex⟩ := bo ex
  have exF := Option.some.inj ex
  unfold f_History_forget at ex4
  obtain ⟨N4, n4, ex4⟩ := mo ex4
  have ex4 := Option.some.inj ex4
  subst ex4
  unfold f_History_spoil at ex5
  obtain ⟨N5, n5, ex5⟩ := mo ex5
  have ex5 := Option.some.inj ex5
  subst ex5
  obtain ⟨M12, m12, e141⟩ := mo e141
  obtain ⟨M13, m13, e141⟩ := mo e141
  obtain ⟨M14, m14, e141⟩ := mo e141
  have e141F := Option.some.inj e141
  have m48 : M13.1 162 48 = M1.1 162 48 := by rw [m13, si_ne (by omega), m12, si_ne (by omega)]
  rw [m48] at m14
  have fx : ∀ kx i, ¬ (kx = 4 ∧ i = c) → ¬ (kx = 46 ∧ (i = 2 ∨ i = 3)) → N5.1 kx i = X.1 kx i := fun kx i h g => by rw [n5, si_ne (by omega), n4, si_ne (by omega), x3, si_ne h]
  have xc : N5.1 4 c = v2 := by rw [n5, si_ne (by omega), n4, si_ne (by omega), x3, si_eq]
  have xq : N5.2 = X.2 := by rw [n5]; show N4.2 = _; rw [n4]; show X3.2 = _; rw [x3]; rfl
  have fr : ∀ kx i, ¬ (kx = 164 ∧ i = c) → ¬ (kx = 162 ∧ (i = 27 ∨ i = 48)) → M14.1 kx i = M1.1 kx i := fun kx i h g => by rw [m14, si_ne (by omega), m13, si_ne (by omega), m12, si_ne h]
  have rc : M14.1 164 c = v2 := by rw [m14, si_ne (by omega), m13, si_ne (by omega), m12, si_eq]
  have r27 : M14.1 162 27 = 0 := by rw [m14, si_ne (by omega), m13, si_eq]
  have r48 : M14.1 162 48 = M1.1 162 48 + 1 := by rw [m14, si_eq]
  have jS : J M14 := by rw [← e141F] at jr; exact jr
  obtain ⟨zb, zs, zv⟩ := built_q (c := c) (v := v2) zqM jS (by omega) (by omega) hv (by rw [vc]; exact cb) (by rw [vc]; exact hc) fx xc xq fr rc
  obtain ⟨zq', _, agg, q'⟩ := lay_q zqM.1 jS zb zs zv ex6
  have old : X.1 4 c = M1.1 164 c := zqM.2.2.1.1.2.2.1 c (by omega)
  obtain ⟨_, ⟨hx, _⟩, zk⟩ := zaM
  have kk1 : KK M1 := KK_13 jR kk m1
  have b48 : (M1.1 162 48).toInt ≤ 2000000 := by rw [m1, si_ne (by omega)]; exact big
  rw [← exF, ← e141F]
  refine ⟨old, zq', ⟨⟨fun i hi => by rw [q', xq]; exact hx.1 i hi, fun i j hi hj h => by rw [q', xq] at h; exact hx.2 i j hi hj h⟩, 0, by omega, ?_, ?_, fun u hu => absurd hu (by omega)⟩, fun t ht => by show x6.2.2 48 t = _; rw [q', xq]; exact zk.1 t ht, fun t ht => ?_⟩
  · show (x6.1 46 2).toInt = _
    rw [agg 46 2 (by omega), n5, si_ne (by omega), n4, si_eq]; rfl
  · show (M14.1 162 27).toInt = _
    rw [r27]; rfl
  · have z46 : bt (x6.1 46 3) t = false := by rw [agg 46 3 (by omega), n5, si_eq, bt_0]
    have k := (kk1.2.2 t ht).1
    refine ⟨⟨fun h => (by rw [z46] at h; cases h), fun h => ?_⟩, fun h => (by rw [z46] at h; cases h)⟩
    have h2 := q_eq h.2
    have h2 : (M14.1 191 t).toInt = (M14.1 162 48).toInt := h2
    rw [r48, fr 191 t (by omega) (by omega), add_ti rfl o1 (by omega) (by omega)] at h2
    omega
end
section
/-! the rule, told to both -/
theorem nb_i {b : Int32} (h : -128 ≤ b.toInt ∧ b.toInt ≤ 127) : vp_nar .byte b = b := by
  rw [narb]
  refine Int32.toInt_inj.mp ?_
  rw [Int8.toInt_toInt32, Int32.toInt_toInt8]
  have h1 := @Int.le_bmod b.toInt (2 ^ 8) (by decide)
  have h2 := @Int.bmod_lt b.toInt (2 ^ 8) (by decide)
  have h3 : (b.toInt.bmod (2 ^ 8)) % ((2 ^ 8 : Nat) : Int) = b.toInt % ((2 ^ 8 : Nat) : Int) := Int.bmod_emod
  omega
theorem wf_c {A : Mem} (hJ : J A) (hl : 0 < (A.1 1 1).toInt) {x} (e : f_Top_rule A = some x) {S : MS} (r1 : Rch (cx A 40) S0 S) (r2 : rdS (cx A 40) S = none) : WfL S := by
  unfold f_Top_rule at e
  obtain ⟨x1, e1, _⟩ := bo e
  unfold f_Law_read at e1
  obtain ⟨N1, n1, e1⟩ := mo e1
  obtain ⟨N2, n2, e1⟩ := mo e1
  obtain ⟨N3, n3, e1⟩ := mo e1
  obtain ⟨N4, n4, e1⟩ := mo e1
  obtain ⟨N5, n5, e1⟩ := mo e1
  have j1 : J N1 := by rw [n1]; exact Jw_any ok_40 hJ 5 _
  have j2 : J N2 := by rw [n2]; exact Jw_any ok_40 j1 6 _
  have j3 : J N3 := by rw [n3]; exact Jw_any ok_40 j2 8 _
  have j4 : J N4 := by rw [n4]; exact Jw_any ok_40 j3 9 _
  have j5 : J N5 := by rw [n5]; exact Jw_any ok_40 j4 10 _
  have f5 : ∀ k i, ¬ (k = 40 ∧ (i = 5 ∨ i = 6 ∨ i = 8 ∨ i = 9 ∨ i = 10)) → N5.1 k i = A.1 k i := fun k i n => by
    rw [n5, si_ne (by omega), n4, si_ne (by omega), n3, si_ne (by omega), n2, si_ne (by omega), n1, si_ne (by omega)]
  have rep : RepL S0 N5 := by
    refine ⟨⟨?_, trivial⟩, ⟨?_, trivial⟩, ?_, fun d _ => ?_, ?_⟩
    · rw [n5, si_ne (by omega), n4, si_ne (by omega), n3, si_ne (by omega), n2, si_ne (by omega), n1, si_eq]; rfl
    · rw [n5, si_ne (by omega), n4, si_ne (by omega), n3, si_ne (by omega), n2, si_eq]; rfl
    · rw [n5, si_ne (by omega), n4, si_ne (by omega), n3, si_eq]; rfl
    · rw [n5, si_ne (by omega), n4, si_eq]; exact bt_0 d
    · rw [n5, si_eq]; rfl
  have l11 : N5.1 1 1 = A.1 1 1 := f5 1 1 (by omega)
  have cxe : cx N5 40 = cx A 40 := cx_c l11 (fun i => f5 2 i (by omega)) 40
  obtain ⟨y, ey, e1⟩ := bo e1
  have q := read_l j5 (by rw [l11]; exact hl) rep ey
  rcases y with y | y | y
  · exact q.elim
  · obtain ⟨S', ⟨k1, k2, k3, k4, k5, k6, k7⟩, tm⟩ := q
    rw [cxe] at k1 k2
    rw [Rch_u r1 k1 r2 k2]; exact k4
  · obtain ⟨S', ⟨k1, k2, k3, k4, k5, k6, k7⟩, tm⟩ := q
    rw [cxe] at k1 k2
    rw [Rch_u r1 k1 r2 k2]; exact k4
theorem zl_rule {X R : Mem} {x r : Int32 × Mem} (hJ : J X) (tx : cx X 40 = rx R 40) (l : X.1 1 1 = R.1 162 10) (hl : 0 ≤ (R.1 162 10).toInt ∧ (R.1 162 10).toInt ≤ 80) (hb : ∀ p : Nat, (p : Int) < (R.1 162 10).toInt → -128 ≤ (R.1 167 p).toInt ∧ (R.1 167 p).toInt ≤ 127) (zl : ZL X R) (ex : f_Top_rule X = some x) (er : f_Mod_rule R = some r) : x.1 = r.1 ∧ ZL x.2 r.2 := by
  have c := rule_c hJ ex
  have d := rule_r hl hb er
  rw [← tx, ← l] at d
  rcases c with ⟨c1, c2, c3⟩ | ⟨c1, S, c2, c3, c4, c5⟩
  · rcases d with ⟨_, d2, d3⟩ | ⟨d1, _⟩
    · exact ⟨by rw [c2, d2], .inl ⟨d3, c3⟩⟩
    · omega
  · rcases d with ⟨d1, _⟩ | ⟨_, S', d2, d3, d4⟩
    · omega
    · have e := Rch_u c2 d2 c3 d3
      subst e
      have end_ : (X.1 1 1).toInt ≤ (S.1 : Int) → cx X 40 S.1 = -1 := by
        intro h; unfold cx; rw [if_neg (by omega)]
      rcases c5 with ⟨⟨a1, a2, a3, a4⟩, b1, b2, b3⟩ | ⟨a, b, b2, b3⟩ <;> rcases d4 with ⟨e1, e2, e3, e4, e5, e6⟩ | ⟨e1, e2, e3, e4⟩
      · refine ⟨by rw [b1, e4], .inr ?_⟩
        have rl : rlx r.2 = cx X 40 := by
          rw [tx]
          funext p
          unfold rlx rx
          rw [e5, l]
          by_cases g : (p : Int) < (R.1 162 10).toInt ∧ p < 40
          · rw [if_pos g, if_pos g, e6 p (by rw [l]; exact g.1), nb_i (hb p g.1)]
          · rw [if_neg g, if_neg g]
        have wf := wf_c hJ c1 ex c2 c3
        have sl := stl_len 0 S.2.1.1 S.2.1.2
        have w1 := wf.1
        refine ⟨by rw [e5]; exact c1, by rw [e5]; exact a2, fun p hp => ?_, S, by rw [rl]; exact c2, by rw [rl]; exact c3, a3, a4, b2, by omega, b3⟩
        rw [e5] at hp
        rw [e6 p hp, nb_i (hb p (by rw [← l]; exact hp))]
        exact hb p (by rw [← l]; exact hp)
      · exfalso
        rcases e1 with e1 | e1
        · have : 0 ≤ cx X 40 S.1 := by
            unfold cx
            rw [if_pos (by omega)]
            exact (hJ.1 2 S.1).1
          omega
        · exact e1 ⟨a3, a4⟩
      · exact absurd ⟨end_ e1, by omega, e2, e3⟩ a
      · refine ⟨Int32.toInt_inj.mp (b.trans e2.symm), ?_⟩
        have rl : rlx r.2 = rlx R := by funext p; unfold rlx; rw [e3, e4]
        unfold ZL at zl ⊢
        rw [rl, e3, b2]
        rcases zl with l | ⟨l1, l40, l2, Sx, l3, l4, l5, l6, l7, l8, l9⟩
        · exact .inl l
        · exact .inr ⟨l1, l40, fun p hp => by rw [e4]; exact l2 p hp, Sx, l3, l4, l5, l6, l7, l8, stk_c l9 (fun i _ => b3 i)⟩
end
section
/-! what both sides keep, though the rule be told anew -/
def CX (kx i : Nat) : Prop := (kx = 3 ∧ (i = 2 ∨ i = 3)) ∨ kx = 4 ∨ (kx = 6 ∧ (i = 4 ∨ i = 5)) ∨ kx = 7 ∨ kx = 8 ∨ (11 ≤ kx ∧ kx < 18) ∨ kx = 35 ∨ (kx = 46 ∧ (i = 2 ∨ i = 3)) ∨ (49 ≤ kx ∧ kx < 147)
def CR (kx i : Nat) : Prop := (kx = 162 ∧ (i = 2 ∨ i = 3 ∨ i = 4 ∨ i = 5 ∨ i = 27 ∨ i = 48)) ∨ kx = 163 ∨ kx = 164 ∨ kx = 165 ∨ kx = 166 ∨ kx = 173 ∨ kx = 189 ∨ kx = 190 ∨ kx = 191
theorem ZA_y {X Y R S : Mem} {n : Nat} (za : ZA X R n) (jS : J S) (zl : ZL Y S) (fx : ∀ kx i, CX kx i → Y.1 kx i = X.1 kx i) (f33 : ∀ i, Y.2.1 33 i = X.2.1 33 i) (f34 : ∀ i, Y.2.1 34 i = X.2.1 34 i) (f47 : ∀ i, Y.2.2 47 i = X.2.2 47 i) (f48 : ∀ i, Y.2.2 48 i = X.2.2 48 i) (fr : ∀ kx i, CR kx i → S.1 kx i = R.1 kx i) : ZA Y S n := by
  unfold CX at fx
  unfold CR at fr
  let Y0 : Mem := (fun kx i => if kx = 40 ∧ i = 4 then X.1 40 4 else if kx = 41 then X.1 41 i else Y.1 kx i, Y.2)
  let S0 : Mem := (fun kx i => if kx = 162 ∧ i = 23 then R.1 162 23 else if kx = 172 then R.1 172 i else S.1 kx i, S.2)
  have agx : AgX X Y0 := ⟨fx 3 2 (by omega), fx 3 3 (by omega), fun i => fx 4 i (by omega), fx 6 4 (by omega), fx 6 5 (by omega), fun i => fx 7 i (by omega), fun i => fx 8 i (by omega), rfl, fun i => rfl, fun i => fx 35 i (by omega), f33, f34⟩
  have agr : AgR R S0 := ⟨fr 162 2 (by omega), fr 162 3 (by omega), fr 162 4 (by omega), fr 162 5 (by omega), rfl, fun i => fr 164 i (by omega), fun i => fr 165 i (by omega), fun i => fr 166 i (by omega), fun i => rfl⟩
  obtain ⟨⟨n8, jR, zb, zs, zv, zw⟩, zh, zk⟩ := za
  have zb0 := ZB_a agx agr zb
  have g : ZG Y S := zb0.1
  have c : ZC Y S n := zb0.2.1
  have v : ZV S (S.1 163) n := ZV_a (S := S0) n8 agr (fun i _ => fr 163 i (by omega)) zv
  have w : ZW Y S 163 := by
    have w1 : xw S = xw R := congrArg Int32.toInt (fr 162 2 (by omega))
    have w2 : xh S = xh R := congrArg Int32.toInt (fr 162 3 (by omega))
    have on : onA S = onA R := by funext l d; exact propext (by unfold onA; rw [onN_c ⟨fr 162 2 (by omega), fr 162 3 (by omega), fun i => fr 164 i (by omega)⟩])
    have pk : (fun c d => plk S 163 c d) = (fun c d => plk R 163 c d) := by funext c d; exact propext (plk_c (fun i _ _ => fr 163 i (by omega)) zv.2.1.2 c d)
    obtain ⟨h1, h2, h3⟩ := zw
    unfold ZW ZX NXT NRD LKn lk
    rw [on, pk, w1, w2]
    refine ⟨fun l d hl => ?_, fun l c s hl hc hs => ?_, fun l c hl hc => ?_⟩
    · rw [f33]; exact h1 l d hl
    · rw [fx 35 _ (by omega)]; exact h2 l c s hl hc hs
    · rw [f34]; exact h3 l c hl hc
  have h : ZH Y S n := ZH_a (Y := Y) (S := S0) n8 (fx 46 2 (by omega)) (fun kx i a b => fx kx i (by omega)) f47 agr (fr 162 27 (by omega)) (fun i => fr 173 i (by omega)) zh
  have k : ZK Y S n := ZK_a (Y := Y) (S := S0) n8 (fx 46 3 (by omega)) (fun kx i a b => fx kx i (by omega)) f48 agr (fr 162 48 (by omega)) (fun i => fr 189 i (by omega)) (fun i => fr 190 i (by omega)) (fun i => fr 191 i (by omega)) zk
  exact ⟨⟨n8, jS, ⟨g, c, zl⟩, ZS_c n8 (scn_f (fun kx i a b => fx kx i (by omega))) (fun i _ => (fr 163 i (by omega)).symm) zs, v, w⟩, h, k⟩
end
section
/-! both sides in one memory, between two calls -/
def CXr (kx i : Nat) : Prop := CX kx i ∨ (kx = 40 ∧ i = 4) ∨ kx = 41
def CRr (kx i : Nat) : Prop := CR kx i ∨ (kx = 162 ∧ i = 23) ∨ kx = 172
theorem ZL_a {X Y R S : Mem} (x4 : Y.1 40 4 = X.1 40 4) (x41 : ∀ i, Y.1 41 i = X.1 41 i) (r23 : S.1 162 23 = R.1 162 23) (r172 : ∀ i, S.1 172 i = R.1 172 i) (zl : ZL X R) : ZL Y S := by
  have rl : rlx S = rlx R := by funext p; unfold rlx; rw [r23, r172]
  unfold ZL at zl ⊢
  rw [rl, r23, x4]
  rcases zl with l | ⟨l1, l40, l2, Sx, l3, l4, l5, l6, l7, l8, l9⟩
  · exact .inl l
  · exact .inr ⟨l1, l40, fun p hp => by rw [r172]; exact l2 p hp, Sx, l3, l4, l5, l6, l7, l8, stk_c l9 (fun i _ => x41 i)⟩
theorem ZA_z {X Y R S : Mem} {n : Nat} (za : ZA X R n) (jS : J S) (fx : ∀ kx i, CXr kx i → Y.1 kx i = X.1 kx i) (f33 : ∀ i, Y.2.1 33 i = X.2.1 33 i) (f34 : ∀ i, Y.2.1 34 i = X.2.1 34 i) (f47 : ∀ i, Y.2.2 47 i = X.2.2 47 i) (f48 : ∀ i, Y.2.2 48 i = X.2.2 48 i) (fr : ∀ kx i, CRr kx i → S.1 kx i = R.1 kx i) : ZA Y S n :=
  ZA_y za jS (ZL_a (fx 40 4 (.inr (.inl ⟨rfl, rfl⟩))) (fun i => fx 41 i (.inr (.inr rfl))) (fr 162 23 (.inr (.inl ⟨rfl, rfl⟩))) (fun i => fr 172 i (.inr (.inr rfl))) za.1.2.2.1.2.2) (fun kx i h => fx kx i (.inl h)) f33 f34 f47 f48 (fun kx i h => fr kx i (.inl h))
def cxl : List Nat := [302, 303, 324, 325, 312, 313, 4, 7, 8, 11, 12, 13, 14, 15, 16, 17, 33, 34, 35, 47, 48]
def cxb0 (C : Nat) : Bool := (cxl.all fun s => !Nat.testBit C s) && ((List.range 98).all fun j => !Nat.testBit C (49 + j))
def cxb (C : Nat) : Bool := cxb0 C && (!Nat.testBit C 334 && !Nat.testBit C 41)
def crl : List Nat := [202, 203, 204, 205, 227, 248, 163, 164, 165, 166, 173, 189, 190, 191]
def crb0 (C : Nat) : Bool := crl.all fun s => !Nat.testBit C s
def crb (C : Nat) : Bool := crb0 C && (!Nat.testBit C 223 && !Nat.testBit C 172)
theorem pl49 : (List.range 98).all (fun j => pl (49 + j)) = true := by decide +kernel
def Fz0 (M x : Mem) : Prop := (∀ kx i, CX kx i → x.1 kx i = M.1 kx i) ∧ (∀ i, x.2.1 33 i = M.2.1 33 i) ∧ (∀ i, x.2.1 34 i = M.2.1 34 i) ∧ (∀ i, x.2.2 47 i = M.2.2 47 i) ∧ (∀ i, x.2.2 48 i = M.2.2 48 i)
def Fz (M x : Mem) : Prop := (∀ kx i, CXr kx i → x.1 kx i = M.1 kx i) ∧ (∀ i, x.2.1 33 i = M.2.1 33 i) ∧ (∀ i, x.2.1 34 i = M.2.1 34 i) ∧ (∀ i, x.2.2 47 i = M.2.2 47 i) ∧ (∀ i, x.2.2 48 i = M.2.2 48 i)
theorem cx_f0 {C : Nat} {M x : Mem} (b : cxb0 C = true) (f : Fx C [] M x) : Fz0 M x := by
  unfold cxb0 at b
  rw [Bool.and_eq_true] at b
  have b1 : ∀ s, s ∈ cxl → Nat.testBit C s = false := fun s hs => by
    have := List.all_eq_true.mp b.1 s hs
    simpa using this
  have b2 : ∀ j, j < 98 → Nat.testBit C (49 + j) = false := fun j hj => by
    have := List.all_eq_true.mp b.2 j (List.mem_range.mpr hj)
    simpa using this
  have P : ∀ k i, pl k = true → Nat.testBit C k = false → x.1 k i = M.1 k i ∧ x.2.1 k i = M.2.1 k i ∧ x.2.2 k i = M.2.2 k i := fun k i hp ht => f k i (by rw [sl_pl hp]; exact ht) (by simp)
  refine ⟨fun kx i h => ?_, fun i => (P 33 i rfl (b1 33 (by decide))).2.1, fun i => (P 34 i rfl (b1 34 (by decide))).2.1, fun i => (P 47 i rfl (b1 47 (by decide))).2.2, fun i => (P 48 i rfl (b1 48 (by decide))).2.2⟩
  unfold CX at h
  rcases h with ⟨rfl, rfl | rfl⟩ | rfl | ⟨rfl, rfl | rfl⟩ | rfl | rfl | h | rfl | ⟨rfl, rfl | rfl⟩ | h
  · exact (f 3 2 (b1 302 (by decide)) (by simp)).1
  · exact (f 3 3 (b1 303 (by decide)) (by simp)).1
  · exact (P 4 i rfl (b1 4 (by decide))).1
  · exact (f 6 4 (b1 324 (by decide)) (by simp)).1
  · exact (f 6 5 (b1 325 (by decide)) (by simp)).1
  · exact (P 7 i rfl (b1 7 (by decide))).1
  · exact (P 8 i rfl (b1 8 (by decide))).1
  · have : kx = 11 ∨ kx = 12 ∨ kx = 13 ∨ kx = 14 ∨ kx = 15 ∨ kx = 16 ∨ kx = 17 := by omega
    rcases this with rfl | rfl | rfl | rfl | rfl | rfl | rfl
    · exact (P 11 i rfl (b1 11 (by decide))).1
    · exact (P 12 i rfl (b1 12 (by decide))).1
    · exact (P 13 i rfl (b1 13 (by decide))).1
    · exact (P 14 i rfl (b1 14 (by decide))).1
    · exact (P 15 i rfl (b1 15 (by decide))).1
    · exact (P 16 i rfl (b1 16 (by decide))).1
    · exact (P 17 i rfl (b1 17 (by decide))).1
  · exact (P 35 i rfl (b1 35 (by decide))).1
  · exact (f 46 2 (b1 312 (by decide)) (by simp)).1
  · exact (f 46 3 (b1 313 (by decide)) (by simp)).1
  · obtain ⟨j, hj, rfl⟩ : ∃ j, j < 98 ∧ kx = 49 + j := ⟨kx - 49, by omega, by omega⟩
    have hp := List.all_eq_true.mp pl49 j (List.mem_range.mpr hj)
    exact (P _ i hp (b2 j hj)).1
theorem cx_f {C : Nat} {M x : Mem} (b : cxb C = true) (f : Fx C [] M x) : Fz M x := by
  unfold cxb at b
  rw [Bool.and_eq_true, Bool.and_eq_true, Bool.not_eq_true', Bool.not_eq_true'] at b
  obtain ⟨h1, h2⟩ := cx_f0 b.1 f
  refine ⟨fun kx i h => ?_, h2⟩
  rcases h with h | ⟨rfl, rfl⟩ | rfl
  · exact h1 kx i h
  · exact (f 40 4 b.2.1 (by simp)).1
  · exact (f 41 i b.2.2 (by simp)).1
theorem cr_f0 {C : Nat} {M x : Mem} (b : crb0 C = true) (f : Fx C [] M x) : ∀ kx i, CR kx i → x.1 kx i = M.1 kx i := by
  have b1 : ∀ s, s ∈ crl → Nat.testBit C s = false := fun s hs => by
    have := List.all_eq_true.mp b s hs
    simpa using this
  have P : ∀ k i, pl k = true → Nat.testBit C k = false → x.1 k i = M.1 k i := fun k i hp ht => (f k i (by rw [sl_pl hp]; exact ht) (by simp)).1
  intro kx i h
  unfold CR at h
  rcases h with ⟨rfl, rfl | rfl | rfl | rfl | rfl | rfl⟩ | rfl | rfl | rfl | rfl | rfl | rfl | rfl | rfl
  · exact (f 162 2 (b1 202 (by decide)) (by simp)).1
  · exact (f 162 3 (b1 203 (by decide)) (by simp)).1
  · exact (f 162 4 (b1 204 (by decide)) (by simp)).1
  · exact (f 162 5 (b1 205 (by decide)) (by simp)).1
  · exact (f 162 27 (b1 227 (by decide)) (by simp)).1
  · exact (f 162 48 (b1 248 (by decide)) (by simp)).1
  · exact P 163 i rfl (b1 163 (by decide))
  · exact P 164 i rfl (b1 164 (by decide))
  · exact P 165 i rfl (b1 165 (by decide))
  · exact P 166 i rfl (b1 166 (by decide))
  · exact P 173 i rfl (b1 173 (by decide))
  · exact P 189 i rfl (b1 189 (by decide))
  · exact P 190 i rfl (b1 190 (by decide))
  · exact P 191 i rfl (b1 191 (by decide))
theorem cr_f {C : Nat} {M x : Mem} (b : crb C = true) (f : Fx C [] M x) : ∀ kx i, CRr kx i → x.1 kx i = M.1 kx i := by
  unfold crb at b
  rw [Bool.and_eq_true, Bool.and_eq_true, Bool.not_eq_true', Bool.not_eq_true'] at b
  intro kx i h
  rcases h with h | ⟨rfl, rfl⟩ | rfl
  · exact cr_f0 b.1 f kx i h
  · exact (f 162 23 b.2.1 (by simp)).1
  · exact (f 172 i b.2.2 (by simp)).1
theorem cr_ge {kx i : Nat} (h : CRr kx i) : 162 ≤ kx := by unfold CRr CR at h; omega
theorem cr_gd {M N : Mem} (g : Gd 1000 M N) : ∀ kx i, CRr kx i → N.1 kx i = M.1 kx i := by
  intro kx i h
  refine g kx i (.inl ?_)
  unfold CRr CR at h
  rcases h with (⟨rfl, rfl | rfl | rfl | rfl | rfl | rfl⟩ | rfl | rfl | rfl | rfl | rfl | rfl | rfl | rfl) | ⟨rfl, rfl⟩ | rfl <;> exact ⟨rfl, by decide⟩
/-- before the reference's call -/
theorem up_c {M x : Mem} {m : Nat} (z : ZA M M m) (jx : J x) (g : ∀ kx i, 162 ≤ kx → x.1 kx i = M.1 kx i) : ZA M x m :=
  ZA_z z jx (fun _ _ _ => rfl) (fun _ => rfl) (fun _ => rfl) (fun _ => rfl) (fun _ => rfl) (fun kx i h => g kx i (cr_ge h))
/-- behind the reference's call -/
theorem dn_r {x r : Mem} {m : Nat} (z : ZA x r m) (f : Fz x r) : ZA r r m :=
  ZA_z z z.1.2.1 f.1 f.2.1 f.2.2.1 f.2.2.2.1 f.2.2.2.2 (fun _ _ _ => rfl)
/-- a question -/
theorem qz {M x r : Mem} {m : Nat} (z : ZA M M m) (jr : J r) (fx : Fz M x) (gx : ∀ kx i, 162 ≤ kx → x.1 kx i = M.1 kx i) (fr : Fz x r) (gr : ∀ kx i, CRr kx i → r.1 kx i = x.1 kx i) : ZA r r m :=
  ZA_z z jr (fun kx i h => (fr.1 kx i h).trans (fx.1 kx i h)) (fun i => (fr.2.1 i).trans (fx.2.1 i)) (fun i => (fr.2.2.1 i).trans (fx.2.2.1 i)) (fun i => (fr.2.2.2.1 i).trans (fx.2.2.2.1 i)) (fun i => (fr.2.2.2.2 i).trans (fx.2.2.2.2 i)) (fun kx i h => (gr kx i h).trans (gx kx i (cr_ge h)))
theorem Fz_r {M : Mem} : Fz M M := ⟨fun _ _ _ => rfl, fun _ => rfl, fun _ => rfl, fun _ => rfl, fun _ => rfl⟩
theorem Fz_hv {M x : Mem} (y : Option Int32) (h : Fz M x) : Fz M (hv y x).2 := by
  cases y with
  | none => exact h
  | some r =>
    refine ⟨fun kx i w => h.1 kx i w, fun i => ?_, fun i => ?_, h.2.2.2.1, h.2.2.2.2⟩
    · rw [← h.2.1 i]; exact sl_ne (by omega)
    · rw [← h.2.2.1 i]; exact sl_ne (by omega)
def IW (n : Int) (M : Mem) : Prop := IV n M ∧ ∃ m, ZA M M m
theorem IW_up {n : Int} {M : Mem} (h : IW n M) : IW (n + 1) M := ⟨⟨Inv_up h.1.1, h.1.2⟩, h.2⟩
theorem bes110 : ∀ s : Fin 4, bes 1 1 ((0 : Nat) : Int) (s.val : Int) = -1 := by decide +kernel
theorem ZA_0 : ZA M0 M0 0 := by
  have w1 : xw M0 = 1 := by decide +kernel
  have h1 : xh M0 = 1 := by decide +kernel
  have on : ∀ l c : Int, onN M0 l c ↔ c = 0 := by
    intro l c
    unfold onN
    rw [w1, h1]
    constructor
    · intro h; omega
    · rintro rfl
      refine ⟨by omega, by omega, ?_⟩
      have k : (M0.1 164 (0 : Int).toNat).toInt = 3 := by decide +kernel
      split
      · exact .inr k
      · exact .inr k
  have onA0 : ∀ l d : Nat, onA M0 l d ↔ d = 0 := by
    intro l d
    unfold onA
    rw [om, on]
    omega
  have nolk : ∀ l c s : Nat, s < 4 → ¬ lk M0 (onA M0) l c s := by
    rintro l c s hs ⟨a, b, _⟩
    have c0 := (onA0 l c).mp a
    subst c0
    rw [w1, h1] at b
    exact b (bes110 ⟨s, hs⟩)
  have z92 : (M0.1 163 92).toInt = 0 := by decide +kernel
  have nop : ∀ c d : Int, ¬ plk M0 163 c d := by
    rintro c d ⟨j, hj, _⟩
    omega
  have k35 : ∀ i : Fin 288, (M0.1 35 i.val).toInt = -1 := by decide +kernel
  have k34 : ∀ i : Fin 72, M0.2.1 34 i.val = 0 := by decide +kernel
  have k33 : ∀ i : Fin 2, M0.2.1 33 i.val = 1 := by decide +kernel
  have k4 : ∀ i : Fin 36, M0.1 4 i.val = M0.1 164 i.val ∧ 0 ≤ (M0.1 164 i.val).toInt ∧ (M0.1 164 i.val).toInt ≤ 3 := by decide +kernel
  have k15 : ∀ i : Fin 64, M0.1 15 i.val = 0 := by decide +kernel
  have k47 : ∀ i : Fin 12, M0.2.2 47 i.val = some (49 + 7 * i.val) := by decide +kernel
  have k48 : ∀ i : Fin 2, M0.2.2 48 i.val = some (133 + 7 * i.val) := by decide +kernel
  have k190 : ∀ i : Fin 2, (M0.1 190 i.val).toInt = 0 := by decide +kernel
  refine ⟨⟨by omega, J_M0, ⟨⟨by rw [w1]; decide +kernel, by rw [w1, h1]; decide +kernel, fun i hi => (k4 ⟨i, hi⟩).1, fun i hi => (k4 ⟨i, hi⟩).2⟩, ⟨by decide +kernel, by decide +kernel, by decide +kernel, fun p hp => by omega, fun p i hp => by omega, fun p _ => ?_⟩, .inl ⟨by decide +kernel, by decide +kernel⟩⟩, ?_, ?_, ?_, ?_⟩, ⟨⟨fun i hi => ⟨i, hi, k47 ⟨i, hi⟩⟩, fun i j hi hj e => ?_⟩, 0, by omega, by decide +kernel, by decide +kernel, fun u hu => by omega⟩, fun t ht => k48 ⟨t, ht⟩, fun t ht => ?_⟩
  · rw [show M0.1 162 5 = 0 by decide +kernel]; exact bt_0 p
  · refine ⟨fun p hp => by omega, fun p q hp => by omega, fun p q hp hq _ => k15 ⟨8 * p + q, by omega⟩, by decide +kernel, fun j hj h => by omega, by decide +kernel, by decide +kernel, by decide +kernel⟩
  · exact ⟨fun p hp => by omega, by rw [z92]; omega, by decide +kernel, fun j hj => by omega⟩
  · intro l d hl
    rw [show M0.2.1 (32 + 1) l = 1 from k33 ⟨l, hl⟩, bl_1, decide_eq_true_iff, onA0]
    omega
  · refine ⟨fun l c s hl hc hs => ⟨fun h => absurd h.2.2 (nop _ _), fun _ => ⟨fun h => absurd h (nolk l c s hs), fun _ => k35 ⟨(l * 36 + c) * 4 + s, by omega⟩⟩⟩, fun l c hl hc d => ?_⟩
    rw [show M0.2.1 (32 + 2) (l * 36 + c) = 0 from k34 ⟨l * 36 + c, by omega⟩, bl_0]
    constructor
    · intro h; cases h
    · rintro (⟨s, hs, h, _⟩ | ⟨_, s, hs, _, h⟩)
      · exact absurd h (nolk l c s hs)
      · exact absurd h (nop _ _)
  · rw [show M0.2.2 47 i = some (49 + 7 * i) from k47 ⟨i, hi⟩, show M0.2.2 47 j = some (49 + 7 * j) from k47 ⟨j, hj⟩] at e
    have := Option.some.inj e
    omega
  · refine ⟨?_, fun h => ?_⟩
    · rw [show M0.1 46 3 = 0 by decide +kernel, bt_0]
      constructor
      · intro h; cases h
      · intro h; exact absurd (k190 ⟨t, ht⟩) h.1
    · rw [show M0.1 46 3 = 0 by decide +kernel, bt_0] at h
      cases h
theorem IW_0 (h : Inv 0 M0) : IW 0 M0 := ⟨IV_0 h, 0, ZA_0⟩
end
