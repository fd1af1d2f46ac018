/-! a plank laid -/
theorem has_j {X R : Mem} (z : ZG X R) (jR : J R) {c x : Int32} (e : f_Ground_has c X = some x) : (x = 1 ∧ 0 ≤ c.toInt ∧ c.toInt < xw R * xh R) ∨ (x = 0 ∧ ¬ (0 ≤ c.toInt ∧ c.toInt < xw R * xh R)) := by
  obtain ⟨z1, z2, z3, z4⟩ := z
  have wh := awh jR
  have z0 := o0
  have z36 : (36 : Int32).toInt = 36 := rfl
  unfold f_Ground_has at e
  rcases io e with ⟨k, e⟩ | ⟨k, e⟩
  · obtain rfl := Option.some.inj e; have := q_lt k; exact .inr ⟨rfl, by omega⟩
  have k1 := q_nl k
  rcases io e with ⟨k, e⟩ | ⟨k, e⟩
  · obtain rfl := Option.some.inj e; have := q_le k; exact .inr ⟨rfl, by omega⟩
  have k2 := q_ng k
  rcases io e with ⟨k, e⟩ | ⟨k, e⟩
  · have := q_le k; omega
  obtain rfl := Option.some.inj e
  exact .inl ⟨rfl, by omega, by omega⟩
theorem planksAt_i {X : Mem} {m : Nat} {c x : Int32} (hm : (X.1 11 6).toInt = (m : Int)) (m6 : m ≤ 6) (e : f_Scene_planksAt 11 c X = some x) (d : Nat) : bt x d = true ↔ d < m ∧ (X.1 16 d = c ∨ X.1 17 d = c) := by
  have z6 : (6 : Int32).toInt = 6 := rfl
  have r4 : rf 11 4 = 16 := rfl
  have r5 : rf 11 5 = 17 := rfl
  unfold f_Scene_planksAt at e
  obtain ⟨_, e⟩ := io_n e
  obtain ⟨y, ey, e⟩ := bo e
  obtain rfl := Option.some.inj e
  revert d
  refine it_r (I := fun s : Int32 × Int32 => ∃ p : Nat, p ≤ m ∧ s.2.toInt = (p : Int) ∧ ∀ d, bt s.1 d = true ↔ d < p ∧ (X.1 16 d = c ∨ X.1 17 d = c)) (Q := fun x : Int32 => ∀ d, bt x d = true ↔ d < m ∧ (X.1 16 d = c ∨ X.1 17 d = c)) ?_ ey ⟨0, by omega, rfl, fun d => ⟨fun h => absurd h (by rw [bt_0]; decide), fun h => absurd h.1 (by omega)⟩⟩
  rintro ⟨v, k⟩ r ⟨p, lp, hp, h⟩ e
  unfold lb_Scene_planksAt_4 at e
  dsimp only at hp h e
  rcases io e with ⟨g, e⟩ | ⟨g, e⟩
  · have := q_le g
    obtain rfl := Option.some.inj e
    have : p = m := by omega
    subst this; exact h
  have g1 := q_ng g
  rcases io e with ⟨g, e⟩ | ⟨g, e⟩
  · have := q_le g; omega
  obtain ⟨_, e⟩ := io_n e
  rw [q_nat hp, r4, r5] at e
  have nx : (k + (1 : Int32)).toInt = ((p + 1 : Nat) : Int) := add_ti hp o1 (by omega) (by omega)
  have yes : (X.1 16 p = c ∨ X.1 17 p = c) → ∀ d, bt (v ||| ((1 : Int32) <<< (k &&& 31))) d = true ↔ d < p + 1 ∧ (X.1 16 d = c ∨ X.1 17 d = c) := by
    intro hc d
    rw [bt_b1 _ hp (by omega), Bool.or_eq_true, decide_eq_true_iff, h d]
    constructor
    · rintro (⟨a, b⟩ | rfl)
      · exact ⟨by omega, b⟩
      · exact ⟨by omega, hc⟩
    · rintro ⟨a, b⟩
      by_cases q : d = p
      · exact .inr q
      · exact .inl ⟨by omega, b⟩
  rcases io e with ⟨g, e⟩ | ⟨g, e⟩
  · obtain rfl := Option.some.inj e
    exact ⟨p + 1, by omega, nx, yes (.inl g)⟩
  obtain ⟨_, e⟩ := io_n e
  rcases io e with ⟨g2, e⟩ | ⟨g2, e⟩
  · obtain rfl := Option.some.inj e
    exact ⟨p + 1, by omega, nx, yes (.inr g2)⟩
  · obtain rfl := Option.some.inj e
    refine ⟨p + 1, by omega, nx, fun d => ?_⟩
    show bt v d = true ↔ _
    rw [h d]
    constructor
    · rintro ⟨a, b⟩; exact ⟨by omega, b⟩
    · rintro ⟨a, b⟩
      by_cases q : d = p
      · subst q; rcases b with b | b
        · exact absurd b g
        · exact absurd b g2
      · exact ⟨by omega, b⟩
theorem bt_ex {x : Int32} (h : x ≠ 0) : ∃ d, bt x d = true := by
  by_cases g : ∃ d, bt x d = true
  · exact g
  · refine absurd (bt_ext fun d _ => ?_) h
    rw [bt_0]
    cases hb : bt x d with
    | false => rfl
    | true => exact absurd ⟨d, hb⟩ g
theorem hasPlank_i {X R : Mem} {n : Nat} (zs : ZS (scn X 11) (R.1 163) n) (hb : 0 ≤ (R.1 163 92).toInt ∧ (R.1 163 92).toInt ≤ 6) {a b x : Int32} (hab : a ≠ b) (e : f_Scene_hasPlank 11 a b X = some x) : (x = 1 ∧ plk R 163 a.toInt b.toInt) ∨ (x = 0 ∧ ¬ plk R 163 a.toInt b.toInt) := by
  obtain ⟨m, hm⟩ := ti_ofn hb.1
  have lai : X.1 11 6 = R.1 163 92 := zs.2.2.2.1
  have m6 : m ≤ 6 := by omega
  unfold f_Scene_hasPlank at e
  obtain ⟨_, e⟩ := io_n e
  obtain ⟨x1, e1, e⟩ := bo e
  obtain ⟨x2, e2, e⟩ := bo e
  have A := planksAt_i (by rw [lai]; exact hm) m6 e1
  have B := planksAt_i (by rw [lai]; exact hm) m6 e2
  have P := pd_plk zs hm m6 a.toInt b.toInt
  rcases io e with ⟨g, e⟩ | ⟨g, e⟩
  · obtain rfl := Option.some.inj e
    refine .inr ⟨rfl, fun h => ?_⟩
    obtain ⟨j, hj, h⟩ := P.mpr h
    have q : bt (x1 &&& x2) j = true := by
      rw [bt_and, Bool.and_eq_true, A j, B j]
      rcases h with ⟨h1, h2⟩ | ⟨h1, h2⟩
      · exact ⟨⟨hj, .inl (Int32.toInt_inj.mp h1)⟩, hj, .inr (Int32.toInt_inj.mp h2)⟩
      · exact ⟨⟨hj, .inr (Int32.toInt_inj.mp h1)⟩, hj, .inl (Int32.toInt_inj.mp h2)⟩
    rw [g, bt_0] at q; cases q
  · obtain rfl := Option.some.inj e
    obtain ⟨j, hj⟩ := bt_ex g
    rw [bt_and, Bool.and_eq_true, A j, B j] at hj
    obtain ⟨⟨jm, h1⟩, _, h2⟩ := hj
    refine .inl ⟨rfl, P.mp ⟨j, jm, ?_⟩⟩
    rcases h1 with h1 | h1
    · rcases h2 with h2 | h2
      · exact absurd (h1.symm.trans h2) hab
      · exact .inl ⟨congrArg _ h1, congrArg _ h2⟩
    · rcases h2 with h2 | h2
      · exact .inr ⟨congrArg _ h1, congrArg _ h2⟩
      · exact absurd (h1.symm.trans h2) hab
theorem btw_self {w h a : Int} : btw w h a a = -1 := by
  unfold btw
  rw [if_neg (by omega)]
/-- what refuses a plank, both sides -/
theorem ref_2 {X R : Mem} {n : Nat} {a b y : Int32} {x : Int32 × Mem} (zq : ZQ X R n) (ex : f_Top_lay a b X = some x) (er : f_Mod_plankRefusal a b R = some y) : (y.toInt < 0 ∧ x = (y, X)) ∨ (y = 0 ∧ onN R 1 a.toInt ∧ onN R 1 b.toInt ∧ btw (xw R) (xh R) a.toInt b.toInt ≠ -1 ∧ ¬ onN R 1 (btw (xw R) (xh R) a.toInt b.toInt) ∧ (R.1 163 92).toInt ≤ 5 ∧ ∃ x8 x9, f_Scene_addPlank 11 a b X = some x8 ∧ x8.1 ≠ 0 ∧ f_Nets_lay 32 11 (-1 : Int32) x8.2 = some x9 ∧ x = ((x9.1 11 6) - (1 : Int32), x9)) := by
  obtain ⟨n8, jR, zb, zs, zv, zw⟩ := zq
  have zg := zb.1
  have z6 : (6 : Int32).toInt = 6 := rfl
  have z0 := o0
  have y1 := o1
  have lai : X.1 11 6 = R.1 163 92 := zs.2.2.2.1
  have hb := zv.2.1
  have no : ∀ w : Int32, w.toInt < 0 → some (w, X) = some x → some w = some y → (y.toInt < 0 ∧ x = (y, X)) := by
    intro w hw e1 e2
    obtain rfl := Option.some.inj e2
    exact ⟨hw, (Option.some.inj e1).symm⟩
  unfold f_Top_lay at ex
  unfold f_Mod_plankRefusal at er
  rw [show (92 : Int32).toNatClampNeg = 92 from rfl] at er
  obtain ⟨x1, ex1, ex⟩ := bo ex
  obtain ⟨y1, ey1, er⟩ := bo er
  have A1 := has_j zg jR ex1
  have B1 := some_of (sp_isCell jR a) ey1
  rcases A1 with ⟨rfl, a1, a2⟩ | ⟨rfl, a1⟩
  rotate_left
  · rcases B1 with ⟨rfl, b1, b2, b3⟩ | ⟨rfl, b1⟩
    · exact absurd ⟨b1, b3⟩ a1
    rw [if_pos rfl] at ex er
    exact .inl (no _ (by decide) ex er)
  rcases B1 with ⟨rfl, _, _, _⟩ | ⟨rfl, b1⟩
  rotate_left
  · exact absurd ⟨a1, a2⟩ b1
  rw [if_neg (by decide)] at ex er
  obtain ⟨x2, ex2, ex⟩ := bo ex
  obtain ⟨y2, ey2, er⟩ := bo er
  have A2 := has_j zg jR ex2
  have B2 := some_of (sp_isCell jR b) ey2
  rcases A2 with ⟨rfl, b1, b2⟩ | ⟨rfl, c1⟩
  rotate_left
  · rcases B2 with ⟨rfl, b1, b2, b3⟩ | ⟨rfl, b1⟩
    · exact absurd ⟨b1, b3⟩ c1
    rw [if_pos rfl] at ex er
    exact .inl (no _ (by decide) ex er)
  rcases B2 with ⟨rfl, _, _, _⟩ | ⟨rfl, c1⟩
  rotate_left
  · exact absurd ⟨b1, b2⟩ c1
  rw [if_neg (by decide)] at ex er
  obtain ⟨x3, ex3, ex⟩ := bo ex
  obtain ⟨y3, ey3, er⟩ := bo er
  have A3 := betweenC zg jR a1 a2 b1 b2 ex3
  unfold f_Mod_canBridge at ey3
  obtain ⟨y4, ey4, ey3⟩ := bo ey3
  have B3 := betweenR jR a1 a2 b1 b2 ey4
  have e34 : x3 = y4 := Int32.toInt_inj.mp (A3.trans B3.symm)
  subst e34
  have no2 : some ((-2 : Int32), X) = some x → some (0 : Int32) = some y3 → (y.toInt < 0 ∧ x = (y, X)) := by
    intro e1 e2
    obtain rfl := Option.some.inj e2
    rw [if_pos rfl] at er
    exact no _ (by decide) e1 er
  rcases io ex with ⟨g, ex⟩ | ⟨g, ex⟩
  · rw [if_pos g] at ey3
    exact .inl (no2 ex ey3)
  rw [if_neg g] at ey3
  have g3 : x3.toInt ≠ -1 := fun h => g (Int32.toInt_inj.mp h)
  obtain ⟨x4, ex4, ex⟩ := bo ex
  obtain ⟨y5, ey5, ey3⟩ := bo ey3
  have A4 := holdsC zg jR ex4
  have B4 := some_of (fs_isOf jR 1 a) ey5
  rcases B4 with ⟨rfl, p1⟩ | ⟨rfl, p1⟩
  rotate_left
  · rcases A4 with ⟨_, _, _, h⟩ | ⟨rfl, _⟩
    · exact absurd h p1
    rw [if_pos rfl] at ex ey3
    exact .inl (no2 ex ey3)
  rcases A4 with ⟨rfl, _⟩ | ⟨_, h⟩
  rotate_left
  · exact absurd ⟨by omega, by omega, p1⟩ h
  rw [if_neg (by decide)] at ex ey3
  obtain ⟨x5, ex5, ex⟩ := bo ex
  obtain ⟨y6, ey6, ey3⟩ := bo ey3
  have A5 := holdsC zg jR ex5
  have B5 := some_of (fs_isOf jR 1 b) ey6
  rcases B5 with ⟨rfl, p2⟩ | ⟨rfl, p2⟩
  rotate_left
  · rcases A5 with ⟨_, _, _, h⟩ | ⟨rfl, _⟩
    · exact absurd h p2
    rw [if_pos rfl] at ex ey3
    exact .inl (no2 ex ey3)
  rcases A5 with ⟨rfl, _⟩ | ⟨_, h⟩
  rotate_left
  · exact absurd ⟨by omega, by omega, p2⟩ h
  rw [if_neg (by decide)] at ex ey3
  obtain ⟨x6, ex6, ex⟩ := bo ex
  obtain ⟨y7, ey7, ey3⟩ := bo ey3
  have A6 := holdsC zg jR ex6
  have B6 := some_of (fs_isOf jR 1 x3) ey7
  rcases B6 with ⟨rfl, p3⟩ | ⟨rfl, p3⟩
  · rcases A6 with ⟨rfl, _⟩ | ⟨_, h⟩
    rotate_left
    · exact absurd ⟨by omega, by omega, p3⟩ h
    rw [if_neg (by decide)] at ex ey3
    exact .inl (no2 ex ey3)
  rcases A6 with ⟨_, _, _, h⟩ | ⟨rfl, _⟩
  · exact absurd h p3
  rw [if_pos rfl] at ex ey3
  obtain rfl := Option.some.inj ey3
  rw [if_neg (by decide)] at er
  rw [o1] at p1 p2 p3
  rw [A3] at p3 g3
  have hab : a ≠ b := fun h => g3 (by rw [h]; exact btw_self)
  obtain ⟨x7, ex7, ex⟩ := bo ex
  obtain ⟨y8, ey8, er⟩ := bo er
  have A7 := hasPlank_i zs hb hab ex7
  have B7 := some_of (fs_isPlank jR 163 (.inl rfl) a b) ey8
  rcases B7 with ⟨rfl, q⟩ | ⟨rfl, q⟩
  · rcases A7 with ⟨rfl, _⟩ | ⟨_, h⟩
    rotate_left
    · exact absurd q h
    rw [if_neg (by decide)] at ex er
    exact .inl (no _ (by decide) ex er)
  rcases A7 with ⟨_, h⟩ | ⟨rfl, _⟩
  · exact absurd h q
  rw [if_pos rfl] at ex er
  obtain ⟨x8, ex8, ex⟩ := bo ex
  by_cases m6 : R.1 163 92 = 6
  · rw [if_pos m6] at er
    unfold f_Scene_addPlank at ex8
    obtain ⟨_, ex8⟩ := io_n ex8
    rw [lai, m6, if_neg (by decide), if_neg (by decide)] at ex8
    obtain rfl := Option.some.inj ex8
    rw [if_pos rfl] at ex
    exact .inl (no _ (by decide) ex er)
  · rw [if_neg m6] at er
    have m5 : (R.1 163 92).toInt ≤ 5 := by have := q_ne m6; omega
    obtain rfl := Option.some.inj er
    have x81 : x8.1 ≠ 0 := by
      unfold f_Scene_addPlank at ex8
      obtain ⟨_, ex8⟩ := io_n ex8
      rcases io ex8 with ⟨k, _⟩ | ⟨_, ex8⟩
      · have := q_lt k; rw [lai] at this; omega
      rcases io ex8 with ⟨_, ex8⟩ | ⟨k, _⟩
      · obtain ⟨_, ex8⟩ := io_n ex8
        obtain ⟨_, _, ex8⟩ := mo ex8
        obtain ⟨_, ex8⟩ := io_n ex8
        obtain ⟨_, _, ex8⟩ := mo ex8
        obtain ⟨_, _, ex8⟩ := mo ex8
        obtain rfl := Option.some.inj ex8
        show (1 : Int32) ≠ 0
        decide
      · have := q_nl k; rw [lai] at this; omega
    rw [if_neg x81] at ex
    obtain ⟨x9, ex9, ex⟩ := bo ex
    exact .inr ⟨rfl, p1, p2, g3, p3, m5, x8, x9, ex8, x81, ex9, (Option.some.inj ex).symm⟩
