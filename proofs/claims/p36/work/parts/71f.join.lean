section
/-! a minute: both sides -/
theorem ZV_b {R S : Mem} {g g' : Nat → Int32} {n : Nat} (n8 : n ≤ 8) (hr : AgR R S) (hg : ∀ i, (i < 16 ∨ (80 ≤ i ∧ i < 95 ∧ i ≠ 93)) → g' i = g i) (h : ZV R g n) : ZV S g' n := by
  have w : xw S = xw R := congrArg Int32.toInt hr.1
  have hh : xh S = xh R := congrArg Int32.toInt hr.2.1
  obtain ⟨h1, h2, h3, h4⟩ := h
  refine ⟨fun p hp => ?_, by rw [hg 92 (by omega)]; exact h2, by rw [hg 94 (by omega)]; exact h3, fun j hj => ?_⟩
  · rw [hg p (by omega), hg (8 + p) (by omega), hr.2.2.2.1, hr.2.2.2.2.2.2.2.1 p]
    obtain ⟨q1, q2⟩ := h1 p hp
    exact ⟨⟨q1.1, q1.2.1, (onN_a hr).mpr q1.2.2⟩, q2⟩
  · rw [hg 92 (by omega)] at hj
    rw [hg (80 + 2 * j) (by omega), hg (81 + 2 * j) (by omega), w, hh]
    obtain ⟨q1, q2, s, q3, q4, q5⟩ := h4 j hj
    exact ⟨(onN_a hr).mpr q1, (onN_a hr).mpr q2, s, q3, q4, fun h => q5 ((onN_a hr).mp h)⟩
theorem PG_t {X R x S y T : Mem} {k a n : Nat} (h : PG X R k a n x S) (g : PG x S k a n y T) : PG X R k a n y T := by
  obtain ⟨a1, a2, a3, a4, a5, a6, a7, a8⟩ := h
  obtain ⟨b1, b2, b3, b4, b5, b6, b7, b8⟩ := g
  exact ⟨AgX_t a1 b1, AgR_t a2 b2, b3, fun i hi => (b4 i hi).trans (a4 i hi), b5, fun j hj => (b6 j hj).trans (a6 j hj), b7.trans a7, fun j i h1 h2 => (b8 j i h1 h2).trans (a8 j i h1 h2)⟩
theorem loopB {X R x r : Mem} {k a n : Nat} (hk : isK k) (ha : St a) (jR : J R) (n8 : n ≤ 8) (zb : ZB X R n) (zs : ZS (scn X k) (R.1 a) n) (zv : ZV R (R.1 a) n) (st : X.1 45 2 = R.1 162 31) (ex : iter (lb_Clock_pass_54 k) FU ((0 : Int32), X) = some x) (er : iter (lb_Mod_goMinute_114 a) FU ((0 : Int32), R) = some r) : J r ∧ PG X R k a n x r := by
  refine it_2 (I := fun (s t : Int32 × Mem) => s.1 = t.1 ∧ (∃ i : Nat, s.1.toInt = (i : Int) ∧ i ≤ n) ∧ J t.2 ∧ PG X R k a n s.2 t.2) (Q := fun x r => J r ∧ PG X R k a n x r) ?_ ex er ⟨rfl, ⟨0, rfl, by omega⟩, jR, AgX_r, AgR_r, zs, fun _ _ => rfl, st, fun _ _ => rfl, rfl, fun _ _ _ _ => rfl⟩
  rintro ⟨v, N⟩ ⟨v', T⟩ A B ⟨hv, ⟨i, hi, li⟩, jT, pg⟩ eA eB
  dsimp only at hv hi jT pg
  subst hv
  obtain ⟨g1, g2, g3, g4, g5, g6, g7, g8⟩ := pg
  have zb' := ZB_a g1 g2 zb
  have hn := zb'.2.1.1
  unfold lb_Clock_pass_54 at eA
  unfold lb_Mod_goMinute_114 at eB
  dsimp only at eA eB
  rw [zb'.2.1.2.1] at eA
  rcases io eA with ⟨c, eA⟩ | ⟨c, eA⟩
  · rw [if_pos c] at eB
    obtain rfl := Option.some.inj eA
    obtain rfl := Option.some.inj eB
    exact .inr ⟨N, T, rfl, rfl, jT, g1, g2, g3, g4, g5, g6, g7, g8⟩
  · rw [if_neg c] at eB
    have c1 := q_ng c
    obtain ⟨x8, e8, eA⟩ := bo eA
    obtain ⟨x23, e23, eB⟩ := bo eB
    obtain rfl := Option.some.inj eA
    obtain rfl := Option.some.inj eB
    have zv' : ZV T (T.1 a) n := ZV_b n8 g2 (fun i hi => g4 i (by omega)) zv
    have G := greet_2 hk ha jT n8 zb' g3 zv' g5 hi (by omega) e8 e23
    obtain ⟨j23, _⟩ := some_of (sl_Mod_goMinute_124 a v 0 T T ha (by omega) jT (fun _ _ _ => rfl) (by decide) (by decide)) e23
    exact .inl ⟨_, _, rfl, rfl, rfl, ⟨i + 1, add_ti hi o1 (by omega) (by omega), by omega⟩, j23, PG_t ⟨g1, g2, g3, g4, g5, g6, g7, g8⟩ G⟩
/-! to whom the news goes -/
theorem hear_c {X R : Mem} {k n p : Nat} {v x : Int32} (hk : isK k) (jR : J R) (n8 : n ≤ 8) (zg : ZG X R) (zc : ZC X R n) (hp : v.toInt = (p : Int)) (pn : p < n) (c0 : 0 ≤ (X.1 (k + 1) p).toInt) (cb : (X.1 (k + 1) p).toInt < xw R * xh R) (e : f_Clock_hearers v k X = some x) : ∀ q, bt x q = true ↔ (q < n ∧ ((X.1 (k + 1) q = X.1 (k + 1) p ∧ X.1 (k + 2) q = X.1 (k + 2) p) ∨ (stN R (X.1 (k + 1) p).toInt ∧ X.1 (k + 1) q = X.1 (k + 1) p ∧ X.1 (k + 2) q = 1 - X.1 (k + 2) p) ∨ (X.1 (k + 2) p = 1 ∧ X.1 (k + 2) q = 0 ∧ ∃ s : Nat, s < 4 ∧ (X.1 (k + 1) q).toInt = bes (xw R) (xh R) (X.1 (k + 1) p).toInt s))) := by
  have r0 : rf k 0 = k + 1 := scn_rf (isK_kd hk) (by omega)
  have r1 : rf k 1 = k + 2 := scn_rf (isK_kd hk) (by omega)
  have hm : (X.1 6 4).toInt = (n : Int) := by rw [zc.2.1]; exact zc.1
  have z0 := o0
  have y4 := o4
  unfold f_Clock_hearers at e
  obtain ⟨_, e⟩ := io_n e
  obtain ⟨_, e⟩ := io_n e
  obtain ⟨_, e⟩ := io_n e
  rw [r0, r1, q_nat hp] at e
  obtain ⟨x1, e1, e⟩ := bo e
  have st1 := standing_i hm n8 e1
  obtain ⟨x2, e2, e⟩ := bo e
  have sc := stairC zg jR e2
  -- the sides
  have last : ∀ w : Int32, j_Clock_hearers_59 k (X.1 (k + 1) p) (X.1 (k + 2) p) w X = some x → ∀ q, bt x q = true ↔ (bt w q = true ∨ (q < n ∧ X.1 (k + 2) p = 1 ∧ X.1 (k + 2) q = 0 ∧ ∃ s : Nat, s < 4 ∧ (X.1 (k + 1) q).toInt = bes (xw R) (xh R) (X.1 (k + 1) p).toInt s)) := by
    intro w e
    unfold j_Clock_hearers_59 at e
    rcases io e with ⟨c, e⟩ | ⟨c, e⟩
    · obtain ⟨x6, e6, e⟩ := bo e
      obtain rfl := Option.some.inj e
      have key := it_r (I := fun s : Int32 × Int32 => ∃ i : Nat, i ≤ 4 ∧ s.2.toInt = (i : Int) ∧ ∀ q, bt s.1 q = true ↔ (bt w q = true ∨ (q < n ∧ X.1 (k + 2) q = 0 ∧ ∃ t : Nat, t < i ∧ (X.1 (k + 1) q).toInt = bes (xw R) (xh R) (X.1 (k + 1) p).toInt t))) (Q := fun x : Int32 => ∀ q, bt x q = true ↔ (bt w q = true ∨ (q < n ∧ X.1 (k + 2) q = 0 ∧ ∃ t : Nat, t < 4 ∧ (X.1 (k + 1) q).toInt = bes (xw R) (xh R) (X.1 (k + 1) p).toInt t))) (by
        rintro ⟨u, b⟩ r ⟨i, li, hi, hu⟩ e
        dsimp only at hi hu
        unfold lb_Clock_hearers_68 at e
        dsimp only at e
        rcases io e with ⟨g, e⟩ | ⟨g, e⟩
        · have := q_le g
          obtain rfl := Option.some.inj e
          have : i = 4 := by omega
          subst this; exact hu
        have g1 := q_ng g
        obtain ⟨x3, e3, e⟩ := bo e
        obtain ⟨x4, e4, e⟩ := bo e
        obtain rfl := Option.some.inj e
        have b3 := (besC zg jR e3).1 c0 cb (by omega) (by omega)
        have st4 := standing_i hm n8 e4
        refine ⟨i + 1, by omega, add_ti hi o1 (by omega) (by omega), fun q => ?_⟩
        show bt (u ||| x4) q = true ↔ _
        rw [bt_or, Bool.or_eq_true, hu q, st4 q, decide_eq_true_eq]
        rw [hi] at b3
        constructor
        · rintro ((h | ⟨h1, h2, t, h3, h4⟩) | ⟨h1, h2, h3⟩)
          · exact .inl h
          · exact .inr ⟨h1, h2, t, by omega, h4⟩
          · exact .inr ⟨h1, h3, i, by omega, by rw [h2]; exact b3⟩
        · rintro (h | ⟨h1, h2, t, h3, h4⟩)
          · exact .inl (.inl h)
          · rcases Nat.lt_or_ge t i with g2 | g2
            · exact .inl (.inr ⟨h1, h2, t, g2, h4⟩)
            · have : t = i := by omega
              subst this
              exact .inr ⟨h1, Int32.toInt_inj.mp (by rw [h4, b3]), h2⟩) e6 ⟨0, by omega, rfl, fun q => ⟨.inl, fun h => h.elim id (fun ⟨_, _, t, h, _⟩ => absurd h (by omega))⟩⟩
      intro q
      rw [key q]
      constructor
      · rintro (h | ⟨h1, h2, t, h3, h4⟩)
        · exact .inl h
        · exact .inr ⟨h1, c, h2, t, h3, h4⟩
      · rintro (h | ⟨h1, _, h2, t, h3, h4⟩)
        · exact .inl h
        · exact .inr ⟨h1, h2, t, h3, h4⟩
    · obtain rfl := Option.some.inj e
      intro q
      constructor
      · exact .inl
      · rintro (h | ⟨_, h, _⟩)
        · exact h
        · exact absurd h c
  intro q
  rcases io e with ⟨c, e⟩ | ⟨c, e⟩
  · have ns : ¬ stN R (X.1 (k + 1) p).toInt := by
      rcases sc with ⟨h, _⟩ | ⟨_, h⟩
      · rw [h] at c; cases c
      · exact h
    rw [last _ e q, st1 q, decide_eq_true_eq]
    constructor
    · rintro (⟨h1, h2, h3⟩ | ⟨h1, h2, h3, h4⟩)
      · exact ⟨h1, .inl ⟨h2, h3⟩⟩
      · exact ⟨h1, .inr (.inr ⟨h2, h3, h4⟩)⟩
    · rintro ⟨h1, ⟨h2, h3⟩ | ⟨h2, _⟩ | ⟨h2, h3, h4⟩⟩
      · exact .inl ⟨h1, h2, h3⟩
      · exact absurd h2 ns
      · exact .inr ⟨h1, h2, h3, h4⟩
  · have ys : stN R (X.1 (k + 1) p).toInt := by
      rcases sc with ⟨_, h⟩ | ⟨h, _⟩
      · exact h
      · exact absurd h c
    obtain ⟨x8, e8, e⟩ := bo e
    have st8 := standing_i hm n8 e8
    rw [last _ e q, bt_or, Bool.or_eq_true, st1 q, st8 q, decide_eq_true_eq, decide_eq_true_eq]
    constructor
    · rintro ((⟨h1, h2, h3⟩ | ⟨h1, h2, h3⟩) | ⟨h1, h2, h3, h4⟩)
      · exact ⟨h1, .inl ⟨h2, h3⟩⟩
      · exact ⟨h1, .inr (.inl ⟨ys, h2, h3⟩)⟩
      · exact ⟨h1, .inr (.inr ⟨h2, h3, h4⟩)⟩
    · rintro ⟨h1, ⟨h2, h3⟩ | ⟨_, h2, h3⟩ | ⟨h2, h3, h4⟩⟩
      · exact .inl (.inl ⟨h1, h2, h3⟩)
      · exact .inl (.inr ⟨h1, h2, h3⟩)
      · exact .inr ⟨h1, h2, h3, h4⟩
theorem hear_r {R : Mem} {a n p c : Nat} {v x : Int32} (ha : St a) (jR : J R) (n8 : n ≤ 8) (hn : (R.1 162 4).toInt = (n : Int)) (hp : v.toInt = (p : Int)) (pn : p < n) (g0 : 0 ≤ (R.1 a p).toInt ∧ (R.1 a p).toInt ≤ 71) (hc : (R.1 a p).toInt % 36 = (c : Int)) (e : f_Mod_hears a v R = some x) : ∀ q, bt x q = true ↔ (q < n ∧ (R.1 a q = R.1 a p ∨ ((R.1 164 c).toInt = 3 ∧ ((R.1 a q).toInt = (c : Int) ∨ (R.1 a q).toInt = 36 + (c : Int))) ∨ ((R.1 a p).toInt / 36 ≠ 0 ∧ ∃ s : Nat, s < 4 ∧ bes (xw R) (xh R) c s ≠ -1 ∧ (R.1 a q).toInt = bes (xw R) (xh R) c s))) := by
  have y4 := o4
  have z36 : (36 : Int32).toInt = 36 := rfl
  unfold f_Mod_hears at e
  obtain ⟨_, e⟩ := io_n e
  obtain ⟨_, e⟩ := io_n e
  rw [q_nat hp] at e
  obtain ⟨x1, e1, e⟩ := bo e
  have o1' := onPlace_i hn n8 e1
  obtain ⟨_, e⟩ := io_n e
  obtain ⟨x2, e2, e⟩ := bo e
  have h2 : x2.toInt = (c : Int) := by rw [(place_i g0.1 g0.2).1 e2]; exact hc
  obtain ⟨_, e⟩ := io_n e
  rw [q_nat h2] at e
  have last : ∀ w : Int32, j_Mod_hears_50 a v w x2 R = some x → ∀ q, bt x q = true ↔ (bt w q = true ∨ (q < n ∧ (R.1 a p).toInt / 36 ≠ 0 ∧ ∃ s : Nat, s < 4 ∧ bes (xw R) (xh R) c s ≠ -1 ∧ (R.1 a q).toInt = bes (xw R) (xh R) c s)) := by
    intro w e
    unfold j_Mod_hears_50 at e
    obtain ⟨_, e⟩ := io_n e
    rw [q_nat hp] at e
    obtain ⟨x3, e3, e⟩ := bo e
    have h3 := (place_i g0.1 g0.2).2 e3
    rcases io e with ⟨d, e⟩ | ⟨d, e⟩
    · have := q_eq d
      rw [o0] at this
      obtain rfl := Option.some.inj e
      intro q
      exact ⟨.inl, fun h => h.elim id (fun ⟨_, h, _⟩ => absurd (by omega) h)⟩
    · have d1 := q_ne d
      rw [o0] at d1
      obtain ⟨x9, e9, e⟩ := bo e
      obtain rfl := Option.some.inj e
      have key := it_r (I := fun s : Int32 × Int32 => ∃ i : Nat, i ≤ 4 ∧ s.2.toInt = (i : Int) ∧ ∀ q, bt s.1 q = true ↔ (bt w q = true ∨ (q < n ∧ ∃ t : Nat, t < i ∧ bes (xw R) (xh R) c t ≠ -1 ∧ (R.1 a q).toInt = bes (xw R) (xh R) c t))) (Q := fun x : Int32 => ∀ q, bt x q = true ↔ (bt w q = true ∨ (q < n ∧ ∃ t : Nat, t < 4 ∧ bes (xw R) (xh R) c t ≠ -1 ∧ (R.1 a q).toInt = bes (xw R) (xh R) c t))) (by
        rintro ⟨u, b⟩ r ⟨i, li, hi, hu⟩ e
        dsimp only at hi hu
        unfold lb_Mod_hears_64 at e
        dsimp only at e
        rcases io e with ⟨g, e⟩ | ⟨g, e⟩
        · have := q_le g
          obtain rfl := Option.some.inj e
          have : i = 4 := by omega
          subst this; exact hu
        have g1 := q_ng g
        obtain ⟨x4, e4, e⟩ := bo e
        have b4 := some_of (fs_beside jR x2 b (by omega)) e4
        rw [h2, hi] at b4
        have b1 : (b + (1 : Int32)).toInt = ((i + 1 : Nat) : Int) := add_ti hi o1 (by omega) (by omega)
        rcases io e with ⟨g2, e⟩ | ⟨g2, e⟩
        · have g2 := q_eq g2
          rw [om] at g2
          obtain rfl := Option.some.inj e
          refine ⟨i + 1, by omega, b1, fun q => ?_⟩
          rw [hu q]
          constructor
          · rintro (h | ⟨h1, t, h3, h4⟩)
            · exact .inl h
            · exact .inr ⟨h1, t, by omega, h4⟩
          · rintro (h | ⟨h1, t, h3, h4, h5⟩)
            · exact .inl h
            · rcases Nat.lt_or_ge t i with g3 | g3
              · exact .inr ⟨h1, t, g3, h4, h5⟩
              · have : t = i := by omega
                subst this
                exact absurd (by omega) h4
        · have g2 := q_ne g2
          rw [om] at g2
          obtain ⟨x5, e5, e⟩ := bo e
          rw [e4] at e5
          obtain rfl := Option.some.inj e5
          obtain ⟨x6, e6, e⟩ := bo e
          obtain rfl := Option.some.inj e
          have o6 := onPlace_i hn n8 e6
          refine ⟨i + 1, by omega, b1, fun q => ?_⟩
          show bt (u ||| x6) q = true ↔ _
          rw [bt_or, Bool.or_eq_true, hu q, o6 q, decide_eq_true_eq]
          constructor
          · rintro ((h | ⟨h1, t, h3, h4⟩) | ⟨h1, h3⟩)
            · exact .inl h
            · exact .inr ⟨h1, t, by omega, h4⟩
            · exact .inr ⟨h1, i, by omega, by omega, by rw [h3]; exact b4⟩
          · rintro (h | ⟨h1, t, h3, h4, h5⟩)
            · exact .inl (.inl h)
            · rcases Nat.lt_or_ge t i with g3 | g3
              · exact .inl (.inr ⟨h1, t, g3, h4, h5⟩)
              · have : t = i := by omega
                subst this
                exact .inr ⟨h1, Int32.toInt_inj.mp (by rw [h5, b4])⟩) e9 ⟨0, by omega, rfl, fun q => ⟨.inl, fun h => h.elim id (fun ⟨_, t, h, _⟩ => absurd h (by omega))⟩⟩
      intro q
      rw [key q]
      constructor
      · rintro (h | ⟨h1, h4⟩)
        · exact .inl h
        · exact .inr ⟨h1, by omega, h4⟩
      · rintro (h | ⟨h1, _, h4⟩)
        · exact .inl h
        · exact .inr ⟨h1, h4⟩
  intro q
  rcases io e with ⟨d, e⟩ | ⟨d, e⟩
  · have d3 : (R.1 164 c).toInt = 3 := q_eq d
    obtain ⟨x11, e11, ea⟩ := bo e
    obtain ⟨x12, e12, eb⟩ := bo ea
    obtain ⟨x13, e13, ec⟩ := bo eb
    unfold f_Mod_placeOf at e12
    obtain rfl := Option.some.inj e12
    have m12 : ((36 : Int32) * (1 : Int32) + x2).toInt = 36 + (c : Int) := by
      have : ((36 : Int32) * (1 : Int32)).toInt = 36 := rfl
      exact add_ti this h2 (by omega) (by omega)
    have o11 := onPlace_i hn n8 e11
    have o13 := onPlace_i hn n8 e13
    rw [last _ ec q, bt_or, bt_or, Bool.or_eq_true, Bool.or_eq_true, o1' q, o11 q, o13 q, decide_eq_true_eq, decide_eq_true_eq, decide_eq_true_eq]
    constructor
    · rintro ((⟨h1, h3⟩ | ⟨h1, h3⟩ | ⟨h1, h3⟩) | ⟨h1, h3⟩)
      · exact ⟨h1, .inl h3⟩
      · exact ⟨h1, .inr (.inl ⟨d3, .inl (by rw [h3]; exact h2)⟩)⟩
      · exact ⟨h1, .inr (.inl ⟨d3, .inr (by rw [h3]; exact m12)⟩)⟩
      · exact ⟨h1, .inr (.inr h3)⟩
    · rintro ⟨h1, h3 | ⟨_, h3 | h3⟩ | h3⟩
      · exact .inl (.inl ⟨h1, h3⟩)
      · exact .inl (.inr (.inl ⟨h1, Int32.toInt_inj.mp (by rw [h3, h2])⟩))
      · exact .inl (.inr (.inr ⟨h1, Int32.toInt_inj.mp (by rw [h3, m12])⟩))
      · exact .inr ⟨h1, h3⟩
  · have d3 : ¬ (R.1 164 c).toInt = 3 := q_ne d
    rw [last _ e q, o1' q, decide_eq_true_eq]
    constructor
    · rintro (⟨h1, h3⟩ | ⟨h1, h3⟩)
      · exact ⟨h1, .inl h3⟩
      · exact ⟨h1, .inr (.inr h3)⟩
    · rintro ⟨h1, h3 | ⟨h3, _⟩ | h3⟩
      · exact .inl ⟨h1, h3⟩
      · exact absurd h3 d3
      · exact .inr ⟨h1, h3⟩
theorem hear_2 {X R : Mem} {k a n p : Nat} {v x y : Int32} (hk : isK k) (ha : St a) (jR : J R) (n8 : n ≤ 8) (zb : ZB X R n) (zs : ZS (scn X k) (R.1 a) n) (zv : ZV R (R.1 a) n) (hp : v.toInt = (p : Int)) (pn : p < n) (ex : f_Clock_hearers v k X = some x) (er : f_Mod_hears a v R = some y) : x = y := by
  obtain ⟨zg, zc, zl⟩ := zb
  have e0 : ∀ i, scn X k 0 i = X.1 (k + 1) i := fun _ => rfl
  have e1 : ∀ i, scn X k 1 i = X.1 (k + 2) i := fun _ => rfl
  have pr : ∀ q, q < n → (R.1 a q).toInt = (X.1 (k + 1) q).toInt + 36 * (X.1 (k + 2) q).toInt ∧ 0 ≤ (X.1 (k + 1) q).toInt ∧ (X.1 (k + 1) q).toInt ≤ 35 ∧ 0 ≤ (X.1 (k + 2) q).toInt ∧ (X.1 (k + 2) q).toInt ≤ 1 := by
    intro q hq
    obtain ⟨p1, p2, p3, p4, p5, p6⟩ := zs.1 q hq
    rw [e0, e1] at p1
    rw [e0] at p2 p3
    rw [e1] at p4 p5
    exact ⟨p1, p2, p3, p4, p5⟩
  obtain ⟨p1, p2, p3, p4, p5⟩ := pr p pn
  have on := (zv.1 p pn).1.2.2
  have pm : (R.1 a p).toInt % 36 = (X.1 (k + 1) p).toInt := by omega
  rw [pm] at on
  obtain ⟨c, hc⟩ := ti_ofn p2
  have C := hear_c hk jR n8 zg zc hp pn p2 on.2.1 ex
  have Rr := hear_r ha jR n8 zc.1 hp pn (by omega) (by rw [pm]; exact hc) er
  refine bt_ext (fun q _ => ?_)
  have iff : bt x q = true ↔ bt y q = true := by
    rw [C q, Rr q]
    have st : stN R (X.1 (k + 1) p).toInt ↔ (R.1 164 c).toInt = 3 := by
      unfold stN
      rw [show (X.1 (k + 1) p).toInt.toNat = c by omega]
      exact ⟨fun h => h.2.2, fun h => ⟨p2, on.2.1, h⟩⟩
    have eqi' : ∀ (u w : Int32), u = w ↔ u.toInt = w.toInt := fun u w => ⟨fun h => by rw [h], fun h => Int32.toInt_inj.mp h⟩
    have s1 : ((1 : Int32) - X.1 (k + 2) p).toInt = 1 - (X.1 (k + 2) p).toInt := sub_ti o1 rfl (by omega) (by omega)
    have z0 := o0
    have y1 := o1
    constructor
    · rintro ⟨h1, h⟩
      obtain ⟨q1, q2, q3, q4, q5⟩ := pr q h1
      refine ⟨h1, ?_⟩
      rcases h with ⟨h2, h3⟩ | ⟨h2, h3, h4⟩ | ⟨h2, h3, s, h4, h5⟩
      · rw [eqi'] at h2 h3
        exact .inl ((eqi' _ _).mpr (by omega))
      · rw [eqi'] at h3 h4
        refine .inr (.inl ⟨st.mp h2, ?_⟩)
        omega
      · rw [eqi'] at h2 h3
        rw [hc] at h5
        exact .inr (.inr ⟨by omega, s, h4, by omega, by omega⟩)
    · rintro ⟨h1, h⟩
      obtain ⟨q1, q2, q3, q4, q5⟩ := pr q h1
      refine ⟨h1, ?_⟩
      rcases h with h2 | ⟨h2, h3⟩ | ⟨h2, s, h4, h5, h6⟩
      · rw [eqi'] at h2
        exact .inl ⟨(eqi' _ _).mpr (by omega), (eqi' _ _).mpr (by omega)⟩
      · by_cases g : (X.1 (k + 2) q).toInt = (X.1 (k + 2) p).toInt
        · exact .inl ⟨(eqi' _ _).mpr (by omega), (eqi' _ _).mpr g⟩
        · exact .inr (.inl ⟨st.mpr h2, (eqi' _ _).mpr (by omega), (eqi' _ _).mpr (by omega)⟩)
      · have bi := bes_in (aw jR) (ah jR) (c := c) (by omega) (by rw [← hc]; exact on.2.1) (s := s) (by omega)
        have wh := awh jR
        exact .inr (.inr ⟨(eqi' _ _).mpr (by omega), (eqi' _ _).mpr (by omega), s, h4, by rw [hc]; omega⟩)
  cases h1 : bt x q with
  | true => exact (iff.mp h1).symm
  | false =>
    cases h2 : bt y q with
    | false => rfl
    | true => rw [iff.mpr h2] at h1; cases h1
end
section
/-! a minute -/
def PH (X R : Mem) (k a : Nat) (x S : Mem) : Prop := AgX X x ∧ AgR R S ∧ (∀ j i, j ≠ 8 → j < 10 → scn x k j i = scn X k j i) ∧ x.1 k 8 = S.1 a 93 ∧ (∀ i, i ≠ 93 → S.1 a i = R.1 a i) ∧ (∀ j, x.1 45 j = X.1 45 j) ∧ (∀ i, S.1 162 i = R.1 162 i)
theorem ZS_n {f f' : Nat → Nat → Int32} {g g' : Nat → Int32} {n : Nat} (n8 : n ≤ 8) (hf : ∀ j i, j ≠ 8 → j < 10 → f' j i = f j i) (h8 : f' 8 0 = g' 93) (hg : ∀ i, i ≠ 93 → g' i = g i) (h : ZS f g n) : ZS f' g' n := by
  obtain ⟨h1, h2, h3, h4, h5, h6, h7, h8'⟩ := h
  refine ⟨fun p hp => ?_, fun p q hp hq => ?_, fun p q hp hq hh => ?_, ?_, fun j hj hl => ?_, ?_, h8, ?_⟩
  · rw [hg p (by omega), hf 0 p (by omega) (by omega), hf 1 p (by omega) (by omega), hg (8 + p) (by omega), hf 2 p (by omega) (by omega)]; exact h1 p hp
  · rw [hg _ (by omega), hf 3 _ (by omega) (by omega), hf 3 _ (by omega) (by omega)]; exact h2 p q hp hq
  · rw [hf 3 _ (by omega) (by omega)]; exact h3 p q hp hq hh
  · rw [hf 6 0 (by omega) (by omega), hg 92 (by omega)]; exact h4
  · rw [hg 92 (by omega)] at hl
    rw [hf 4 j (by omega) (by omega), hf 5 j (by omega) (by omega), hg _ (by omega), hg _ (by omega)]; exact h5 j hj hl
  · rw [hf 7 0 (by omega) (by omega), hg 95 (by omega)]; exact h6
  · rw [hf 9 0 (by omega) (by omega), hg 94 (by omega)]; exact h8'
theorem loopC {X R x r : Mem} {k a n : Nat} {kn : Int32} (hk : isK k) (ha : St a) (jR : J R) (n8 : n ≤ 8) (zb : ZB X R n) (zs : ZS (scn X k) (R.1 a) n) (zv : ZV R (R.1 a) n) (ex : iter (lb_Clock_pass_87 k kn) FU ((0 : Int32), X) = some x) (er : iter (lb_Mod_goMinute_226 a kn) FU ((0 : Int32), R) = some r) : J r ∧ PH X R k a x r := by
  have kk : k = 11 ∨ k = 25 := hk
  have aa : a = 163 ∨ a = 174 ∨ a = 176 := ha
  refine it_2 (I := fun (s t : Int32 × Mem) => s.1 = t.1 ∧ (∃ i : Nat, s.1.toInt = (i : Int) ∧ i ≤ n) ∧ J t.2 ∧ PH X R k a s.2 t.2) (Q := fun x r => J r ∧ PH X R k a x r) ?_ ex er ⟨rfl, ⟨0, rfl, by omega⟩, jR, AgX_r, AgR_r, fun _ _ _ _ => rfl, zs.2.2.2.2.2.2.1, fun _ _ => rfl, fun _ => rfl, fun _ => rfl⟩
  rintro ⟨v, N⟩ ⟨v', T⟩ A B ⟨hv, ⟨i, hi, li⟩, jT, g1, g2, g3, g4, g5, g6, g7⟩ eA eB
  dsimp only at hv hi jT g1 g2 g3 g4 g5 g6 g7
  subst hv
  have zb' := ZB_a g1 AgR_r zb
  have zsN : ZS (scn N k) (T.1 a) n := ZS_n n8 g3 g4 g5 zs
  have hn := zb.2.1.1
  unfold lb_Clock_pass_87 at eA
  unfold lb_Mod_goMinute_226 at eB
  dsimp only at eA eB
  rw [zb'.2.1.2.1] at eA
  rw [g7 4] at eB
  rcases io eA with ⟨c, eA⟩ | ⟨c, eA⟩
  · rw [if_pos c] at eB
    obtain rfl := Option.some.inj eA
    obtain rfl := Option.some.inj eB
    exact .inr ⟨N, T, rfl, rfl, jT, g1, g2, g3, g4, g5, g6, g7⟩
  rw [if_neg c] at eB
  have c1 := q_ng c
  have v1 : (v + (1 : Int32)).toInt = ((i + 1 : Nat) : Int) := add_ti hi o1 (by omega) (by omega)
  left
  obtain ⟨z26, ez26, eB⟩ := bo eB
  have h26 := hasR hi (by omega) ez26
  rw [bt_shr hi (by omega)] at eA
  cases hb : bt kn i with
  | false =>
    rw [hb, if_neg (show ¬ (false = true) by decide), if_pos rfl] at eA
    rw [if_pos (h26.mpr hb)] at eB
    obtain rfl := Option.some.inj eA
    obtain rfl := Option.some.inj eB
    exact ⟨_, _, rfl, rfl, rfl, ⟨i + 1, v1, by omega⟩, jT, g1, g2, g3, g4, g5, g6, g7⟩
  | true =>
    rw [hb, if_pos rfl, if_neg (by decide)] at eA
    rw [if_neg (fun h => by rw [h26.mp h] at hb; cases hb)] at eB
    obtain ⟨x11, e11, eA⟩ := bo eA
    obtain ⟨M12, e12, eA⟩ := mo eA
    obtain rfl := Option.some.inj eA
    obtain ⟨_, eB⟩ := io_n eB
    obtain ⟨x27, e27, eB⟩ := bo eB
    obtain ⟨_, eB⟩ := io_n eB
    obtain ⟨M28, e28, eB⟩ := mo eB
    obtain rfl := Option.some.inj eB
    have j28 : J M28 := by rw [e28]; exact Jws93 jT ha _
    rw [show (93 : Int32).toNatClampNeg = 93 from rfl] at e28
    have zvT : ZV T (T.1 a) n := ZV_b n8 g2 (fun i hi => g5 i (by omega)) zv
    have eq := hear_2 hk ha jT n8 (ZB_a AgX_r g2 zb') zsN zvT hi (by omega) e11 e27
    have xf : ∀ kx q, ¬ (kx = k ∧ q = 8) → M12.1 kx q = N.1 kx q := fun kx q h => by rw [e12, si_ne h]
    have sf : ∀ kx q, ¬ (kx = a ∧ q = 93) → M28.1 kx q = T.1 kx q := fun kx q h => by rw [e28, si_ne h]
    have x22 : M12.2 = N.2 := by rw [e12]; rfl
    have agx : AgX N M12 := ⟨xf 3 2 (by omega), xf 3 3 (by omega), fun q => xf 4 q (by omega), xf 6 4 (by omega), xf 6 5 (by omega), fun q => xf 7 q (by omega), fun q => xf 8 q (by omega), xf 40 4 (by omega), fun q => xf 41 q (by omega), fun q => xf 35 q (by omega), fun q => by rw [x22], fun q => by rw [x22]⟩
    have agr : AgR T M28 := ⟨sf 162 2 (by omega), sf 162 3 (by omega), sf 162 4 (by omega), sf 162 5 (by omega), sf 162 23 (by omega), fun q => sf 164 q (by omega), fun q => sf 165 q (by omega), fun q => sf 166 q (by omega), fun q => sf 172 q (by omega)⟩
    refine ⟨_, _, rfl, rfl, rfl, ⟨i + 1, v1, by omega⟩, j28, AgX_t g1 agx, AgR_t g2 agr, fun j q h1 h2 => ?_, ?_, fun q hq => ?_, fun j => ?_, fun q => ?_⟩
    · show scn M12 k j q = _
      rw [← g3 j q h1 h2]
      unfold scn
      by_cases g : j < 6
      · rw [if_pos g, if_pos g]; exact xf _ _ (by omega)
      · rw [if_neg g, if_neg g]; exact xf _ _ (by omega)
    · show M12.1 k 8 = M28.1 a 93
      rw [e12, si_eq, e28, si_eq, eq, g4]
    · show M28.1 a q = _
      rw [sf a q (by omega)]; exact g5 q hq
    · show M12.1 45 j = _
      rw [xf 45 j (by omega)]; exact g6 j
    · show M28.1 162 q = _
      rw [sf 162 q (by omega)]; exact g7 q
/-- what a minute leaves -/
def PP (X R : Mem) (k a n : Nat) (x r : Mem) : Prop := J r ∧ AgX X x ∧ AgR R r ∧ ZS (scn x k) (r.1 a) n ∧ ZV r (r.1 a) n ∧ x.1 45 0 = r.1 162 29 ∧ x.1 45 1 = r.1 162 30 ∧ x.1 45 2 = r.1 162 31 ∧ (∀ i, 80 ≤ i → i < 93 → r.1 a i = R.1 a i) ∧ (∃ b, f_JInteger_bitCount (x.1 45 0) = some b ∧ x.1 45 3 = X.1 45 3 + b) ∧ x.1 45 4 = X.1 45 4 + x.1 45 2
theorem pass_2 {X R x r : Mem} {k a n : Nat} (hk : isK k) (ha : St a) (jR : J R) (n8 : n ≤ 8) (zb : ZB X R n) (zs : ZS (scn X k) (R.1 a) n) (zv : ZV R (R.1 a) n) (zw : ZW X R a) (ex : f_Clock_pass k 32 X = some x) (er : f_Mod_goMinute a R = some r) : PP X R k a n x r := by
  have kk : k = 11 ∨ k = 25 := hk
  have aa : a = 163 ∨ a = 174 ∨ a = 176 := ha
  have jr := (some_of (sf_Mod_goMinute a R ha jR) er).1
  unfold f_Clock_pass at ex
  obtain ⟨_, ex⟩ := io_n ex
  obtain ⟨_, ex⟩ := io_n ex
  obtain ⟨M1, m1, exa⟩ := mo ex
  obtain ⟨x6, ex6, exb⟩ := bo exa
  obtain ⟨M7, m7, exc⟩ := mo exb
  obtain ⟨x10, ex10, exd⟩ := bo exc
  obtain ⟨x15, ex15, exe⟩ := bo exd
  obtain ⟨M16, m16, exf⟩ := mo exe
  obtain ⟨M17, m17, exg⟩ := mo exf
  obtain ⟨x18, ex18, exh⟩ := bo exg
  obtain ⟨M19, m19, exi⟩ := mo exh
  obtain ⟨M20, m20, exj⟩ := mo exi
  have exj := Option.some.inj exj
  subst exj
  unfold f_Mod_goMinute at er
  obtain ⟨_, er⟩ := io_n er
  obtain ⟨S1, s1, era⟩ := mo er
  obtain ⟨S2, s2, erb⟩ := mo era
  obtain ⟨y12, ey12, erc⟩ := bo erb
  obtain ⟨y25, ey25, erd⟩ := bo erc
  obtain ⟨_, ere⟩ := io_n erd
  obtain ⟨y31, ey31, erf⟩ := bo ere
  obtain ⟨_, erg⟩ := io_n erf
  obtain ⟨S32, s32, erh⟩ := mo erg
  obtain ⟨_, eri⟩ := io_n erh
  obtain ⟨_, erj⟩ := io_n eri
  obtain ⟨S33, s33, erk⟩ := mo erj
  have erk := Option.some.inj erk
  subst erk
  rw [show (93 : Int32).toNatClampNeg = 93 from rfl] at ey31 s32
  rw [show (95 : Int32).toNatClampNeg = 95 from rfl] at s33
  -- people go
  have fX1 : ∀ kx i, ¬ (kx = 45 ∧ i = 0) → M1.1 kx i = X.1 kx i := fun kx i h => by rw [m1, si_ne h]
  have fS2 : ∀ kx i, ¬ (kx = 162 ∧ (i = 29 ∨ i = 31)) → S2.1 kx i = R.1 kx i := fun kx i h => by rw [s2, si_ne (by omega), s1, si_ne (by omega)]
  have mkX : ∀ {A B : Mem}, (∀ kx i, kx ≠ 45 → B.1 kx i = A.1 kx i) → B.2 = A.2 → AgX A B := fun h h2 => ⟨h 3 2 (by omega), h 3 3 (by omega), fun q => h 4 q (by omega), h 6 4 (by omega), h 6 5 (by omega), fun q => h 7 q (by omega), fun q => h 8 q (by omega), h 40 4 (by omega), fun q => h 41 q (by omega), fun q => h 35 q (by omega), fun q => by rw [h2], fun q => by rw [h2]⟩
  have mkR : ∀ {A B : Mem}, (∀ kx i, ¬ (kx = 162 ∧ (i = 29 ∨ i = 30 ∨ i = 31)) → kx ≠ a → B.1 kx i = A.1 kx i) → AgR A B := fun h => ⟨h 162 2 (by omega) (by omega), h 162 3 (by omega) (by omega), h 162 4 (by omega) (by omega), h 162 5 (by omega) (by omega), h 162 23 (by omega) (by omega), fun q => h 164 q (by omega) (by omega), fun q => h 165 q (by omega) (by omega), fun q => h 166 q (by omega) (by omega), fun q => h 172 q (by omega) (by omega)⟩
  have scE : ∀ {A B : Mem}, (∀ kx i, kx ≠ 45 → B.1 kx i = A.1 kx i) → SEq (scn A k) (scn B k) := fun h => scn_e (fun j i hj => by
    unfold scn
    by_cases g : j < 6
    · rw [if_pos g, if_pos g, h _ _ (by omega)]
    · rw [if_neg g, if_neg g, h _ _ (by omega)])
  have ax1 : AgX X M1 := mkX (fun kx i h => fX1 kx i (by omega)) (by rw [m1]; rfl)
  have ar2 : AgR R S2 := mkR (fun kx i h _ => fS2 kx i (by omega))
  have j2 : J S2 := by rw [s2]; refine Jw_fld okf_162_31 ?_ _; rw [s1]; exact Jw_fld okf_162_29 jR _
  have ra2 : ∀ i, S2.1 a i = R.1 a i := fun i => fS2 a i (by omega)
  have h6 : (R.1 a 92).toInt ≤ 6 := zv.2.1.2
  have A := loopA hk ha j2 n8 (ZB_a ax1 ar2 zb) (ZS_c n8 (scE (fun kx i h => fX1 kx i (by omega))) (fun i _ => (ra2 i).symm) zs) (ZV_a n8 ar2 (fun i _ => ra2 i) zv) (ZW_a ax1 ar2 (plk_c (fun i _ _ => ra2 i) h6) zw) (by rw [m1, si_eq, s2, si_ne (by omega), s1, si_eq]) ex6 ey12
  obtain ⟨a1, a2, a3, a4, a5, a6, a7, a8, a9⟩ := A
  -- they meet
  have fX7 : ∀ kx i, ¬ (kx = 45 ∧ i = 2) → M7.1 kx i = x6.1 kx i := fun kx i h => by rw [m7, si_ne h]
  have ax7 : AgX x6 M7 := mkX (fun kx i h => fX7 kx i (by omega)) (by rw [m7]; rfl)
  have y31' : y12.1 162 31 = 0 := by
    have fr := it_r (I := fun s : Int32 × Mem => Fx (2 ^ 400 - 1 - 2 ^ 231) [] S2 s.2) (Q := fun r : Mem => Fx (2 ^ 400 - 1 - 2 ^ 231) [] S2 r) (fun s r hs er => by
      rcases aa with rfl | rfl | rfl
      · exact wl_Mod_goMinute_12 163 s (by decide +kernel) (oc_c (sb_r _) (by decide +kernel)) hs er
      · exact wl_Mod_goMinute_12 174 s (by decide +kernel) (oc_c (sb_r _) (by decide +kernel)) hs er
      · exact wl_Mod_goMinute_12 176 s (by decide +kernel) (oc_c (sb_r _) (by decide +kernel)) hs er) ey12 Fx_r
    rw [(fr 162 31 (by decide +kernel) (by simp)).1, s2, si_eq]
  have zb7 := ZB_a (AgX_t (AgX_t ax1 a2) ax7) (AgR_t ar2 a3) zb
  have B := loopB hk ha a1 n8 zb7 (ZS_c n8 (scE (fun kx i h => fX7 kx i (by omega))) (fun _ _ => rfl) a4) a5 (by rw [m7, si_eq, y31']) ex10 ey25
  obtain ⟨jb, b1, b2, b3, b4, b5, b6, b7, b8⟩ := B
  -- they talk
  have kn : x10.1 k 8 = y25.1 a 93 := b3.2.2.2.2.2.2.1
  rw [← kn] at ey31
  have zv25 : ZV y25 (y25.1 a) n := ZV_b n8 b2 (fun i hi => b4 i (by omega)) a5
  have C := loopC hk ha jb n8 (ZB_a b1 b2 zb7) b3 zv25 ex15 ey31
  obtain ⟨jc, c1, c2, c3, c4, c5, c6, c7⟩ := C
  have zs15 : ZS (scn x15 k) (y31.1 a) n := ZS_n n8 c3 c4 c5 b3
  have zv15 : ZV y31 (y31.1 a) n := ZV_b n8 c2 (fun i hi => c5 i (by omega)) zv25
  -- the end
  have fE : ∀ kx i, kx ≠ 45 → ¬ (kx = k ∧ i = 7) → M20.1 kx i = x15.1 kx i := fun kx i h1 h2 => by
    rw [m20, si_ne (by omega), m19, si_ne (by omega), m17, si_ne h2, m16, si_ne (by omega)]
  have e22 : M20.2 = x15.2 := by
    rw [m20]; show M19.2 = _
    rw [m19]; show M17.2 = _
    rw [m17]; show M16.2 = _
    rw [m16]; rfl
  have axE : AgX x15 M20 := ⟨fE 3 2 (by omega) (by omega), fE 3 3 (by omega) (by omega), fun q => fE 4 q (by omega) (by omega), fE 6 4 (by omega) (by omega), fE 6 5 (by omega) (by omega), fun q => fE 7 q (by omega) (by omega), fun q => fE 8 q (by omega) (by omega), fE 40 4 (by omega) (by omega), fun q => fE 41 q (by omega) (by omega), fun q => fE 35 q (by omega) (by omega), fun q => by rw [e22], fun q => by rw [e22]⟩
  have fF : ∀ kx i, ¬ (kx = 162 ∧ i = 30) → ¬ (kx = a ∧ i = 95) → S33.1 kx i = y31.1 kx i := fun kx i h1 h2 => by rw [s33, si_ne h2, s32, si_ne h1]
  have arE : AgR y31 S33 := ⟨fF 162 2 (by omega) (by omega), fF 162 3 (by omega) (by omega), fF 162 4 (by omega) (by omega), fF 162 5 (by omega) (by omega), fF 162 23 (by omega) (by omega), fun q => fF 164 q (by omega) (by omega), fun q => fF 165 q (by omega) (by omega), fun q => fF 166 q (by omega) (by omega), fun q => fF 172 q (by omega) (by omega)⟩
  have m45 : ∀ j, j ≠ 1 → j ≠ 3 → j ≠ 4 → M20.1 45 j = x15.1 45 j := fun j h1 h3 h4 => by
    rw [m20, si_ne (by omega), m19, si_ne (by omega), m17, si_ne (by omega), m16, si_ne (by omega)]
  have x15_0 : x15.1 45 0 = x6.1 45 0 := by rw [c6 0, b6 0 (by omega), fX7 45 0 (by omega)]
  have sc7 : ∀ j i, j ≠ 7 → j < 10 → scn M20 k j i = scn x15 k j i := by
    intro j i h7 h10
    unfold scn
    by_cases g : j < 6
    · rw [if_pos g, if_pos g]; exact fE _ _ (by omega) (by omega)
    · rw [if_neg g, if_neg g]; exact fE _ _ (by omega) (by omega)
  obtain ⟨d1, d2, d3, d4, d5, d6, d7, d8⟩ := zs15
  refine ⟨jr, AgX_t (AgX_t (AgX_t (AgX_t (AgX_t ax1 a2) ax7) b1) c1) axE, AgR_t (AgR_t (AgR_t (AgR_t ar2 a3) b2) c2) arE, ⟨fun p hp => ?_, fun p q hp hq => ?_, fun p q hp hq hh => ?_, ?_, fun j hj hl => ?_, ?_, ?_, ?_⟩, ZV_b n8 arE (fun i hi => fF a i (by omega) (by omega)) zv15, ?_, ?_, ?_, fun i h1 h2 => ?_, ⟨x18, ?_, ?_⟩, ?_⟩
  · rw [fF a p (by omega) (by omega), fF a (8 + p) (by omega) (by omega), sc7 0 p (by omega) (by omega), sc7 1 p (by omega) (by omega), sc7 2 p (by omega) (by omega)]; exact d1 p hp
  · rw [fF a _ (by omega) (by omega), sc7 3 _ (by omega) (by omega), sc7 3 _ (by omega) (by omega)]; exact d2 p q hp hq
  · rw [sc7 3 _ (by omega) (by omega)]; exact d3 p q hp hq hh
  · rw [sc7 6 0 (by omega) (by omega), fF a 92 (by omega) (by omega)]; exact d4
  · rw [fF a 92 (by omega) (by omega)] at hl
    rw [sc7 4 j (by omega) (by omega), sc7 5 j (by omega) (by omega), fF a _ (by omega) (by omega), fF a _ (by omega) (by omega)]; exact d5 j hj hl
  · show M20.1 k 7 = S33.1 a 95
    have : x15.1 k 7 = y31.1 a 95 := d6
    rw [m20, si_ne (by omega), m19, si_ne (by omega), m17, si_eq, m16, si_ne (by omega), s33, si_eq, s32, si_ne (by omega), this]
  · rw [sc7 8 0 (by omega) (by omega), fF a 93 (by omega) (by omega)]; exact d7
  · rw [sc7 9 0 (by omega) (by omega), fF a 94 (by omega) (by omega)]; exact d8
  · rw [m45 0 (by omega) (by omega) (by omega), x15_0, a6, fF 162 29 (by omega) (by omega), c7 29, b7]
  · rw [m20, si_ne (by omega), m19, si_ne (by omega), m17, si_ne (by omega), m16, si_eq, s33, si_ne (by omega), s32, si_eq, ← c4, kn]
  · rw [m45 2 (by omega) (by omega) (by omega), c6 2, b5, fF 162 31 (by omega) (by omega), c7 31]
  · rw [fF a i (by omega) (by omega), c5 i (by omega), b4 i (by omega), a7 i (by omega), ra2]
  · have : M20.1 45 0 = M17.1 45 0 := by rw [m20, si_ne (by omega), m19, si_ne (by omega)]
    rw [this]; exact ex18
  · rw [m20, si_ne (by omega), m19, si_eq, m17, si_ne (by omega), m16, si_ne (by omega), c6 3, b6 3 (by omega), fX7 45 3 (by omega), a8, fX1 45 3 (by omega)]
  · rw [m20, si_eq, si_ne (by omega), m19, si_ne (by omega), si_ne (by omega), m17, si_ne (by omega), si_ne (by omega), m16, si_ne (by omega), si_ne (by omega), c6 4, b6 4 (by omega), fX7 45 4 (by omega), a9, fX1 45 4 (by omega)]
end
section
/-! scenes are copied; what can be undone, what is kept -/
theorem cpy_eq {M : Mem} {k0 k1 n i : Nat} (h : i < n) : (s_c M k0 k1 0 0 n).1 k1 i = M.1 k0 i := by
  unfold s_c va_cpy
  simp [h]
theorem cpy_ne {M : Mem} {k0 k1 sp dp n a b : Nat} (h : a ≠ k1) : (s_c M k0 k1 sp dp n).1 a b = M.1 a b := by
  unfold s_c
  simp [h]
theorem copy_i {v0 v1 : Nat} {M r : Mem} (hne : v0 + 7 ≤ v1 ∨ v1 + 7 ≤ v0) (e : f_Scene_copy v0 v1 M = some r) : SEq (scn M v1) (scn r v0) ∧ (∀ k i, (k < v0 ∨ v0 + 7 ≤ k) → r.1 k i = M.1 k i) ∧ r.2 = M.2 := by
  unfold f_Scene_copy at e
  obtain ⟨h0, e⟩ := io_n e
  obtain ⟨h1, e⟩ := io_n e
  rw [scn_rf h0 (show 0 < 6 by omega), scn_rf h0 (show 1 < 6 by omega), scn_rf h0 (show 2 < 6 by omega), scn_rf h0 (show 3 < 6 by omega), scn_rf h0 (show 4 < 6 by omega), scn_rf h0 (show 5 < 6 by omega), scn_rf h1 (show 0 < 6 by omega), scn_rf h1 (show 1 < 6 by omega), scn_rf h1 (show 2 < 6 by omega), scn_rf h1 (show 3 < 6 by omega), scn_rf h1 (show 4 < 6 by omega), scn_rf h1 (show 5 < 6 by omega)] at e
  obtain ⟨M1, e1, e⟩ := mo e
  obtain ⟨M2, e2, e⟩ := mo e
  obtain ⟨M3, e3, e⟩ := mo e
  obtain ⟨M4, e4, e⟩ := mo e
  obtain ⟨M5, e5, e⟩ := mo e
  obtain ⟨M6, e6, e⟩ := mo e
  obtain ⟨M7, e7, e⟩ := mo e
  obtain ⟨M8, e8, e⟩ := mo e
  obtain ⟨M9, e9, e⟩ := mo e
  obtain ⟨M10, e10, e⟩ := mo e
  obtain rfl := Option.some.inj e
  have f : ∀ k i, (k < v0 ∨ v0 + 7 ≤ k) → M6.1 k i = M.1 k i := fun k i h => by
    rw [e6, cpy_ne (by omega), e5, cpy_ne (by omega), e4, cpy_ne (by omega), e3, cpy_ne (by omega), e2, cpy_ne (by omega), e1, cpy_ne (by omega)]
  have g : ∀ k i, k ≠ v0 → M10.1 k i = M6.1 k i := fun k i h => by
    rw [e10, si_ne (by omega), e9, si_ne (by omega), e8, si_ne (by omega), e7, si_ne (by omega)]
  refine ⟨⟨fun i hi => ?_, fun i hi => ?_, fun i hi => ?_, fun i hi => ?_, fun i hi => ?_, fun i hi => ?_, ?_, ?_, ?_, ?_⟩, fun k i h => ?_, ?_⟩
  · show M.1 (v1 + 1 + 0) i = M10.1 (v0 + 1 + 0) i
    rw [g _ _ (by omega), e6, cpy_ne (by omega), e5, cpy_ne (by omega), e4, cpy_ne (by omega), e3, cpy_ne (by omega), e2, cpy_ne (by omega), e1, cpy_eq hi]
  · show M.1 (v1 + 1 + 1) i = M10.1 (v0 + 1 + 1) i
    rw [g _ _ (by omega), e6, cpy_ne (by omega), e5, cpy_ne (by omega), e4, cpy_ne (by omega), e3, cpy_ne (by omega), e2, cpy_eq hi, e1, cpy_ne (by omega)]
  · show M.1 (v1 + 1 + 2) i = M10.1 (v0 + 1 + 2) i
    rw [g _ _ (by omega), e6, cpy_ne (by omega), e5, cpy_ne (by omega), e4, cpy_ne (by omega), e3, cpy_eq hi, e2, cpy_ne (by omega), e1, cpy_ne (by omega)]
  · show M.1 (v1 + 1 + 3) i = M10.1 (v0 + 1 + 3) i
    rw [g _ _ (by omega), e6, cpy_ne (by omega), e5, cpy_ne (by omega), e4, cpy_eq hi, e3, cpy_ne (by omega), e2, cpy_ne (by omega), e1, cpy_ne (by omega)]
  · show M.1 (v1 + 1 + 4) i = M10.1 (v0 + 1 + 4) i
    rw [g _ _ (by omega), e6, cpy_ne (by omega), e5, cpy_eq hi, e4, cpy_ne (by omega), e3, cpy_ne (by omega), e2, cpy_ne (by omega), e1, cpy_ne (by omega)]
  · show M.1 (v1 + 1 + 5) i = M10.1 (v0 + 1 + 5) i
    rw [g _ _ (by omega), e6, cpy_eq hi, e5, cpy_ne (by omega), e4, cpy_ne (by omega), e3, cpy_ne (by omega), e2, cpy_ne (by omega), e1, cpy_ne (by omega)]
  · show M.1 v1 6 = M10.1 v0 6
    rw [e10, si_ne (by omega), e9, si_ne (by omega), e8, si_ne (by omega), e7, si_eq, f v1 6 (by omega)]
  · show M.1 v1 7 = M10.1 v0 7
    rw [e10, si_ne (by omega), e9, si_ne (by omega), e8, si_eq, e7, si_ne (by omega), f v1 7 (by omega)]
  · show M.1 v1 8 = M10.1 v0 8
    rw [e10, si_ne (by omega), e9, si_eq, e8, si_ne (by omega), e7, si_ne (by omega), f v1 8 (by omega)]
  · show M.1 v1 9 = M10.1 v0 9
    rw [e10, si_eq, e9, si_ne (by omega), e8, si_ne (by omega), e7, si_ne (by omega), f v1 9 (by omega)]
  · rw [g k i (by omega)]; exact f k i h
  · rw [e10]; show M9.2 = _
    rw [e9]; show M8.2 = _
    rw [e8]; show M7.2 = _
    rw [e7]; show M6.2 = _
    rw [e6]; show M5.2 = _
    rw [e5]; show M4.2 = _
    rw [e4]; show M3.2 = _
    rw [e3]; show M2.2 = _
    rw [e2]; show M1.2 = _
    rw [e1]; rfl
theorem SEq_r {f : Nat → Nat → Int32} : SEq f f := ⟨fun _ _ => rfl, fun _ _ => rfl, fun _ _ => rfl, fun _ _ => rfl, fun _ _ => rfl, fun _ _ => rfl, rfl, rfl, rfl, rfl⟩
theorem SEq_t {f g h : Nat → Nat → Int32} (a : SEq f g) (b : SEq g h) : SEq f h := by
  obtain ⟨a0, a1, a2, a3, a4, a5, a6, a7, a8, a9⟩ := a
  obtain ⟨b0, b1, b2, b3, b4, b5, b6, b7, b8, b9⟩ := b
  exact ⟨fun i hi => (a0 i hi).trans (b0 i hi), fun i hi => (a1 i hi).trans (b1 i hi), fun i hi => (a2 i hi).trans (b2 i hi), fun i hi => (a3 i hi).trans (b3 i hi), fun i hi => (a4 i hi).trans (b4 i hi), fun i hi => (a5 i hi).trans (b5 i hi), a6.trans b6, a7.trans b7, a8.trans b8, a9.trans b9⟩
theorem scn_f {X Y : Mem} {k : Nat} (h : ∀ kx i, k ≤ kx → kx < k + 7 → Y.1 kx i = X.1 kx i) : SEq (scn X k) (scn Y k) := scn_e (fun j i hj => by
  unfold scn
  by_cases g : j < 6
  · rw [if_pos g, if_pos g, h _ _ (by omega) (by omega)]
  · rw [if_neg g, if_neg g, h _ _ (by omega) (by omega)])
/-- the rows of past scenes: twelve of them, in some order -/
def HX (X : Mem) : Prop := (∀ i : Nat, i < 12 → ∃ j : Nat, j < 12 ∧ X.2.2 47 i = some (49 + 7 * j)) ∧ (∀ i j : Nat, i < 12 → j < 12 → X.2.2 47 i = X.2.2 47 j → i = j)
theorem sq_eq {M : Mem} {k i : Nat} {v : Option Nat} : (s_q M k i v).2.2 k i = v := by simp [s_q]
theorem sq_ne {M : Mem} {k i a b : Nat} {v : Option Nat} (h : ¬ (a = k ∧ b = i)) : (s_q M k i v).2.2 a b = M.2.2 a b := by simp only [s_q, if_neg h]
theorem add58 {X x : Mem} {m : Nat} (hh : HX X) (hm : (X.1 46 2).toInt = (m : Int)) (m12 : m < 12) (e : j_History_add_58 18 X = some x) : (x.1 46 2).toInt = ((m + 1 : Nat) : Int) ∧ (∃ k, X.2.2 47 m = some k ∧ SEq (scn X 18) (scn x k)) ∧ (∀ u, u < 12 → u ≠ m → ∀ k, X.2.2 47 u = some k → SEq (scn X k) (scn x k)) ∧ (∀ kx i, ¬ (49 ≤ kx ∧ kx < 133) → ¬ (kx = 46 ∧ i = 2) → x.1 kx i = X.1 kx i) ∧ x.2 = X.2 := by
  unfold j_History_add_58 at e
  obtain ⟨_, e⟩ := io_n e
  rw [q_nat hm] at e
  obtain ⟨a1, ea1, e⟩ := bo e
  obtain ⟨_, e⟩ := io_n e
  obtain ⟨x2, e2, e⟩ := bo e
  obtain ⟨M3, e3, e⟩ := mo e
  obtain rfl := Option.some.inj e
  obtain ⟨j, hj, hq⟩ := hh.1 m m12
  have ja : a1 = 49 + 7 * j := Option.some.inj (ea1.symm.trans hq)
  obtain ⟨c1, c2, c3⟩ := copy_i (v0 := a1) (v1 := 18) (by omega) e2
  have f46 : x2.1 46 2 = X.1 46 2 := c2 46 2 (by omega)
  have g : ∀ kx i, ¬ (kx = 46 ∧ i = 2) → M3.1 kx i = x2.1 kx i := fun kx i h => by rw [e3, si_ne h]
  refine ⟨?_, ⟨a1, ea1, SEq_t c1 (scn_f (fun kx i h1 h2 => g kx i (by omega)))⟩, fun u hu hne k hk => ?_, fun kx i h1 h2 => ?_, ?_⟩
  · rw [e3, si_eq, f46]; exact add_ti hm o1 (by omega) (by omega)
  · obtain ⟨j', hj', hq'⟩ := hh.1 u hu
    have jk : k = 49 + 7 * j' := Option.some.inj (hk.symm.trans hq')
    have jj : j' ≠ j := by
      rintro rfl
      exact hne (hh.2 u m hu m12 (by rw [hq', hq]))
    exact scn_f (fun kx i h1 h2 => by rw [g kx i (by omega)]; exact c2 kx i (by omega))
  · rw [g kx i h2]; exact c2 kx i (by omega)
  · rw [e3]; show x2.2 = _; exact c3
/-- a scene is added to the past; sh: one was forgotten -/
def AH (X x : Mem) (sh m : Nat) : Prop := (x.1 46 2).toInt = ((m + 1 : Nat) : Int) ∧ HX x ∧ (∀ u, u < m → ∃ k, X.2.2 47 (u + sh) = some k ∧ x.2.2 47 u = some k ∧ SEq (scn X k) (scn x k)) ∧ (∃ k, x.2.2 47 m = some k ∧ SEq (scn X 18) (scn x k)) ∧ (∀ kx i, ¬ (49 ≤ kx ∧ kx < 133) → ¬ (kx = 46 ∧ i = 2) → x.1 kx i = X.1 kx i) ∧ x.2.1 = X.2.1 ∧ (∀ kx i, kx ≠ 47 → x.2.2 kx i = X.2.2 kx i)
theorem add_i {X x : Mem} {m : Nat} (hh : HX X) (hm : (X.1 46 2).toInt = (m : Int)) (m12 : m ≤ 12) (e : f_History_add 18 X = some x) : if m < 12 then AH X x 0 m else AH X x 1 11 := by
  have z12 : (12 : Int32).toInt = 12 := rfl
  unfold f_History_add at e
  obtain ⟨_, e⟩ := io_n e
  rcases io e with ⟨c, e⟩ | ⟨c, e⟩
  · have := q_lt c
    rw [if_pos (by omega)]
    obtain ⟨a1, ⟨k, a2, a3⟩, a4, a5, a6⟩ := add58 hh hm (by omega) e
    refine ⟨a1, by unfold HX; rw [a6]; exact hh, fun u hu => ?_, ⟨k, by rw [a6]; exact a2, a3⟩, a5, by rw [a6], fun kx i _ => by rw [a6]⟩
    obtain ⟨j, hj, hq⟩ := hh.1 u (by omega)
    exact ⟨_, hq, by rw [a6]; exact hq, a4 u (by omega) (by omega) _ hq⟩
  · have := q_nl c
    have m_12 : m = 12 := by omega
    subst m_12
    rw [if_neg (by omega)]
    obtain ⟨_, e⟩ := io_n e
    rw [show (0 : Int32).toNatClampNeg = 0 from rfl] at e
    obtain ⟨a4, ea4, e⟩ := bo e
    obtain ⟨_, e⟩ := io_n e
    obtain ⟨x8, e8, e⟩ := bo e
    obtain ⟨M9, e9, e⟩ := mo e
    obtain ⟨M10, e10, e⟩ := mo e
    rw [show (11 : Int32).toNatClampNeg = 11 from rfl] at e9
    have L : x8.1 = X.1 ∧ x8.2.1 = X.2.1 ∧ (∀ kx i, kx ≠ 47 → x8.2.2 kx i = X.2.2 kx i) ∧ (∀ u, u < 11 → x8.2.2 47 u = X.2.2 47 (u + 1)) := by
      refine it_r (I := fun s : Int32 × Mem => s.2.1 = X.1 ∧ s.2.2.1 = X.2.1 ∧ (∀ kx i, kx ≠ 47 → s.2.2.2 kx i = X.2.2 kx i) ∧ ∃ i : Nat, 1 ≤ i ∧ i ≤ 12 ∧ s.1.toInt = (i : Int) ∧ (∀ u, u + 1 < i → s.2.2.2 47 u = X.2.2 47 (u + 1)) ∧ (∀ u, i ≤ u + 1 → s.2.2.2 47 u = X.2.2 47 u)) (Q := fun x8 : Mem => x8.1 = X.1 ∧ x8.2.1 = X.2.1 ∧ (∀ kx i, kx ≠ 47 → x8.2.2 kx i = X.2.2 kx i) ∧ (∀ u, u < 11 → x8.2.2 47 u = X.2.2 47 (u + 1))) ?_ e8 ⟨rfl, rfl, fun _ _ _ => rfl, 1, by omega, by omega, rfl, fun u hu => absurd hu (by omega), fun _ _ => rfl⟩
      rintro ⟨v, N⟩ r ⟨n1, n2, n3, i, i1, i12, hi, n4, n5⟩ e
      dsimp only at n1 n2 n3 hi n4 n5
      unfold lb_History_add_18 at e
      dsimp only at e
      rcases io e with ⟨c, e⟩ | ⟨c, e⟩
      · have := q_le c
        obtain rfl := Option.some.inj e
        exact ⟨n1, n2, n3, fun u hu => n4 u (by omega)⟩
      have c1 := q_ng c
      obtain ⟨_, e⟩ := io_n e
      rw [q_nat hi] at e
      obtain ⟨a5, ea5, e⟩ := bo e
      obtain ⟨_, e⟩ := io_n e
      obtain ⟨_, e⟩ := io_n e
      obtain ⟨M6, e6, e⟩ := mo e
      obtain rfl := Option.some.inj e
      have im : (v - (1 : Int32)).toInt = ((i - 1 : Nat) : Int) := by rw [sub_ti hi o1 (by omega) (by omega)]; omega
      rw [q_nat im] at e6
      rw [n5 i (by omega)] at ea5
      refine ⟨?_, ?_, fun kx j h => ?_, i + 1, by omega, by omega, add_ti hi o1 (by omega) (by omega), fun u hu => ?_, fun u hu => ?_⟩
      · show M6.1 = _; rw [e6]; exact n1
      · show M6.2.1 = _; rw [e6]; exact n2
      · show M6.2.2 kx j = _; rw [e6, sq_ne (by omega)]; exact n3 kx j h
      · show M6.2.2 47 u = _
        rw [e6]
        by_cases g : u = i - 1
        · subst g
          rw [sq_eq, show i - 1 + 1 = i by omega]; exact ea5.symm
        · rw [sq_ne (by omega)]; exact n4 u (by omega)
      · show M6.2.2 47 u = _
        rw [e6, sq_ne (by omega)]; exact n5 u (by omega)
    obtain ⟨l1, l2, l3, l4⟩ := L
    have q10 : M10.1 46 2 = (11 : Int32) := by rw [e10, si_eq]
    have f10 : ∀ kx i, ¬ (kx = 46 ∧ i = 2) → M10.1 kx i = X.1 kx i := fun kx i h => by rw [e10, si_ne h]; show M9.1 kx i = _; rw [e9]; show x8.1 kx i = _; rw [l1]
    have r10 : ∀ u, u < 11 → M10.2.2 47 u = X.2.2 47 (u + 1) := fun u hu => by rw [e10]; show M9.2.2 47 u = _; rw [e9, sq_ne (by omega)]; exact l4 u hu
    have r11 : M10.2.2 47 11 = X.2.2 47 0 := by rw [e10]; show M9.2.2 47 11 = _; rw [e9, sq_eq]; exact ea4.symm
    have rk : ∀ kx i, kx ≠ 47 → M10.2.2 kx i = X.2.2 kx i := fun kx i h => by rw [e10]; show M9.2.2 kx i = _; rw [e9, sq_ne (by omega)]; exact l3 kx i h
    have hx10 : HX M10 := by
      have get : ∀ i, i < 12 → ∃ i', i' < 12 ∧ M10.2.2 47 i = X.2.2 47 i' ∧ (i < 11 → i' = i + 1) ∧ (i = 11 → i' = 0) := by
        intro i hi
        rcases Nat.lt_or_ge i 11 with g | g
        · exact ⟨i + 1, by omega, r10 i g, fun _ => rfl, fun h => by omega⟩
        · have : i = 11 := by omega
          subst this
          exact ⟨0, by omega, r11, fun h => by omega, fun _ => rfl⟩
      refine ⟨fun i hi => ?_, fun i j hi hj h => ?_⟩
      · obtain ⟨i', a, b, _⟩ := get i hi
        rw [b]; exact hh.1 i' a
      · obtain ⟨i', a, b, b1, b2⟩ := get i hi
        obtain ⟨j', c', d, d1, d2⟩ := get j hj
        rw [b, d] at h
        have := hh.2 i' j' a c' h
        omega
    obtain ⟨a1, ⟨k, a2, a3⟩, a4', a5, a6⟩ := add58 (m := 11) hx10 (by rw [q10]; rfl) (by omega) e
    have s10 : ∀ k, 49 ≤ k ∨ k = 18 → SEq (scn X k) (scn M10 k) := fun k hk => scn_f (fun kx i h1 h2 => f10 kx i (by omega))
    refine ⟨a1, by unfold HX; rw [a6]; exact hx10, fun u hu => ?_, ⟨k, by rw [a6]; exact a2, SEq_t (s10 18 (.inr rfl)) a3⟩, fun kx i h1 h2 => (a5 kx i h1 h2).trans (f10 kx i h2), ?_, fun kx i h => ?_⟩
    · obtain ⟨j, hj, hq⟩ := hh.1 (u + 1) (by omega)
      refine ⟨_, hq, by rw [a6, r10 u hu]; exact hq, SEq_t (s10 _ (.inl (by omega))) (a4' u (by omega) (by omega) _ (by rw [r10 u hu]; exact hq))⟩
    · rw [a6, e10]; show M9.2.1 = _; rw [e9]; exact l2
    · rw [a6]; exact rk kx i h
/-- the reference remembers a row -/
def RH (R r : Mem) (v sh m : Nat) : Prop := (r.1 162 27).toInt = ((m + 1 : Nat) : Int) ∧ (∀ u i, u < m → i < 96 → r.1 173 (96 * u + i) = R.1 173 (96 * (u + sh) + i)) ∧ (∀ i, i < 96 → r.1 173 (96 * m + i) = R.1 v i) ∧ (∀ kx i, kx ≠ 173 → ¬ (kx = 162 ∧ i = 27) → r.1 kx i = R.1 kx i)
theorem lay_r {R r : Mem} {v0 v1 o : Nat} {w : Int32} (hw : w.toInt = (o : Int)) (o2 : o ≤ 1100) (hne : v0 ≠ v1) (e : f_Mod_lay v0 v1 w R = some r) : (∀ i, i < 96 → r.1 v1 (o + i) = R.1 v0 i) ∧ (∀ k i, ¬ (k = v1 ∧ o ≤ i ∧ i < o + 96) → r.1 k i = R.1 k i) ∧ r.2 = R.2 := by
  unfold f_Mod_lay at e
  obtain ⟨_, e⟩ := io_n e
  obtain ⟨_, e⟩ := io_n e
  obtain ⟨x3, e3, e⟩ := bo e
  obtain rfl := Option.some.inj e
  refine it_r (I := fun s : Int32 × Mem => ∃ p : Nat, p ≤ 96 ∧ s.1.toInt = (p : Int) ∧ (∀ i, i < p → s.2.1 v1 (o + i) = R.1 v0 i) ∧ (∀ k i, ¬ (k = v1 ∧ o ≤ i ∧ i < o + 96) → s.2.1 k i = R.1 k i) ∧ s.2.2 = R.2) (Q := fun r : Mem => (∀ i, i < 96 → r.1 v1 (o + i) = R.1 v0 i) ∧ (∀ k i, ¬ (k = v1 ∧ o ≤ i ∧ i < o + 96) → r.1 k i = R.1 k i) ∧ r.2 = R.2) ?_ e3 ⟨0, by omega, rfl, fun i hi => absurd hi (by omega), fun _ _ _ => rfl, rfl⟩
  rintro ⟨k, N⟩ r ⟨p, lp, hp, h1, h2, h3⟩ e
  dsimp only at hp h1 h2 h3
  have z96 : (96 : Int32).toInt = 96 := rfl
  unfold lb_Mod_lay_2 at e
  dsimp only at e
  rcases io e with ⟨c, e⟩ | ⟨c, e⟩
  · have := q_le c
    obtain rfl := Option.some.inj e
    exact ⟨fun i hi => h1 i (by omega), h2, h3⟩
  have c1 := q_ng c
  obtain ⟨_, e⟩ := io_n e
  obtain ⟨_, e⟩ := io_n e
  obtain ⟨M1, e1, e⟩ := mo e
  obtain rfl := Option.some.inj e
  have wp : (w + k).toInt = ((o + p : Nat) : Int) := by rw [add_ti hw hp (by omega) (by omega)]; omega
  rw [q_nat wp, q_nat hp, h2 v0 p (by omega)] at e1
  refine ⟨p + 1, by omega, add_ti hp o1 (by omega) (by omega), fun i hi => ?_, fun a b h => ?_, ?_⟩
  · show M1.1 v1 (o + i) = _
    rw [e1]
    by_cases g : i = p
    · subst g; rw [si_eq]
    · rw [si_ne (by omega)]; exact h1 i (by omega)
  · show M1.1 a b = _
    rw [e1, si_ne (by omega)]; exact h2 a b h
  · show M1.2 = _
    rw [e1]; exact h3
theorem rem_i {R r : Mem} {v m : Nat} (hv : v ≠ 173 ∧ v ≠ 162) (hm : (R.1 162 27).toInt = (m : Int)) (m12 : m ≤ 12) (e : f_Mod_remember v R = some r) : if m < 12 then RH R r v 0 m else RH R r v 1 11 := by
  have z12 : (12 : Int32).toInt = 12 := rfl
  have z96 : (96 : Int32).toInt = 96 := rfl
  have last : ∀ (A : Mem) (m : Nat), (A.1 162 27).toInt = (m : Int) → m ≤ 11 → j_Mod_remember_49 v A = some r → (r.1 162 27).toInt = ((m + 1 : Nat) : Int) ∧ (∀ i, i < 96 → r.1 173 (96 * m + i) = A.1 v i) ∧ (∀ kx i, ¬ (kx = 173 ∧ 96 * m ≤ i ∧ i < 96 * m + 96) → ¬ (kx = 162 ∧ i = 27) → r.1 kx i = A.1 kx i) := by
    intro A m hm m11 e
    unfold j_Mod_remember_49 at e
    obtain ⟨x1, e1, e⟩ := bo e
    obtain ⟨M2, e2, e⟩ := mo e
    obtain rfl := Option.some.inj e
    have w : ((96 : Int32) * (A.1 162 27)).toInt = ((96 * m : Nat) : Int) := by rw [mul_ti z96 hm (by omega) (by omega)]; omega
    obtain ⟨a1, a2, _⟩ := lay_r w (by omega) hv.1 e1
    have f27 : x1.1 162 27 = A.1 162 27 := a2 162 27 (by omega)
    refine ⟨?_, fun i hi => ?_, fun kx i h1 h2 => ?_⟩
    · rw [e2, si_eq, f27]; exact add_ti hm o1 (by omega) (by omega)
    · rw [e2, si_ne (by omega)]; exact a1 i hi
    · rw [e2, si_ne h2]; exact a2 kx i h1
  unfold f_Mod_remember at e
  obtain ⟨_, e⟩ := io_n e
  rcases io e with ⟨c, e⟩ | ⟨c, e⟩
  · have := q_eq c
    have m_12 : m = 12 := by omega
    subst m_12
    rw [if_neg (by omega)]
    obtain ⟨x5, e5, e⟩ := bo e
    obtain ⟨M6, e6, e⟩ := mo e
    have L : (∀ i, i < 1056 → x5.1 173 i = R.1 173 (i + 96)) ∧ (∀ kx i, kx ≠ 173 → x5.1 kx i = R.1 kx i) := by
      refine it_r (I := fun s : Int32 × Mem => ∃ p : Nat, p ≤ 1056 ∧ s.1.toInt = (p : Int) ∧ (∀ i, i < p → s.2.1 173 i = R.1 173 (i + 96)) ∧ (∀ i, p ≤ i → s.2.1 173 i = R.1 173 i) ∧ (∀ kx i, kx ≠ 173 → s.2.1 kx i = R.1 kx i)) (Q := fun x5 : Mem => (∀ i, i < 1056 → x5.1 173 i = R.1 173 (i + 96)) ∧ (∀ kx i, kx ≠ 173 → x5.1 kx i = R.1 kx i)) ?_ e5 ⟨0, by omega, rfl, fun i hi => absurd hi (by omega), fun _ _ => rfl, fun _ _ _ => rfl⟩
      rintro ⟨k, N⟩ r ⟨p, lp, hp, h1, h2, h3⟩ e
      dsimp only at hp h1 h2 h3
      have z1056 : (1056 : Int32).toInt = 1056 := rfl
      unfold lb_Mod_remember_11 at e
      dsimp only at e
      rcases io e with ⟨c, e⟩ | ⟨c, e⟩
      · have := q_le c
        obtain rfl := Option.some.inj e
        exact ⟨fun i hi => h1 i (by omega), h3⟩
      have c1 := q_ng c
      obtain ⟨_, e⟩ := io_n e
      obtain ⟨_, e⟩ := io_n e
      obtain ⟨M3, e3, e⟩ := mo e
      obtain rfl := Option.some.inj e
      have wp : (k + (96 : Int32)).toInt = ((p + 96 : Nat) : Int) := by rw [add_ti hp z96 (by omega) (by omega)]; omega
      rw [q_nat wp, q_nat hp, h2 (p + 96) (by omega)] at e3
      refine ⟨p + 1, by omega, add_ti hp o1 (by omega) (by omega), fun i hi => ?_, fun i hi => ?_, fun a b h => ?_⟩
      · show M3.1 173 i = _
        rw [e3]
        by_cases g : i = p
        · subst g; rw [si_eq]
        · rw [si_ne (by omega)]; exact h1 i (by omega)
      · show M3.1 173 i = _
        rw [e3, si_ne (by omega)]; exact h2 i (by omega)
      · show M3.1 a b = _
        rw [e3, si_ne (by omega)]; exact h3 a b h
    obtain ⟨l1, l2⟩ := L
    have f27 : (M6.1 162 27).toInt = ((11 : Nat) : Int) := by
      have a1 : (x5.1 162 27).toInt = 12 := by rw [l2 162 27 (by omega)]; exact hm
      rw [e6, si_eq, sub_ti a1 o1 (by omega) (by omega)]; rfl
    obtain ⟨b1, b2, b3⟩ := last M6 11 f27 (by omega) e
    refine ⟨b1, fun u i hu hi => ?_, fun i hi => ?_, fun kx i h1 h2 => ?_⟩
    · rw [b3 _ _ (by omega) (by omega), e6, si_ne (by omega), l1 _ (by omega)]
      rw [show 96 * u + i + 96 = 96 * (u + 1) + i by omega]
    · rw [b2 i hi, e6, si_ne (by omega), l2 _ _ hv.1]
    · rw [b3 kx i (by omega) h2, e6, si_ne h2, l2 kx i h1]
  · have := q_ne c
    rw [if_pos (by omega)]
    obtain ⟨b1, b2, b3⟩ := last R m hm (by omega) e
    exact ⟨b1, fun u i hu hi => by rw [b3 _ _ (by omega) (by omega)]; rfl, b2, fun kx i h1 h2 => b3 kx i (by omega) h2⟩
/-- what can be undone is the same on both sides -/
def ZH (X R : Mem) (n : Nat) : Prop := HX X ∧ ∃ m : Nat, m ≤ 12 ∧ (X.1 46 2).toInt = (m : Int) ∧ (R.1 162 27).toInt = (m : Int) ∧ ∀ u, u < m → ∃ k, X.2.2 47 u = some k ∧ ZS (scn X k) (fun i => R.1 173 (96 * u + i)) n ∧ ZV R (fun i => R.1 173 (96 * u + i)) n
theorem hist_2 {X R x r : Mem} {v n : Nat} (n8 : n ≤ 8) (hv : v = 163 ∨ v = 174) (h : ZH X R n) (zs : ZS (scn X 18) (R.1 v) n) (zv : ZV R (R.1 v) n) (ex : f_History_add 18 X = some x) (er : f_Mod_remember v R = some r) : ZH x r n := by
  obtain ⟨hx, m, m12, h1, h2, h3⟩ := h
  have A := add_i hx h1 m12 ex
  have B := rem_i (by omega) h2 m12 er
  have gen : ∀ sh m', m' ≤ 11 → (∀ u, u < m' → u + sh < m) → AH X x sh m' → RH R r v sh m' → ZH x r n := by
    intro sh m' m11 hsh ⟨a1, a2, a3, ⟨k, a4, a5⟩, a6, _⟩ ⟨b1, b2, b3, b4⟩
    have agr : AgR R r := ⟨b4 162 2 (by omega) (by omega), b4 162 3 (by omega) (by omega), b4 162 4 (by omega) (by omega), b4 162 5 (by omega) (by omega), b4 162 23 (by omega) (by omega), fun i => b4 164 i (by omega) (by omega), fun i => b4 165 i (by omega) (by omega), fun i => b4 166 i (by omega) (by omega), fun i => b4 172 i (by omega) (by omega)⟩
    refine ⟨a2, m' + 1, by omega, a1, b1, fun u hu => ?_⟩
    rcases Nat.lt_or_ge u m' with g | g
    · obtain ⟨k', c1, c2, c3⟩ := a3 u g
      obtain ⟨k'', d1, d2, d3⟩ := h3 (u + sh) (hsh u g)
      have : k' = k'' := Option.some.inj (c1.symm.trans d1)
      subst this
      exact ⟨k', c2, ZS_c n8 c3 (fun i hi => (b2 u i g hi).symm) d2, ZV_a n8 agr (fun i hi => b2 u i g hi) d3⟩
    · have : u = m' := by omega
      subst this
      exact ⟨k, a4, ZS_c n8 a5 (fun i hi => (b3 i hi).symm) zs, ZV_a n8 agr (fun i hi => b3 i hi) zv⟩
  by_cases g : m < 12
  · rw [if_pos g] at A B
    exact gen 0 m (by omega) (fun u hu => by omega) A B
  · rw [if_neg g] at A B
    exact gen 1 11 (by omega) (fun u hu => by omega) A B
end
section
/-! the whole state, side by side; calls that change the scene -/
def ZK (X R : Mem) (n : Nat) : Prop := (∀ t : Nat, t < 2 → X.2.2 48 t = some (133 + 7 * t)) ∧ ∀ t : Nat, t < 2 → (bt (X.1 46 3) t = true ↔ ((R.1 190 t).toInt ≠ 0 ∧ R.1 191 t = R.1 162 48)) ∧ (bt (X.1 46 3) t = true → ZS (scn X (133 + 7 * t)) (fun i => R.1 189 (96 * t + i)) n ∧ ZV R (fun i => R.1 189 (96 * t + i)) n)
def HFx (X Y : Mem) : Prop := ((∀ kx i, ((18 ≤ kx ∧ kx < 25) ∨ (47 ≤ kx ∧ kx < 147)) → Y.1 kx i = X.1 kx i) ∧ Y.1 46 2 = X.1 46 2 ∧ Y.1 46 3 = X.1 46 3) ∧ (∀ i, Y.2.2 47 i = X.2.2 47 i) ∧ (∀ i, Y.2.2 48 i = X.2.2 48 i)
def HFr (R S : Mem) : Prop := S.1 162 27 = R.1 162 27 ∧ S.1 162 48 = R.1 162 48 ∧ (∀ i, S.1 173 i = R.1 173 i) ∧ (∀ i, S.1 189 i = R.1 189 i) ∧ (∀ i, S.1 190 i = R.1 190 i) ∧ (∀ i, S.1 191 i = R.1 191 i)
theorem HFx_r {X : Mem} : HFx X X := ⟨⟨fun _ _ _ => rfl, rfl, rfl⟩, fun _ => rfl, fun _ => rfl⟩
theorem HFr_r {X : Mem} : HFr X X := ⟨rfl, rfl, fun _ => rfl, fun _ => rfl, fun _ => rfl, fun _ => rfl⟩
theorem HFx_t {X Y Z : Mem} (h : HFx X Y) (g : HFx Y Z) : HFx X Z := ⟨⟨fun kx i w => (g.1.1 kx i w).trans (h.1.1 kx i w), g.1.2.1.trans h.1.2.1, g.1.2.2.trans h.1.2.2⟩, fun i => (g.2.1 i).trans (h.2.1 i), fun i => (g.2.2 i).trans (h.2.2 i)⟩
theorem HFr_t {X Y Z : Mem} (h : HFr X Y) (g : HFr Y Z) : HFr X Z := ⟨g.1.trans h.1, g.2.1.trans h.2.1, fun i => (g.2.2.1 i).trans (h.2.2.1 i), fun i => (g.2.2.2.1 i).trans (h.2.2.2.1 i), fun i => (g.2.2.2.2.1 i).trans (h.2.2.2.2.1 i), fun i => (g.2.2.2.2.2 i).trans (h.2.2.2.2.2 i)⟩
theorem ZH_a {X Y R S : Mem} {n : Nat} (n8 : n ≤ 8) (h46 : Y.1 46 2 = X.1 46 2) (hs : ∀ kx i, 49 ≤ kx → kx < 133 → Y.1 kx i = X.1 kx i) (hq : ∀ i, Y.2.2 47 i = X.2.2 47 i) (hr : AgR R S) (h27 : S.1 162 27 = R.1 162 27) (h173 : ∀ i, S.1 173 i = R.1 173 i) (h : ZH X R n) : ZH Y S n := by
  obtain ⟨⟨a1, a2⟩, m, m12, b1, b2, b3⟩ := h
  refine ⟨⟨fun i hi => by rw [hq]; exact a1 i hi, fun i j hi hj e => by rw [hq, hq] at e; exact a2 i j hi hj e⟩, m, m12, by rw [h46]; exact b1, by rw [h27]; exact b2, fun u hu => ?_⟩
  obtain ⟨k, c1, c2, c3⟩ := b3 u hu
  obtain ⟨j, hj, hqj⟩ := a1 u (by omega)
  have jk : k = 49 + 7 * j := Option.some.inj (c1.symm.trans hqj)
  exact ⟨k, by rw [hq]; exact c1, ZS_c n8 (scn_f (fun kx i h1 h2 => hs kx i (by omega) (by omega))) (fun i _ => (h173 _).symm) c2, ZV_a n8 hr (fun i _ => h173 _) c3⟩
theorem ZK_a {X Y R S : Mem} {n : Nat} (n8 : n ≤ 8) (h46 : Y.1 46 3 = X.1 46 3) (hs : ∀ kx i, 133 ≤ kx → kx < 147 → Y.1 kx i = X.1 kx i) (hq : ∀ i, Y.2.2 48 i = X.2.2 48 i) (hr : AgR R S) (h48 : S.1 162 48 = R.1 162 48) (h189 : ∀ i, S.1 189 i = R.1 189 i) (h190 : ∀ i, S.1 190 i = R.1 190 i) (h191 : ∀ i, S.1 191 i = R.1 191 i) (h : ZK X R n) : ZK Y S n := by
  refine ⟨fun t ht => by rw [hq]; exact h.1 t ht, fun t ht => ?_⟩
  obtain ⟨a, b⟩ := h.2 t ht
  rw [h46, h190, h191, h48]
  refine ⟨a, fun hb => ?_⟩
  obtain ⟨c1, c2⟩ := b hb
  exact ⟨ZS_c n8 (scn_f (fun kx i h1 h2 => hs kx i (by omega) (by omega))) (fun i _ => (h189 _).symm) c1, ZV_a n8 hr (fun i _ => h189 _) c2⟩
/-- the town as it stands now, on both sides -/
def ZQ (X R : Mem) (n : Nat) : Prop := n ≤ 8 ∧ J R ∧ ZB X R n ∧ ZS (scn X 11) (R.1 163) n ∧ ZV R (R.1 163) n ∧ ZW X R 163
def ZA (X R : Mem) (n : Nat) : Prop := ZQ X R n ∧ ZH X R n ∧ ZK X R n
def CS (X R : Mem) (n : Nat) (x r : Mem) : Prop := ZQ x r n ∧ HFx X x ∧ HFr R r ∧ AgR R r
theorem CS_t {X R x r y s : Mem} {n : Nat} (h : CS X R n x r) (g : CS x r n y s) : CS X R n y s := ⟨g.1, HFx_t h.2.1 g.2.1, HFr_t h.2.2.1 g.2.2.1, AgR_t h.2.2.2 g.2.2.2⟩
/-- a change with its past: copied, changed, added; remembered, changed -/
theorem with_hist {X X1 X2 x R R1 r : Mem} {n : Nat} (za : ZA X R n) (e1 : f_Scene_copy 18 11 X = some X1) (er1 : f_Mod_remember 163 R = some R1) (cs : CS X1 R1 n X2 r) (e3 : f_History_add 18 X2 = some x) : ZA x r n := by
  obtain ⟨⟨n8, jR, zb, zs, zv, zw⟩, zh, zk⟩ := za
  obtain ⟨⟨_, jr, zb2, zs2, zv2, zw2⟩, hfx, hfr, agr⟩ := cs
  obtain ⟨c1, c2, c3⟩ := copy_i (v0 := 18) (v1 := 11) (by omega) e1
  have zh' := zh
  obtain ⟨hx, m, m12, h1, h2, h3⟩ := zh
  have f2 : ∀ kx i, (47 ≤ kx ∧ kx < 147) → X2.1 kx i = X.1 kx i := fun kx i h => by rw [hfx.1.1 kx i (.inr h)]; exact c2 kx i (by omega)
  have f462 : X2.1 46 2 = X.1 46 2 := by rw [hfx.1.2.1]; exact c2 46 2 (by omega)
  have f463 : X2.1 46 3 = X.1 46 3 := by rw [hfx.1.2.2]; exact c2 46 3 (by omega)
  have q2 : ∀ i, X2.2.2 47 i = X.2.2 47 i := fun i => by rw [hfx.2.1 i, c3]
  have zh2 : ZH X2 R n := ZH_a n8 f462 (fun kx i a b => f2 kx i (by omega)) q2 AgR_r rfl (fun _ => rfl) zh'
  have zs18 : ZS (scn X2 18) (R.1 163) n := ZS_c n8 (SEq_t c1 (scn_f (fun kx i a b => hfx.1.1 kx i (.inl (by omega))))) (fun _ _ => rfl) zs
  have H := hist_2 n8 (.inl rfl) zh2 zs18 zv e3 er1
  have B := rem_i (v := 163) (by omega) h2 m12 er1
  have A := add_i zh2.1 (m := m) (by rw [f462]; exact h1) m12 e3
  have rf1 : ∀ kx i, kx ≠ 173 → ¬ (kx = 162 ∧ i = 27) → R1.1 kx i = R.1 kx i := by
    by_cases g : m < 12
    · rw [if_pos g] at B; exact B.2.2.2
    · rw [if_neg g] at B; exact B.2.2.2
  have ag1 : AgR R R1 := ⟨rf1 162 2 (by omega) (by omega), rf1 162 3 (by omega) (by omega), rf1 162 4 (by omega) (by omega), rf1 162 5 (by omega) (by omega), rf1 162 23 (by omega) (by omega), fun i => rf1 164 i (by omega) (by omega), fun i => rf1 165 i (by omega) (by omega), fun i => rf1 166 i (by omega) (by omega), fun i => rf1 172 i (by omega) (by omega)⟩
  have xf : (∀ kx i, ¬ (49 ≤ kx ∧ kx < 133) → ¬ (kx = 46 ∧ i = 2) → x.1 kx i = X2.1 kx i) ∧ x.2.1 = X2.2.1 ∧ (∀ kx i, kx ≠ 47 → x.2.2 kx i = X2.2.2 kx i) := by
    by_cases g : m < 12
    · rw [if_pos g] at A; exact A.2.2.2.2
    · rw [if_neg g] at A; exact A.2.2.2.2
  have agx : AgX X2 x := ⟨xf.1 3 2 (by omega) (by omega), xf.1 3 3 (by omega) (by omega), fun i => xf.1 4 i (by omega) (by omega), xf.1 6 4 (by omega) (by omega), xf.1 6 5 (by omega) (by omega), fun i => xf.1 7 i (by omega) (by omega), fun i => xf.1 8 i (by omega) (by omega), xf.1 40 4 (by omega) (by omega), fun i => xf.1 41 i (by omega) (by omega), fun i => xf.1 35 i (by omega) (by omega), fun i => by rw [xf.2.1], fun i => by rw [xf.2.1]⟩
  refine ⟨⟨n8, jr, ZB_a agx AgR_r zb2, ZS_c n8 (scn_f (fun kx i a b => xf.1 kx i (by omega) (by omega))) (fun _ _ => rfl) zs2, zv2, ZW_a agx AgR_r (fun _ _ => Iff.rfl) zw2⟩, ZH_a n8 rfl (fun _ _ _ _ => rfl) (fun _ => rfl) agr hfr.1 hfr.2.2.1 H, ?_⟩
  refine ZK_a n8 ?_ (fun kx i a b => ?_) (fun i => ?_) (AgR_t ag1 agr) ?_ (fun i => ?_) (fun i => ?_) (fun i => ?_) zk
  · rw [xf.1 46 3 (by omega) (by omega)]; exact f463
  · rw [xf.1 kx i (by omega) (by omega)]; exact f2 kx i (by omega)
  · rw [xf.2.2 48 i (by omega), hfx.2.2 i, c3]
  · rw [hfr.2.1]; exact rf1 162 48 (by omega) (by omega)
  · rw [hfr.2.2.2.1]; exact rf1 189 i (by omega) (by omega)
  · rw [hfr.2.2.2.2.1]; exact rf1 190 i (by omega) (by omega)
  · rw [hfr.2.2.2.2.2]; exact rf1 191 i (by omega) (by omega)
/-- the scratch scene is copied: nothing that both sides share changes -/
theorem copy_q {X X1 R : Mem} {n v0 : Nat} (hv : v0 = 18 ∨ v0 = 25) (zq : ZQ X R n) (e : f_Scene_copy v0 11 X = some X1) : ZQ X1 R n ∧ AgX X X1 ∧ ZS (scn X1 v0) (R.1 163) n := by
  obtain ⟨n8, jR, zb, zs, zv, zw⟩ := zq
  obtain ⟨c1, c2, c3⟩ := copy_i (v0 := v0) (v1 := 11) (by omega) e
  have agx : AgX X X1 := ⟨c2 3 2 (by omega), c2 3 3 (by omega), fun i => c2 4 i (by omega), c2 6 4 (by omega), c2 6 5 (by omega), fun i => c2 7 i (by omega), fun i => c2 8 i (by omega), c2 40 4 (by omega), fun i => c2 41 i (by omega), fun i => c2 35 i (by omega), fun i => by rw [c3], fun i => by rw [c3]⟩
  exact ⟨⟨n8, jR, ZB_a agx AgR_r zb, ZS_c n8 (scn_f (fun kx i a b => c2 kx i (by omega))) (fun _ _ => rfl) zs, zv, ZW_a agx AgR_r (fun _ _ => Iff.rfl) zw⟩, agx, ZS_c n8 c1 (fun _ _ => rfl) zs⟩
theorem ZA_x {X Y R : Mem} {n : Nat} (h : ∀ kx i, (kx < 18 ∨ 25 ≤ kx) → ¬ (kx = 1 ∨ kx = 0 ∨ kx = 45 ∨ kx = 161 ∨ kx = 2) → kx ≠ 25 + 0 ∨ True → Y.1 kx i = X.1 kx i) (h2 : Y.2 = X.2) (za : ZA X R n) : ZA Y R n := by
  obtain ⟨⟨n8, jR, zb, zs, zv, zw⟩, zh, zk⟩ := za
  have g : ∀ kx i, (kx < 18 ∨ 25 ≤ kx) → ¬ (kx = 1 ∨ kx = 0 ∨ kx = 45 ∨ kx = 161 ∨ kx = 2) → Y.1 kx i = X.1 kx i := fun kx i a b => h kx i a b (.inr trivial)
  have agx : AgX X Y := ⟨g 3 2 (by omega) (by omega), g 3 3 (by omega) (by omega), fun i => g 4 i (by omega) (by omega), g 6 4 (by omega) (by omega), g 6 5 (by omega) (by omega), fun i => g 7 i (by omega) (by omega), fun i => g 8 i (by omega) (by omega), g 40 4 (by omega) (by omega), fun i => g 41 i (by omega) (by omega), fun i => g 35 i (by omega) (by omega), fun i => by rw [h2], fun i => by rw [h2]⟩
  exact ⟨⟨n8, jR, ZB_a agx AgR_r zb, ZS_c n8 (scn_f (fun kx i a b => g kx i (by omega) (by omega))) (fun _ _ => rfl) zs, zv, ZW_a agx AgR_r (fun _ _ => Iff.rfl) zw⟩, ZH_a n8 (g 46 2 (by omega) (by omega)) (fun kx i a b => g kx i (by omega) (by omega)) (fun i => by rw [h2]) AgR_r rfl (fun _ => rfl) zh, ZK_a n8 (g 46 3 (by omega) (by omega)) (fun kx i a b => g kx i (by omega) (by omega)) (fun i => by rw [h2]) AgR_r rfl (fun _ => rfl) (fun _ => rfl) (fun _ => rfl) zk⟩
/-! tell -/
theorem isOne_i {R : Mem} {v x : Int32} {n : Nat} (hn : (R.1 162 4).toInt = (n : Int)) (n8 : n ≤ 8) (e : f_Mod_isOne v R = some x) : (x = 1 ∧ 0 ≤ v.toInt ∧ v.toInt < n) ∨ (x = 0 ∧ ¬ (0 ≤ v.toInt ∧ v.toInt < n)) := by
  unfold f_Mod_isOne at e
  obtain ⟨x1, e1, e⟩ := bo e
  obtain ⟨_, e⟩ := io_n e
  obtain rfl := Option.some.inj e
  have h := some_of (sp_in v 0 ((R.1 162 4) - (1 : Int32))) e1
  have s : ((R.1 162 4) - (1 : Int32)).toInt = (n : Int) - 1 := sub_ti hn o1 (by omega) (by omega)
  rw [o0, s] at h
  rcases h with ⟨a, b, c⟩ | ⟨a, b⟩
  · exact .inl ⟨a, b, by omega⟩
  · exact .inr ⟨a, by omega⟩
theorem crowd_has {X : Mem} {v x : Int32} {n : Nat} (hn : (X.1 6 4).toInt = (n : Int)) (n8 : n ≤ 8) (e : f_Crowd_has v X = some x) : (x = 1 ∧ 0 ≤ v.toInt ∧ v.toInt < n) ∨ (x = 0 ∧ ¬ (0 ≤ v.toInt ∧ v.toInt < n)) := by
  have z0 := o0
  have z8 : (8 : Int32).toInt = 8 := rfl
  unfold f_Crowd_has at e
  rcases io e with ⟨c, e⟩ | ⟨c, e⟩
  · obtain rfl := Option.some.inj e; have := q_lt c; exact .inr ⟨rfl, by omega⟩
  have c1 := q_nl c
  rcases io e with ⟨c, e⟩ | ⟨c, e⟩
  · obtain rfl := Option.some.inj e; have := q_le c; exact .inr ⟨rfl, by omega⟩
  have c2 := q_ng c
  rcases io e with ⟨c, e⟩ | ⟨c, e⟩
  · have := q_le c; omega
  · obtain rfl := Option.some.inj e; exact .inl ⟨rfl, by omega, by omega⟩
theorem ZQ_n {X R x r : Mem} {n : Nat} (zq : ZQ X R n) (jr : J r) (fx : ∀ kx i, ¬ (kx = 11 ∧ i = 8) → x.1 kx i = X.1 kx i) (x2 : x.2 = X.2) (fr : ∀ kx i, ¬ (kx = 163 ∧ i = 93) → r.1 kx i = R.1 kx i) (hn : x.1 11 8 = r.1 163 93) : CS X R n x r := by
  obtain ⟨n8, jR, zb, zs, zv, zw⟩ := zq
  have agx : AgX X x := ⟨fx 3 2 (by omega), fx 3 3 (by omega), fun i => fx 4 i (by omega), fx 6 4 (by omega), fx 6 5 (by omega), fun i => fx 7 i (by omega), fun i => fx 8 i (by omega), fx 40 4 (by omega), fun i => fx 41 i (by omega), fun i => fx 35 i (by omega), fun i => by rw [x2], fun i => by rw [x2]⟩
  have agr : AgR R r := ⟨fr 162 2 (by omega), fr 162 3 (by omega), fr 162 4 (by omega), fr 162 5 (by omega), fr 162 23 (by omega), fun i => fr 164 i (by omega), fun i => fr 165 i (by omega), fun i => fr 166 i (by omega), fun i => fr 172 i (by omega)⟩
  have zs' : ZS (scn x 11) (r.1 163) n := ZS_n n8 (fun j i h1 h2 => by
    unfold scn
    by_cases g : j < 6
    · rw [if_pos g, if_pos g]; exact fx _ _ (by omega)
    · rw [if_neg g, if_neg g]; exact fx _ _ (by omega)) hn (fun i hi => fr 163 i (by omega)) zs
  refine ⟨⟨n8, jr, ZB_a agx agr zb, zs', ZV_b n8 agr (fun i hi => fr 163 i (by omega)) zv, ZW_a agx agr (plk_c (fun i a b => fr 163 i (by omega)) zv.2.1.2) zw⟩, ⟨⟨fun kx i h => fx kx i (by omega), fx 46 2 (by omega), fx 46 3 (by omega)⟩, fun i => by rw [x2], fun i => by rw [x2]⟩, ⟨fr 162 27 (by omega), fr 162 48 (by omega), fun i => fr 173 i (by omega), fun i => fr 189 i (by omega), fun i => fr 190 i (by omega), fun i => fr 191 i (by omega)⟩, agr⟩
theorem give_2 {X R : Mem} {n : Nat} {v y : Int32} {x : Int32 × Mem} (zq : ZQ X R n) (ex : f_Top_give v X = some x) (er : f_Mod_canTell v R = some y) : (x.1 = 0 ∧ y = 0 ∧ x.2 = X) ∨ (¬ x.1 = 0 ∧ ¬ y = 0 ∧ x.2 = s_i X 11 8 ((X.1 11 8) ||| ((1 : Int32) <<< (v &&& 31)))) := by
  obtain ⟨n8, jR, ⟨zg, zc, zl⟩, zs, zv, zw⟩ := zq
  have news : X.1 11 8 = R.1 163 93 := zs.2.2.2.2.2.2.1
  unfold f_Top_give at ex
  unfold f_Mod_canTell at er
  rw [show (93 : Int32).toNatClampNeg = 93 from rfl] at er
  obtain ⟨x1, ex1, ex⟩ := bo ex
  obtain ⟨y1, ey1, er⟩ := bo er
  have hx := crowd_has (n := n) (by rw [zc.2.1]; exact zc.1) n8 ex1
  have hy := isOne_i zc.1 n8 ey1
  rcases hx with ⟨a, a1, a2⟩ | ⟨a, a1⟩
  · rcases hy with ⟨b, _⟩ | ⟨_, b⟩
    · rw [a, if_neg (by decide)] at ex
      rw [b, if_neg (by decide)] at er
      obtain ⟨p, hp⟩ := ti_ofn a1
      obtain ⟨y2, ey2, er⟩ := bo er
      have h2 := hasR hp (by omega) ey2
      rw [bt_shr hp (by omega)] at ex
      rw [news] at ex
      cases hb : bt (R.1 163 93) p with
      | true =>
        rw [hb, if_pos rfl, if_neg (by decide)] at ex
        rw [if_neg (fun h => by rw [h2.mp h] at hb; cases hb)] at er
        obtain rfl := Option.some.inj ex
        obtain rfl := Option.some.inj er
        exact .inl ⟨rfl, rfl, rfl⟩
      | false =>
        rw [hb, if_neg (show ¬ (false = true) by decide), if_pos rfl] at ex
        rw [if_pos (h2.mpr hb)] at er
        obtain ⟨M2, e2, ex⟩ := mo ex
        obtain rfl := Option.some.inj ex
        obtain rfl := Option.some.inj er
        exact .inr ⟨by show ¬ (1 : Int32) = 0; decide, by decide, by show M2 = _; rw [e2, news]⟩
    · exact absurd ⟨a1, a2⟩ b
  · rcases hy with ⟨_, b⟩ | ⟨b, _⟩
    · exact absurd b a1
    · rw [a, if_pos rfl] at ex
      rw [b, if_pos rfl] at er
      obtain rfl := Option.some.inj ex
      obtain rfl := Option.some.inj er
      exact .inl ⟨rfl, rfl, rfl⟩
/-- the reference's own scratch changes -/
theorem ZA_13 {X R S : Mem} {n : Nat} (jS : J S) (h : ∀ kx i, ¬ (kx = 162 ∧ (i = 13 ∨ i = 12 ∨ i = 10)) → kx ≠ 168 → kx ≠ 167 → S.1 kx i = R.1 kx i) (za : ZA X R n) : ZA X S n := by
  obtain ⟨⟨n8, jR, zb, zs, zv, zw⟩, zh, zk⟩ := za
  have agr : AgR R S := ⟨h 162 2 (by omega) (by omega) (by omega), h 162 3 (by omega) (by omega) (by omega), h 162 4 (by omega) (by omega) (by omega), h 162 5 (by omega) (by omega) (by omega), h 162 23 (by omega) (by omega) (by omega), fun i => h 164 i (by omega) (by omega) (by omega), fun i => h 165 i (by omega) (by omega) (by omega), fun i => h 166 i (by omega) (by omega) (by omega), fun i => h 172 i (by omega) (by omega) (by omega)⟩
  exact ⟨⟨n8, jS, ZB_a AgX_r agr zb, ZS_c n8 SEq_r (fun i _ => (h 163 i (by omega) (by omega) (by omega)).symm) zs, ZV_a n8 agr (fun i _ => h 163 i (by omega) (by omega) (by omega)) zv, ZW_a AgX_r agr (plk_c (fun i _ _ => h 163 i (by omega) (by omega) (by omega)) zv.2.1.2) zw⟩, ZH_a n8 rfl (fun _ _ _ _ => rfl) (fun _ => rfl) agr (h 162 27 (by omega) (by omega) (by omega)) (fun i => h 173 i (by omega) (by omega) (by omega)) zh, ZK_a n8 rfl (fun _ _ _ _ => rfl) (fun _ => rfl) agr (h 162 48 (by omega) (by omega) (by omega)) (fun i => h 189 i (by omega) (by omega) (by omega)) (fun i => h 190 i (by omega) (by omega) (by omega)) (fun i => h 191 i (by omega) (by omega) (by omega)) zk⟩
theorem KK_13 {R M1 : Mem} {w : Int32} (jR : J R) (kk : KK R) (m1 : M1 = s_i R 162 13 w) : KK M1 := by
  have f : ∀ kx i, ¬ (kx = 162 ∧ i = 13) → M1.1 kx i = R.1 kx i := fun kx i h => by rw [m1, si_ne h]
  exact KK_c jR ⟨⟨f 162 2 (by omega), f 162 3 (by omega), fun i => f 164 i (by omega)⟩, f 162 27 (by omega), f 162 48 (by omega), fun i _ _ => f 163 i (by omega), fun i => f 173 i (by omega), fun i => f 189 i (by omega), fun i => f 190 i (by omega), fun i => f 191 i (by omega)⟩ kk
theorem rem_q {X R R1 : Mem} {n : Nat} (za : ZA X R n) (kk : KK R) (er : f_Mod_remember 163 R = some R1) : ZQ X R1 n ∧ AgR R R1 ∧ (∀ kx i, kx ≠ 173 → ¬ (kx = 162 ∧ i = 27) → R1.1 kx i = R.1 kx i) := by
  obtain ⟨⟨n8, jR, zb, zs, zv, zw⟩, zh, zk⟩ := za
  obtain ⟨hx, m, m12, h1, h2, h3⟩ := zh
  have B := rem_i (v := 163) (by omega) h2 m12 er
  have rf1 : ∀ kx i, kx ≠ 173 → ¬ (kx = 162 ∧ i = 27) → R1.1 kx i = R.1 kx i := by
    by_cases g : m < 12
    · rw [if_pos g] at B; exact B.2.2.2
    · rw [if_neg g] at B; exact B.2.2.2
  have ag1 : AgR R R1 := ⟨rf1 162 2 (by omega) (by omega), rf1 162 3 (by omega) (by omega), rf1 162 4 (by omega) (by omega), rf1 162 5 (by omega) (by omega), rf1 162 23 (by omega) (by omega), fun i => rf1 164 i (by omega) (by omega), fun i => rf1 165 i (by omega) (by omega), fun i => rf1 166 i (by omega) (by omega), fun i => rf1 172 i (by omega) (by omega)⟩
  obtain ⟨j1, _⟩ := some_of (fs_remember 163 jR kk (.inl rfl) (KP_v zv)) er
  have r163 : ∀ i, R1.1 163 i = R.1 163 i := fun i => rf1 163 i (by omega) (by omega)
  exact ⟨⟨n8, j1, ZB_a AgX_r ag1 zb, ZS_c n8 SEq_r (fun i _ => (r163 i).symm) zs, ZV_a n8 ag1 (fun i _ => r163 i) zv, ZW_a AgX_r ag1 (plk_c (fun i _ _ => r163 i) zv.2.1.2) zw⟩, ag1, rf1⟩
theorem give_q {X R : Mem} {n : Nat} {v : Int32} (zq : ZQ X R n) : CS X R n (s_i X 11 8 ((X.1 11 8) ||| ((1 : Int32) <<< (v &&& 31)))) (s_i R 163 93 ((R.1 163 93) ||| ((1 : Int32) <<< (v &&& 31)))) := by
  have news : X.1 11 8 = R.1 163 93 := zq.2.2.2.1.2.2.2.2.2.2.1
  exact ZQ_n zq (Jws93 zq.2.1 (.inl rfl) _) (fun kx i h => si_ne h) rfl (fun kx i h => si_ne h) (by rw [si_eq, si_eq, news])
theorem tell_2 {X R : Mem} {n : Nat} {v : Int32} {x r : Int32 × Mem} (za : ZA X R n) (kk : KK R) (ex : f_Top_tell v X = some x) (er : f_Mod_tell v R = some r) : x.1 = r.1 ∧ ZA x.2 r.2 n := by
  have jR := za.1.2.1
  unfold f_Top_tell at ex
  unfold f_Mod_tell at er
  obtain ⟨X1, ex1, ex⟩ := bo ex
  obtain ⟨x2, ex2, ex⟩ := bo ex
  obtain ⟨M1, m1, er⟩ := mo er
  obtain ⟨y2, ey2, er⟩ := bo er
  have j1 : J M1 := by rw [m1]; exact Jw_fld okf_162_13 jR _
  have zaM : ZA X M1 n := ZA_13 j1 (fun kx i h _ _ => by rw [m1, si_ne (by omega)]) za
  obtain ⟨zq1, agx1, _⟩ := copy_q (.inl rfl) zaM.1 ex1
  rw [show (93 : Int32).toNatClampNeg = 93 from rfl] at er
  rcases give_2 zq1 ex2 ey2 with ⟨a, b, c⟩ | ⟨a, b, c⟩
  · rw [if_pos a] at ex
    rw [if_pos b] at er
    obtain rfl := Option.some.inj ex
    obtain rfl := Option.some.inj er
    refine ⟨rfl, ?_⟩
    show ZA x2.2 M1 n
    rw [c]
    obtain ⟨c1, c2, c3⟩ := copy_i (v0 := 18) (v1 := 11) (by omega) ex1
    exact ZA_x (fun kx i h _ _ => c2 kx i (by omega)) c3 zaM
  · rw [if_neg a] at ex
    rw [if_neg b] at er
    obtain ⟨x3, ex3, ex⟩ := bo ex
    obtain ⟨x4, ex4, ex⟩ := bo ex
    obtain rfl := Option.some.inj ex
    obtain ⟨R1, er1, er⟩ := bo er
    obtain ⟨M4, m4, er⟩ := mo er
    obtain ⟨y5, ey5, er⟩ := bo er
    obtain rfl := Option.some.inj er
    obtain ⟨zq', _, _⟩ := rem_q zaM (KK_13 za.1.2.1 kk m1) er1
    have zq1' : ZQ X1 R1 n := (copy_q (.inl rfl) zq' ex1).1
    have cs := give_q (v := v) zq1'
    rw [← c, ← m4] at cs
    have W := with_hist zaM ex1 er1 cs ex3
    refine ⟨?_, W⟩
    have nw : x3.1 11 8 = M4.1 163 93 := W.1.2.2.2.1.2.2.2.2.2.2.1
    rw [nw] at ex4
    show x4 = y5
    rw [ex4] at ey5
    exact Option.some.inj ey5
end
section
/-! minutes, planks taken, undone, kept -/
def okH (C : Nat) : Bool := ((List.range 147).all (fun k => decide (k < 18 ∨ (25 ≤ k ∧ k < 47)) || !C.testBit k)) && !C.testBit 312 && !C.testBit 313
theorem HFx_f {C : Nat} {X Y : Mem} (h : okH C = true) (fx : Fx C [] X Y) : HFx X Y := by
  simp only [okH, Bool.and_eq_true, Bool.not_eq_true'] at h
  obtain ⟨⟨h1, h2⟩, h3⟩ := h
  have t : ∀ k, k < 147 → ¬ (k < 18 ∨ (25 ≤ k ∧ k < 47)) → C.testBit k = false := by
    intro k hk hn
    have := List.all_eq_true.mp h1 k (List.mem_range.mpr hk)
    rw [decide_eq_false hn, Bool.false_or] at this
    simpa using this
  have s : ∀ kx i, ((18 ≤ kx ∧ kx < 25) ∨ (47 ≤ kx ∧ kx < 147)) → sl kx i = kx := by
    intro kx i h
    unfold sl
    repeat' split
    all_goals omega
  exact ⟨⟨fun kx i w => (fx kx i (by rw [s kx i w]; exact t kx (by omega) (by omega)) (by simp)).1, (fx 46 2 h2 (by simp)).1, (fx 46 3 h3 (by simp)).1⟩, fun i => (fx 47 i (by rw [s 47 i (by omega)]; exact t 47 (by omega) (by omega)) (by simp)).2.2, fun i => (fx 48 i (by rw [s 48 i (by omega)]; exact t 48 (by omega) (by omega)) (by simp)).2.2⟩
def okHr (C : Nat) : Bool := ([227, 248, 173, 189, 190, 191].all (fun b => !C.testBit b))
theorem HFr_f {C : Nat} {X Y : Mem} (h : okHr C = true) (fx : Fx C [] X Y) : HFr X Y := by
  have t : ∀ b, b ∈ [227, 248, 173, 189, 190, 191] → C.testBit b = false := fun b hb => ok_of h hb
  exact ⟨(fx 162 27 (t 227 (by simp)) (by simp)).1, (fx 162 48 (t 248 (by simp)) (by simp)).1, fun i => (fx 173 i (t 173 (by simp)) (by simp)).1, fun i => (fx 189 i (t 189 (by simp)) (by simp)).1, fun i => (fx 190 i (t 190 (by simp)) (by simp)).1, fun i => (fx 191 i (t 191 (by simp)) (by simp)).1⟩
def mP11 : Nat := 71098737063784989085461767434649766220228279869903869167057116519632229632726926570288747756118147420182528
def mG163 : Nat := 6120724063703626551598013302566651832111732699567794472979987896991744
theorem pass_q {X R x r : Mem} {n : Nat} (zq : ZQ X R n) (ex : f_Clock_pass 11 32 X = some x) (er : f_Mod_goMinute 163 R = some r) : CS X R n x r ∧ PP X R 11 163 n x r := by
  obtain ⟨n8, jR, zb, zs, zv, zw⟩ := zq
  have P := pass_2 (.inl rfl) (.inl rfl) jR n8 zb zs zv zw ex er
  have fx : Fx mP11 [] X x := wf_Clock_pass 11 32 X (by decide +kernel) (oc_c (sb_r _) (by decide +kernel)) (oc_c (sb_r _) (by decide +kernel)) (oc_c (sb_r _) (by decide +kernel)) (oc_c (sb_r _) (by decide +kernel)) Fx_r ex
  have fr : Fx mG163 [] R r := wf_Mod_goMinute 163 R (by decide +kernel) (oc_c (sb_r _) (by decide +kernel)) Fx_r er
  have P' := P
  obtain ⟨p1, p2, p3, p4, p5, p6, p7, p8, p9, p10, p11⟩ := P
  exact ⟨⟨⟨n8, p1, ZB_a p2 p3 zb, p4, p5, ZW_a p2 p3 (plk_c p9 zv.2.1.2) zw⟩, HFx_f (by decide +kernel) fx, HFr_f (by decide +kernel) fr, p3⟩, P'⟩
theorem note_i {X x : Mem} {v : Int32} (e : f_Top_note v X = some x) : (∀ kx i, kx ≠ 161 → ¬ (kx = 0 ∧ i = 15) → x.1 kx i = X.1 kx i) ∧ x.2 = X.2 := by
  unfold f_Top_note at e
  rcases io e with ⟨c, e⟩ | ⟨c, e⟩
  · obtain rfl := Option.some.inj e; exact ⟨fun _ _ _ _ => rfl, rfl⟩
  rcases io e with ⟨c, e⟩ | ⟨c, e⟩
  · obtain rfl := Option.some.inj e; exact ⟨fun _ _ _ _ => rfl, rfl⟩
  obtain ⟨_, e⟩ := io_n e
  obtain ⟨M1, e1, e⟩ := mo e
  obtain ⟨M2, e2, e⟩ := mo e
  obtain rfl := Option.some.inj e
  exact ⟨fun kx i h1 h2 => by rw [e2, si_ne h2, e1, si_ne (fun h => h1 h.1)], by rw [e2]; show M1.2 = _; rw [e1]; rfl⟩
theorem empty_i {X x : Mem} (e : f_Top_emptyRow X = some x) : (∀ kx i, ¬ (kx = 0 ∧ i = 15) → x.1 kx i = X.1 kx i) ∧ x.2 = X.2 := by
  unfold f_Top_emptyRow at e
  obtain ⟨M1, e1, e⟩ := mo e
  obtain rfl := Option.some.inj e
  exact ⟨fun kx i h => by rw [e1, si_ne h], by rw [e1]; rfl⟩
theorem put_i {R r : Mem} {v : Int32} (e : f_Mod_put v R = some r) : ∀ kx i, kx ≠ 168 → ¬ (kx = 162 ∧ i = 12) → r.1 kx i = R.1 kx i := by
  unfold f_Mod_put at e
  obtain ⟨_, e⟩ := io_n e
  obtain ⟨M1, e1, e⟩ := mo e
  obtain ⟨M2, e2, e⟩ := mo e
  obtain rfl := Option.some.inj e
  exact fun kx i h1 h2 => by rw [e2, si_ne h2, e1, si_ne (fun h => h1 h.1)]
theorem minute_2 {X R : Mem} {n : Nat} {x r : Int32 × Mem} (za : ZA X R n) (kk : KK R) (jr : J r.2) (ex : f_Top_minute X = some x) (er : f_Mod_minute R = some r) : x.1 = r.1 ∧ ZA x.2 r.2 n := by
  have jR := za.1.2.1
  unfold f_Top_minute at ex
  unfold f_Mod_minute at er
  obtain ⟨X1, ex1, exa⟩ := bo ex
  obtain ⟨x2, ex2, exb⟩ := bo exa
  obtain ⟨x3, ex3, exc⟩ := bo exb
  obtain ⟨x4, ex4, exd⟩ := bo exc
  obtain ⟨x5, ex5, exe⟩ := bo exd
  obtain ⟨x6, ex6, exf⟩ := bo exe
  have exf := Option.some.inj exf
  obtain ⟨M1, m1, era⟩ := mo er
  obtain ⟨R1, er1, erb⟩ := bo era
  obtain ⟨y3, ey3, erc⟩ := bo erb
  obtain ⟨M4, m4, erd⟩ := mo erc
  obtain ⟨y5, ey5, ere⟩ := bo erd
  obtain ⟨y6, ey6, erf⟩ := bo ere
  have erf := Option.some.inj erf
  have j1 : J M1 := by rw [m1]; exact Jw_fld okf_162_13 jR _
  have zaM : ZA X M1 n := ZA_13 j1 (fun kx i h _ _ => by rw [m1, si_ne (by omega)]) za
  obtain ⟨zq', _, _⟩ := rem_q zaM (KK_13 jR kk m1) er1
  have zq1' : ZQ X1 R1 n := (copy_q (.inl rfl) zq' ex1).1
  obtain ⟨cs, pp⟩ := pass_q zq1' ex2 ey3
  have W := with_hist zaM ex1 er1 cs ex3
  obtain ⟨a4, b4⟩ := empty_i ex4
  obtain ⟨a5, b5⟩ := note_i ex5
  obtain ⟨a6, b6⟩ := note_i ex6
  have p5 := put_i ey5
  have p6 := put_i ey6
  have xf : ∀ kx i, kx ≠ 161 → ¬ (kx = 0 ∧ i = 15) → x6.1 kx i = x3.1 kx i := fun kx i h1 h2 => by rw [a6 kx i h1 h2, a5 kx i h1 h2, a4 kx i h2]
  have rf' : ∀ kx i, kx ≠ 168 → ¬ (kx = 162 ∧ i = 12) → y6.1 kx i = y3.1 kx i := fun kx i h1 h2 => by rw [p6 kx i h1 h2, p5 kx i h1 h2, m4, si_ne h2]
  have ff : Fx (2 ^ 400 - 1 - 2 ^ 352) [] x2 x3 := wf_History_add 18 x2 (by decide +kernel) Fx_r ex3
  rw [← exf, ← erf]
  refine ⟨?_, ?_⟩
  · show x6.1 45 2 = y6.1 162 31
    rw [xf 45 2 (by omega) (by omega), rf' 162 31 (by omega) (by omega), (ff 45 2 (by decide +kernel) (by simp)).1]
    exact pp.2.2.2.2.2.2.2.1
  · show ZA x6 y6 n
    refine ZA_x (fun kx i h1 h2 _ => xf kx i (by omega) (by omega)) (by rw [b6, b5, b4]) (ZA_13 (R := y3) ?_ (fun kx i h1 h2 h3 => rf' kx i h2 (by omega)) W)
    rw [← erf] at jr; exact jr
theorem minutes_2 {X R : Mem} {n : Nat} {v : Int32} {x r : Int32 × Mem} (za : ZA X R n) (kk : KK R) (jr : J r.2) (ex : f_Top_minutes v X = some x) (er : f_Mod_minutes v R = some r) : x.1 = r.1 ∧ ZA x.2 r.2 n := by
  have jR := za.1.2.1
  have z0 := o0
  have z60 : (60 : Int32).toInt = 60 := rfl
  unfold f_Mod_minutes at er
  obtain ⟨M1, m1, era⟩ := mo er
  obtain ⟨y2, ey2, erb⟩ := bo era
  have h2 := some_of (sp_in v 0 60) ey2
  rw [o0, z60] at h2
  have j1 : J M1 := by rw [m1]; exact Jw_fld okf_162_13 jR _
  have zaM : ZA X M1 n := ZA_13 j1 (fun kx i h _ _ => by rw [m1, si_ne (by omega)]) za
  unfold f_Top_minutes at ex
  have out : ¬ (0 ≤ v.toInt ∧ v.toInt ≤ 60) → some ((-1 : Int32), X) = some x → x.1 = r.1 ∧ ZA x.2 r.2 n := by
    intro hn e
    obtain rfl := Option.some.inj e
    rcases h2 with ⟨_, h⟩ | ⟨h, _⟩
    · exact absurd h hn
    · rw [h, if_pos rfl] at erb
      obtain rfl := Option.some.inj erb
      exact ⟨rfl, zaM⟩
  rcases io ex with ⟨c, ex⟩ | ⟨c, ex⟩
  · exact out (by have := q_lt c; omega) ex
  have c1 := q_nl c
  rcases io ex with ⟨c, ex⟩ | ⟨c, ex⟩
  · have c2 := q_le c
    rcases h2 with ⟨h, _⟩ | ⟨_, h⟩
    · rw [h, if_neg (by decide)] at erb
      obtain ⟨X1, ex1, exa⟩ := bo ex
      obtain ⟨X2, ex2, exb⟩ := bo exa
      obtain ⟨x5, ex5, exc⟩ := bo exb
      unfold f_Clock_reset at ex2
      obtain ⟨C1, d1, ex2⟩ := mo ex2
      obtain ⟨C2, d2, ex2⟩ := mo ex2
      have ex2 := Option.some.inj ex2
      subst ex2
      have fC : ∀ kx i, kx ≠ 45 → C2.1 kx i = X1.1 kx i := fun kx i h => by rw [d2, si_ne (by omega), d1, si_ne (by omega)]
      have fC2 : C2.2 = X1.2 := by rw [d2]; show C1.2 = _; rw [d1]; rfl
      have agC : AgX X1 C2 := ⟨fC 3 2 (by omega), fC 3 3 (by omega), fun q => fC 4 q (by omega), fC 6 4 (by omega), fC 6 5 (by omega), fun q => fC 7 q (by omega), fun q => fC 8 q (by omega), fC 40 4 (by omega), fun q => fC 41 q (by omega), fun q => fC 35 q (by omega), fun q => by rw [fC2], fun q => by rw [fC2]⟩
      have loop : ∀ (T0 : Mem), ZQ X1 T0 n → ∀ y, iter (lb_Mod_minutes_36 v) FU ((0 : Int32), (0 : Int32), (0 : Int32), T0) = some y → CS X1 T0 n x5 y.2.2 ∧ y.1 = x5.1 45 4 ∧ y.2.1 = x5.1 45 3 := by
        intro T0 zq0 y ey
        have zqC : ZQ C2 T0 n := by
          obtain ⟨n8, j0, zb, zs, zv, zw⟩ := zq0
          exact ⟨n8, j0, ZB_a agC AgR_r zb, ZS_c n8 (scn_f (fun kx i a b => fC kx i (by omega))) (fun _ _ => rfl) zs, zv, ZW_a agC AgR_r (fun _ _ => Iff.rfl) zw⟩
        have hC : HFx X1 C2 := ⟨⟨fun kx i w => fC kx i (by omega), fC 46 2 (by omega), fC 46 3 (by omega)⟩, fun i => by rw [fC2], fun i => by rw [fC2]⟩
        refine it_2 (I := fun (s : Int32 × Mem) (t : Int32 × Int32 × Int32 × Mem) => s.1 = t.2.2.1 ∧ CS X1 T0 n s.2 t.2.2.2 ∧ t.1 = s.2.1 45 4 ∧ t.2.1 = s.2.1 45 3) (Q := fun (x : Mem) (y : Int32 × Int32 × Mem) => CS X1 T0 n x y.2.2 ∧ y.1 = x.1 45 4 ∧ y.2.1 = x.1 45 3) ?_ ex5 ey ⟨rfl, ⟨zqC, hC, HFr_r, AgR_r⟩, ?_, ?_⟩
        · rintro ⟨i, N⟩ ⟨m, st, i', T⟩ A B ⟨hi, cs, h4, h3⟩ eA eB
          dsimp only at hi cs h4 h3
          subst hi
          unfold lb_Top_minutes_32 at eA
          unfold lb_Mod_minutes_36 at eB
          dsimp only at eA eB
          rcases io eA with ⟨g, eA⟩ | ⟨g, eA⟩
          · rw [if_pos g] at eB
            obtain rfl := Option.some.inj eA
            obtain rfl := Option.some.inj eB
            exact .inr ⟨_, _, rfl, rfl, cs, h4, h3⟩
          · rw [if_neg g] at eB
            obtain ⟨z3, ez3, eA⟩ := bo eA
            obtain rfl := Option.some.inj eA
            obtain ⟨w3, ew3, eB⟩ := bo eB
            obtain ⟨w4, ew4, eB⟩ := bo eB
            obtain rfl := Option.some.inj eB
            obtain ⟨cs2, pp⟩ := pass_q cs.1 ez3 ew3
            obtain ⟨b, hb1, hb2⟩ := pp.2.2.2.2.2.2.2.2.2.1
            refine .inl ⟨_, _, rfl, rfl, rfl, CS_t cs cs2, ?_, ?_⟩
            · show m + w3.1 162 31 = z3.1 45 4
              rw [pp.2.2.2.2.2.2.2.2.2.2, ← pp.2.2.2.2.2.2.2.1, h4]
            · show st + w4 = z3.1 45 3
              rw [hb2, h3]
              rw [pp.2.2.2.2.2.1, ew4] at hb1
              rw [Option.some.inj hb1]
        · show (0 : Int32) = C2.1 45 4
          rw [d2, si_eq]
        · show (0 : Int32) = C2.1 45 3
          rw [d2, si_ne (by omega), d1, si_eq]
      have fin : ∀ (A B : Mem) (y6 : Int32), ZA A B n → j_Top_minutes_85 A = some x → (∀ M7 x8 x9, M7 = s_i B 162 12 (0 : Int32) → f_Mod_put y6 M7 = some x8 → ∀ w : Int32, f_Mod_put w x8 = some x9 → r.2 = x9 → ZA x.2 r.2 n) ∧ x.1 = A.1 45 4 := by
        intro A B y6 zab e
        unfold j_Top_minutes_85 at e
        obtain ⟨u6, eu6, e⟩ := bo e
        obtain ⟨u7, eu7, e⟩ := bo e
        obtain ⟨u8, eu8, e⟩ := bo e
        have e := Option.some.inj e
        obtain ⟨a4, b4⟩ := empty_i eu6
        obtain ⟨a5, b5⟩ := note_i eu7
        obtain ⟨a6, b6⟩ := note_i eu8
        have xf : ∀ kx i, kx ≠ 161 → ¬ (kx = 0 ∧ i = 15) → u8.1 kx i = A.1 kx i := fun kx i h1 h2 => by rw [a6 kx i h1 h2, a5 kx i h1 h2, a4 kx i h2]
        refine ⟨fun M7 x8 x9 hm h8 w h9 hr => ?_, ?_⟩
        · have p5 := put_i h8
          have p6 := put_i h9
          have rf' : ∀ kx i, kx ≠ 168 → ¬ (kx = 162 ∧ i = 12) → x9.1 kx i = B.1 kx i := fun kx i h1 h2 => by rw [p6 kx i h1 h2, p5 kx i h1 h2, hm, si_ne h2]
          rw [← e]
          show ZA u8 r.2 n
          rw [hr] at jr ⊢
          exact ZA_x (fun kx i h1 h2 _ => xf kx i (by omega) (by omega)) (by rw [b6, b5, b4]) (ZA_13 jr (fun kx i h1 h2 h3 => rf' kx i h2 (by omega)) zab)
        · rw [← e]; exact xf 45 4 (by omega) (by omega)
      rcases io erb with ⟨g, erb⟩ | ⟨g, erb⟩
      · rw [if_pos g] at exc
        have v0 : v = 0 := Int32.toInt_inj.mp (by have := q_le g; omega)
        obtain ⟨y6, ey6, erc⟩ := bo erb
        obtain ⟨M7, m7, erd⟩ := mo erc
        obtain ⟨y8, ey8, ere⟩ := bo erd
        obtain ⟨y9, ey9, erf⟩ := bo ere
        have erf := Option.some.inj erf
        obtain ⟨L1, L2, L3⟩ := loop M1 (copy_q (.inl rfl) zaM.1 ex1).1 y6 ey6
        -- nothing has gone by
        have same : x5 = C2 ∧ y6.2.2 = M1 := by
          refine ⟨?_, ?_⟩
          · refine it_r (I := fun s : Int32 × Mem => s = ((0 : Int32), C2)) (Q := fun x => x = C2) ?_ ex5 rfl
            rintro s r rfl e
            unfold lb_Top_minutes_32 at e
            dsimp only at e
            rw [if_pos g] at e
            obtain rfl := Option.some.inj e
            rfl
          · refine it_r (I := fun s : Int32 × Int32 × Int32 × Mem => s = ((0 : Int32), (0 : Int32), (0 : Int32), M1)) (Q := fun y : Int32 × Int32 × Mem => y.2.2 = M1) ?_ ey6 rfl
            rintro s r rfl e
            unfold lb_Mod_minutes_36 at e
            dsimp only at e
            rw [if_pos g] at e
            obtain rfl := Option.some.inj e
            rfl
        obtain ⟨c1', c2', c3'⟩ := copy_i (v0 := 18) (v1 := 11) (by omega) ex1
        have zab : ZA x5 y6.2.2 n := by
          rw [same.1, same.2]
          exact ZA_x (fun kx i h1 h2 _ => by rw [fC kx i (by omega)]; exact c2' kx i (by omega)) (by rw [fC2, c3']) zaM
        obtain ⟨F1, F2⟩ := fin x5 y6.2.2 y6.2.1 zab exc
        refine ⟨?_, F1 M7 y8 y9 m7 ey8 _ ey9 (by rw [← erf])⟩
        rw [F2, ← erf]; exact L2.symm
      · rw [if_neg g] at exc
        obtain ⟨x9, ex9, exd⟩ := bo exc
        obtain ⟨R1, er1, erc⟩ := bo erb
        obtain ⟨y6, ey6, erd⟩ := bo erc
        obtain ⟨M7, m7, ere⟩ := mo erd
        obtain ⟨y8, ey8, erf⟩ := bo ere
        obtain ⟨y9, ey9, erg⟩ := bo erf
        have erg := Option.some.inj erg
        obtain ⟨zq', _, _⟩ := rem_q zaM (KK_13 jR kk m1) er1
        obtain ⟨L1, L2, L3⟩ := loop R1 (copy_q (.inl rfl) zq' ex1).1 y6 ey6
        have W := with_hist zaM ex1 er1 L1 ex9
        obtain ⟨F1, F2⟩ := fin x9 y6.2.2 y6.2.1 W exd
        refine ⟨?_, F1 M7 y8 y9 m7 ey8 _ ey9 (by rw [← erg])⟩
        have ff : Fx (2 ^ 400 - 1 - 2 ^ 354) [] x5 x9 := wf_History_add 18 x5 (by decide +kernel) Fx_r ex9
        rw [F2, ← erg, (ff 45 4 (by decide +kernel) (by simp)).1]; exact L2.symm
    · exact absurd (⟨by omega, by omega⟩ : 0 ≤ v.toInt ∧ v.toInt ≤ 60) h
  · exact out (by have := q_ng c; omega) ex
end
section
/-! nets laid anew; planks taken, undone, kept -/
theorem pd_plk {X R : Mem} {n m : Nat} (zs : ZS (scn X 11) (R.1 163) n) (hm : (R.1 163 92).toInt = (m : Int)) (m6 : m ≤ 6) (c d : Int) : PD X m c d ↔ plk R 163 c d := by
  obtain ⟨_, _, _, _, s5, _⟩ := zs
  have e4 : ∀ j, j < m → X.1 16 j = R.1 163 (80 + 2 * j) := fun j hj => (s5 j (by omega) (by omega)).1
  have e5 : ∀ j, j < m → X.1 17 j = R.1 163 (81 + 2 * j) := fun j hj => (s5 j (by omega) (by omega)).2
  unfold PD plk plkA
  constructor
  · rintro ⟨j, hj, h⟩
    rw [e4 j hj, e5 j hj] at h
    refine ⟨j, by omega, ?_⟩
    rcases h with ⟨h1, h2⟩ | ⟨h1, h2⟩
    · exact .inl ⟨h1, h2⟩
    · exact .inr ⟨h2, h1⟩
  · rintro ⟨j, hj, h⟩
    refine ⟨j, by omega, ?_⟩
    rw [e4 j (by omega), e5 j (by omega)]
    rcases h with ⟨h1, h2⟩ | ⟨h1, h2⟩
    · exact .inl ⟨h1, h2⟩
    · exact .inr ⟨h2, h1⟩
theorem lay_q {X R x : Mem} {n : Nat} (n8 : n ≤ 8) (jR : J R) (zb : ZB X R n) (zs : ZS (scn X 11) (R.1 163) n) (zv : ZV R (R.1 163) n) (e : f_Nets_lay 32 11 (-1 : Int32) X = some x) : ZQ x R n ∧ HFx X x ∧ (∀ kx i, kx ≠ 35 → x.1 kx i = X.1 kx i) ∧ x.2.2 = X.2.2 := by
  obtain ⟨m, hm⟩ := ti_ofn zv.2.1.1
  have m6 : m ≤ 6 := by have := zv.2.1.2; omega
  have wh := awh jR
  have lai : X.1 11 6 = R.1 163 92 := zs.2.2.2.1
  have pl : ∀ j, j < m → 0 ≤ (X.1 16 j).toInt ∧ (X.1 16 j).toInt < xw R * xh R ∧ 0 ≤ (X.1 17 j).toInt ∧ (X.1 17 j).toInt < xw R * xh R := by
    intro j hj
    have s := zs.2.2.2.2.1 j (by omega) (by omega)
    have e4 : X.1 16 j = R.1 163 (80 + 2 * j) := s.1
    have e5 : X.1 17 j = R.1 163 (81 + 2 * j) := s.2
    obtain ⟨a, b, _⟩ := zv.2.2.2 j (by omega)
    rw [e4, e5]
    exact ⟨a.1, a.2.1, b.1, b.2.1⟩
  obtain ⟨l1, l2, l3, l4, l5⟩ := lay_i (v0 := 32) (.inl rfl) jR zb.1 (v3 := -1) (by rw [om]; omega) (n := m) (by rw [lai]; exact hm) m6 pl e
  have agg : ∀ kx i, kx ≠ 35 → x.1 kx i = X.1 kx i := l3
  have zb' : ZB x R n := by
    obtain ⟨zg, zc, zl⟩ := zb
    refine ⟨ZG_X zg (agg 3 2 (by omega)) (agg 3 3 (by omega)) (fun i => agg 4 i (by omega)), ?_, ?_⟩
    · obtain ⟨a1, a2, a3, a4, a5, a6⟩ := zc
      exact ⟨a1, by rw [agg _ _ (by omega)]; exact a2, by rw [agg _ _ (by omega)]; exact a3, fun q hq => by rw [agg _ _ (by omega)]; exact a4 q hq, fun q i hq hh => by rw [agg _ _ (by omega)]; exact a5 q i hq hh, a6⟩
    · unfold ZL at zl ⊢
      rw [agg 40 4 (by omega)]
      rcases zl with l | ⟨b1, b2, b3, S, b4, b5, b6, b7, b8, b9, b10⟩
      · exact .inl l
      · exact .inr ⟨b1, b2, b3, S, b4, b5, b6, b7, b8, b9, stk_c b10 (fun i _ => agg 41 i (by omega))⟩
  refine ⟨⟨n8, jR, zb', ZS_c n8 (scn_f (fun kx i a b => agg kx i (by omega))) (fun _ _ => rfl) zs, zv, ⟨l1, ZX_e (pd_plk zs hm m6) l2⟩⟩, ⟨⟨fun kx i w => agg kx i (by omega), agg 46 2 (by omega), agg 46 3 (by omega)⟩, fun i => by rw [l5], fun i => by rw [l5]⟩, agg, l5⟩
theorem lift_q {X R x r : Mem} {n : Nat} {w w' : Int32} (zq : ZQ X R n) (h0 : 0 < (R.1 163 92).toInt) (hw : w.toInt = (R.1 163 92).toInt - 1) (e : f_Nets_lay 32 11 (-1 : Int32) (s_i X 11 6 w) = some x) (hr : r = s_i R 163 92 w) : CS X R n x r := by
  obtain ⟨n8, jR, zb, zs, zv, zw⟩ := zq
  have fx : ∀ kx i, ¬ (kx = 11 ∧ i = 6) → (s_i X 11 6 w).1 kx i = X.1 kx i := fun kx i h => si_ne h
  have fr : ∀ kx i, ¬ (kx = 163 ∧ i = 92) → r.1 kx i = R.1 kx i := fun kx i h => by rw [hr, si_ne h]
  have r92 : r.1 163 92 = w := by rw [hr, si_eq]
  have b := zv.2.1
  have jr : J r := by rw [hr]; exact Jws92 jR (.inl rfl) w (by omega) (by omega)
  have agx : AgX X (s_i X 11 6 w) := ⟨fx 3 2 (by omega), fx 3 3 (by omega), fun i => fx 4 i (by omega), fx 6 4 (by omega), fx 6 5 (by omega), fun i => fx 7 i (by omega), fun i => fx 8 i (by omega), fx 40 4 (by omega), fun i => fx 41 i (by omega), fun i => fx 35 i (by omega), fun i => rfl, fun i => rfl⟩
  have agr : AgR R r := ⟨fr 162 2 (by omega), fr 162 3 (by omega), fr 162 4 (by omega), fr 162 5 (by omega), fr 162 23 (by omega), fun i => fr 164 i (by omega), fun i => fr 165 i (by omega), fun i => fr 166 i (by omega), fun i => fr 172 i (by omega)⟩
  have sc : ∀ j i, j ≠ 6 → j < 10 → scn (s_i X 11 6 w) 11 j i = scn X 11 j i := by
    intro j i h6 h10
    unfold scn
    by_cases g : j < 6
    · rw [if_pos g, if_pos g]; exact fx _ _ (by omega)
    · rw [if_neg g, if_neg g]; exact fx _ _ (by omega)
  have zs' : ZS (scn (s_i X 11 6 w) 11) (r.1 163) n := by
    obtain ⟨h1, h2, h3, h4, h5, h6, h7, h8⟩ := zs
    refine ⟨fun p hp => ?_, fun p q hp hq => ?_, fun p q hp hq hh => ?_, ?_, fun j hj hl => ?_, ?_, ?_, ?_⟩
    · rw [fr 163 p (by omega), fr 163 (8 + p) (by omega), sc 0 p (by omega) (by omega), sc 1 p (by omega) (by omega), sc 2 p (by omega) (by omega)]; exact h1 p hp
    · rw [fr 163 _ (by omega), sc 3 _ (by omega) (by omega), sc 3 _ (by omega) (by omega)]; exact h2 p q hp hq
    · rw [sc 3 _ (by omega) (by omega)]; exact h3 p q hp hq hh
    · show (s_i X 11 6 w).1 11 6 = r.1 163 92
      rw [si_eq, r92]
    · rw [r92] at hl
      rw [sc 4 j (by omega) (by omega), sc 5 j (by omega) (by omega), fr 163 _ (by omega), fr 163 _ (by omega)]; exact h5 j hj (by omega)
    · rw [sc 7 0 (by omega) (by omega), fr 163 95 (by omega)]; exact h6
    · rw [sc 8 0 (by omega) (by omega), fr 163 93 (by omega)]; exact h7
    · rw [sc 9 0 (by omega) (by omega), fr 163 94 (by omega)]; exact h8
  have zv' : ZV r (r.1 163) n := by
    have w1 : xw r = xw R := congrArg Int32.toInt agr.1
    have w2 : xh r = xh R := congrArg Int32.toInt agr.2.1
    obtain ⟨h1, h2, h3, h4⟩ := zv
    refine ⟨fun p hp => ?_, by rw [r92]; omega, by rw [fr 163 94 (by omega)]; exact h3, fun j hj => ?_⟩
    · rw [fr 163 p (by omega), fr 163 (8 + p) (by omega), agr.2.2.2.1, agr.2.2.2.2.2.2.2.1 p]
      obtain ⟨q1, q2⟩ := h1 p hp
      exact ⟨⟨q1.1, q1.2.1, (onN_a agr).mpr q1.2.2⟩, q2⟩
    · rw [r92] at hj
      rw [fr 163 _ (by omega), fr 163 _ (by omega), w1, w2]
      obtain ⟨q1, q2, s, q3, q4, q5⟩ := h4 j (by omega)
      exact ⟨(onN_a agr).mpr q1, (onN_a agr).mpr q2, s, q3, q4, fun h => q5 ((onN_a agr).mp h)⟩
  obtain ⟨zq', hf, _, _⟩ := lay_q n8 jr (ZB_a agx agr zb) zs' zv' e
  exact ⟨zq', HFx_t ⟨⟨fun kx i w => fx kx i (by omega), fx 46 2 (by omega), fx 46 3 (by omega)⟩, fun i => rfl, fun i => rfl⟩ hf, ⟨fr 162 27 (by omega), fr 162 48 (by omega), fun i => fr 173 i (by omega), fun i => fr 189 i (by omega), fun i => fr 190 i (by omega), fun i => fr 191 i (by omega)⟩, agr⟩
theorem take_2 {X R : Mem} {n : Nat} {x r : Int32 × Mem} (za : ZA X R n) (kk : KK R) (ex : f_Top_take X = some x) (er : f_Mod_take R = some r) : x.1 = r.1 ∧ ZA x.2 r.2 n := by
  have jR := za.1.2.1
  have z0 := o0
  unfold f_Top_take at ex
  unfold f_Mod_take at er
  rw [show (92 : Int32).toNatClampNeg = 92 from rfl] at er
  obtain ⟨X1, ex1, exa⟩ := bo ex
  obtain ⟨x2, ex2, exb⟩ := bo exa
  obtain ⟨M1, m1, era⟩ := mo er
  have j1 : J M1 := by rw [m1]; exact Jw_fld okf_162_13 jR _
  have zaM : ZA X M1 n := ZA_13 j1 (fun kx i h _ _ => by rw [m1, si_ne (by omega)]) za
  obtain ⟨zq1, _, _⟩ := copy_q (.inl rfl) zaM.1 ex1
  obtain ⟨c1, c2, c3⟩ := copy_i (v0 := 18) (v1 := 11) (by omega) ex1
  have lai : X1.1 11 6 = M1.1 163 92 := zq1.2.2.2.1.2.2.2.1
  have b := zq1.2.2.2.2.1.2.1
  unfold f_Top_lift at ex2
  rw [lai] at ex2
  rcases io ex2 with ⟨g, ex2⟩ | ⟨g, ex2⟩
  · have g1 := q_lt g
    obtain ⟨M2, m2, ex2⟩ := mo ex2
    obtain ⟨z2, ez2, ex2⟩ := bo ex2
    have ex2 := Option.some.inj ex2
    rw [← ex2] at exb
    rw [if_neg (by show ¬ (1 : Int32) = 0; decide)] at exb
    obtain ⟨x3, ex3, exc⟩ := bo exb
    have exc := Option.some.inj exc
    rw [if_neg (fun h => by have := congrArg Int32.toInt h; omega)] at era
    obtain ⟨R1, er1, erb⟩ := bo era
    obtain ⟨M3, m3, erc⟩ := mo erb
    have erc := Option.some.inj erc
    obtain ⟨zq', _, rf1⟩ := rem_q zaM (KK_13 jR kk m1) er1
    have zq1' : ZQ X1 R1 n := (copy_q (.inl rfl) zq' ex1).1
    have r1 : R1.1 163 92 = M1.1 163 92 := rf1 163 92 (by omega) (by omega)
    rw [r1] at m3
    have ws : ((M1.1 163 92) - (1 : Int32)).toInt = (R1.1 163 92).toInt - 1 := by rw [r1]; exact sub_ti rfl o1 (by omega) (by omega)
    rw [m2] at ez2
    have cs := lift_q (w' := 0) zq1' (by rw [r1]; omega) ws ez2 m3
    have W := with_hist zaM ex1 er1 cs ex3
    rw [← exc, ← erc]
    refine ⟨?_, W⟩
    exact W.1.2.2.2.1.2.2.2.1
  · have g1 := q_nl g
    have ex2 := Option.some.inj ex2
    rw [← ex2, if_pos rfl] at exb
    have exb := Option.some.inj exb
    have m0 : M1.1 163 92 = 0 := Int32.toInt_inj.mp (by omega)
    rw [if_pos m0] at era
    have era := Option.some.inj era
    rw [← exb, ← era]
    exact ⟨rfl, ZA_x (fun kx i h _ _ => c2 kx i (by omega)) c3 zaM⟩
theorem row_r {A x : Mem} {c o : Nat} (hc : c = 173 ∨ c = 189) (f : Int32 × Mem → Option ((Int32 × Mem) ⊕ Mem)) (hf : ∀ (k : Int32) (N : Mem) (p : Nat) r, k.toInt = (p : Int) → p ≤ 96 → (∀ kx i, kx ≠ 163 → N.1 kx i = A.1 kx i) → f (k, N) = some r → (p = 96 ∧ r = .inr N) ∨ (p < 96 ∧ r = .inl (k + (1 : Int32), s_i N 163 p (N.1 c (o + p))))) (e : iter f FU ((0 : Int32), A) = some x) : (∀ i, i < 96 → x.1 163 i = A.1 c (o + i)) ∧ (∀ kx i, kx ≠ 163 → x.1 kx i = A.1 kx i) := by
  refine it_r (I := fun s : Int32 × Mem => ∃ p : Nat, p ≤ 96 ∧ s.1.toInt = (p : Int) ∧ (∀ i, i < p → s.2.1 163 i = A.1 c (o + i)) ∧ (∀ kx i, kx ≠ 163 → s.2.1 kx i = A.1 kx i)) (Q := fun x : Mem => (∀ i, i < 96 → x.1 163 i = A.1 c (o + i)) ∧ (∀ kx i, kx ≠ 163 → x.1 kx i = A.1 kx i)) ?_ e ⟨0, by omega, rfl, fun i hi => absurd hi (by omega), fun _ _ _ => rfl⟩
  rintro ⟨k, N⟩ r ⟨p, lp, hp, h1, h2⟩ e
  dsimp only at hp h1 h2
  rcases hf k N p r hp lp h2 e with ⟨h, rfl⟩ | ⟨h, rfl⟩
  · subst h; exact ⟨h1, h2⟩
  · refine ⟨p + 1, by omega, add_ti hp o1 (by omega) (by omega), fun i hi => ?_, fun kx i hk => ?_⟩
    · show (s_i N 163 p _).1 163 i = _
      by_cases g : i = p
      · subst g; rw [si_eq]; exact h2 c _ (by omega)
      · rw [si_ne (by omega)]; exact h1 i (by omega)
    · show (s_i N 163 p _).1 kx i = _
      rw [si_ne (by omega)]; exact h2 kx i hk
theorem undo_2 {X R : Mem} {n : Nat} {x r : Int32 × Mem} (za : ZA X R n) (jr : J r.2) (ex : f_Top_undo X = some x) (er : f_Mod_undo R = some r) : x.1 = r.1 ∧ ZA x.2 r.2 n := by
  have jR := za.1.2.1
  have z0 := o0
  have z1 := o1
  have z12 : (12 : Int32).toInt = 12 := rfl
  unfold f_Mod_undo at er
  obtain ⟨M1, m1, era⟩ := mo er
  have j1 : J M1 := by rw [m1]; exact Jw_fld okf_162_13 jR _
  have zaM : ZA X M1 n := ZA_13 j1 (fun kx i h _ _ => by rw [m1, si_ne (by omega)]) za
  have zaM' := zaM
  obtain ⟨⟨n8, _, zb, zs, zv, zw⟩, ⟨hx, m, m12, h1, h2, h3⟩, zk⟩ := zaM
  unfold f_Top_undo f_History_back at ex
  obtain ⟨x1, ex1, exa⟩ := bo ex
  obtain ⟨_, ex1⟩ := io_n ex1
  rcases io ex1 with ⟨g, ex1⟩ | ⟨g, ex1⟩
  · have g1 := q_lt g
    have ex1 := Option.some.inj ex1
    rw [← ex1, if_pos rfl] at exa
    have exa := Option.some.inj exa
    rw [if_pos (Int32.toInt_inj.mp (show (M1.1 162 27).toInt = (0 : Int32).toInt by omega))] at era
    have era := Option.some.inj era
    rw [← exa, ← era]
    exact ⟨rfl, zaM'⟩
  have g1 := q_nl g
  rw [if_neg (fun h => by have := congrArg Int32.toInt h; omega)] at era
  rcases io ex1 with ⟨g2, ex1⟩ | ⟨g2, ex1⟩
  · obtain ⟨N1, n1, ex1⟩ := mo ex1
    obtain ⟨_, ex1⟩ := io_n ex1
    have hm1 : (N1.1 46 2).toInt = ((m - 1 : Nat) : Int) := by rw [n1, si_eq, sub_ti h1 o1 (by omega) (by omega)]; omega
    rw [q_nat hm1] at ex1
    obtain ⟨a2, ea2, ex1⟩ := bo ex1
    obtain ⟨_, ex1⟩ := io_n ex1
    obtain ⟨x3, ex3, ex1⟩ := bo ex1
    have ex1 := Option.some.inj ex1
    rw [← ex1, if_neg (by show ¬ (1 : Int32) = 0; decide)] at exa
    obtain ⟨x4, ex4, exb⟩ := bo exa
    have exb := Option.some.inj exb
    have q47 : N1.2.2 47 (m - 1) = X.2.2 47 (m - 1) := by rw [n1]; rfl
    rw [q47] at ea2
    obtain ⟨k, k1, k2, k3⟩ := h3 (m - 1) (by omega)
    have ka : a2 = k := Option.some.inj (ea2.symm.trans k1)
    subst ka
    obtain ⟨j, hj, hqj⟩ := hx.1 (m - 1) (by omega)
    have ja : a2 = 49 + 7 * j := Option.some.inj (k1.symm.trans hqj)
    obtain ⟨c1, c2, c3⟩ := copy_i (v0 := 11) (v1 := a2) (by omega) ex3
    have fN : ∀ kx i, ¬ (kx = 46 ∧ i = 2) → N1.1 kx i = X.1 kx i := fun kx i h => by rw [n1, si_ne h]
    have f3 : ∀ kx i, (kx < 11 ∨ 18 ≤ kx) → ¬ (kx = 46 ∧ i = 2) → x3.1 kx i = X.1 kx i := fun kx i h g => by rw [c2 kx i (by omega)]; exact fN kx i g
    have q3 : x3.2 = X.2 := by rw [c3, n1]; rfl
    -- the reference
    obtain ⟨M2, m2, erb⟩ := mo era
    obtain ⟨y5, ey5, erc⟩ := bo erb
    have erc := Option.some.inj erc
    have m27 : (M2.1 162 27).toInt = ((m - 1 : Nat) : Int) := by rw [m2, si_eq, sub_ti h2 o1 (by omega) (by omega)]; omega
    have fM : ∀ kx i, ¬ (kx = 162 ∧ i = 27) → M2.1 kx i = M1.1 kx i := fun kx i h => by rw [m2, si_ne h]
    have z96 : (96 : Int32).toInt = 96 := rfl
    obtain ⟨r1, r2⟩ := row_r (c := 173) (o := 96 * (m - 1)) (.inl rfl) lb_Mod_undo_26 (by
      intro k N p r hp lp hN e
      unfold lb_Mod_undo_26 at e
      dsimp only at e
      rcases io e with ⟨g, e⟩ | ⟨g, e⟩
      · have := q_le g
        exact .inl ⟨by omega, (Option.some.inj e).symm⟩
      · have := q_ng g
        obtain ⟨_, e⟩ := io_n e
        obtain ⟨_, e⟩ := io_n e
        obtain ⟨M3, e3, e⟩ := mo e
        have i1 : ((96 : Int32) * (N.1 162 27)).toInt = ((96 * (m - 1) : Nat) : Int) := by rw [hN 162 27 (by omega), mul_ti z96 m27 (by omega) (by omega)]; omega
        have i2 : ((96 : Int32) * (N.1 162 27) + k).toInt = ((96 * (m - 1) + p : Nat) : Int) := by rw [add_ti i1 hp (by omega) (by omega)]; omega
        rw [q_nat i2, q_nat hp] at e3
        exact .inr ⟨by omega, by rw [← Option.some.inj e, e3]⟩) ey5
    have ry : ∀ kx i, kx ≠ 163 → ¬ (kx = 162 ∧ i = 27) → y5.1 kx i = M1.1 kx i := fun kx i h g => by rw [r2 kx i h]; exact fM kx i g
    have agr : AgR M1 y5 := ⟨ry 162 2 (by omega) (by omega), ry 162 3 (by omega) (by omega), ry 162 4 (by omega) (by omega), ry 162 5 (by omega) (by omega), ry 162 23 (by omega) (by omega), fun i => ry 164 i (by omega) (by omega), fun i => ry 165 i (by omega) (by omega), fun i => ry 166 i (by omega) (by omega), fun i => ry 172 i (by omega) (by omega)⟩
    have agx : AgX X x3 := ⟨f3 3 2 (by omega) (by omega), f3 3 3 (by omega) (by omega), fun i => f3 4 i (by omega) (by omega), f3 6 4 (by omega) (by omega), f3 6 5 (by omega) (by omega), fun i => f3 7 i (by omega) (by omega), fun i => f3 8 i (by omega) (by omega), f3 40 4 (by omega) (by omega), fun i => f3 41 i (by omega) (by omega), fun i => f3 35 i (by omega) (by omega), fun i => by rw [q3], fun i => by rw [q3]⟩
    have row : ∀ i, i < 96 → y5.1 163 i = M1.1 173 (96 * (m - 1) + i) := fun i hi => by rw [r1 i hi]; exact fM 173 _ (by omega)
    have jy : J y5 := by rw [← erc] at jr; exact jr
    have zs3 : ZS (scn x3 11) (y5.1 163) n := ZS_c n8 (SEq_t (scn_f (fun kx i a b => fN kx i (by omega))) c1) (fun i hi => (row i hi).symm) k2
    have zv3 : ZV y5 (y5.1 163) n := ZV_a n8 agr row k3
    obtain ⟨zq4, hf4, ag4, q4⟩ := lay_q n8 jy (ZB_a agx agr zb) zs3 zv3 ex4
    have x4f : ∀ kx i, (47 ≤ kx ∧ kx < 147) → x4.1 kx i = X.1 kx i := fun kx i h => by rw [ag4 kx i (by omega)]; exact f3 kx i (by omega) (by omega)
    have x42 : (x4.1 46 2).toInt = ((m - 1 : Nat) : Int) := by rw [ag4 46 2 (by omega), c2 46 2 (by omega)]; exact hm1
    have y27 : (y5.1 162 27).toInt = ((m - 1 : Nat) : Int) := by rw [r2 162 27 (by omega)]; exact m27
    rw [← exb, ← erc]
    refine ⟨Int32.toInt_inj.mp (x42.trans y27.symm), zq4, ⟨⟨fun i hi => by rw [q4, q3]; exact hx.1 i hi, fun i j hi hj h => by rw [q4, q3] at h; exact hx.2 i j hi hj h⟩, m - 1, by omega, x42, y27, fun u hu => ?_⟩, ?_⟩
    · obtain ⟨k', d1, d2, d3⟩ := h3 u (by omega)
      obtain ⟨j', hj', hqj'⟩ := hx.1 u (by omega)
      have ja' : k' = 49 + 7 * j' := Option.some.inj (d1.symm.trans hqj')
      exact ⟨k', by rw [q4, q3]; exact d1, ZS_c n8 (scn_f (fun kx i a b => x4f kx i (by omega))) (fun i _ => (ry 173 _ (by omega) (by omega)).symm) d2, ZV_a n8 agr (fun i _ => ry 173 _ (by omega) (by omega)) d3⟩
    · exact ZK_a n8 (by rw [ag4 46 3 (by omega)]; exact f3 46 3 (by omega) (by omega)) (fun kx i a b => x4f kx i (by omega)) (fun i => by rw [q4, q3]) agr (ry 162 48 (by omega) (by omega)) (fun i => ry 189 i (by omega) (by omega)) (fun i => ry 190 i (by omega) (by omega)) (fun i => ry 191 i (by omega) (by omega)) zk
  · have := q_ng g2; omega
end
section
/-! kept; planks laid -/
theorem keep_2 {X R : Mem} {n : Nat} {v : Int32} {x r : Int32 × Mem} (za : ZA X R n) (jr : J r.2) (ex : f_Top_keep v X = some x) (er : f_Mod_keep v R = some r) : ZA x.2 r.2 n := by
  have jR := za.1.2.1
  have z0 := o0
  have z1 := o1
  have z2 := o2
  unfold f_Mod_keep at er
  obtain ⟨M1, m1, era⟩ := mo er
  obtain ⟨y2, ey2, erb⟩ := bo era
  have h2 := some_of (sp_in v 0 1) ey2
  rw [o0, o1] at h2
  have j1 : J M1 := by rw [m1]; exact Jw_fld okf_162_13 jR _
  have zaM : ZA X M1 n := ZA_13 j1 (fun kx i h _ _ => by rw [m1, si_ne (by omega)]) za
  unfold f_Top_keep f_History_store at ex
  obtain ⟨x1, ex1, ex⟩ := bo ex
  obtain ⟨_, ex⟩ := io_n ex
  have ex := Option.some.inj ex
  obtain ⟨_, ex1⟩ := io_n ex1
  have out : ¬ (0 ≤ v.toInt ∧ v.toInt ≤ 1) → some ((0 : Int32), X) = some x1 → ZA x.2 r.2 n := by
    intro hn e
    have e := Option.some.inj e
    rcases h2 with ⟨_, h⟩ | ⟨h, _⟩
    · exact absurd h hn
    · rw [h, if_pos rfl] at erb
      have erb := Option.some.inj erb
      rw [← ex, ← e, ← erb]; exact zaM
  rcases io ex1 with ⟨g, ex1⟩ | ⟨g, ex1⟩
  · exact out (by have := q_lt g; omega) ex1
  have g1 := q_nl g
  rcases io ex1 with ⟨g, ex1⟩ | ⟨g, ex1⟩
  · have g2 := q_lt g
    rcases h2 with ⟨h, _⟩ | ⟨_, h⟩
    · rw [h, if_neg (by decide)] at erb
      obtain ⟨_, ex1⟩ := io_n ex1
      obtain ⟨t, ht⟩ := ti_ofn (v := v) (by omega)
      have t2 : t < 2 := by omega
      rw [q_nat ht] at ex1
      obtain ⟨a1, ea1, ex1⟩ := bo ex1
      obtain ⟨_, ex1⟩ := io_n ex1
      obtain ⟨X2, ex2, ex1⟩ := bo ex1
      obtain ⟨X3, x3, ex1⟩ := mo ex1
      have ex1 := Option.some.inj ex1
      obtain ⟨⟨n8, _, zb, zs, zv, zw⟩, zh, zk⟩ := zaM
      have ka : a1 = 133 + 7 * t := Option.some.inj (ea1.symm.trans (zk.1 t t2))
      obtain ⟨c1, c2, c3⟩ := copy_i (v0 := a1) (v1 := 11) (by omega) ex2
      have xf : ∀ kx i, (kx < a1 ∨ a1 + 7 ≤ kx) → ¬ (kx = 46 ∧ i = 3) → X3.1 kx i = X.1 kx i := fun kx i h g => by rw [x3, si_ne g]; exact c2 kx i h
      have x2' : X3.2 = X.2 := by rw [x3]; show X2.2 = _; exact c3
      have b3 : ∀ d, bt (X3.1 46 3) d = (bt (X.1 46 3) d || decide (d = t)) := fun d => by rw [x3, si_eq, c2 46 3 (by omega), bt_b1 _ ht (by omega)]
      obtain ⟨_, erb⟩ := io_n erb
      obtain ⟨M3, m3, erc⟩ := mo erb
      obtain ⟨_, erc⟩ := io_n erc
      obtain ⟨M4, m4, erd⟩ := mo erc
      obtain ⟨y5, ey5, ere⟩ := bo erd
      have ere := Option.some.inj ere
      rw [q_nat ht, narb1] at m3
      rw [q_nat ht] at m4
      have z96 : (96 : Int32).toInt = 96 := rfl
      have w : ((96 : Int32) * v).toInt = ((96 * t : Nat) : Int) := by rw [mul_ti z96 ht (by omega) (by omega)]; omega
      obtain ⟨l1, l2, _⟩ := lay_r w (by omega) (by omega) ey5
      have f4 : ∀ kx i, ¬ (kx = 190 ∧ i = t) → ¬ (kx = 191 ∧ i = t) → M4.1 kx i = M1.1 kx i := fun kx i h g => by rw [m4, si_ne g, m3, si_ne h]
      have rf' : ∀ kx i, ¬ (kx = 190 ∧ i = t) → ¬ (kx = 191 ∧ i = t) → ¬ (kx = 189 ∧ 96 * t ≤ i ∧ i < 96 * t + 96) → y5.1 kx i = M1.1 kx i := fun kx i h g k => by rw [l2 kx i k]; exact f4 kx i h g
      have agr : AgR M1 y5 := ⟨rf' 162 2 (by omega) (by omega) (by omega), rf' 162 3 (by omega) (by omega) (by omega), rf' 162 4 (by omega) (by omega) (by omega), rf' 162 5 (by omega) (by omega) (by omega), rf' 162 23 (by omega) (by omega) (by omega), fun i => rf' 164 i (by omega) (by omega) (by omega), fun i => rf' 165 i (by omega) (by omega) (by omega), fun i => rf' 166 i (by omega) (by omega) (by omega), fun i => rf' 172 i (by omega) (by omega) (by omega)⟩
      have agx : AgX X X3 := ⟨xf 3 2 (by omega) (by omega), xf 3 3 (by omega) (by omega), fun i => xf 4 i (by omega) (by omega), xf 6 4 (by omega) (by omega), xf 6 5 (by omega) (by omega), fun i => xf 7 i (by omega) (by omega), fun i => xf 8 i (by omega) (by omega), xf 40 4 (by omega) (by omega), fun i => xf 41 i (by omega) (by omega), fun i => xf 35 i (by omega) (by omega), fun i => by rw [x2'], fun i => by rw [x2']⟩
      have r163 : ∀ i, y5.1 163 i = M1.1 163 i := fun i => rf' 163 i (by omega) (by omega) (by omega)
      have jy : J y5 := by rw [← ere] at jr; exact jr
      rw [← ex, ← ex1, ← ere]
      show ZA X3 y5 n
      refine ⟨⟨n8, jy, ZB_a agx agr zb, ZS_c n8 (scn_f (fun kx i a b => xf kx i (by omega) (by omega))) (fun i _ => (r163 i).symm) zs, ZV_a n8 agr (fun i _ => r163 i) zv, ZW_a agx agr (plk_c (fun i _ _ => r163 i) zv.2.1.2) zw⟩, ZH_a n8 (xf 46 2 (by omega) (by omega)) (fun kx i a b => xf kx i (by omega) (by omega)) (fun i => by rw [x2']) agr (rf' 162 27 (by omega) (by omega) (by omega)) (fun i => rf' 173 i (by omega) (by omega) (by omega)) zh, fun s hs => by rw [x2']; exact zk.1 s hs, fun s hs => ?_⟩
      rw [b3 s]
      by_cases q : s = t
      · subst q
        rw [decide_eq_true rfl, Bool.or_true]
        have y190 : y5.1 190 s = 1 := by rw [l2 190 s (by omega), m4, si_ne (by omega), m3, si_eq]
        have y191 : y5.1 191 s = y5.1 162 48 := by rw [l2 191 s (by omega), l2 162 48 (by omega), m4, si_eq, si_ne (by omega)]
        refine ⟨⟨fun _ => ⟨by rw [y190, o1]; omega, y191⟩, fun _ => rfl⟩, fun _ => ⟨?_, ?_⟩⟩
        · have s3 : SEq (scn X 11) (scn X3 (133 + 7 * s)) := by
            rw [← ka]
            exact SEq_t c1 (scn_f (fun kx i a b => by rw [x3, si_ne (by omega)]))
          exact ZS_c n8 s3 (fun i hi => by rw [l1 i hi]; exact (f4 163 i (by omega) (by omega)).symm) zs
        · exact ZV_a n8 agr (fun i hi => by rw [l1 i hi]; exact f4 163 i (by omega) (by omega)) zv
      · rw [decide_eq_false q, Bool.or_false, rf' 190 s (by omega) (by omega) (by omega), rf' 191 s (by omega) (by omega) (by omega), rf' 162 48 (by omega) (by omega) (by omega)]
        obtain ⟨u1, u2⟩ := zk.2 s hs
        refine ⟨u1, fun hb => ?_⟩
        obtain ⟨w1, w2⟩ := u2 hb
        exact ⟨ZS_c n8 (scn_f (fun kx i a b => xf kx i (by omega) (by omega))) (fun i hi => (rf' 189 _ (by omega) (by omega) (by omega)).symm) w1, ZV_a n8 agr (fun i hi => rf' 189 _ (by omega) (by omega) (by omega)) w2⟩
    · exact absurd (⟨by omega, by omega⟩ : 0 ≤ v.toInt ∧ v.toInt ≤ 1) h
  · exact out (by have := q_nl g; omega) ex1
theorem again_2 {X R : Mem} {n : Nat} {v : Int32} {x r : Int32 × Mem} (za : ZA X R n) (jr : J r.2) (ex : f_Top_again v X = some x) (er : f_Mod_again v R = some r) : x.1 = r.1 ∧ ZA x.2 r.2 n := by
  have jR := za.1.2.1
  have z0 := o0
  have z1 := o1
  have z2 := o2
  unfold f_Mod_again at er
  obtain ⟨M1, m1, era⟩ := mo er
  obtain ⟨y2, ey2, erb⟩ := bo era
  have h2 := some_of (sp_in v 0 1) ey2
  rw [o0, o1] at h2
  have j1 : J M1 := by rw [m1]; exact Jw_fld okf_162_13 jR _
  have zaM : ZA X M1 n := ZA_13 j1 (fun kx i h _ _ => by rw [m1, si_ne (by omega)]) za
  unfold f_Top_again f_History_restore at ex
  obtain ⟨x1, ex1, exa⟩ := bo ex
  obtain ⟨_, ex1⟩ := io_n ex1
  have no : some ((0 : Int32), X) = some x1 → some ((0 : Int32), M1) = some r → x.1 = r.1 ∧ ZA x.2 r.2 n := by
    intro e h
    have e := Option.some.inj e
    rw [← e, if_pos rfl] at exa
    have exa := Option.some.inj exa
    have h := Option.some.inj h
    rw [← exa, ← h]; exact ⟨rfl, zaM⟩
  have out : ¬ (0 ≤ v.toInt ∧ v.toInt ≤ 1) → some ((0 : Int32), X) = some x1 → x.1 = r.1 ∧ ZA x.2 r.2 n := by
    intro hn e
    rcases h2 with ⟨_, h⟩ | ⟨h, _⟩
    · exact absurd h hn
    · rw [h, if_pos rfl] at erb
      exact no e erb
  rcases io ex1 with ⟨g, ex1⟩ | ⟨g, ex1⟩
  · exact out (by have := q_lt g; omega) ex1
  have g1 := q_nl g
  rcases io ex1 with ⟨g, ex1⟩ | ⟨g, ex1⟩
  · exact out (by have := q_le g; omega) ex1
  have g2 := q_ng g
  rcases h2 with ⟨h, _⟩ | ⟨_, h⟩
  · rw [h, if_neg (by decide)] at erb
    obtain ⟨t, ht⟩ := ti_ofn (v := v) (by omega)
    have t2 : t < 2 := by omega
    have zaM' := zaM
    obtain ⟨⟨n8, _, zb, zs, zv, zw⟩, zh, zk⟩ := zaM
    obtain ⟨u1, u2⟩ := zk.2 t t2
    rw [bt_shr ht (by omega)] at ex1
    obtain ⟨_, erb⟩ := io_n erb
    rw [q_nat ht] at erb
    cases hb : bt (X.1 46 3) t with
    | false =>
      rw [hb, if_neg (show ¬ (false = true) by decide), if_pos rfl] at ex1
      refine no ex1 ?_
      rcases io erb with ⟨q, erb⟩ | ⟨q, erb⟩
      · exact erb
      · obtain ⟨_, erb⟩ := io_n erb
        rcases io erb with ⟨q2, erb⟩ | ⟨q2, erb⟩
        · have : bt (X.1 46 3) t = true := u1.mpr ⟨fun h => q (Int32.toInt_inj.mp (by rw [h]; rfl)), q2⟩
          rw [hb] at this; cases this
        · exact erb
    | true =>
      rw [hb, if_pos rfl, if_neg (by decide)] at ex1
      obtain ⟨k1, k2⟩ := u1.mp hb
      obtain ⟨w1, w2⟩ := u2 hb
      obtain ⟨_, ex1⟩ := io_n ex1
      rw [q_nat ht] at ex1
      obtain ⟨a1, ea1, ex1⟩ := bo ex1
      obtain ⟨_, ex1⟩ := io_n ex1
      obtain ⟨X2, ex2, ex1⟩ := bo ex1
      have ex1 := Option.some.inj ex1
      rw [← ex1, if_neg (by show ¬ (1 : Int32) = 0; decide)] at exa
      obtain ⟨X3, ex3, exb⟩ := bo exa
      obtain ⟨x4, ex4, exc⟩ := bo exb
      have exc := Option.some.inj exc
      unfold f_History_forget at ex3
      obtain ⟨N3, n3, ex3⟩ := mo ex3
      have ex3 := Option.some.inj ex3
      subst ex3
      have ka : a1 = 133 + 7 * t := Option.some.inj (ea1.symm.trans (zk.1 t t2))
      obtain ⟨c1, c2, c3⟩ := copy_i (v0 := 11) (v1 := a1) (by omega) ex2
      have f3 : ∀ kx i, (kx < 11 ∨ 18 ≤ kx) → ¬ (kx = 46 ∧ i = 2) → N3.1 kx i = X.1 kx i := fun kx i h g => by rw [n3, si_ne g]; exact c2 kx i (by omega)
      have q3 : N3.2 = X.2 := by rw [n3]; show X2.2 = _; exact c3
      rw [if_neg (fun h => k1 (by rw [h]; rfl))] at erb
      obtain ⟨_, erb⟩ := io_n erb
      rw [if_pos k2] at erb
      obtain ⟨y5, ey5, erc⟩ := bo erb
      obtain ⟨M6, m6, erd⟩ := mo erc
      have erd := Option.some.inj erd
      have z96 : (96 : Int32).toInt = 96 := rfl
      obtain ⟨r1, r2⟩ := row_r (c := 189) (o := 96 * t) (.inr rfl) (lb_Mod_again_40 v) (by
        intro k N p r hp lp hN e
        unfold lb_Mod_again_40 at e
        dsimp only at e
        rcases io e with ⟨g, e⟩ | ⟨g, e⟩
        · have := q_le g
          exact .inl ⟨by omega, (Option.some.inj e).symm⟩
        · have := q_ng g
          obtain ⟨_, e⟩ := io_n e
          obtain ⟨_, e⟩ := io_n e
          obtain ⟨M3, e3, e⟩ := mo e
          have i1 : ((96 : Int32) * v).toInt = ((96 * t : Nat) : Int) := by rw [mul_ti z96 ht (by omega) (by omega)]; omega
          have i2 : ((96 : Int32) * v + k).toInt = ((96 * t + p : Nat) : Int) := by rw [add_ti i1 hp (by omega) (by omega)]; omega
          rw [q_nat i2, q_nat hp] at e3
          exact .inr ⟨by omega, by rw [← Option.some.inj e, e3]⟩) ey5
      have ry : ∀ kx i, kx ≠ 163 → ¬ (kx = 162 ∧ i = 27) → M6.1 kx i = M1.1 kx i := fun kx i h g => by rw [m6, si_ne g]; exact r2 kx i h
      have agr : AgR M1 M6 := ⟨ry 162 2 (by omega) (by omega), ry 162 3 (by omega) (by omega), ry 162 4 (by omega) (by omega), ry 162 5 (by omega) (by omega), ry 162 23 (by omega) (by omega), fun i => ry 164 i (by omega) (by omega), fun i => ry 165 i (by omega) (by omega), fun i => ry 166 i (by omega) (by omega), fun i => ry 172 i (by omega) (by omega)⟩
      have agx : AgX X N3 := ⟨f3 3 2 (by omega) (by omega), f3 3 3 (by omega) (by omega), fun i => f3 4 i (by omega) (by omega), f3 6 4 (by omega) (by omega), f3 6 5 (by omega) (by omega), fun i => f3 7 i (by omega) (by omega), fun i => f3 8 i (by omega) (by omega), f3 40 4 (by omega) (by omega), fun i => f3 41 i (by omega) (by omega), fun i => f3 35 i (by omega) (by omega), fun i => by rw [q3], fun i => by rw [q3]⟩
      have row : ∀ i, i < 96 → M6.1 163 i = M1.1 189 (96 * t + i) := fun i hi => by rw [m6, si_ne (by omega)]; exact r1 i hi
      have jy : J M6 := by rw [← erd] at jr; exact jr
      have zs3 : ZS (scn N3 11) (M6.1 163) n := by
        rw [← ka] at w1
        exact ZS_c n8 (SEq_t c1 (scn_f (fun kx i a b => by rw [n3, si_ne (by omega)]))) (fun i hi => (row i hi).symm) w1
      have zv3 : ZV M6 (M6.1 163) n := ZV_a n8 agr row w2
      obtain ⟨zq4, hf4, ag4, q4⟩ := lay_q n8 jy (ZB_a agx agr zb) zs3 zv3 ex4
      have x4f : ∀ kx i, (47 ≤ kx ∧ kx < 147) → x4.1 kx i = X.1 kx i := fun kx i h => by rw [ag4 kx i (by omega)]; exact f3 kx i (by omega) (by omega)
      obtain ⟨hx, _⟩ := zh
      rw [← exc, ← erd]
      refine ⟨rfl, zq4, ⟨⟨fun i hi => by rw [q4, q3]; exact hx.1 i hi, fun i j hi hj h => by rw [q4, q3] at h; exact hx.2 i j hi hj h⟩, 0, by omega, ?_, ?_, fun u hu => absurd hu (by omega)⟩, ?_⟩
      · show (x4.1 46 2).toInt = _
        rw [ag4 46 2 (by omega), n3, si_eq]; rfl
      · show (M6.1 162 27).toInt = _
        rw [m6, si_eq]; rfl
      · exact ZK_a n8 (by show x4.1 46 3 = _; rw [ag4 46 3 (by omega)]; exact f3 46 3 (by omega) (by omega)) (fun kx i a b => x4f kx i (by omega)) (fun i => by show x4.2.2 48 i = _; rw [q4, q3]) agr (ry 162 48 (by omega) (by omega)) (fun i => ry 189 i (by omega) (by omega)) (fun i => ry 190 i (by omega) (by omega)) (fun i => ry 191 i (by omega) (by omega)) zk
  · exact absurd (⟨by omega, by omega⟩ : 0 ≤ v.toInt ∧ v.toInt ≤ 1) h
/-! planks -/
theorem betweenC {X R : Mem} (z : ZG X R) (jR : J R) {a b x : Int32} (ha : 0 ≤ a.toInt) (ha2 : a.toInt < xw R * xh R) (hb : 0 ≤ b.toInt) (hb2 : b.toInt < xw R * xh R) (e : f_Ground_between a b X = some x) : x.toInt = btw (xw R) (xh R) a.toInt b.toInt := by
  have hw := aw jR
  have hh := ah jR
  unfold f_Ground_between at e
  obtain ⟨x1, e1, e⟩ := bo e
  obtain ⟨x2, e2, e⟩ := bo e
  obtain rfl := Option.some.inj e
  have q := besC z jR e2
  rcases acrossC z jR ha ha2 hb e1 with ⟨s, s4, hs, hbb⟩ | ⟨hs, hbb⟩
  · rw [q.1 ha ha2 (by omega) (by omega), hs]
    have := (bb_i hw hh ha ha2 (s := s) (by omega) (by omega)).1
    rw [hbb] at this; exact this.symm
  · rw [q.2 (by omega)]
    by_cases g : btw (xw R) (xh R) a.toInt b.toInt = -1
    · exact g.symm
    · obtain ⟨s, s0, s3, hsb⟩ := bt_i hw hh ha ha2 hb hb2 g
      obtain ⟨s', rfl⟩ : ∃ s' : Nat, s = (s' : Int) := ⟨s.toNat, by omega⟩
      exact absurd hsb (hbb s' (by omega))
theorem abs_i {d : Int32} {z : Int} (hd : d.toInt = z) (hz : -100 ≤ z ∧ z ≤ 100) : (if 0 ≤ d then d else 0 - d).toInt = (z.natAbs : Int) := by
  have z0 := o0
  by_cases g : 0 ≤ d
  · have := q_le g
    rw [if_pos g, hd]; omega
  · have := q_ng g
    rw [if_neg g, sub_ti o0 hd (by omega) (by omega)]; omega
theorem betweenR {R : Mem} (jR : J R) {a b x : Int32} (ha : 0 ≤ a.toInt) (ha2 : a.toInt < xw R * xh R) (hb : 0 ≤ b.toInt) (hb2 : b.toInt < xw R * xh R) (e : f_Mod_between a b R = some x) : x.toInt = btw (xw R) (xh R) a.toInt b.toInt := by
  have hw := aw jR
  have hh := ah jR
  have wh := awh jR
  have z0 := o0
  have z2 := o2
  have wi : (R.1 162 2).toInt = xw R := rfl
  have a1 : (a - a / (R.1 162 2) * (R.1 162 2)).toInt = a.toInt % xw R := rem_ti rfl wi ha (by omega)
  have b1 : (b - b / (R.1 162 2) * (R.1 162 2)).toInt = b.toInt % xw R := rem_ti rfl wi hb (by omega)
  have a2 : (a / (R.1 162 2)).toInt = a.toInt / xw R := div_ti rfl wi ha (by omega)
  have b2 : (b / (R.1 162 2)).toInt = b.toInt / xw R := div_ti rfl wi hb (by omega)
  have ra := Int.emod_nonneg a.toInt (show xw R ≠ 0 by omega)
  have rb := Int.emod_nonneg b.toInt (show xw R ≠ 0 by omega)
  have ra' := Int.emod_lt_of_pos a.toInt (show 0 < xw R by omega)
  have rb' := Int.emod_lt_of_pos b.toInt (show 0 < xw R by omega)
  have da := Int.ediv_nonneg ha (show 0 ≤ xw R by omega)
  have db := Int.ediv_nonneg hb (show 0 ≤ xw R by omega)
  have da' : a.toInt / xw R ≤ a.toInt := Int.ediv_le_self _ ha
  have db' : b.toInt / xw R ≤ b.toInt := Int.ediv_le_self _ hb
  have X1 := abs_i (sub_ti a1 b1 (by omega) (by omega)) (by omega)
  have Y1 := abs_i (sub_ti a2 b2 (by omega) (by omega)) (by omega)
  have s1 : (a + b).toInt = a.toInt + b.toInt := add_ti rfl rfl (by omega) (by omega)
  have mid : ((a + b) / (2 : Int32)).toInt = (a.toInt + b.toInt) / 2 := div_ti s1 o2 (by omega) (by omega)
  unfold f_Mod_between at e
  obtain ⟨_, e⟩ := io_m e
  obtain ⟨_, e⟩ := io_m e
  obtain ⟨_, e⟩ := io_m e
  obtain ⟨_, e⟩ := io_m e
  unfold btw
  have j45 : ∀ {p q : Int32}, p.toInt = ((a.toInt % xw R - b.toInt % xw R).natAbs : Int) → q.toInt = ((a.toInt / xw R - b.toInt / xw R).natAbs : Int) → ¬ ((a.toInt % xw R - b.toInt % xw R).natAbs = 2 ∧ (a.toInt / xw R - b.toInt / xw R).natAbs = 0) → j_Mod_between_45 a b p q R = some x → x.toInt = if ((a.toInt % xw R - b.toInt % xw R).natAbs = 2 ∧ (a.toInt / xw R - b.toInt / xw R).natAbs = 0) ∨ ((a.toInt % xw R - b.toInt % xw R).natAbs = 0 ∧ (a.toInt / xw R - b.toInt / xw R).natAbs = 2) then (a.toInt + b.toInt) / 2 else -1 := by
    intro p q hp hq hn e
    unfold j_Mod_between_45 at e
    rcases io e with ⟨c, e⟩ | ⟨c, e⟩
    · have c1 := q_eq c
      rcases io e with ⟨c, e⟩ | ⟨c, e⟩
      · have c2 := q_eq c
        obtain rfl := Option.some.inj e
        rw [if_pos (.inr ⟨by omega, by omega⟩)]; exact mid
      · have c2 := q_ne c
        obtain rfl := Option.some.inj e
        rw [if_neg (by rintro (h | h); exact hn h; omega)]; rfl
    · have c1 := q_ne c
      obtain rfl := Option.some.inj e
      rw [if_neg (by rintro (h | h); exact hn h; omega)]; rfl
  rcases io e with ⟨c, e⟩ | ⟨c, e⟩
  · have c1 := q_eq c
    rcases io e with ⟨c, e⟩ | ⟨c, e⟩
    · have c2 := q_eq c
      obtain rfl := Option.some.inj e
      rw [if_pos (.inl ⟨by omega, by omega⟩)]; exact mid
    · have c2 := q_ne c
      exact j45 X1 Y1 (by omega) e
  · have c1 := q_ne c
    exact j45 X1 Y1 (by omega) e
end
