/-! a minute: both sides -/
theorem ZV_b {R S : Mem} {g g' : Nat → Int32} {n : Nat} (n8 : n ≤ 8) (hr : AgR R S) (hg : ∀ i, (i < 16 ∨ (80 ≤ i ∧ i < 95 ∧ i ≠ 93)) → g' i = g i) (h : ZV R g n) : ZV S g' n := by
  have w : xw S = xw R := congrArg Int32.toInt hr.1
  have hh : xh S = xh R := congrArg Int32.toInt hr.2.1
  obtain ⟨h1, h2, h3, h4⟩ := h
  refine ⟨fun p hp => ?_, by rw [hg 92 (by omega)]; exact h2, by rw [hg 94 (by omega)]; exact h3, fun j hj => ?_⟩
  · rw [hg p (by omega), hg (8 + p) (by omega), hr.2.2.2.1, hr.2.2.2.2.2.2.2.1 p]
    obtain ⟨q1, q2⟩ := h1 p hp
    exact ⟨⟨q1.1, q1.2.1, (onN_a hr).mpr q1.2.2⟩, q2⟩
  · rw [hg 92 (by omega)] at hj
    rw [hg (80 + 2 * j) (by omega), hg (81 + 2 * j) (by omega), w, hh]
    obtain ⟨q1, q2, s, q3, q4, q5⟩ := h4 j hj
    exact ⟨(onN_a hr).mpr q1, (onN_a hr).mpr q2, s, q3, q4, fun h => q5 ((onN_a hr).mp h)⟩
theorem PG_t {X R x S y T : Mem} {k a n : Nat} (h : PG X R k a n x S) (g : PG x S k a n y T) : PG X R k a n y T := by
  obtain ⟨a1, a2, a3, a4, a5, a6, a7, a8⟩ := h
  obtain ⟨b1, b2, b3, b4, b5, b6, b7, b8⟩ := g
  exact ⟨AgX_t a1 b1, AgR_t a2 b2, b3, fun i hi => (b4 i hi).trans (a4 i hi), b5, fun j hj => (b6 j hj).trans (a6 j hj), b7.trans a7, fun j i h1 h2 => (b8 j i h1 h2).trans (a8 j i h1 h2)⟩
theorem loopB {X R x r : Mem} {k a n : Nat} (hk : isK k) (ha : St a) (jR : J R) (n8 : n ≤ 8) (zb : ZB X R n) (zs : ZS (scn X k) (R.1 a) n) (zv : ZV R (R.1 a) n) (st : X.1 45 2 = R.1 162 31) (ex : iter (lb_Clock_pass_54 k) FU ((0 : Int32), X) = some x) (er : iter (lb_Mod_goMinute_114 a) FU ((0 : Int32), R) = some r) : J r ∧ PG X R k a n x r := by
  refine it_2 (I := fun (s t : Int32 × Mem) => s.1 = t.1 ∧ (∃ i : Nat, s.1.toInt = (i : Int) ∧ i ≤ n) ∧ J t.2 ∧ PG X R k a n s.2 t.2) (Q := fun x r => J r ∧ PG X R k a n x r) ?_ ex er ⟨rfl, ⟨0, rfl, by omega⟩, jR, AgX_r, AgR_r, zs, fun _ _ => rfl, st, fun _ _ => rfl, rfl, fun _ _ _ _ => rfl⟩
  rintro ⟨v, N⟩ ⟨v', T⟩ A B ⟨hv, ⟨i, hi, li⟩, jT, pg⟩ eA eB
  dsimp only at hv hi jT pg
  subst hv
  obtain ⟨g1, g2, g3, g4, g5, g6, g7, g8⟩ := pg
  have zb' := ZB_a g1 g2 zb
  have hn := zb'.2.1.1
  unfold lb_Clock_pass_54 at eA
  unfold lb_Mod_goMinute_114 at eB
  dsimp only at eA eB
  rw [zb'.2.1.2.1] at eA
  rcases io eA with ⟨c, eA⟩ | ⟨c, eA⟩
  · rw [if_pos c] at eB
    obtain rfl := Option.some.inj eA
    obtain rfl := Option.some.inj eB
    exact .inr ⟨N, T, rfl, rfl, jT, g1, g2, g3, g4, g5, g6, g7, g8⟩
  · rw [if_neg c] at eB
    have c1 := q_ng c
    obtain ⟨x8, e8, eA⟩ := bo eA
    obtain ⟨x23, e23, eB⟩ := bo eB
    obtain rfl := Option.some.inj eA
    obtain rfl := Option.some.inj eB
    have zv' : ZV T (T.1 a) n := ZV_b n8 g2 (fun i hi => g4 i (by omega)) zv
    have G := greet_2 hk ha jT n8 zb' g3 zv' g5 hi (by omega) e8 e23
    obtain ⟨j23, _⟩ := some_of (sl_Mod_goMinute_124 a v 0 T T ha (by omega) jT (fun _ _ _ => rfl) (by decide) (by decide)) e23
    exact .inl ⟨_, _, rfl, rfl, rfl, ⟨i + 1, add_ti hi o1 (by omega) (by omega), by omega⟩, j23, PG_t ⟨g1, g2, g3, g4, g5, g6, g7, g8⟩ G⟩
/-! to whom the news goes -/
theorem hear_c {X R : Mem} {k n p : Nat} {v x : Int32} (hk : isK k) (jR : J R) (n8 : n ≤ 8) (zg : ZG X R) (zc : ZC X R n) (hp : v.toInt = (p : Int)) (pn : p < n) (c0 : 0 ≤ (X.1 (k + 1) p).toInt) (cb : (X.1 (k + 1) p).toInt < xw R * xh R) (e : f_Clock_hearers v k X = some x) : ∀ q, bt x q = true ↔ (q < n ∧ ((X.1 (k + 1) q = X.1 (k + 1) p ∧ X.1 (k + 2) q = X.1 (k + 2) p) ∨ (stN R (X.1 (k + 1) p).toInt ∧ X.1 (k + 1) q = X.1 (k + 1) p ∧ X.1 (k + 2) q = 1 - X.1 (k + 2) p) ∨ (X.1 (k + 2) p = 1 ∧ X.1 (k + 2) q = 0 ∧ ∃ s : Nat, s < 4 ∧ (X.1 (k + 1) q).toInt = bes (xw R) (xh R) (X.1 (k + 1) p).toInt s))) := by
  have r0 : rf k 0 = k + 1 := scn_rf (isK_kd hk) (by omega)
  have r1 : rf k 1 = k + 2 := scn_rf (isK_kd hk) (by omega)
  have hm : (X.1 6 4).toInt = (n : Int) := by rw [zc.2.1]; exact zc.1
  have z0 := o0
  have y4 := o4
  unfold f_Clock_hearers at e
  obtain ⟨_, e⟩ := io_n e
  obtain ⟨_, e⟩ := io_n e
  obtain ⟨_, e⟩ := io_n e
  rw [r0, r1, q_nat hp] at e
  obtain ⟨x1, e1, e⟩ := bo e
  have st1 := standing_i hm n8 e1
  obtain ⟨x2, e2, e⟩ := bo e
  have sc := stairC zg jR e2
  -- the sides
  have last : ∀ w : Int32, j_Clock_hearers_59 k (X.1 (k + 1) p) (X.1 (k + 2) p) w X = some x → ∀ q, bt x q = true ↔ (bt w q = true ∨ (q < n ∧ X.1 (k + 2) p = 1 ∧ X.1 (k + 2) q = 0 ∧ ∃ s : Nat, s < 4 ∧ (X.1 (k + 1) q).toInt = bes (xw R) (xh R) (X.1 (k + 1) p).toInt s)) := by
    intro w e
    unfold j_Clock_hearers_59 at e
    rcases io e with ⟨c, e⟩ | ⟨c, e⟩
    · obtain ⟨x6, e6, e⟩ := bo e
      obtain rfl := Option.some.inj e
      have key := it_r (I := fun s : Int32 × Int32 => ∃ i : Nat, i ≤ 4 ∧ s.2.toInt = (i : Int) ∧ ∀ q, bt s.1 q = true ↔ (bt w q = true ∨ (q < n ∧ X.1 (k + 2) q = 0 ∧ ∃ t : Nat, t < i ∧ (X.1 (k + 1) q).toInt = bes (xw R) (xh R) (X.1 (k + 1) p).toInt t))) (Q := fun x : Int32 => ∀ q, bt x q = true ↔ (bt w q = true ∨ (q < n ∧ X.1 (k + 2) q = 0 ∧ ∃ t : Nat, t < 4 ∧ (X.1 (k + 1) q).toInt = bes (xw R) (xh R) (X.1 (k + 1) p).toInt t))) (by
        rintro ⟨u, b⟩ r ⟨i, li, hi, hu⟩ e
        dsimp only at hi hu
        unfold lb_Clock_hearers_68 at e
        dsimp only at e
        rcases io e with ⟨g, e⟩ | ⟨g, e⟩
        · have := q_le g
          obtain rfl := Option.some.inj e
          have : i = 4 := by omega
          subst this; exact hu
        have g1 := q_ng g
        obtain ⟨x3, e3, e⟩ := bo e
        obtain ⟨x4, e4, e⟩ := bo e
        obtain rfl := Option.some.inj e
        have b3 := (besC zg jR e3).1 c0 cb (by omega) (by omega)
        have st4 := standing_i hm n8 e4
        refine ⟨i + 1, by omega, add_ti hi o1 (by omega) (by omega), fun q => ?_⟩
        show bt (u ||| x4) q = true ↔ _
        rw [bt_or, Bool.or_eq_true, hu q, st4 q, decide_eq_true_eq]
        rw [hi] at b3
        constructor
        · rintro ((h | ⟨h1, h2, t, h3, h4⟩) | ⟨h1, h2, h3⟩)
          · exact .inl h
          · exact .inr ⟨h1, h2, t, by omega, h4⟩
          · exact .inr ⟨h1, h3, i, by omega, by rw [h2]; exact b3⟩
        · rintro (h | ⟨h1, h2, t, h3, h4⟩)
          · exact .inl (.inl h)
          · rcases Nat.lt_or_ge t i with g2 | g2
            · exact .inl (.inr ⟨h1, h2, t, g2, h4⟩)
            · have : t = i := by omega
              subst this
              exact .inr ⟨h1, Int32.toInt_inj.mp (by rw [h4, b3]), h2⟩) e6 ⟨0, by omega, rfl, fun q => ⟨.inl, fun h => h.elim id (fun ⟨_, _, t, h, _⟩ => absurd h (by omega))⟩⟩
      intro q
      rw [key q]
      constructor
      · rintro (h | ⟨h1, h2, t, h3, h4⟩)
        · exact .inl h
        · exact .inr ⟨h1, c, h2, t, h3, h4⟩
      · rintro (h | ⟨h1, _, h2, t, h3, h4⟩)
        · exact .inl h
        · exact .inr ⟨h1, h2, t, h3, h4⟩
    · obtain rfl := Option.some.inj e
      intro q
      constructor
      · exact .inl
      · rintro (h | ⟨_, h, _⟩)
        · exact h
        · exact absurd h c
  intro q
  rcases io e with ⟨c, e⟩ | ⟨c, e⟩
  · have ns : ¬ stN R (X.1 (k + 1) p).toInt := by
      rcases sc with ⟨h, _⟩ | ⟨_, h⟩
      · rw [h] at c; cases c
      · exact h
    rw [last _ e q, st1 q, decide_eq_true_eq]
    constructor
    · rintro (⟨h1, h2, h3⟩ | ⟨h1, h2, h3, h4⟩)
      · exact ⟨h1, .inl ⟨h2, h3⟩⟩
      · exact ⟨h1, .inr (.inr ⟨h2, h3, h4⟩)⟩
    · rintro ⟨h1, ⟨h2, h3⟩ | ⟨h2, _⟩ | ⟨h2, h3, h4⟩⟩
      · exact .inl ⟨h1, h2, h3⟩
      · exact absurd h2 ns
      · exact .inr ⟨h1, h2, h3, h4⟩
  · have ys : stN R (X.1 (k + 1) p).toInt := by
      rcases sc with ⟨_, h⟩ | ⟨h, _⟩
      · exact h
      · exact absurd h c
    obtain ⟨x8, e8, e⟩ := bo e
    have st8 := standing_i hm n8 e8
    rw [last _ e q, bt_or, Bool.or_eq_true, st1 q, st8 q, decide_eq_true_eq, decide_eq_true_eq]
    constructor
    · rintro ((⟨h1, h2, h3⟩ | ⟨h1, h2, h3⟩) | ⟨h1, h2, h3, h4⟩)
      · exact ⟨h1, .inl ⟨h2, h3⟩⟩
      · exact ⟨h1, .inr (.inl ⟨ys, h2, h3⟩)⟩
      · exact ⟨h1, .inr (.inr ⟨h2, h3, h4⟩)⟩
    · rintro ⟨h1, ⟨h2, h3⟩ | ⟨_, h2, h3⟩ | ⟨h2, h3, h4⟩⟩
      · exact .inl (.inl ⟨h1, h2, h3⟩)
      · exact .inl (.inr ⟨h1, h2, h3⟩)
      · exact .inr ⟨h1, h2, h3, h4⟩
theorem hear_r {R : Mem} {a n p c : Nat} {v x : Int32} (ha : St a) (jR : J R) (n8 : n ≤ 8) (hn : (R.1 162 4).toInt = (n : Int)) (hp : v.toInt = (p : Int)) (pn : p < n) (g0 : 0 ≤ (R.1 a p).toInt ∧ (R.1 a p).toInt ≤ 71) (hc : (R.1 a p).toInt % 36 = (c : Int)) (e : f_Mod_hears a v R = some x) : ∀ q, bt x q = true ↔ (q < n ∧ (R.1 a q = R.1 a p ∨ ((R.1 164 c).toInt = 3 ∧ ((R.1 a q).toInt = (c : Int) ∨ (R.1 a q).toInt = 36 + (c : Int))) ∨ ((R.1 a p).toInt / 36 ≠ 0 ∧ ∃ s : Nat, s < 4 ∧ bes (xw R) (xh R) c s ≠ -1 ∧ (R.1 a q).toInt = bes (xw R) (xh R) c s))) := by
  have y4 := o4
  have z36 : (36 : Int32).toInt = 36 := rfl
  unfold f_Mod_hears at e
  obtain ⟨_, e⟩ := io_n e
  obtain ⟨_, e⟩ := io_n e
  rw [q_nat hp] at e
  obtain ⟨x1, e1, e⟩ := bo e
  have o1' := onPlace_i hn n8 e1
  obtain ⟨_, e⟩ := io_n e
  obtain ⟨x2, e2, e⟩ := bo e
  have h2 : x2.toInt = (c : Int) := by rw [(place_i g0.1 g0.2).1 e2]; exact hc
  obtain ⟨_, e⟩ := io_n e
  rw [q_nat h2] at e
  have last : ∀ w : Int32, j_Mod_hears_50 a v w x2 R = some x → ∀ q, bt x q = true ↔ (bt w q = true ∨ (q < n ∧ (R.1 a p).toInt / 36 ≠ 0 ∧ ∃ s : Nat, s < 4 ∧ bes (xw R) (xh R) c s ≠ -1 ∧ (R.1 a q).toInt = bes (xw R) (xh R) c s)) := by
    intro w e
    unfold j_Mod_hears_50 at e
    obtain ⟨_, e⟩ := io_n e
    rw [q_nat hp] at e
    obtain ⟨x3, e3, e⟩ := bo e
    have h3 := (place_i g0.1 g0.2).2 e3
    rcases io e with ⟨d, e⟩ | ⟨d, e⟩
    · have := q_eq d
      rw [o0] at this
      obtain rfl := Option.some.inj e
      intro q
      exact ⟨.inl, fun h => h.elim id (fun ⟨_, h, _⟩ => absurd (by omega) h)⟩
    · have d1 := q_ne d
      rw [o0] at d1
      obtain ⟨x9, e9, e⟩ := bo e
      obtain rfl := Option.some.inj e
      have key := it_r (I := fun s : Int32 × Int32 => ∃ i : Nat, i ≤ 4 ∧ s.2.toInt = (i : Int) ∧ ∀ q, bt s.1 q = true ↔ (bt w q = true ∨ (q < n ∧ ∃ t : Nat, t < i ∧ bes (xw R) (xh R) c t ≠ -1 ∧ (R.1 a q).toInt = bes (xw R) (xh R) c t))) (Q := fun x : Int32 => ∀ q, bt x q = true ↔ (bt w q = true ∨ (q < n ∧ ∃ t : Nat, t < 4 ∧ bes (xw R) (xh R) c t ≠ -1 ∧ (R.1 a q).toInt = bes (xw R) (xh R) c t))) (by
        rintro ⟨u, b⟩ r ⟨i, li, hi, hu⟩ e
        dsimp only at hi hu
        unfold lb_Mod_hears_64 at e
        dsimp only at e
        rcases io e with ⟨g, e⟩ | ⟨g, e⟩
        · have := q_le g
          obtain rfl := Option.some.inj e
          have : i = 4 := by omega
          subst this; exact hu
        have g1 := q_ng g
        obtain ⟨x4, e4, e⟩ := bo e
        have b4 := some_of (fs_beside jR x2 b (by omega)) e4
        rw [h2, hi] at b4
        have b1 : (b + (1 : Int32)).toInt = ((i + 1 : Nat) : Int) := add_ti hi o1 (by omega) (by omega)
        rcases io e with ⟨g2, e⟩ | ⟨g2, e⟩
        · have g2 := q_eq g2
          rw [om] at g2
          obtain rfl := Option.some.inj e
          refine ⟨i + 1, by omega, b1, fun q => ?_⟩
          rw [hu q]
          constructor
          · rintro (h | ⟨h1, t, h3, h4⟩)
            · exact .inl h
            · exact .inr ⟨h1, t, by omega, h4⟩
          · rintro (h | ⟨h1, t, h3, h4, h5⟩)
            · exact .inl h
            · rcases Nat.lt_or_ge t i with g3 | g3
              · exact .inr ⟨h1, t, g3, h4, h5⟩
              · have : t = i := by omega
                subst this
                exact absurd (by omega) h4
        · have g2 := q_ne g2
          rw [om] at g2
          obtain ⟨x5, e5, e⟩ := bo e
          rw [e4] at e5
          obtain rfl := Option.some.inj e5
          obtain ⟨x6, e6, e⟩ := bo e
          obtain rfl := Option.some.inj e
          have o6 := onPlace_i hn n8 e6
          refine ⟨i + 1, by omega, b1, fun q => ?_⟩
          show bt (u ||| x6) q = true ↔ _
          rw [bt_or, Bool.or_eq_true, hu q, o6 q, decide_eq_true_eq]
          constructor
          · rintro ((h | ⟨h1, t, h3, h4⟩) | ⟨h1, h3⟩)
            · exact .inl h
            · exact .inr ⟨h1, t, by omega, h4⟩
            · exact .inr ⟨h1, i, by omega, by omega, by rw [h3]; exact b4⟩
          · rintro (h | ⟨h1, t, h3, h4, h5⟩)
            · exact .inl (.inl h)
            · rcases Nat.lt_or_ge t i with g3 | g3
              · exact .inl (.inr ⟨h1, t, g3, h4, h5⟩)
              · have : t = i := by omega
                subst this
                exact .inr ⟨h1, Int32.toInt_inj.mp (by rw [h5, b4])⟩) e9 ⟨0, by omega, rfl, fun q => ⟨.inl, fun h => h.elim id (fun ⟨_, t, h, _⟩ => absurd h (by omega))⟩⟩
      intro q
      rw [key q]
      constructor
      · rintro (h | ⟨h1, h4⟩)
        · exact .inl h
        · exact .inr ⟨h1, by omega, h4⟩
      · rintro (h | ⟨h1, _, h4⟩)
        · exact .inl h
        · exact .inr ⟨h1, h4⟩
  intro q
  rcases io e with ⟨d, e⟩ | ⟨d, e⟩
  · have d3 : (R.1 164 c).toInt = 3 := q_eq d
    obtain ⟨x11, e11, ea⟩ := bo e
    obtain ⟨x12, e12, eb⟩ := bo ea
    obtain ⟨x13, e13, ec⟩ := bo eb
    unfold f_Mod_placeOf at e12
    obtain rfl := Option.some.inj e12
    have m12 : ((36 : Int32) * (1 : Int32) + x2).toInt = 36 + (c : Int) := by
      have : ((36 : Int32) * (1 : Int32)).toInt = 36 := rfl
      exact add_ti this h2 (by omega) (by omega)
    have o11 := onPlace_i hn n8 e11
    have o13 := onPlace_i hn n8 e13
    rw [last _ ec q, bt_or, bt_or, Bool.or_eq_true, Bool.or_eq_true, o1' q, o11 q, o13 q, decide_eq_true_eq, decide_eq_true_eq, decide_eq_true_eq]
    constructor
    · rintro ((⟨h1, h3⟩ | ⟨h1, h3⟩ | ⟨h1, h3⟩) | ⟨h1, h3⟩)
      · exact ⟨h1, .inl h3⟩
      · exact ⟨h1, .inr (.inl ⟨d3, .inl (by rw [h3]; exact h2)⟩)⟩
      · exact ⟨h1, .inr (.inl ⟨d3, .inr (by rw [h3]; exact m12)⟩)⟩
      · exact ⟨h1, .inr (.inr h3)⟩
    · rintro ⟨h1, h3 | ⟨_, h3 | h3⟩ | h3⟩
      · exact .inl (.inl ⟨h1, h3⟩)
      · exact .inl (.inr (.inl ⟨h1, Int32.toInt_inj.mp (by rw [h3, h2])⟩))
      · exact .inl (.inr (.inr ⟨h1, Int32.toInt_inj.mp (by rw [h3, m12])⟩))
      · exact .inr ⟨h1, h3⟩
  · have d3 : ¬ (R.1 164 c).toInt = 3 := q_ne d
    rw [last _ e q, o1' q, decide_eq_true_eq]
    constructor
    · rintro (⟨h1, h3⟩ | ⟨h1, h3⟩)
      · exact ⟨h1, .inl h3⟩
      · exact ⟨h1, .inr (.inr h3)⟩
    · rintro ⟨h1, h3 | ⟨h3, _⟩ | h3⟩
      · exact .inl ⟨h1, h3⟩
      · exact absurd h3 d3
      · exact .inr ⟨h1, h3⟩
theorem hear_2 {X R : Mem} {k a n p : Nat} {v x y : Int32} (hk : isK k) (ha : St a) (jR : J R) (n8 : n ≤ 8) (zb : ZB X R n) (zs : ZS (scn X k) (R.1 a) n) (zv : ZV R (R.1 a) n) (hp : v.toInt = (p : Int)) (pn : p < n) (ex : f_Clock_hearers v k X = some x) (er : f_Mod_hears a v R = some y) : x = y := by
  obtain ⟨zg, zc, zl⟩ := zb
  have e0 : ∀ i, scn X k 0 i = X.1 (k + 1) i := fun _ => rfl
  have e1 : ∀ i, scn X k 1 i = X.1 (k + 2) i := fun _ => rfl
  have pr : ∀ q, q < n → (R.1 a q).toInt = (X.1 (k + 1) q).toInt + 36 * (X.1 (k + 2) q).toInt ∧ 0 ≤ (X.1 (k + 1) q).toInt ∧ (X.1 (k + 1) q).toInt ≤ 35 ∧ 0 ≤ (X.1 (k + 2) q).toInt ∧ (X.1 (k + 2) q).toInt ≤ 1 := by
    intro q hq
    obtain ⟨p1, p2, p3, p4, p5, p6⟩ := zs.1 q hq
    rw [e0, e1] at p1
    rw [e0] at p2 p3
    rw [e1] at p4 p5
    exact ⟨p1, p2, p3, p4, p5⟩
  obtain ⟨p1, p2, p3, p4, p5⟩ := pr p pn
  have on := (zv.1 p pn).1.2.2
  have pm : (R.1 a p).toInt % 36 = (X.1 (k + 1) p).toInt := by omega
  rw [pm] at on
  obtain ⟨c, hc⟩ := ti_ofn p2
  have C := hear_c hk jR n8 zg zc hp pn p2 on.2.1 ex
  have Rr := hear_r ha jR n8 zc.1 hp pn (by omega) (by rw [pm]; exact hc) er
  refine bt_ext (fun q _ => ?_)
  have iff : bt x q = true ↔ bt y q = true := by
    rw [C q, Rr q]
    have st : stN R (X.1 (k + 1) p).toInt ↔ (R.1 164 c).toInt = 3 := by
      unfold stN
      rw [show (X.1 (k + 1) p).toInt.toNat = c by omega]
      exact ⟨fun h => h.2.2, fun h => ⟨p2, on.2.1, h⟩⟩
    have eqi' : ∀ (u w : Int32), u = w ↔ u.toInt = w.toInt := fun u w => ⟨fun h => by rw [h], fun h => Int32.toInt_inj.mp h⟩
    have s1 : ((1 : Int32) - X.1 (k + 2) p).toInt = 1 - (X.1 (k + 2) p).toInt := sub_ti o1 rfl (by omega) (by omega)
    have z0 := o0
    have y1 := o1
    constructor
    · rintro ⟨h1, h⟩
      obtain ⟨q1, q2, q3, q4, q5⟩ := pr q h1
      refine ⟨h1, ?_⟩
      rcases h with ⟨h2, h3⟩ | ⟨h2, h3, h4⟩ | ⟨h2, h3, s, h4, h5⟩
      · rw [eqi'] at h2 h3
        exact .inl ((eqi' _ _).mpr (by omega))
      · rw [eqi'] at h3 h4
        refine .inr (.inl ⟨st.mp h2, ?_⟩)
        omega
      · rw [eqi'] at h2 h3
        rw [hc] at h5
        exact .inr (.inr ⟨by omega, s, h4, by omega, by omega⟩)
    · rintro ⟨h1, h⟩
      obtain ⟨q1, q2, q3, q4, q5⟩ := pr q h1
      refine ⟨h1, ?_⟩
      rcases h with h2 | ⟨h2, h3⟩ | ⟨h2, s, h4, h5, h6⟩
      · rw [eqi'] at h2
        exact .inl ⟨(eqi' _ _).mpr (by omega), (eqi' _ _).mpr (by omega)⟩
      · by_cases g : (X.1 (k + 2) q).toInt = (X.1 (k + 2) p).toInt
        · exact .inl ⟨(eqi' _ _).mpr (by omega), (eqi' _ _).mpr g⟩
        · exact .inr (.inl ⟨st.mpr h2, (eqi' _ _).mpr (by omega), (eqi' _ _).mpr (by omega)⟩)
      · have bi := bes_in (aw jR) (ah jR) (c := c) (by omega) (by rw [← hc]; exact on.2.1) (s := s) (by omega)
        have wh := awh jR
        exact .inr (.inr ⟨(eqi' _ _).mpr (by omega), (eqi' _ _).mpr (by omega), s, h4, by rw [hc]; omega⟩)
  cases h1 : bt x q with
  | true => exact (iff.mp h1).symm
  | false =>
    cases h2 : bt y q with
    | false => rfl
    | true => rw [iff.mpr h2] at h1; cases h1
