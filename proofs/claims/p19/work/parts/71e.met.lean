/-! people go, all of them -/
theorem PQ_t {X R x S y T : Mem} {k a n : Nat} (h : PQ X R k a n x S) (g : PQ x S k a n y T) : PQ X R k a n y T := by
  obtain ⟨a1, a2, a3, a4, a5, a6, a7, a8, a9⟩ := h
  obtain ⟨b1, b2, b3, b4, b5, b6, b7, b8, b9⟩ := g
  exact ⟨b1, AgX_t a2 b2, AgR_t a3 b3, b4, b5, b6, fun i hi => (b7 i hi).trans (a7 i hi), b8.trans a8, b9.trans a9⟩
theorem goes_q {X R : Mem} {k a n p : Nat} {v : Int32} {x r : Int32 × Mem} (hk : isK k) (ha : St a) (jR : J R) (n8 : n ≤ 8) (zs : ZS (scn X k) (R.1 a) n) (zv : ZV R (R.1 a) n) (st : X.1 45 0 = R.1 162 29) (hp : v.toInt = (p : Int)) (pn : p < n) (ex : f_Law_goes v k X = some x) (er : f_Mod_goes a v R = some r) : PQ X R k a n x.2 r.2 := by
  have kk : k = 11 ∨ k = 25 := hk
  have aa : a = 163 ∨ a = 174 ∨ a = 176 := ha
  have fx : Fx mGo [] X x.2 := wf_Law_goes v k X (by decide +kernel) Fx_r ex
  have fr : Fx mGr [] R r.2 := wf_Mod_goes a v R (by decide +kernel) Fx_r er
  obtain ⟨jr, _⟩ := some_of (sf_Mod_goes a v R ha (by omega) jR) er
  have fN : ∀ {kk i : Nat}, (kk ≠ 44 ∧ ¬ (kk = 40 ∧ i = 7) ∧ kk < 193 ∧ (i < 12 ∨ (kk ≠ 162 ∧ kk ≠ 1 ∧ kk ≠ 0 ∧ kk ≠ 3 ∧ kk ≠ 46 ∧ kk ≠ 6 ∧ kk ≠ 40 ∧ kk ≠ 45 ∧ kk ≠ 147 ∧ kk ≠ 151))) → x.2.1 kk i = X.1 kk i := fun h => (fx _ _ (mGo_k h.1 h.2.1 h.2.2.1 h.2.2.2) (by simp)).1
  have ra : ∀ i, r.2.1 a i = R.1 a i := fun i => by
    rcases aa with rfl | rfl | rfl
    · exact (fr 163 i (by rw [show sl 163 i = 163 from rfl]; decide +kernel) (by simp)).1
    · exact (fr 174 i (by rw [show sl 174 i = 174 from rfl]; decide +kernel) (by simp)).1
    · exact (fr 176 i (by rw [show sl 176 i = 176 from rfl]; decide +kernel) (by simp)).1
  have agr : AgR R r.2 := AgR_f (by decide +kernel) (by simp) fr
  refine ⟨jr, AgX_f (by decide +kernel) (by simp) fx, agr, ZS_c n8 (scn_e (fun j i hj => ?_)) (fun i _ => (ra i).symm) zs, ZV_a n8 agr (fun i _ => ra i) zv, ?_, fun i _ => ra i, fN (by omega), fN (by omega)⟩
  · unfold scn
    by_cases g : j < 6
    · rw [if_pos g, if_pos g, fN (by omega)]
    · rw [if_neg g, if_neg g, fN (by omega)]
  · rw [fN (by omega), (fr 162 29 (by decide +kernel) (by simp)).1]; exact st
theorem loopA {X R x r : Mem} {k a n : Nat} (hk : isK k) (ha : St a) (jR : J R) (n8 : n ≤ 8) (zb : ZB X R n) (zs : ZS (scn X k) (R.1 a) n) (zv : ZV R (R.1 a) n) (zw : ZW X R a) (st : X.1 45 0 = R.1 162 29) (ex : iter (lb_Clock_pass_8 k 32) FU ((0 : Int32), X) = some x) (er : iter (lb_Mod_goMinute_12 a) FU ((0 : Int32), R) = some r) : PQ X R k a n x r := by
  refine it_2 (I := fun (s t : Int32 × Mem) => s.1 = t.1 ∧ (∃ i : Nat, s.1.toInt = (i : Int) ∧ i ≤ n) ∧ PQ X R k a n s.2 t.2) (Q := fun x r => PQ X R k a n x r) ?_ ex er ⟨rfl, ⟨0, rfl, by omega⟩, jR, AgX_r, AgR_r, zs, zv, st, fun _ _ => rfl, rfl, rfl⟩
  rintro ⟨v, N⟩ ⟨v', T⟩ A B ⟨hv, ⟨i, hi, li⟩, pq⟩ eA eB
  dsimp only at hv hi pq
  subst hv
  obtain ⟨q1, q2, q3, q4, q5, q6, q7, q8, q9⟩ := pq
  have zb' := ZB_a q2 q3 zb
  obtain ⟨zg', zc', zl'⟩ := zb'
  have h6 : (R.1 a 92).toInt ≤ 6 := zv.2.1.2
  have zw' : ZW N T a := ZW_a q2 q3 (plk_c (fun i h _ => q7 i h) h6) zw
  unfold lb_Clock_pass_8 at eA
  unfold lb_Mod_goMinute_12 at eB
  dsimp only at eA eB
  rw [zc'.2.1] at eA
  have hn := zc'.1
  rcases io eA with ⟨c, eA⟩ | ⟨c, eA⟩
  · rw [if_pos c] at eB
    obtain rfl := Option.some.inj eA
    obtain rfl := Option.some.inj eB
    exact .inr ⟨N, T, rfl, rfl, q1, q2, q3, q4, q5, q6, q7, q8, q9⟩
  · rw [if_neg c] at eB
    have c1 := q_ng c
    have v1 : (v + (1 : Int32)).toInt = ((i + 1 : Nat) : Int) := add_ti hi o1 (by omega) (by omega)
    obtain ⟨x2, e2, eA⟩ := bo eA
    obtain ⟨x3, e3, eB⟩ := bo eB
    have g2 := goes_2 hk ha q1 n8 ⟨zg', zc', q4, q5, zl'⟩ hi (by omega) e2 e3
    have gq := goes_q hk ha q1 n8 q4 q5 q6 hi (by omega) e2 e3
    have pq2 : PQ X R k a n x2.2 x3.2 := PQ_t ⟨q1, q2, q3, q4, q5, q6, q7, q8, q9⟩ gq
    left
    rcases io eA with ⟨d, eA⟩ | ⟨d, eA⟩
    · rw [if_pos (g2.mp d)] at eB
      obtain rfl := Option.some.inj eA
      obtain rfl := Option.some.inj eB
      exact ⟨_, _, rfl, rfl, rfl, ⟨i + 1, v1, by omega⟩, pq2⟩
    · rw [if_neg (fun h => d (g2.mpr h))] at eB
      obtain ⟨x4, e4, eA⟩ := bo eA
      obtain rfl := Option.some.inj eA
      obtain ⟨p1, p2, p3, p4, p5, p6, p7, p8, p9⟩ := pq2
      have zb2 := ZB_a p2 p3 zb
      have zw2 : ZW x2.2 x3.2 a := ZW_a p2 p3 (plk_c (fun i h _ => p7 i h) h6) zw
      obtain ⟨S, hS, pS⟩ := person_2 hk ha p1 n8 zb2 p4 p5 zw2 p6 hi (by omega) e4 eB
      subst hS
      exact ⟨_, _, rfl, rfl, rfl, ⟨i + 1, v1, by omega⟩, PQ_t ⟨p1, p2, p3, p4, p5, p6, p7, p8, p9⟩ pS⟩
/-! who met whom -/
def PG (X R : Mem) (k a n : Nat) (x S : Mem) : Prop := AgX X x ∧ AgR R S ∧ ZS (scn x k) (S.1 a) n ∧ (∀ i, ¬ (16 ≤ i ∧ i < 80) → S.1 a i = R.1 a i) ∧ x.1 45 2 = S.1 162 31 ∧ (∀ j, j ≠ 2 → x.1 45 j = X.1 45 j) ∧ S.1 162 29 = R.1 162 29 ∧ (∀ j i, j ≠ 3 → j < 10 → scn x k j i = scn X k j i)
theorem meetR {R : Mem} {a m w cm cw : Nat} {u v x : Int32} (hu : u.toInt = (m : Int)) (hv : v.toInt = (w : Int)) (gm' : 0 ≤ (R.1 a m).toInt ∧ (R.1 a m).toInt ≤ 71) (gw : 0 ≤ (R.1 a w).toInt ∧ (R.1 a w).toInt ≤ 71) (hm : (R.1 a m).toInt % 36 = (cm : Int)) (hw : (R.1 a w).toInt % 36 = (cw : Int)) (e : f_Mod_areMeeting a u v R = some x) : (x = 0 ↔ ¬ (cm = cw ∧ (R.1 164 cm).toInt = 3)) := by
  unfold f_Mod_areMeeting at e
  obtain ⟨_, e⟩ := io_n e
  obtain ⟨_, e⟩ := io_n e
  rw [q_nat hu] at e
  obtain ⟨x1, e1, e⟩ := bo e
  obtain ⟨_, e⟩ := io_n e
  rw [q_nat hv] at e
  obtain ⟨x2, e2, e⟩ := bo e
  have h1 := (place_i gm'.1 gm'.2).1 e1
  have h2 := (place_i gw.1 gw.2).1 e2
  rcases io e with ⟨c, e⟩ | ⟨c, e⟩
  · have := q_eq c
    obtain ⟨_, e⟩ := io_n e
    obtain ⟨x3, e3, e⟩ := bo e
    rw [e1] at e3
    obtain rfl := Option.some.inj e3
    obtain ⟨_, e⟩ := io_n e
    rw [q_nat (show x1.toInt = (cm : Int) by omega)] at e
    rcases io e with ⟨d, e⟩ | ⟨d, e⟩
    · obtain rfl := Option.some.inj e
      exact ⟨fun h => (by cases h), fun h => absurd ⟨by omega, q_eq d⟩ h⟩
    · obtain rfl := Option.some.inj e
      exact ⟨fun _ h => q_ne d h.2, fun _ => rfl⟩
  · have := q_ne c
    obtain rfl := Option.some.inj e
    exact ⟨fun _ h => by omega, fun _ => rfl⟩
theorem greet_2 {X R x : Mem} {k a n m : Nat} {v : Int32} {r} (hk : isK k) (ha : St a) (jR : J R) (n8 : n ≤ 8) (zb : ZB X R n) (zs : ZS (scn X k) (R.1 a) n) (zv : ZV R (R.1 a) n) (st : X.1 45 2 = R.1 162 31) (hm : v.toInt = (m : Int)) (mn : m < n) (ex : f_Clock_greet v k X = some x) (er : iter (lb_Mod_goMinute_124 a v) FU ((0 : Int32), R) = some r) : PG X R k a n x r := by
  have kk : k = 11 ∨ k = 25 := hk
  have aa : a = 163 ∨ a = 174 ∨ a = 176 := ha
  obtain ⟨zg, zc, zl⟩ := zb
  have hn := zc.1
  have r0 : rf k 0 = k + 1 := scn_rf (isK_kd hk) (by omega)
  have r3 : rf k 3 = k + 4 := scn_rf (isK_kd hk) (by omega)
  have e0 : ∀ M : Mem, ∀ i, scn M k 0 i = M.1 (k + 1) i := fun _ _ => rfl
  have e1 : ∀ M : Mem, ∀ i, scn M k 1 i = M.1 (k + 2) i := fun _ _ => rfl
  have pr : ∀ q, q < n → 0 ≤ (R.1 a q).toInt ∧ (R.1 a q).toInt ≤ 71 ∧ (R.1 a q).toInt % 36 = (((X.1 (k + 1) q).toInt.toNat : Nat) : Int) ∧ 0 ≤ (X.1 (k + 1) q).toInt ∧ (X.1 (k + 1) q).toInt ≤ 35 := by
    intro q hq
    obtain ⟨p1, p2, p3, p4, p5, p6⟩ := zs.1 q hq
    rw [e0, e1] at p1
    rw [e0] at p2 p3
    rw [e1] at p4 p5
    exact ⟨by omega, by omega, by omega, p2, p3⟩
  -- nothing happens
  have idle : (bt (R.1 162 5) m = true ∨ ¬ stN R (X.1 (k + 1) m).toInt) → r = R := by
    intro hh
    refine it_r (I := fun t : Int32 × Mem => t.2 = R ∧ ∃ i : Nat, t.1.toInt = (i : Int) ∧ i ≤ n) (Q := fun t : Mem => t = R) ?_ er ⟨rfl, 0, rfl, by omega⟩
    rintro ⟨w, T⟩ B ⟨hT, i, hi, li⟩ e
    dsimp only at hT hi
    subst hT
    unfold lb_Mod_goMinute_124 at e
    dsimp only at e
    rcases io e with ⟨c, e⟩ | ⟨c, e⟩
    · obtain rfl := Option.some.inj e; rfl
    have c1 := q_ng c
    have w1 : (w + (1 : Int32)).toInt = ((i + 1 : Nat) : Int) := add_ti hi o1 (by omega) (by omega)
    obtain ⟨x13, e13, e⟩ := bo e
    have h13 := hasR hm (by omega) e13
    rcases io e with ⟨d, e⟩ | ⟨d, e⟩
    · have hst : ¬ stN T (X.1 (k + 1) m).toInt := by
        rcases hh with h | h
        · rw [h13.mp d] at h; cases h
        · exact h
      obtain ⟨x14, e14, e⟩ := bo e
      rcases io e with ⟨d2, e⟩ | ⟨d2, e⟩
      · obtain rfl := Option.some.inj e
        exact ⟨rfl, i + 1, w1, by omega⟩
      · obtain ⟨x15, e15, e⟩ := bo e
        have pm := pr m mn
        have pw := pr i (by omega)
        have h15 := meetR hm hi ⟨pm.1, pm.2.1⟩ ⟨pw.1, pw.2.1⟩ pm.2.2.1 pw.2.2.1 e15
        have on := (zv.1 m mn).1.2.2
        rw [if_pos (h15.mpr (fun h => hst ⟨pm.2.2.2.1, by have := on.2.1; omega, h.2⟩))] at e
        obtain rfl := Option.some.inj e
        exact ⟨rfl, i + 1, w1, by omega⟩
    · obtain rfl := Option.some.inj e
      exact ⟨rfl, i + 1, w1, by omega⟩
  have idle2 : x = X → r = R → PG X R k a n x r := by
    intro h1 h2
    subst h1; subst h2
    exact ⟨AgX_r, AgR_r, zs, fun _ _ => rfl, st, fun _ _ => rfl, rfl, fun _ _ _ _ => rfl⟩
  unfold f_Clock_greet at ex
  obtain ⟨_, ex⟩ := io_n ex
  obtain ⟨x1, ex1, ex⟩ := bo ex
  have wm := womanC hm (by omega) ex1
  rw [zc.2.2.1] at wm
  rcases io ex with ⟨c, ex⟩ | ⟨c, ex⟩
  · obtain ⟨_, ex⟩ := io_n ex
    rw [r0, q_nat hm] at ex
    obtain ⟨x2, ex2, ex⟩ := bo ex
    have sm := stairC zg jR ex2
    rcases io ex with ⟨c2, ex⟩ | ⟨c2, ex⟩
    · obtain rfl := Option.some.inj ex
      refine idle2 rfl (idle (.inr ?_))
      rcases sm with ⟨h, _⟩ | ⟨_, h⟩
      · rw [h] at c2; cases c2
      · exact h
    · obtain ⟨x9, ex9, ex⟩ := bo ex
      obtain rfl := Option.some.inj ex
      have stn : stN R (X.1 (k + 1) m).toInt := by
        rcases sm with ⟨_, h⟩ | ⟨h, _⟩
        · exact h
        · exact absurd h c2
      refine it_2 (I := fun (s t : Int32 × Mem) => s.1 = t.1 ∧ (∃ i : Nat, s.1.toInt = (i : Int) ∧ i ≤ n) ∧ PG X R k a n s.2 t.2) (Q := fun x r => PG X R k a n x r) ?_ ex9 er ⟨rfl, ⟨0, rfl, by omega⟩, AgX_r, AgR_r, zs, fun _ _ => rfl, st, fun _ _ => rfl, rfl, fun _ _ _ _ => rfl⟩
      rintro ⟨w, N⟩ ⟨w', T⟩ A B ⟨hw, ⟨i, hi, li⟩, pg⟩ eA eB
      dsimp only at hw hi pg
      subst hw
      obtain ⟨g1, g2, g3, g4, g5, g6, g7, g8⟩ := pg
      have w1 : (w + (1 : Int32)).toInt = ((i + 1 : Nat) : Int) := add_ti hi o1 (by omega) (by omega)
      unfold lb_Clock_greet_26 at eA
      unfold lb_Mod_goMinute_124 at eB
      dsimp only at eA eB
      rw [g1.2.2.2.1, zc.2.1] at eA
      rw [g2.2.2.1, g2.2.2.2.1] at eB
      rcases io eA with ⟨d, eA⟩ | ⟨d, eA⟩
      · rw [if_pos d] at eB
        obtain rfl := Option.some.inj eA
        obtain rfl := Option.some.inj eB
        exact .inr ⟨N, T, rfl, rfl, g1, g2, g3, g4, g5, g6, g7, g8⟩
      rw [if_neg d] at eB
      have d1 := q_ng d
      left
      obtain ⟨y3, ey3, eA⟩ := bo eA
      have wy := womanC hi (by omega) ey3
      rw [g1.2.2.2.2.1, zc.2.2.1] at wy
      obtain ⟨z13, ez13, eB⟩ := bo eB
      have hz13 := hasR hm (by omega) ez13
      rw [if_pos (hz13.mpr (wm.mp c))] at eB
      obtain ⟨z14, ez14, eB⟩ := bo eB
      have hz14 := hasR hi (by omega) ez14
      rcases io eA with ⟨d2, eA⟩ | ⟨d2, eA⟩
      · rw [if_pos (hz14.mpr (wy.mp d2))] at eB
        obtain rfl := Option.some.inj eA
        obtain rfl := Option.some.inj eB
        exact ⟨_, _, rfl, rfl, rfl, ⟨i + 1, w1, by omega⟩, g1, g2, g3, g4, g5, g6, g7, g8⟩
      rw [if_neg (fun h => d2 (wy.mpr (hz14.mp h)))] at eB
      obtain ⟨_, eA⟩ := io_n eA
      obtain ⟨_, eA⟩ := io_n eA
      rw [r0, q_nat hi, q_nat hm] at eA
      have n0 : ∀ q, N.1 (k + 1) q = X.1 (k + 1) q := fun q => g8 0 q (by omega) (by omega)
      rw [n0, n0] at eA
      obtain ⟨z15, ez15, eB⟩ := bo eB
      have pm := pr m mn
      have pw := pr i (by omega)
      have tm : T.1 a m = R.1 a m := g4 m (by omega)
      have tw : T.1 a i = R.1 a i := g4 i (by omega)
      have h15 := meetR hm hi (by rw [tm]; exact ⟨pm.1, pm.2.1⟩) (by rw [tw]; exact ⟨pw.1, pw.2.1⟩) (by rw [tm]; exact pm.2.2.1) (by rw [tw]; exact pw.2.2.1) ez15
      rw [g2.2.2.2.2.2.1] at h15
      rcases io eA with ⟨d3, eA⟩ | ⟨d3, eA⟩
      · have d3' := congrArg Int32.toInt d3
        rw [if_neg (fun h => (h15.mp h) ⟨by omega, stn.2.2⟩)] at eB
        have mi : m ≠ i := by
          rintro rfl
          exact d2 (wy.mpr (wm.mp c))
        obtain ⟨y4, ey4, eA⟩ := bo eA
        obtain ⟨M5, em5, eA⟩ := mo eA
        obtain rfl := Option.some.inj eA
        unfold f_Scene_addMeeting at ey4
        obtain ⟨_, ey4⟩ := io_n ey4
        obtain ⟨_, ey4⟩ := io_n ey4
        obtain ⟨_, ey4⟩ := io_n ey4
        obtain ⟨Y1, ey1, ey4⟩ := mo ey4
        obtain rfl := Option.some.inj ey4
        have z8 : (8 : Int32).toInt = 8 := rfl
        have z16 : (16 : Int32).toInt = 16 := rfl
        have i1 : (v * (8 : Int32)).toInt = (m : Int) * 8 := mul_ti hm z8 (by omega) (by omega)
        have i2 : (v * (8 : Int32) + w).toInt = ((8 * m + i : Nat) : Int) := by rw [add_ti i1 hi (by omega) (by omega)]; omega
        rw [r3, q_nat i2] at ey1
        have j1 : ((8 : Int32) * v).toInt = 8 * (m : Int) := mul_ti z8 hm (by omega) (by omega)
        have j2 : ((16 : Int32) + (8 : Int32) * v).toInt = 16 + 8 * (m : Int) := add_ti z16 j1 (by omega) (by omega)
        have j3 : ((16 : Int32) + (8 : Int32) * v + w).toInt = ((16 + 8 * m + i : Nat) : Int) := by rw [add_ti j2 hi (by omega) (by omega)]; omega
        have l1 : ((8 : Int32) * w).toInt = 8 * (i : Int) := mul_ti z8 hi (by omega) (by omega)
        have l2 : ((16 : Int32) + (8 : Int32) * w).toInt = 16 + 8 * (i : Int) := add_ti z16 l1 (by omega) (by omega)
        have l3 : ((16 : Int32) + (8 : Int32) * w + v).toInt = ((16 + 8 * i + m : Nat) : Int) := by rw [add_ti l2 hm (by omega) (by omega)]; omega
        obtain ⟨_, eB⟩ := io_n eB
        obtain ⟨_, eB⟩ := io_n eB
        obtain ⟨M16, em16, eB⟩ := mo eB
        obtain ⟨_, eB⟩ := io_n eB
        obtain ⟨_, eB⟩ := io_n eB
        obtain ⟨M17, em17, eB⟩ := mo eB
        obtain ⟨M18, em18, eB⟩ := mo eB
        obtain rfl := Option.some.inj eB
        rw [q_nat j3] at em16
        rw [q_nat l3] at em17
        have xf : ∀ kx q, ¬ (kx = k + 4 ∧ q = 8 * m + i) → ¬ (kx = 45 ∧ q = 2) → M5.1 kx q = N.1 kx q := fun kx q h1 h2 => by rw [em5, si_ne h2, ey1, si_ne h1]
        have x4 : M5.1 (k + 4) (8 * m + i) = N.1 (k + 4) (8 * m + i) + 1 := by rw [em5, si_ne (by omega), ey1, si_eq]
        have x45 : M5.1 45 2 = N.1 45 2 + 1 := by rw [em5, si_eq, ey1, si_ne (by omega)]
        have x22 : M5.2 = N.2 := by rw [em5]; show Y1.2 = _; rw [ey1]; rfl
        have sf : ∀ kx q, ¬ (kx = a ∧ (q = 16 + 8 * m + i ∨ q = 16 + 8 * i + m)) → ¬ (kx = 162 ∧ q = 31) → M18.1 kx q = T.1 kx q := fun kx q h1 h2 => by rw [em18, si_ne h2, em17, si_ne (by omega), em16, si_ne (by omega)]
        have s1 : M18.1 a (16 + 8 * m + i) = T.1 a (16 + 8 * m + i) + 1 := by rw [em18, si_ne (by omega), em17, si_ne (by omega), em16, si_eq]
        have s2 : M18.1 a (16 + 8 * i + m) = T.1 a (16 + 8 * i + m) + 1 := by rw [em18, si_ne (by omega), em17, si_eq, em16, si_ne (by omega)]
        have s31 : M18.1 162 31 = T.1 162 31 + 1 := by rw [em18, si_eq, em17, si_ne (by omega), em16, si_ne (by omega)]
        have agx : AgX N M5 := ⟨xf 3 2 (by omega) (by omega), xf 3 3 (by omega) (by omega), fun q => xf 4 q (by omega) (by omega), xf 6 4 (by omega) (by omega), xf 6 5 (by omega) (by omega), fun q => xf 7 q (by omega) (by omega), fun q => xf 8 q (by omega) (by omega), xf 40 4 (by omega) (by omega), fun q => xf 41 q (by omega) (by omega), fun q => xf 35 q (by omega) (by omega), fun q => by rw [x22], fun q => by rw [x22]⟩
        have agr : AgR T M18 := ⟨sf 162 2 (by omega) (by omega), sf 162 3 (by omega) (by omega), sf 162 4 (by omega) (by omega), sf 162 5 (by omega) (by omega), sf 162 23 (by omega) (by omega), fun q => sf 164 q (by omega) (by omega), fun q => sf 165 q (by omega) (by omega), fun q => sf 166 q (by omega) (by omega), fun q => sf 172 q (by omega) (by omega)⟩
        have sc : ∀ j q, j ≠ 3 → j < 10 → scn M5 k j q = scn N k j q := by
          intro j q j3 j10
          unfold scn
          by_cases g : j < 6
          · rw [if_pos g, if_pos g]; exact xf _ _ (by omega) (by omega)
          · rw [if_neg g, if_neg g]; exact xf _ _ (by omega) (by omega)
        have sc3 : ∀ q, q ≠ 8 * m + i → scn M5 k 3 q = scn N k 3 q := fun q hq => xf (k + 4) q (by omega) (by omega)
        have sc3m : scn M5 k 3 (8 * m + i) = scn N k 3 (8 * m + i) + 1 := x4
        obtain ⟨b1, b2, b3, b4, b5, b6, b7, b8⟩ := g3
        refine ⟨_, _, rfl, rfl, rfl, ⟨i + 1, w1, by omega⟩, AgX_t g1 agx, AgR_t g2 agr, ⟨fun q hq => ?_, fun p q hp hq => ?_, fun p q hp hq hh => ?_, ?_, fun j hj hl => ?_, ?_, ?_, ?_⟩, fun q hq => ?_, ?_, fun j hj => ?_, ?_, fun j q hj hj2 => (sc j q hj hj2).trans (g8 j q hj hj2)⟩
        · show (M18.1 a q).toInt = _ ∧ _
          rw [sf a q (by omega) (by omega), sf a (8 + q) (by omega) (by omega), sc 0 q (by omega) (by omega), sc 1 q (by omega) (by omega), sc 2 q (by omega) (by omega)]; exact b1 q hq
        · show M18.1 a (16 + 8 * p + q) = scn M5 k 3 _ + scn M5 k 3 _
          by_cases h1 : p = m ∧ q = i
          · obtain ⟨rfl, rfl⟩ := h1
            rw [s1, sc3m, sc3 _ (by omega), b2 p q hp hq]; ac_rfl
          · by_cases h2 : p = i ∧ q = m
            · obtain ⟨rfl, rfl⟩ := h2
              rw [s2, sc3m, sc3 _ (by omega), b2 p q hp hq]; ac_rfl
            · rw [sf a _ (by omega) (by omega), sc3 _ (by omega), sc3 _ (by omega)]; exact b2 p q hp hq
        · rw [sc3 _ (by omega)]; exact b3 p q hp hq hh
        · show scn M5 k 6 0 = M18.1 a 92
          rw [sc 6 0 (by omega) (by omega), sf a 92 (by omega) (by omega)]; exact b4
        · have hl : (j : Int) < (M18.1 a 92).toInt := hl
          rw [sf a 92 (by omega) (by omega)] at hl
          show scn M5 k 4 j = M18.1 a _ ∧ scn M5 k 5 j = M18.1 a _
          rw [sc 4 j (by omega) (by omega), sc 5 j (by omega) (by omega), sf a _ (by omega) (by omega), sf a _ (by omega) (by omega)]; exact b5 j hj hl
        · show scn M5 k 7 0 = M18.1 a 95
          rw [sc 7 0 (by omega) (by omega), sf a _ (by omega) (by omega)]; exact b6
        · show scn M5 k 8 0 = M18.1 a 93
          rw [sc 8 0 (by omega) (by omega), sf a _ (by omega) (by omega)]; exact b7
        · show scn M5 k 9 0 = M18.1 a 94
          rw [sc 9 0 (by omega) (by omega), sf a _ (by omega) (by omega)]; exact b8
        · show M18.1 a q = _
          rw [sf a q (by omega) (by omega)]; exact g4 q hq
        · show M5.1 45 2 = M18.1 162 31
          rw [x45, s31, g5]
        · show M5.1 45 j = _
          rw [xf 45 j (by omega) (by omega)]; exact g6 j hj
        · show M18.1 162 29 = _
          rw [sf 162 29 (by omega) (by omega)]; exact g7
      · have d3' : (X.1 (k + 1) i).toInt ≠ (X.1 (k + 1) m).toInt := fun h => d3 (Int32.toInt_inj.mp h)
        rw [if_pos (h15.mpr (fun h => by have := h.1; omega))] at eB
        obtain rfl := Option.some.inj eA
        obtain rfl := Option.some.inj eB
        exact ⟨_, _, rfl, rfl, rfl, ⟨i + 1, w1, by omega⟩, g1, g2, g3, g4, g5, g6, g7, g8⟩
  · obtain rfl := Option.some.inj ex
    refine idle2 rfl (idle (.inl ?_))
    cases hb : bt (R.1 162 5) m with
    | true => rfl
    | false => exact absurd (wm.mpr hb) c
