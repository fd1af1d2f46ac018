/-! kept; planks laid -/
theorem keep_2 {X R : Mem} {n : Nat} {v : Int32} {x r : Int32 × Mem} (za : ZA X R n) (jr : J r.2) (ex : f_Top_keep v X = some x) (er : f_Mod_keep v R = some r) : ZA x.2 r.2 n := by
  have jR := za.1.2.1
  have z0 := o0
  have z1 := o1
  have z2 := o2
  unfold f_Mod_keep at er
  obtain ⟨M1, m1, era⟩ := mo er
  obtain ⟨y2, ey2, erb⟩ := bo era
  have h2 := some_of (sp_in v 0 1) ey2
  rw [o0, o1] at h2
  have j1 : J M1 := by rw [m1]; exact Jw_fld okf_162_13 jR _
  have zaM : ZA X M1 n := ZA_13 j1 (fun kx i h _ _ => by rw [m1, si_ne (by omega)]) za
  unfold f_Top_keep f_History_store at ex
  obtain ⟨x1, ex1, ex⟩ := bo ex
  obtain ⟨_, ex⟩ := io_n ex
  have ex := Option.some.inj ex
  obtain ⟨_, ex1⟩ := io_n ex1
  have out : ¬ (0 ≤ v.toInt ∧ v.toInt ≤ 1) → some ((0 : Int32), X) = some x1 → ZA x.2 r.2 n := by
    intro hn e
    have e := Option.some.inj e
    rcases h2 with ⟨_, h⟩ | ⟨h, _⟩
    · exact absurd h hn
    · rw [h, if_pos rfl] at erb
      have erb := Option.some.inj erb
      rw [← ex, ← e, ← erb]; exact zaM
  rcases io ex1 with ⟨g, ex1⟩ | ⟨g, ex1⟩
  · exact out (by have := q_lt g; omega) ex1
  have g1 := q_nl g
  rcases io ex1 with ⟨g, ex1⟩ | ⟨g, ex1⟩
  · have g2 := q_lt g
    rcases h2 with ⟨h, _⟩ | ⟨_, h⟩
    · rw [h, if_neg (by decide)] at erb
      obtain ⟨_, ex1⟩ := io_n ex1
      obtain ⟨t, ht⟩ := ti_ofn (v := v) (by omega)
      have t2 : t < 2 := by omega
      rw [q_nat ht] at ex1
      obtain ⟨a1, ea1, ex1⟩ := bo ex1
      obtain ⟨_, ex1⟩ := io_n ex1
      obtain ⟨X2, ex2, ex1⟩ := bo ex1
      obtain ⟨X3, x3, ex1⟩ := mo ex1
      have ex1 := Option.some.inj ex1
      obtain ⟨⟨n8, _, zb, zs, zv, zw⟩, zh, zk⟩ := zaM
      have ka : a1 = 133 + 7 * t := Option.some.inj (ea1.symm.trans (zk.1 t t2))
      obtain ⟨c1, c2, c3⟩ := copy_i (v0 := a1) (v1 := 11) (by omega) ex2
      have xf : ∀ kx i, (kx < a1 ∨ a1 + 7 ≤ kx) → ¬ (kx = 46 ∧ i = 3) → X3.1 kx i = X.1 kx i := fun kx i h g => by rw [x3, si_ne g]; exact c2 kx i h
      have x2' : X3.2 = X.2 := by rw [x3]; show X2.2 = _; exact c3
      have b3 : ∀ d, bt (X3.1 46 3) d = (bt (X.1 46 3) d || decide (d = t)) := fun d => by rw [x3, si_eq, c2 46 3 (by omega), bt_b1 _ ht (by omega)]
      obtain ⟨_, erb⟩ := io_n erb
      obtain ⟨M3, m3, erc⟩ := mo erb
      obtain ⟨_, erc⟩ := io_n erc
      obtain ⟨M4, m4, erd⟩ := mo erc
      obtain ⟨y5, ey5, ere⟩ := bo erd
      have ere := Option.some.inj ere
      rw [q_nat ht, narb1] at m3
      rw [q_nat ht] at m4
      have z96 : (96 : Int32).toInt = 96 := rfl
      have w : ((96 : Int32) * v).toInt = ((96 * t : Nat) : Int) := by rw [mul_ti z96 ht (by omega) (by omega)]; omega
      obtain ⟨l1, l2, _⟩ := lay_r w (by omega) (by omega) ey5
      have f4 : ∀ kx i, ¬ (kx = 190 ∧ i = t) → ¬ (kx = 191 ∧ i = t) → M4.1 kx i = M1.1 kx i := fun kx i h g => by rw [m4, si_ne g, m3, si_ne h]
      have rf' : ∀ kx i, ¬ (kx = 190 ∧ i = t) → ¬ (kx = 191 ∧ i = t) → ¬ (kx = 189 ∧ 96 * t ≤ i ∧ i < 96 * t + 96) → y5.1 kx i = M1.1 kx i := fun kx i h g k => by rw [l2 kx i k]; exact f4 kx i h g
      have agr : AgR M1 y5 := ⟨rf' 162 2 (by omega) (by omega) (by omega), rf' 162 3 (by omega) (by omega) (by omega), rf' 162 4 (by omega) (by omega) (by omega), rf' 162 5 (by omega) (by omega) (by omega), rf' 162 23 (by omega) (by omega) (by omega), fun i => rf' 164 i (by omega) (by omega) (by omega), fun i => rf' 165 i (by omega) (by omega) (by omega), fun i => rf' 166 i (by omega) (by omega) (by omega), fun i => rf' 172 i (by omega) (by omega) (by omega)⟩
      have agx : AgX X X3 := ⟨xf 3 2 (by omega) (by omega), xf 3 3 (by omega) (by omega), fun i => xf 4 i (by omega) (by omega), xf 6 4 (by omega) (by omega), xf 6 5 (by omega) (by omega), fun i => xf 7 i (by omega) (by omega), fun i => xf 8 i (by omega) (by omega), xf 40 4 (by omega) (by omega), fun i => xf 41 i (by omega) (by omega), fun i => xf 35 i (by omega) (by omega), fun i => by rw [x2'], fun i => by rw [x2']⟩
      have r163 : ∀ i, y5.1 163 i = M1.1 163 i := fun i => rf' 163 i (by omega) (by omega) (by omega)
      have jy : J y5 := by rw [← ere] at jr; exact jr
      rw [← ex, ← ex1, ← ere]
      show ZA X3 y5 n
      refine ⟨⟨n8, jy, ZB_a agx agr zb, ZS_c n8 (scn_f (fun kx i a b => xf kx i (by omega) (by omega))) (fun i _ => (r163 i).symm) zs, ZV_a n8 agr (fun i _ => r163 i) zv, ZW_a agx agr (plk_c (fun i _ _ => r163 i) zv.2.1.2) zw⟩, ZH_a n8 (xf 46 2 (by omega) (by omega)) (fun kx i a b => xf kx i (by omega) (by omega)) (fun i => by rw [x2']) agr (rf' 162 27 (by omega) (by omega) (by omega)) (fun i => rf' 173 i (by omega) (by omega) (by omega)) zh, fun s hs => by rw [x2']; exact zk.1 s hs, fun s hs => ?_⟩
      rw [b3 s]
      by_cases q : s = t
      · subst q
        rw [decide_eq_true rfl, Bool.or_true]
        have y190 : y5.1 190 s = 1 := by rw [l2 190 s (by omega), m4, si_ne (by omega), m3, si_eq]
        have y191 : y5.1 191 s = y5.1 162 48 := by rw [l2 191 s (by omega), l2 162 48 (by omega), m4, si_eq, si_ne (by omega)]
        refine ⟨⟨fun _ => ⟨by rw [y190, o1]; omega, y191⟩, fun _ => rfl⟩, fun _ => ⟨?_, ?_⟩⟩
        · have s3 : SEq (scn X 11) (scn X3 (133 + 7 * s)) := by
            rw [← ka]
            exact SEq_t c1 (scn_f (fun kx i a b => by rw [x3, si_ne (by omega)]))
          exact ZS_c n8 s3 (fun i hi => by rw [l1 i hi]; exact (f4 163 i (by omega) (by omega)).symm) zs
        · exact ZV_a n8 agr (fun i hi => by rw [l1 i hi]; exact f4 163 i (by omega) (by omega)) zv
      · rw [decide_eq_false q, Bool.or_false, rf' 190 s (by omega) (by omega) (by omega), rf' 191 s (by omega) (by omega) (by omega), rf' 162 48 (by omega) (by omega) (by omega)]
        obtain ⟨u1, u2⟩ := zk.2 s hs
        refine ⟨u1, fun hb => ?_⟩
        obtain ⟨w1, w2⟩ := u2 hb
        exact ⟨ZS_c n8 (scn_f (fun kx i a b => xf kx i (by omega) (by omega))) (fun i hi => (rf' 189 _ (by omega) (by omega) (by omega)).symm) w1, ZV_a n8 agr (fun i hi => rf' 189 _ (by omega) (by omega) (by omega)) w2⟩
    · exact absurd (⟨by omega, by omega⟩ : 0 ≤ v.toInt ∧ v.toInt ≤ 1) h
  · exact out (by have := q_nl g; omega) ex1
theorem again_2 {X R : Mem} {n : Nat} {v : Int32} {x r : Int32 × Mem} (za : ZA X R n) (jr : J r.2) (ex : f_Top_again v X = some x) (er : f_Mod_again v R = some r) : x.1 = r.1 ∧ ZA x.2 r.2 n := by
  have jR := za.1.2.1
  have z0 := o0
  have z1 := o1
  have z2 := o2
  unfold f_Mod_again at er
  obtain ⟨M1, m1, era⟩ := mo er
  obtain ⟨y2, ey2, erb⟩ := bo era
  have h2 := some_of (sp_in v 0 1) ey2
  rw [o0, o1] at h2
  have j1 : J M1 := by rw [m1]; exact Jw_fld okf_162_13 jR _
  have zaM : ZA X M1 n := ZA_13 j1 (fun kx i h _ _ => by rw [m1, si_ne (by omega)]) za
  unfold f_Top_again f_History_restore at ex
  obtain ⟨x1, ex1, exa⟩ := bo ex
  obtain ⟨_, ex1⟩ := io_n ex1
  have no : some ((0 : Int32), X) = some x1 → some ((0 : Int32), M1) = some r → x.1 = r.1 ∧ ZA x.2 r.2 n := by
    intro e h
    have e := Option.some.inj e
    rw [← e, if_pos rfl] at exa
    have exa := Option.some.inj exa
    have h := Option.some.inj h
    rw [← exa, ← h]; exact ⟨rfl, zaM⟩
  have out : ¬ (0 ≤ v.toInt ∧ v.toInt ≤ 1) → some ((0 : Int32), X) = some x1 → x.1 = r.1 ∧ ZA x.2 r.2 n := by
    intro hn e
    rcases h2 with ⟨_, h⟩ | ⟨h, _⟩
    · exact absurd h hn
    · rw [h, if_pos rfl] at erb
      exact no e erb
  rcases io ex1 with ⟨g, ex1⟩ | ⟨g, ex1⟩
  · exact out (by have := q_lt g; omega) ex1
  have g1 := q_nl g
  rcases io ex1 with ⟨g, ex1⟩ | ⟨g, ex1⟩
  · exact out (by have := q_le g; omega) ex1
  have g2 := q_ng g
  rcases h2 with ⟨h, _⟩ | ⟨_, h⟩
  · rw [h, if_neg (by decide)] at erb
    obtain ⟨t, ht⟩ := ti_ofn (v := v) (by omega)
    have t2 : t < 2 := by omega
    have zaM' := zaM
    obtain ⟨⟨n8, _, zb, zs, zv, zw⟩, zh, zk⟩ := zaM
    obtain ⟨u1, u2⟩ := zk.2 t t2
    rw [bt_shr ht (by omega)] at ex1
    obtain ⟨_, erb⟩ := io_n erb
    rw [q_nat ht] at erb
    cases hb : bt (X.1 46 3) t with
    | false =>
      rw [hb, if_neg (show ¬ (false = true) by decide), if_pos rfl] at ex1
      refine no ex1 ?_
      rcases io erb with ⟨q, erb⟩ | ⟨q, erb⟩
      · exact erb
      · obtain ⟨_, erb⟩ := io_n erb
        rcases io erb with ⟨q2, erb⟩ | ⟨q2, erb⟩
        · have : bt (X.1 46 3) t = true := u1.mpr ⟨fun h => q (Int32.toInt_inj.mp (by rw [h]; rfl)), q2⟩
          rw [hb] at this; cases this
        · exact erb
    | true =>
      rw [hb, if_pos rfl, if_neg (by decide)] at ex1
      obtain ⟨k1, k2⟩ := u1.mp hb
      obtain ⟨w1, w2⟩ := u2 hb
      obtain ⟨_, ex1⟩ := io_n ex1
      rw [q_nat ht] at ex1
      obtain ⟨a1, ea1, ex1⟩ := bo ex1
      obtain ⟨_, ex1⟩ := io_n ex1
      obtain ⟨X2, ex2, ex1⟩ := bo ex1
      have ex1 := Option.some.inj ex1
      rw [← ex1, if_neg (by show ¬ (1 : Int32) = 0; decide)] at exa
      obtain ⟨X3, ex3, exb⟩ := bo exa
      obtain ⟨x4, ex4, exc⟩ := bo exb
      have exc := Option.some.inj exc
      unfold f_History_forget at ex3
      obtain ⟨N3, n3, ex3⟩ := mo ex3
      have ex3 := Option.some.inj ex3
      subst ex3
      have ka : a1 = 133 + 7 * t := Option.some.inj (ea1.symm.trans (zk.1 t t2))
      obtain ⟨c1, c2, c3⟩ := copy_i (v0 := 11) (v1 := a1) (by omega) ex2
      have f3 : ∀ kx i, (kx < 11 ∨ 18 ≤ kx) → ¬ (kx = 46 ∧ i = 2) → N3.1 kx i = X.1 kx i := fun kx i h g => by rw [n3, si_ne g]; exact c2 kx i (by omega)
      have q3 : N3.2 = X.2 := by rw [n3]; show X2.2 = _; exact c3
      rw [if_neg (fun h => k1 (by rw [h]; rfl))] at erb
      obtain ⟨_, erb⟩ := io_n erb
      rw [if_pos k2] at erb
      obtain ⟨y5, ey5, erc⟩ := bo erb
      obtain ⟨M6, m6, erd⟩ := mo erc
      have erd := Option.some.inj erd
      have z96 : (96 : Int32).toInt = 96 := rfl
      obtain ⟨r1, r2⟩ := row_r (c := 189) (o := 96 * t) (.inr rfl) (lb_Mod_again_40 v) (by
        intro k N p r hp lp hN e
        unfold lb_Mod_again_40 at e
        dsimp only at e
        rcases io e with ⟨g, e⟩ | ⟨g, e⟩
        · have := q_le g
          exact .inl ⟨by omega, (Option.some.inj e).symm⟩
        · have := q_ng g
          obtain ⟨_, e⟩ := io_n e
          obtain ⟨_, e⟩ := io_n e
          obtain ⟨M3, e3, e⟩ := mo e
          have i1 : ((96 : Int32) * v).toInt = ((96 * t : Nat) : Int) := by rw [mul_ti z96 ht (by omega) (by omega)]; omega
          have i2 : ((96 : Int32) * v + k).toInt = ((96 * t + p : Nat) : Int) := by rw [add_ti i1 hp (by omega) (by omega)]; omega
          rw [q_nat i2, q_nat hp] at e3
          exact .inr ⟨by omega, by rw [← Option.some.inj e, e3]⟩) ey5
      have ry : ∀ kx i, kx ≠ 163 → ¬ (kx = 162 ∧ i = 27) → M6.1 kx i = M1.1 kx i := fun kx i h g => by rw [m6, si_ne g]; exact r2 kx i h
      have agr : AgR M1 M6 := ⟨ry 162 2 (by omega) (by omega), ry 162 3 (by omega) (by omega), ry 162 4 (by omega) (by omega), ry 162 5 (by omega) (by omega), ry 162 23 (by omega) (by omega), fun i => ry 164 i (by omega) (by omega), fun i => ry 165 i (by omega) (by omega), fun i => ry 166 i (by omega) (by omega), fun i => ry 172 i (by omega) (by omega)⟩
      have agx : AgX X N3 := ⟨f3 3 2 (by omega) (by omega), f3 3 3 (by omega) (by omega), fun i => f3 4 i (by omega) (by omega), f3 6 4 (by omega) (by omega), f3 6 5 (by omega) (by omega), fun i => f3 7 i (by omega) (by omega), fun i => f3 8 i (by omega) (by omega), f3 40 4 (by omega) (by omega), fun i => f3 41 i (by omega) (by omega), fun i => f3 35 i (by omega) (by omega), fun i => by rw [q3], fun i => by rw [q3]⟩
      have row : ∀ i, i < 96 → M6.1 163 i = M1.1 189 (96 * t + i) := fun i hi => by rw [m6, si_ne (by omega)]; exact r1 i hi
      have jy : J M6 := by rw [← erd] at jr; exact jr
      have zs3 : ZS (scn N3 11) (M6.1 163) n := by
        rw [← ka] at w1
        exact ZS_c n8 (SEq_t c1 (scn_f (fun kx i a b => by rw [n3, si_ne (by omega)]))) (fun i hi => (row i hi).symm) w1
      have zv3 : ZV M6 (M6.1 163) n := ZV_a n8 agr row w2
      obtain ⟨zq4, hf4, ag4, q4⟩ := lay_q n8 jy (ZB_a agx agr zb) zs3 zv3 ex4
      have x4f : ∀ kx i, (47 ≤ kx ∧ kx < 147) → x4.1 kx i = X.1 kx i := fun kx i h => by rw [ag4 kx i (by omega)]; exact f3 kx i (by omega) (by omega)
      obtain ⟨hx, _⟩ := zh
      rw [← exc, ← erd]
      refine ⟨rfl, zq4, ⟨⟨fun i hi => by rw [q4, q3]; exact hx.1 i hi, fun i j hi hj h => by rw [q4, q3] at h; exact hx.2 i j hi hj h⟩, 0, by omega, ?_, ?_, fun u hu => absurd hu (by omega)⟩, ?_⟩
      · show (x4.1 46 2).toInt = _
        rw [ag4 46 2 (by omega), n3, si_eq]; rfl
      · show (M6.1 162 27).toInt = _
        rw [m6, si_eq]; rfl
      · exact ZK_a n8 (by show x4.1 46 3 = _; rw [ag4 46 3 (by omega)]; exact f3 46 3 (by omega) (by omega)) (fun kx i a b => x4f kx i (by omega)) (fun i => by show x4.2.2 48 i = _; rw [q4, q3]) agr (ry 162 48 (by omega) (by omega)) (fun i => ry 189 i (by omega) (by omega)) (fun i => ry 190 i (by omega) (by omega)) (fun i => ry 191 i (by omega) (by omega)) zk
  · exact absurd (⟨by omega, by omega⟩ : 0 ≤ v.toInt ∧ v.toInt ≤ 1) h
/-! planks -/
theorem betweenC {X R : Mem} (z : ZG X R) (jR : J R) {a b x : Int32} (ha : 0 ≤ a.toInt) (ha2 : a.toInt < xw R * xh R) (hb : 0 ≤ b.toInt) (hb2 : b.toInt < xw R * xh R) (e : f_Ground_between a b X = some x) : x.toInt = btw (xw R) (xh R) a.toInt b.toInt := by
  have hw := aw jR
  have hh := ah jR
  unfold f_Ground_between at e
  obtain ⟨x1, e1, e⟩ := bo e
  obtain ⟨x2, e2, e⟩ := bo e
  obtain rfl := Option.some.inj e
  have q := besC z jR e2
  rcases acrossC z jR ha ha2 hb e1 with ⟨s, s4, hs, hbb⟩ | ⟨hs, hbb⟩
  · rw [q.1 ha ha2 (by omega) (by omega), hs]
    have := (bb_i hw hh ha ha2 (s := s) (by omega) (by omega)).1
    rw [hbb] at this; exact this.symm
  · rw [q.2 (by omega)]
    by_cases g : btw (xw R) (xh R) a.toInt b.toInt = -1
    · exact g.symm
    · obtain ⟨s, s0, s3, hsb⟩ := bt_i hw hh ha ha2 hb hb2 g
      obtain ⟨s', rfl⟩ : ∃ s' : Nat, s = (s' : Int) := ⟨s.toNat, by omega⟩
      exact absurd hsb (hbb s' (by omega))
theorem abs_i {d : Int32} {z : Int} (hd : d.toInt = z) (hz : -100 ≤ z ∧ z ≤ 100) : (if 0 ≤ d then d else 0 - d).toInt = (z.natAbs : Int) := by
  have z0 := o0
  by_cases g : 0 ≤ d
  · have := q_le g
    rw [if_pos g, hd]; omega
  · have := q_ng g
    rw [if_neg g, sub_ti o0 hd (by omega) (by omega)]; omega
theorem betweenR {R : Mem} (jR : J R) {a b x : Int32} (ha : 0 ≤ a.toInt) (ha2 : a.toInt < xw R * xh R) (hb : 0 ≤ b.toInt) (hb2 : b.toInt < xw R * xh R) (e : f_Mod_between a b R = some x) : x.toInt = btw (xw R) (xh R) a.toInt b.toInt := by
  have hw := aw jR
  have hh := ah jR
  have wh := awh jR
  have z0 := o0
  have z2 := o2
  have wi : (R.1 162 2).toInt = xw R := rfl
  have a1 : (a - a / (R.1 162 2) * (R.1 162 2)).toInt = a.toInt % xw R := rem_ti rfl wi ha (by omega)
  have b1 : (b - b / (R.1 162 2) * (R.1 162 2)).toInt = b.toInt % xw R := rem_ti rfl wi hb (by omega)
  have a2 : (a / (R.1 162 2)).toInt = a.toInt / xw R := div_ti rfl wi ha (by omega)
  have b2 : (b / (R.1 162 2)).toInt = b.toInt / xw R := div_ti rfl wi hb (by omega)
  have ra := Int.emod_nonneg a.toInt (show xw R ≠ 0 by omega)
  have rb := Int.emod_nonneg b.toInt (show xw R ≠ 0 by omega)
  have ra' := Int.emod_lt_of_pos a.toInt (show 0 < xw R by omega)
  have rb' := Int.emod_lt_of_pos b.toInt (show 0 < xw R by omega)
  have da := Int.ediv_nonneg ha (show 0 ≤ xw R by omega)
  have db := Int.ediv_nonneg hb (show 0 ≤ xw R by omega)
  have da' : a.toInt / xw R ≤ a.toInt := Int.ediv_le_self _ ha
  have db' : b.toInt / xw R ≤ b.toInt := Int.ediv_le_self _ hb
  have X1 := abs_i (sub_ti a1 b1 (by omega) (by omega)) (by omega)
  have Y1 := abs_i (sub_ti a2 b2 (by omega) (by omega)) (by omega)
  have s1 : (a + b).toInt = a.toInt + b.toInt := add_ti rfl rfl (by omega) (by omega)
  have mid : ((a + b) / (2 : Int32)).toInt = (a.toInt + b.toInt) / 2 := div_ti s1 o2 (by omega) (by omega)
  unfold f_Mod_between at e
  obtain ⟨_, e⟩ := io_m e
  obtain ⟨_, e⟩ := io_m e
  obtain ⟨_, e⟩ := io_m e
  obtain ⟨_, e⟩ := io_m e
  unfold btw
  have j45 : ∀ {p q : Int32}, p.toInt = ((a.toInt % xw R - b.toInt % xw R).natAbs : Int) → q.toInt = ((a.toInt / xw R - b.toInt / xw R).natAbs : Int) → ¬ ((a.toInt % xw R - b.toInt % xw R).natAbs = 2 ∧ (a.toInt / xw R - b.toInt / xw R).natAbs = 0) → j_Mod_between_45 a b p q R = some x → x.toInt = if ((a.toInt % xw R - b.toInt % xw R).natAbs = 2 ∧ (a.toInt / xw R - b.toInt / xw R).natAbs = 0) ∨ ((a.toInt % xw R - b.toInt % xw R).natAbs = 0 ∧ (a.toInt / xw R - b.toInt / xw R).natAbs = 2) then (a.toInt + b.toInt) / 2 else -1 := by
    intro p q hp hq hn e
    unfold j_Mod_between_45 at e
    rcases io e with ⟨c, e⟩ | ⟨c, e⟩
    · have c1 := q_eq c
      rcases io e with ⟨c, e⟩ | ⟨c, e⟩
      · have c2 := q_eq c
        obtain rfl := Option.some.inj e
        rw [if_pos (.inr ⟨by omega, by omega⟩)]; exact mid
      · have c2 := q_ne c
        obtain rfl := Option.some.inj e
        rw [if_neg (by rintro (h | h); exact hn h; omega)]; rfl
    · have c1 := q_ne c
      obtain rfl := Option.some.inj e
      rw [if_neg (by rintro (h | h); exact hn h; omega)]; rfl
  rcases io e with ⟨c, e⟩ | ⟨c, e⟩
  · have c1 := q_eq c
    rcases io e with ⟨c, e⟩ | ⟨c, e⟩
    · have c2 := q_eq c
      obtain rfl := Option.some.inj e
      rw [if_pos (.inl ⟨by omega, by omega⟩)]; exact mid
    · have c2 := q_ne c
      exact j45 X1 Y1 (by omega) e
  · have c1 := q_ne c
    exact j45 X1 Y1 (by omega) e
