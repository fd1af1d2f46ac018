/-! a cell built: the whole command -/
theorem kind_b {v : Int32} (h : 0 ≤ v.toInt ∧ v.toInt ≤ 3) : (bt v 0 = true ↔ (v = 1 ∨ v = 3)) ∧ (bt v 1 = true ↔ (v = 2 ∨ v = 3)) := by
  have hv : v = 0 ∨ v = 1 ∨ v = 2 ∨ v = 3 := by
    have : v.toInt = 0 ∨ v.toInt = 1 ∨ v.toInt = 2 ∨ v.toInt = 3 := by omega
    rcases this with h | h | h | h
    · exact .inl (Int32.toInt_inj.mp h)
    · exact .inr (.inl (Int32.toInt_inj.mp h))
    · exact .inr (.inr (.inl (Int32.toInt_inj.mp h)))
    · exact .inr (.inr (.inr (Int32.toInt_inj.mp h)))
  rcases hv with rfl | rfl | rfl | rfl <;> decide +kernel
theorem built_q {X Y R S : Mem} {n c : Nat} {v : Int32} (zq : ZQ X R n) (jS : J S) (hc : c < 36) (hcw : (c : Int) < xw R * xh R) (hv : 0 ≤ v.toInt ∧ v.toInt ≤ 3) (cb : CB R n (Int32.ofInt (c : Int)) v) (hci : (Int32.ofInt (c : Int)).toInt = (c : Int)) (fx : ∀ kx i, ¬ (kx = 4 ∧ i = c) → ¬ (kx = 46 ∧ (i = 2 ∨ i = 3)) → Y.1 kx i = X.1 kx i) (xc : Y.1 4 c = v) (xq : Y.2 = X.2) (fr : ∀ kx i, ¬ (kx = 164 ∧ i = c) → ¬ (kx = 162 ∧ (i = 27 ∨ i = 48)) → S.1 kx i = R.1 kx i) (rc : S.1 164 c = v) : ZB Y S n ∧ ZS (scn Y 11) (S.1 163) n ∧ ZV S (S.1 163) n := by
  obtain ⟨n8, jR, ⟨⟨g1, g2, g3, g4⟩, ⟨c1, c2, c3, c4, c5, c6⟩, l⟩, zs, zv, zw⟩ := zq
  have w1 : xw S = xw R := congrArg Int32.toInt (fr 162 2 (by omega) (by omega))
  have w2 : xh S = xh R := congrArg Int32.toInt (fr 162 3 (by omega) (by omega))
  obtain ⟨k0, k1⟩ := kind_b hv
  unfold CB at cb
  rw [hci] at cb
  have on_ne : ∀ (l d : Int), d ≠ (c : Int) → (onN S l d ↔ onN R l d) := by
    intro l d hd
    unfold onN
    rw [w1, w2]
    constructor
    · rintro ⟨a, b, h⟩
      rw [fr 164 d.toNat (by omega) (by omega)] at h
      exact ⟨a, b, h⟩
    · rintro ⟨a, b, h⟩
      refine ⟨a, b, ?_⟩
      rw [fr 164 d.toNat (by omega) (by omega)]
      exact h
  have on0 : bt v 0 = true → onN S 0 (c : Int) := by
    intro h
    refine ⟨by omega, by rw [w1, w2]; exact hcw, ?_⟩
    rw [if_pos rfl]
    show (S.1 164 c).toInt = 1 ∨ (S.1 164 c).toInt = 3
    rw [rc]
    rcases k0.mp h with rfl | rfl
    · exact .inl rfl
    · exact .inr rfl
  have on1 : bt v 1 = true → onN S 1 (c : Int) := by
    intro h
    refine ⟨by omega, by rw [w1, w2]; exact hcw, ?_⟩
    rw [if_neg (by omega)]
    show (S.1 164 c).toInt = 2 ∨ (S.1 164 c).toInt = 3
    rw [rc]
    rcases k1.mp h with rfl | rfl
    · exact .inl rfl
    · exact .inr rfl
  have off1 : bt v 1 = false → ¬ onN S 1 (c : Int) := by
    rintro h ⟨_, _, q⟩
    rw [if_neg (by omega)] at q
    have q : (S.1 164 c).toInt = 2 ∨ (S.1 164 c).toInt = 3 := q
    rw [rc] at q
    have : bt v 1 = true := k1.mpr (by
      rcases q with q | q
      · exact .inl (Int32.toInt_inj.mp q)
      · exact .inr (Int32.toInt_inj.mp q))
    rw [h] at this; cases this
  refine ⟨⟨⟨?_, ?_, fun i hi => ?_, fun i hi => ?_⟩, ⟨?_, ?_, ?_, fun p hp => ?_, fun p i hp hi => ?_, fun p hp => ?_⟩, ?_⟩, ZS_c n8 (scn_f (fun kx i a b => fx kx i (by omega) (by omega))) (fun i _ => (fr 163 i (by omega) (by omega)).symm) zs, ?_⟩
  · rw [fx 3 2 (by omega) (by omega), w1]; exact g1
  · rw [fx 3 3 (by omega) (by omega), w1, w2]; exact g2
  · by_cases q : i = c
    · subst q; rw [xc, rc]
    · rw [fx 4 i (by omega) (by omega), fr 164 i (by omega) (by omega)]; exact g3 i hi
  · by_cases q : i = c
    · subst q; rw [rc]; exact hv
    · rw [fr 164 i (by omega) (by omega)]; exact g4 i hi
  · rw [fr 162 4 (by omega) (by omega)]; exact c1
  · rw [fx 6 4 (by omega) (by omega), fr 162 4 (by omega) (by omega)]; exact c2
  · rw [fx 6 5 (by omega) (by omega), fr 162 5 (by omega) (by omega)]; exact c3
  · rw [fx 8 p (by omega) (by omega), fr 166 p (by omega) (by omega)]; exact c4 p hp
  · rw [fr 166 p (by omega) (by omega)] at hi; rw [fx 7 _ (by omega) (by omega), fr 165 _ (by omega) (by omega)]; exact c5 p i hp hi
  · rw [fr 162 5 (by omega) (by omega)]; exact c6 p hp
  · have b5 := fr 162 23 (by omega) (by omega)
    have b9 : ∀ i, S.1 172 i = R.1 172 i := fun i => fr 172 i (by omega) (by omega)
    have rl : rlx S = rlx R := by funext p; unfold rlx; rw [b5, b9]
    unfold ZL at l ⊢
    rw [rl, b5, fx 40 4 (by omega) (by omega)]
    rcases l with l | ⟨l1, l40, l2, Sx, l3, l4, l5, l6, l7, l8, l9⟩
    · exact .inl l
    · exact .inr ⟨l1, l40, fun p hp => by rw [b9]; exact l2 p hp, Sx, l3, l4, l5, l6, l7, l8, stk_c l9 (fun i _ => fx 41 i (by omega) (by omega))⟩
  · have f3 : ∀ i, S.1 163 i = R.1 163 i := fun i => fr 163 i (by omega) (by omega)
    have zv' := zv
    obtain ⟨h1, h2, h3, h4⟩ := zv
    refine ⟨fun p hp => ?_, by rw [f3]; exact h2, by rw [f3]; exact h3, fun j hj => ?_⟩
    · rw [f3 p, f3 (8 + p), fr 162 5 (by omega) (by omega), fr 166 p (by omega) (by omega)]
      obtain ⟨⟨q1, q2, q3⟩, q4⟩ := h1 p hp
      refine ⟨⟨q1, q2, ?_⟩, q4⟩
      by_cases w : (R.1 163 p).toInt % 36 = (c : Int)
      · have : (R.1 163 p).toInt / 36 = 0 ∨ (R.1 163 p).toInt / 36 = 1 := by omega
        rcases this with z | z
        · rw [z, w]
          refine on0 ?_
          cases hb : bt v 0 with
          | true => rfl
          | false => exact absurd (show (R.1 163 p).toInt = (c : Int) by omega) (cb.1 hb p hp)
        · rw [z, w]
          refine on1 ?_
          cases hb : bt v 1 with
          | true => rfl
          | false => exact absurd (show (R.1 163 p).toInt = (c : Int) + 36 by omega) (cb.2.1 hb p hp)
      · exact (on_ne _ _ w).mpr q3
    · rw [f3 92] at hj
      rw [f3, f3, w1, w2]
      obtain ⟨q1, q2, s, q3, q4, q5⟩ := h4 j hj
      obtain ⟨p1, p2, p3, p4⟩ := pl_v jR zv' hj
      have E := btw_even p3
      have bi := (bb_i (aw jR) (ah jR) q1.1 q1.2.1 (s := s) (by omega) (by rw [q4]; have := q2.1; omega)).1
      rw [q4] at bi
      have en : ∀ d : Int, onN R 1 d → (d = (c : Int) → bt v 1 = true) → onN S 1 d := by
        intro d hd hb
        by_cases w : d = (c : Int)
        · rw [w]; exact on1 (hb w)
        · exact (on_ne _ _ w).mpr hd
      refine ⟨en _ q1 (fun w => ?_), en _ q2 (fun w => ?_), s, q3, q4, fun h => ?_⟩
      · cases hb : bt v 1 with
        | true => rfl
        | false => exact absurd w (cb.2.2.1 hb j hj).1
      · cases hb : bt v 1 with
        | true => rfl
        | false => exact absurd w (cb.2.2.1 hb j hj).2
      · by_cases w : bes (xw R) (xh R) (R.1 163 (80 + 2 * j)).toInt s = (c : Int)
        · cases hb : bt v 1 with
          | true => exact cb.2.2.2 hb j hj (by rw [bi, w] at E; exact E)
          | false => rw [w] at h; exact off1 hb h
        · exact q5 ((on_ne _ _ w).mp h)
theorem build_2 {X R : Mem} {n : Nat} {v1 v2 : Int32} {x r : Int32 × Mem} (za : ZA X R n) (kk : KK R) (big : (R.1 162 48).toInt ≤ 2000000) (jr : J r.2) (ex : f_Top_build v1 v2 X = some x) (er : f_Mod_build v1 v2 R = some r) : x.1 = r.1 ∧ ZA x.2 r.2 n := by
  have jR := za.1.2.1
  have z0 := o0
  have z3 := o3
  unfold f_Mod_build at er
  obtain ⟨M1, m1, era⟩ := mo er
  have j1 : J M1 := by rw [m1]; exact Jw_fld okf_162_13 jR _
  have zaM : ZA X M1 n := ZA_13 j1 (fun kx i h _ _ => by rw [m1, si_ne (by omega)]) za
  have no : some ((-1 : Int32), X) = some x → r = ((-1 : Int32), M1) → x.1 = r.1 ∧ ZA x.2 r.2 n := by
    intro e1 e2
    rw [← Option.some.inj e1, e2]
    exact ⟨rfl, zaM⟩
  unfold f_Top_build at ex
  obtain ⟨x1, ex1, ex⟩ := bo ex
  obtain ⟨y1, ey1, era⟩ := bo era
  rcases has_j zaM.1.2.2.1.1 j1 ex1 with ⟨p1, a1, a2⟩ | ⟨p1, a1⟩
  rotate_left
  · rcases some_of (sp_isCell j1 v1) ey1 with ⟨_, b1, b2, b3⟩ | ⟨q, b1⟩
    · exact absurd ⟨b1, b3⟩ a1
    rw [p1, if_pos rfl] at ex
    rw [q, if_pos rfl] at era
    exact no ex (Option.some.inj era).symm
  rcases some_of (sp_isCell j1 v1) ey1 with ⟨q, b1, b2, b3⟩ | ⟨q, b1⟩
  rotate_left
  · exact absurd ⟨a1, a2⟩ b1
  rw [p1, if_neg (by decide)] at ex
  rw [q, if_neg (by decide)] at era
  obtain ⟨y2, ey2, era⟩ := bo era
  have h2 := some_of (sp_in v2 0 3) ey2
  rw [o0, o3] at h2
  have out : ¬ (0 ≤ v2.toInt ∧ v2.toInt ≤ 3) → some ((-1 : Int32), X) = some x → x.1 = r.1 ∧ ZA x.2 r.2 n := by
    intro hn e
    rcases h2 with ⟨_, h⟩ | ⟨h, _⟩
    · exact absurd h hn
    · rw [h, if_pos rfl] at era
      exact no e (Option.some.inj era).symm
  rcases io ex with ⟨g, ex⟩ | ⟨g, ex⟩
  · exact out (by have := q_lt g; omega) ex
  have g1 := q_nl g
  rcases io ex with ⟨g, ex⟩ | ⟨g, ex⟩
  · exact out (by have := q_lt g; omega) ex
  have g2 := q_nl g
  have hv : 0 ≤ v2.toInt ∧ v2.toInt ≤ 3 := by omega
  rcases h2 with ⟨h, _⟩ | ⟨_, h⟩
  rotate_left
  · exact absurd hv h
  rw [h, if_neg (by decide)] at era
  obtain ⟨k0, k1⟩ := kind_b hv
  have zqM := zaM.1
  have zc := zqM.2.2.1.2.1
  have R39 : ∃ w0 : Int32, (bt v2 1 = true ↔ w0 ≠ 0) ∧ j_Mod_build_39 v1 v2 w0 M1 = some r := by
    rcases io era with ⟨g, e⟩ | ⟨g, e⟩
    · exact ⟨1, ⟨fun _ => by decide, fun _ => k1.mpr (.inl g)⟩, e⟩
    rcases io e with ⟨g', e⟩ | ⟨g', e⟩
    · exact ⟨1, ⟨fun _ => by decide, fun _ => k1.mpr (.inr g')⟩, e⟩
    · exact ⟨0, ⟨fun h => ((k1.mp h).elim g g').elim, fun h => absurd rfl h⟩, e⟩
  obtain ⟨w0, hw0, e39⟩ := R39
  have CR := can_r j1 zqM.2.2.2.2.1 zc.1 zqM.1 ⟨a1, b2⟩ k0 hw0 e39
  obtain ⟨x2, ex2, ex⟩ := bo ex
  rcases can_c zqM ⟨a1, b2⟩ ex2 with ⟨u, cb⟩ | ⟨u, cb⟩
  rotate_left
  · rcases CR with ⟨h, _⟩ | ⟨_, h⟩
    · exact absurd h cb
    rw [u, if_pos rfl] at ex
    exact no ex h
  rcases CR with ⟨_, e141⟩ | ⟨h, _⟩
  rotate_left
  · exact absurd cb h
  rw [u, if_neg (by decide)] at ex
  obtain ⟨c, hc⟩ := ti_ofn a1
  have vc := of_s hc
  unfold j_Mod_build_141 at e141
  obtain ⟨_, ex⟩ := io_n ex
  obtain ⟨_, ex⟩ := io_n ex
  obtain ⟨_, e141⟩ := io_n e141
  obtain ⟨_, e141⟩ := io_n e141
  rw [q_nat hc] at ex e141
  obtain ⟨X3, x3, ex⟩ := mo ex
  obtain ⟨X4, ex4, ex⟩ := bo ex
  obtain ⟨X5, ex5, ex⟩ := bo ex
  obtain ⟨x6, ex6, ex⟩ := bo ex
  have exF := Option.some.inj ex
  unfold f_History_forget at ex4
  obtain ⟨N4, n4, ex4⟩ := mo ex4
  have ex4 := Option.some.inj ex4
  subst ex4
  unfold f_History_spoil at ex5
  obtain ⟨N5, n5, ex5⟩ := mo ex5
  have ex5 := Option.some.inj ex5
  subst ex5
  obtain ⟨M12, m12, e141⟩ := mo e141
  obtain ⟨M13, m13, e141⟩ := mo e141
  obtain ⟨M14, m14, e141⟩ := mo e141
  have e141F := Option.some.inj e141
  have m48 : M13.1 162 48 = M1.1 162 48 := by rw [m13, si_ne (by omega), m12, si_ne (by omega)]
  rw [m48] at m14
  have fx : ∀ kx i, ¬ (kx = 4 ∧ i = c) → ¬ (kx = 46 ∧ (i = 2 ∨ i = 3)) → N5.1 kx i = X.1 kx i := fun kx i h g => by rw [n5, si_ne (by omega), n4, si_ne (by omega), x3, si_ne h]
  have xc : N5.1 4 c = v2 := by rw [n5, si_ne (by omega), n4, si_ne (by omega), x3, si_eq]
  have xq : N5.2 = X.2 := by rw [n5]; show N4.2 = _; rw [n4]; show X3.2 = _; rw [x3]; rfl
  have fr : ∀ kx i, ¬ (kx = 164 ∧ i = c) → ¬ (kx = 162 ∧ (i = 27 ∨ i = 48)) → M14.1 kx i = M1.1 kx i := fun kx i h g => by rw [m14, si_ne (by omega), m13, si_ne (by omega), m12, si_ne h]
  have rc : M14.1 164 c = v2 := by rw [m14, si_ne (by omega), m13, si_ne (by omega), m12, si_eq]
  have r27 : M14.1 162 27 = 0 := by rw [m14, si_ne (by omega), m13, si_eq]
  have r48 : M14.1 162 48 = M1.1 162 48 + 1 := by rw [m14, si_eq]
  have jS : J M14 := by rw [← e141F] at jr; exact jr
  obtain ⟨zb, zs, zv⟩ := built_q (c := c) (v := v2) zqM jS (by omega) (by omega) hv (by rw [vc]; exact cb) (by rw [vc]; exact hc) fx xc xq fr rc
  obtain ⟨zq', _, agg, q'⟩ := lay_q zqM.1 jS zb zs zv ex6
  have old : X.1 4 c = M1.1 164 c := zqM.2.2.1.1.2.2.1 c (by omega)
  obtain ⟨_, ⟨hx, _⟩, zk⟩ := zaM
  have kk1 : KK M1 := KK_13 jR kk m1
  have b48 : (M1.1 162 48).toInt ≤ 2000000 := by rw [m1, si_ne (by omega)]; exact big
  rw [← exF, ← e141F]
  refine ⟨old, zq', ⟨⟨fun i hi => by rw [q', xq]; exact hx.1 i hi, fun i j hi hj h => by rw [q', xq] at h; exact hx.2 i j hi hj h⟩, 0, by omega, ?_, ?_, fun u hu => absurd hu (by omega)⟩, fun t ht => by show x6.2.2 48 t = _; rw [q', xq]; exact zk.1 t ht, fun t ht => ?_⟩
  · show (x6.1 46 2).toInt = _
    rw [agg 46 2 (by omega), n5, si_ne (by omega), n4, si_eq]; rfl
  · show (M14.1 162 27).toInt = _
    rw [r27]; rfl
  · have z46 : bt (x6.1 46 3) t = false := by rw [agg 46 3 (by omega), n5, si_eq, bt_0]
    have k := (kk1.2.2 t ht).1
    refine ⟨⟨fun h => (by rw [z46] at h; cases h), fun h => ?_⟩, fun h => (by rw [z46] at h; cases h)⟩
    have h2 := q_eq h.2
    have h2 : (M14.1 191 t).toInt = (M14.1 162 48).toInt := h2
    rw [r48, fr 191 t (by omega) (by omega), add_ti rfl o1 (by omega) (by omega)] at h2
    omega
