section
/-! meet, known, gossip -/
theorem hasV {b v x : Int32} {p : Nat} (hp : v.toInt = (p : Int)) (h32 : p < 32) (e : f_Mod_has b v = some x) : x = if bt b p = true then 1 else 0 := by
  unfold f_Mod_has at e
  rw [bt_shr hp h32] at e
  cases hb : bt b p with
  | true =>
    rw [hb, if_pos rfl, if_pos rfl] at e
    obtain rfl := Option.some.inj e
    rfl
  | false =>
    rw [hb, if_neg (show ¬ (false = true) by decide), if_neg (by decide)] at e
    obtain rfl := Option.some.inj e
    rfl
theorem womV {X : Mem} {v x : Int32} {p : Nat} (hp : v.toInt = (p : Int)) (h32 : p < 32) (e : f_Crowd_woman v X = some x) : x = if bt (X.1 6 5) p = true then 1 else 0 := by
  unfold f_Crowd_woman at e
  rw [bt_shr hp h32] at e
  cases hb : bt (X.1 6 5) p with
  | true =>
    rw [hb, if_pos rfl, if_neg (by decide)] at e
    obtain rfl := Option.some.inj e
    rfl
  | false =>
    rw [hb, if_neg (show ¬ (false = true) by decide), if_pos rfl] at e
    obtain rfl := Option.some.inj e
    rfl
theorem meeting_t {X R : Mem} {n p q : Nat} {a b y z : Int32} (zt : ZT X R n) (hp : a.toInt = (p : Int)) (hq : b.toInt = (q : Int)) (pn : p < n) (qn : q < n) (ey : f_Mod_areMeeting 176 a b R = some y) (ez : X.1 26 p = X.1 26 q → f_Ground_isStair (X.1 26 p) X = some z) : (y = 0 ∧ (X.1 26 p = X.1 26 q → z = 0)) ∨ (y = 1 ∧ X.1 26 p = X.1 26 q ∧ z = 1) := by
  have w1 := whr_t zt pn
  have w2 := whr_t zt qn
  obtain ⟨n8, jR, zb, zs, zv, zw⟩ := zt
  unfold f_Mod_areMeeting at ey
  obtain ⟨_, ey⟩ := io_n ey
  obtain ⟨_, ey⟩ := io_n ey
  obtain ⟨c1, ec1, ey⟩ := bo ey
  obtain ⟨_, ey⟩ := io_n ey
  obtain ⟨c2, ec2, ey⟩ := bo ey
  rw [q_nat hp] at ec1
  rw [q_nat hq] at ec2
  have e1 := w1.1 c1 ec1
  have e2 := w2.1 c2 ec2
  subst e1
  subst e2
  rcases io ey with ⟨g, ey⟩ | ⟨g, ey⟩
  · have hz := ez g
    obtain ⟨_, ey⟩ := io_n ey
    obtain ⟨c3, ec3, ey⟩ := bo ey
    obtain ⟨_, ey⟩ := io_n ey
    rw [q_nat hp] at ec3
    have e3 := w1.1 c3 ec3
    subst e3
    have st := stairC zb.1 jR hz
    obtain ⟨k0, k35, kwh⟩ := w1.2
    rcases io ey with ⟨g3, ey⟩ | ⟨g3, ey⟩
    · obtain rfl := Option.some.inj ey
      rcases st with ⟨s, _⟩ | ⟨_, s⟩
      · exact .inr ⟨rfl, g, s⟩
      · exact absurd ⟨k0, kwh, by rw [← tcn', g3]; rfl⟩ s
    · obtain rfl := Option.some.inj ey
      rcases st with ⟨_, s⟩ | ⟨s, _⟩
      · exact absurd (Int32.toInt_inj.mp (by rw [tcn']; exact s.2.2)) g3
      · exact .inl ⟨rfl, fun _ => s⟩
  · obtain rfl := Option.some.inj ey
    exact .inl ⟨rfl, fun h => absurd h g⟩
theorem meet_q {X R : Mem} {n : Nat} {a b : Int32} {x r : Int32 × Mem} (za : ZA X R n) (ex : f_Top_meet a b X = some x) (er : f_Mod_meet a b R = some r) : x.1 = r.1 ∧ (RR X R → RR x.2 r.2) := by
  have n8 := za.1.1
  unfold f_Mod_meet at er
  obtain ⟨M1, m1, er⟩ := mo er
  obtain ⟨zaM, fqM⟩ := ZA_M1 za m1
  unfold f_Top_meet at ex
  obtain ⟨x1, ex1, ex⟩ := bo ex
  obtain ⟨y2, ey2, er⟩ := bo er
  rcases two_i zaM.1.2.2.1.2.1 n8 ex1 ey2 with ⟨h1, h2⟩ | ⟨h1, h2, p, q, hp, hq, pn, qn, pq⟩
  · rw [h1, if_pos rfl] at ex
    rw [h2, if_pos rfl] at er
    obtain rfl := Option.some.inj ex
    obtain rfl := Option.some.inj er
    exact ⟨rfl, FQ2_RR fqM⟩
  rw [h1, if_neg (by decide)] at ex
  rw [h2, if_neg (by decide)] at er
  obtain ⟨x2, ex2, ex⟩ := bo ex
  obtain ⟨x3, ex3, ex⟩ := bo ex
  obtain ⟨R3, r3, er⟩ := bo er
  obtain ⟨y, ey, er⟩ := bo er
  have wv2 := womV hp (by omega) ex2
  have wv3 := womV hq (by omega) ex3
  have w5 : X.1 6 5 = M1.1 162 5 := zaM.1.2.2.1.2.1.2.2.1
  rw [w5] at wv2 wv3
  obtain ⟨j3, l1, l2⟩ := lay_t zaM.1.2.1 r3
  have r35 : R3.1 162 5 = M1.1 162 5 := l2 162 5 (by omega)
  rcases io ex with ⟨g, ex⟩ | ⟨g, ex⟩
  · -- of one kind: they never meet
    obtain rfl := Option.some.inj ex
    have K : Sum.elim (fun s : Mem => s.1 162 12 = R3.1 162 12 ∧ ∀ i, s.1 168 i = R3.1 168 i) (fun _ : Int32 × Mem => False) y := by
      refine it_r (I := fun s : Int32 × Mem => s.2.1 162 5 = R3.1 162 5 ∧ s.2.1 162 12 = R3.1 162 12 ∧ ∀ i, s.2.1 168 i = R3.1 168 i) (Q := Sum.elim (fun s : Mem => s.1 162 12 = R3.1 162 12 ∧ ∀ i, s.1 168 i = R3.1 168 i) (fun _ : Int32 × Mem => False)) ?_ ey ⟨rfl, rfl, fun _ => rfl⟩
      rintro ⟨i, T⟩ u ⟨t5, t12, t168⟩ e
      dsimp only at t5 t12 t168
      unfold lb_Mod_meet_30 at e
      dsimp only at e
      rcases io e with ⟨_, e⟩ | ⟨_, e⟩
      · obtain rfl := Option.some.inj e
        exact ⟨t12, t168⟩
      obtain ⟨x4, e4, e⟩ := bo e
      obtain ⟨x5, e5, e⟩ := bo e
      obtain ⟨x6, e6, e⟩ := bo e
      have fr : Fx mG176 [] T x4 := wf_Mod_goMinute 176 T (by decide +kernel) (oc_c (sb_r _) (by decide +kernel)) Fx_r e4
      have f5 : x4.1 162 5 = M1.1 162 5 := by rw [(fr 162 5 (by decide +kernel) (by simp)).1, t5, r35]
      have v5 := hasV hp (by omega) e5
      have v6 := hasV hq (by omega) e6
      rw [f5] at v5 v6
      rw [if_pos (by rw [v5, v6, ← wv2, ← wv3]; exact g)] at e
      obtain rfl := Option.some.inj e
      refine ⟨?_, ?_, fun i => ?_⟩
      · show x4.1 162 5 = _; rw [f5, r35]
      · show x4.1 162 12 = _; rw [(fr 162 12 (by decide +kernel) (by simp)).1]; exact t12
      · show x4.1 168 i = _; rw [(fr 168 i (by rw [show sl 168 i = 168 from rfl]; decide +kernel) (by simp)).1]; exact t168 i
    rcases y with y | y
    · replace er := el_l er
      obtain rfl := Option.some.inj er
      refine ⟨rfl, fun h => ?_⟩
      have h := FQ2_RR fqM h
      exact RR_f rfl (fun _ => rfl) (by show y.1 162 12 = _; rw [K.1]; exact l2 162 12 (by omega)) (fun i => by show y.1 168 i = _; rw [K.2 i]; exact l2 168 i (by omega)) h
    · exact K.elim
  · obtain ⟨X1, e1, ex⟩ := bo ex
    obtain ⟨w, ew, ex⟩ := bo ex
    obtain ⟨zt1, fq1⟩ := begin_t zaM.1 e1 r3
    have nebit : ∀ T : Mem, T.1 162 5 = M1.1 162 5 → ∀ x5 x6, f_Mod_has (T.1 162 5) a = some x5 → f_Mod_has (T.1 162 5) b = some x6 → ¬ x5 = x6 := by
      intro T hT x5 x6 e5 e6
      have v5 := hasV hp (by omega) e5
      have v6 := hasV hq (by omega) e6
      rw [hT] at v5 v6
      rw [v5, v6, ← wv2, ← wv3]; exact g
    have K : (∃ (u v : Mem), w = .inl u ∧ y = .inl v ∧ FQ2 X1 R3 u v) ∨ (∃ (k c : Int32) (u v : Mem), w = .inr (k, c, u) ∧ y = .inr (k, v) ∧ ZT u v n ∧ FQ2 X1 R3 u v ∧ c = u.1 26 p) := by
      refine it_2 (I := fun (s t : Int32 × Mem) => s.1 = t.1 ∧ ZT s.2 t.2 n ∧ FQ2 X1 R3 s.2 t.2) (Q := fun (w : Mem ⊕ (Int32 × Int32 × Mem)) (y : Mem ⊕ (Int32 × Mem)) => (∃ (u v : Mem), w = .inl u ∧ y = .inl v ∧ FQ2 X1 R3 u v) ∨ (∃ (k c : Int32) (u v : Mem), w = .inr (k, c, u) ∧ y = .inr (k, v) ∧ ZT u v n ∧ FQ2 X1 R3 u v ∧ c = u.1 26 p)) ?_ ew ey ⟨rfl, zt1, FQ2_r⟩
      rintro ⟨i, N⟩ ⟨i', T⟩ A B ⟨hi, z, fq⟩ eA eB
      dsimp only at hi z fq
      subst hi
      unfold lb_Top_meet_46 at eA
      unfold lb_Mod_meet_30 at eB
      dsimp only at eA eB
      rcases io eA with ⟨g, eA⟩ | ⟨g, eA⟩
      · rw [if_pos g] at eB
        obtain rfl := Option.some.inj eA
        obtain rfl := Option.some.inj eB
        exact .inr ⟨_, _, rfl, rfl, .inl ⟨_, _, rfl, rfl, fq⟩⟩
      rw [if_neg g] at eB
      obtain ⟨x5, e5, eA⟩ := bo eA
      obtain ⟨x4, e4, eB⟩ := bo eB
      obtain ⟨zt2, pp, fq2⟩ := pass_t z e5 e4
      have fq3 := FQ2_t fq fq2
      obtain ⟨v5, ev5, eB⟩ := bo eB
      obtain ⟨v6, ev6, eB⟩ := bo eB
      have t5 : x4.1 162 5 = M1.1 162 5 := by rw [fq3.2.1 162 5 (by unfold CRr CR; omega)]; exact r35
      rw [if_neg (nebit x4 t5 v5 v6 ev5 ev6)] at eB
      obtain ⟨v7, ev7, eB⟩ := bo eB
      obtain ⟨_, eA⟩ := io_n eA
      obtain ⟨_, eA⟩ := io_n eA
      rw [q_nat hp, q_nat hq] at eA
      rcases io eA with ⟨gc, eA⟩ | ⟨gc, eA⟩
      · obtain ⟨z6, ez6, eA⟩ := bo eA
        rcases meeting_t zt2 hp hq pn qn ev7 (fun _ => ez6) with ⟨k1, k2⟩ | ⟨k1, _, k3⟩
        · rw [k2 gc, if_pos rfl] at eA
          rw [k1, if_pos rfl] at eB
          obtain rfl := Option.some.inj eA
          obtain rfl := Option.some.inj eB
          exact .inl ⟨_, _, rfl, rfl, rfl, zt2, fq3⟩
        · rw [k3, if_neg (by decide)] at eA
          rw [k1, if_neg (by decide)] at eB
          obtain rfl := Option.some.inj eA
          obtain rfl := Option.some.inj eB
          exact .inr ⟨_, _, rfl, rfl, .inr ⟨_, _, _, _, rfl, rfl, zt2, fq3, rfl⟩⟩
      · obtain rfl := Option.some.inj eA
        rcases meeting_t (z := 0) zt2 hp hq pn qn ev7 (fun h => absurd h gc) with ⟨k1, _⟩ | ⟨_, k2, _⟩
        · rw [k1, if_pos rfl] at eB
          obtain rfl := Option.some.inj eB
          exact .inl ⟨_, _, rfl, rfl, rfl, zt2, fq3⟩
        · exact absurd k2 gc
    have fqA : ∀ {u v : Mem}, FQ2 X1 R3 u v → RR X R → RR u v := fun f h => FQ2_RR (FQ2_t (FQ2_t fqM fq1) f) h
    rcases K with ⟨u, v, rfl, rfl, f⟩ | ⟨k, c, u, v, rfl, rfl, z, f, hc⟩
    · replace ex := el_l ex
      replace er := el_l er
      obtain rfl := Option.some.inj ex
      obtain rfl := Option.some.inj er
      exact ⟨rfl, fqA f⟩
    · replace ex := el_r ex
      replace er := el_r er
      obtain ⟨x13, e13, ex⟩ := bo ex
      obtain ⟨x14, e14, ex⟩ := bo ex
      obtain rfl := Option.some.inj ex
      obtain ⟨M14, m14, er⟩ := mo er
      obtain ⟨_, er⟩ := io_n er
      obtain ⟨y15, ey15, er⟩ := bo er
      obtain ⟨y16, ey16, er⟩ := bo er
      obtain rfl := Option.some.inj er
      dsimp only at e13 e14 m14
      rw [q_nat hp, m14, si_ne (by omega)] at ey15
      have w := (whr_t z pn).1 y15 ey15
      exact ⟨rfl, fun _ => RRn_r (by omega) (RR_n (RR_0 e13 m14) (by omega) (by rw [w, hc]) e14 ey16)⟩
theorem known_q {X R : Mem} {n : Nat} {x r : Int32 × Mem} (za : ZA X R n) (ex : f_Top_known X = some x) (er : f_Mod_known R = some r) : x.1 = r.1 ∧ (RR X R → RR x.2 r.2) := by
  have n8 := za.1.1
  have z0 := o0
  have ym := om
  have z60 : (60 : Int32).toInt = 60 := rfl
  have m2 : (-2 : Int32).toInt = -2 := rfl
  unfold f_Mod_known at er
  obtain ⟨M1, m1, er⟩ := mo er
  obtain ⟨zaM, fqM⟩ := ZA_M1 za m1
  unfold f_Top_known at ex
  obtain ⟨X1, e1, ex⟩ := bo ex
  obtain ⟨x5, e5, ex⟩ := bo ex
  obtain ⟨R2, r2, er⟩ := bo er
  obtain ⟨y8, ey8, er⟩ := bo er
  obtain ⟨zt1, fq1⟩ := begin_t zaM.1 e1 r2
  have a64 : X.1 6 4 = M1.1 162 4 := zaM.1.2.2.1.2.1.2.1
  generalize hall : (((1 : Int32) <<< ((X.1 6 4) &&& 31)) - (1 : Int32)) = all at *
  have hallR : ∀ T : Mem, T.1 162 4 = M1.1 162 4 → (((1 : Int32) <<< ((T.1 162 4) &&& 31)) - (1 : Int32)) = all := by
    intro T hT
    rw [hT, ← a64]; exact hall
  have tN : ∀ T, FQ2 X1 R2 X1 T ∨ (∃ N, FQ2 X1 R2 N T) → T.1 162 4 = M1.1 162 4 := by
    rintro T (h | ⟨N, h⟩)
    · rw [h.2.1 162 4 (by unfold CRr CR; omega), fq1.2.1 162 4 (by unfold CRr CR; omega)]
    · rw [h.2.1 162 4 (by unfold CRr CR; omega), fq1.2.1 162 4 (by unfold CRr CR; omega)]
  have nw : ∀ {N T : Mem}, ZT N T n → N.1 25 8 = T.1 176 93 := fun z => z.2.2.2.1.2.2.2.2.2.2.1
  -- the reference's first look
  obtain ⟨m, hm⟩ : ∃ m, FU = m + 1 := ⟨999999999, rfl⟩
  rw [hm] at ey8
  simp only [iter] at ey8
  have first : ∃ f0 : Int32, lb_Mod_known_22 ((-2 : Int32), (0 : Int32), R2) = some (.inl (f0, (0 : Int32) + (1 : Int32), R2)) ∧ ((X1.1 25 8 = all ∧ f0 = 0) ∨ (X1.1 25 8 ≠ all ∧ f0 = -2)) := by
    unfold lb_Mod_known_22 j_Mod_known_44_22
    dsimp only
    rw [if_neg (by decide), if_neg (by decide), if_pos (by decide), show (93 : Int32).toNatClampNeg = 93 from rfl, hallR R2 (tN R2 (.inl FQ2_r)), ← nw zt1]
    by_cases c : X1.1 25 8 = all
    · rw [if_pos c]; exact ⟨_, rfl, .inl ⟨c, rfl⟩⟩
    · rw [if_neg c]; exact ⟨_, rfl, .inr ⟨c, rfl⟩⟩
  obtain ⟨f0, ef0, hf0⟩ := first
  rw [ef0] at ey8
  dsimp only at ey8
  have K : ZT x5.2 y8.2 n ∧ FQ2 X1 R2 x5.2 y8.2 ∧ ((x5.2.1 25 8 = all ∧ y8.1 = x5.1) ∨ (x5.2.1 25 8 ≠ all ∧ y8.1 = -2)) := by
    refine it_2 (I := fun (s t : Int32 × Int32 × Mem) => ∃ i : Nat, i ≤ 60 ∧ s.1.toInt = (i : Int) ∧ s.2.1.toInt = (i : Int) ∧ t.2.1.toInt = ((i + 1 : Nat) : Int) ∧ ZT s.2.2 t.2.2 n ∧ FQ2 X1 R2 s.2.2 t.2.2 ∧ ((s.2.2.1 25 8 = all ∧ t.1 = s.1) ∨ (s.2.2.1 25 8 ≠ all ∧ t.1 = -2))) (Q := fun (x y : Int32 × Mem) => ZT x.2 y.2 n ∧ FQ2 X1 R2 x.2 y.2 ∧ ((x.2.1 25 8 = all ∧ y.1 = x.1) ∨ (x.2.1 25 8 ≠ all ∧ y.1 = -2))) ?_ e5 ey8 ⟨0, by omega, rfl, rfl, rfl, zt1, FQ2_r, ?_⟩
    · rintro ⟨af, si, N⟩ ⟨fd, ti, T⟩ A B ⟨i, i60, h1, h2, h3, z, fq, h4⟩ eA eB
      dsimp only at h1 h2 h3 z fq h4
      unfold lb_Top_known_27 at eA
      unfold lb_Mod_known_22 at eB
      dsimp only at eA eB
      rcases io eA with ⟨g, eA⟩ | ⟨g, eA⟩
      · have g1 := q_le g
        rw [if_pos (Int32.lt_iff_toInt_lt.mpr (by omega))] at eB
        obtain rfl := Option.some.inj eA
        obtain rfl := Option.some.inj eB
        exact .inr ⟨_, _, rfl, rfl, z, fq, h4⟩
      have g1 := q_ng g
      rw [if_neg (fun h => by have := q_lt h; omega)] at eB
      rcases io eA with ⟨gn, eA⟩ | ⟨gn, eA⟩
      · rcases h4 with ⟨_, h5⟩ | ⟨h5, _⟩
        rotate_left
        · exact absurd gn h5
        rw [if_pos (Int32.le_iff_toInt_le.mpr (by rw [h5]; omega))] at eB
        obtain rfl := Option.some.inj eA
        obtain rfl := Option.some.inj eB
        exact .inr ⟨_, _, rfl, rfl, z, fq, .inl ⟨gn, h5⟩⟩
      · rcases h4 with ⟨h5, _⟩ | ⟨_, h5⟩
        · exact absurd h5 gn
        rw [if_neg (fun h => by have := q_le h; rw [h5] at this; omega), if_neg (fun h => by have := q_le h; omega)] at eB
        obtain ⟨x2, e2, eA⟩ := bo eA
        obtain rfl := Option.some.inj eA
        obtain ⟨x4, e4, eB⟩ := bo eB
        obtain ⟨zt2, pp, fq2⟩ := pass_t z e2 e4
        have fq3 := FQ2_t fq fq2
        unfold j_Mod_known_44_22 at eB
        rw [show (93 : Int32).toNatClampNeg = 93 from rfl, hallR x4 (tN x4 (.inr ⟨_, fq3⟩)), ← nw zt2] at eB
        have n1 : (af + (1 : Int32)).toInt = ((i + 1 : Nat) : Int) := add_ti h1 o1 (by omega) (by omega)
        have n2 : (si + (1 : Int32)).toInt = ((i + 1 : Nat) : Int) := add_ti h2 o1 (by omega) (by omega)
        have n3 : (ti + (1 : Int32)).toInt = ((i + 1 + 1 : Nat) : Int) := add_ti h3 o1 (by omega) (by omega)
        rcases io eB with ⟨c, eB⟩ | ⟨c, eB⟩
        · obtain rfl := Option.some.inj eB
          exact .inl ⟨_, _, rfl, rfl, i + 1, by omega, n1, n2, n3, zt2, fq3, .inl ⟨c, Int32.toInt_inj.mp (h3.trans n1.symm)⟩⟩
        · obtain rfl := Option.some.inj eB
          exact .inl ⟨_, _, rfl, rfl, i + 1, by omega, n1, n2, n3, zt2, fq3, .inr ⟨c, h5⟩⟩
    · rcases hf0 with ⟨c, h⟩ | ⟨c, h⟩
      · exact .inl ⟨c, h⟩
      · exact .inr ⟨c, h⟩
  obtain ⟨zt5, fq5, h5⟩ := K
  unfold j_Top_known_80 at ex
  obtain ⟨x6, e6, ex⟩ := bo ex
  obtain ⟨x7, e7, ex⟩ := bo ex
  unfold j_Mod_known_70 at er
  obtain ⟨M9, m9, er⟩ := mo er
  obtain ⟨y10, ey10, er⟩ := bo er
  obtain rfl := Option.some.inj er
  rw [show (93 : Int32).toNatClampNeg = 93 from rfl, m9, si_ne (by omega)] at ey10
  have em := empty_i e6
  have nn := note_i e7
  have x78 : x7.1 25 8 = x5.2.1 25 8 := by rw [nn.1 25 8 (by omega) (by omega), em.1 25 8 (by omega)]
  rw [x78] at ex
  have rr : RRn 1 x7 y10 := RR_n (RR_0 e6 rfl) (by omega) (by rw [em.1 25 8 (by omega)]; exact nw zt5) e7 ey10
  rcases h5 with ⟨c, h⟩ | ⟨c, h⟩
  · rw [if_pos c] at ex
    obtain rfl := Option.some.inj ex
    exact ⟨h.symm, fun _ => RRn_r (by omega) rr⟩
  · rw [if_neg c] at ex
    obtain rfl := Option.some.inj ex
    exact ⟨h.symm, fun _ => RRn_r (by omega) rr⟩
end
section
/-! gossip -/
theorem bc_pos {v b : Int32} (e : f_JInteger_bitCount v = some b) : 0 ≤ b.toInt := by
  unfold f_JInteger_bitCount at e
  obtain rfl := Option.some.inj e
  exact (and_rng (by decide)).1
theorem news_t {X R Y S : Mem} {n : Nat} {w : Int32} (zt : ZT X R n) (hY : Y = s_i X 25 8 ((X.1 25 8) ||| w)) (fS : ∀ kx i, ¬ (kx = 176 ∧ i = 93) → S.1 kx i = R.1 kx i) (h93 : S.1 176 93 = (R.1 176 93) ||| w) (jS : J S) : ZT Y S n ∧ FQ2 X R Y S := by
  obtain ⟨n8, jR, zb, zs, zv, zw⟩ := zt
  have fY : ∀ kx i, ¬ (kx = 25 ∧ i = 8) → Y.1 kx i = X.1 kx i := fun kx i h => by rw [hY, si_ne h]
  have fY2 : Y.2 = X.2 := by rw [hY, si_2]
  have agx : AgX X Y := ⟨fY 3 2 (by omega), fY 3 3 (by omega), fun i => fY 4 i (by omega), fY 6 4 (by omega), fY 6 5 (by omega), fun i => fY 7 i (by omega), fun i => fY 8 i (by omega), fY 40 4 (by omega), fun i => fY 41 i (by omega), fun i => fY 35 i (by omega), fun i => by rw [fY2], fun i => by rw [fY2]⟩
  have agr : AgR R S := ⟨fS 162 2 (by omega), fS 162 3 (by omega), fS 162 4 (by omega), fS 162 5 (by omega), fS 162 23 (by omega), fun i => fS 164 i (by omega), fun i => fS 165 i (by omega), fun i => fS 166 i (by omega), fun i => fS 172 i (by omega)⟩
  have nw : X.1 25 8 = R.1 176 93 := zs.2.2.2.2.2.2.1
  refine ⟨⟨n8, jS, ZB_a agx agr zb, ZS_n n8 (fun j i h1 h2 => ?_) ?_ (fun i hi => fS 176 i (by omega)) zs, ZV_b n8 agr (fun i hi => fS 176 i (by omega)) zv, ZW_a agx agr (plk_c (fun i _ _ => fS 176 i (by omega)) zv.2.1.2) zw⟩, ⟨fun kx i h => fY kx i (by unfold CXr CX at h; omega), fun i => by rw [fY2], fun i => by rw [fY2], fun i => by rw [fY2], fun i => by rw [fY2]⟩, fun kx i h => fS kx i (by unfold CRr CR at h; omega), ⟨fY 0 15 (by omega), fun i => fY 161 i (by omega)⟩, fS 162 12 (by omega), fun i => fS 168 i (by omega)⟩
  · unfold scn
    by_cases g : j < 6
    · rw [if_pos g, if_pos g]; exact fY _ _ (by omega)
    · rw [if_neg g, if_neg g]; exact fY _ _ (by omega)
  · show Y.1 25 8 = S.1 176 93
    rw [hY, si_eq, h93, nw]
theorem hearers_2 {X R R3 M9 y : Mem} {n : Nat} {v w a b c k : Int32} {x : Int32 × Mem} (za : ZA X R n) (ex : f_Top_hearers v w X = some x) (r3 : f_Mod_lay 163 176 (0 : Int32) R = some R3) (fS : ∀ kx i, ¬ (kx = 176 ∧ i = 93) → M9.1 kx i = R3.1 kx i) (h93 : M9.1 176 93 = (R3.1 176 93) ||| w) (jS : J M9) (ry : iter (lb_Mod_gossip_93 v a b c) FU ((0 : Int32), M9) = some y) (rk : f_JInteger_bitCount (y.1 176 93) = some k) : x.1 = k ∧ 0 ≤ k.toInt ∧ ZA x.2 y n ∧ FQ2 X R x.2 y := by
  unfold f_Top_hearers at ex
  obtain ⟨X1, e1, ex⟩ := bo ex
  obtain ⟨M2, m2, ex⟩ := mo ex
  obtain ⟨x5, e5, ex⟩ := bo ex
  obtain ⟨x6, e6, ex⟩ := bo ex
  obtain rfl := Option.some.inj ex
  obtain ⟨zt1, fq1⟩ := begin_t za.1 e1 r3
  obtain ⟨zt2, fq2⟩ := news_t zt1 m2 fS h93 jS
  have K : ZT x5 y n ∧ FQ2 M2 M9 x5 y := by
    refine it_2 (I := fun (s t : Int32 × Mem) => s.1 = t.1 ∧ ZT s.2 t.2 n ∧ FQ2 M2 M9 s.2 t.2) (Q := fun (x y : Mem) => ZT x y n ∧ FQ2 M2 M9 x y) ?_ e5 ry ⟨rfl, zt2, FQ2_r⟩
    rintro ⟨i, N⟩ ⟨i', T⟩ A B ⟨hi, z, fq⟩ eA eB
    dsimp only at hi z fq
    subst hi
    unfold lb_Top_hearers_26 at eA
    unfold lb_Mod_gossip_93 at eB
    dsimp only at eA eB
    rcases io eA with ⟨g, eA⟩ | ⟨g, eA⟩
    · rw [if_pos g] at eB
      obtain rfl := Option.some.inj eA
      obtain rfl := Option.some.inj eB
      exact .inr ⟨_, _, rfl, rfl, z, fq⟩
    · rw [if_neg g] at eB
      obtain ⟨z3, ez3, eA⟩ := bo eA
      obtain rfl := Option.some.inj eA
      obtain ⟨w3, ew3, eB⟩ := bo eB
      obtain rfl := Option.some.inj eB
      obtain ⟨zt3, pp, fq3⟩ := pass_t z ez3 ew3
      exact .inl ⟨_, _, rfl, rfl, rfl, zt3, FQ2_t fq fq3⟩
  obtain ⟨zt5, fq5⟩ := K
  have FQ := FQ2_t (FQ2_t fq1 fq2) fq5
  have nw : x5.1 25 8 = y.1 176 93 := zt5.2.2.2.1.2.2.2.2.2.2.1
  rw [nw, rk] at e6
  have e6 := Option.some.inj e6
  exact ⟨e6.symm, bc_pos rk, FQ2_ZA FQ zt5.2.1 za, FQ⟩
theorem gossip_q {X R : Mem} {n : Nat} {v : Int32} {x r : Int32 × Mem} (za : ZA X R n) (ex : f_Top_gossip v X = some x) (er : f_Mod_gossip v R = some r) : x.1 = r.1 ∧ (RR X R → RR x.2 r.2) := by
  have n8 := za.1.1
  have z0 := o0
  have ym := om
  have z60 : (60 : Int32).toInt = 60 := rfl
  unfold f_Mod_gossip at er
  obtain ⟨M1, m1, er⟩ := mo er
  obtain ⟨zaM, fqM⟩ := ZA_M1 za m1
  obtain ⟨y2, ey2, er⟩ := bo er
  have h2 := some_of (sp_in v 0 60) ey2
  rw [o0, z60] at h2
  unfold f_Top_gossip at ex
  have out : ¬ (0 ≤ v.toInt ∧ v.toInt ≤ 60) → some ((-2 : Int32), X) = some x → x.1 = r.1 ∧ (RR X R → RR x.2 r.2) := by
    intro hn e
    rcases h2 with ⟨_, h⟩ | ⟨h, _⟩
    · exact absurd h hn
    rw [h, if_pos rfl] at er
    obtain rfl := Option.some.inj e
    obtain rfl := Option.some.inj er
    exact ⟨rfl, FQ2_RR fqM⟩
  rcases io ex with ⟨c, ex⟩ | ⟨c, ex⟩
  · exact out (by have := q_lt c; omega) ex
  have c1 := q_nl c
  rcases io ex with ⟨c, ex⟩ | ⟨c, ex⟩
  rotate_left
  · exact out (by have := q_ng c; omega) ex
  have c2 := q_le c
  rcases h2 with ⟨h, _⟩ | ⟨_, h⟩
  rotate_left
  · exact absurd ⟨by omega, by omega⟩ h
  rw [h, if_neg (by decide)] at er
  obtain ⟨x1, e1, ex⟩ := bo ex
  obtain ⟨x7, e7, ex⟩ := bo ex
  obtain ⟨x8, e8, ex⟩ := bo ex
  obtain ⟨x9, e9, ex⟩ := bo ex
  obtain rfl := Option.some.inj ex
  obtain ⟨y18, r18, er⟩ := bo er
  obtain ⟨M19, m19, er⟩ := mo er
  obtain ⟨y20, r20, er⟩ := bo er
  obtain rfl := Option.some.inj er
  -- nobody is told
  obtain ⟨m, hm⟩ : ∃ m, FU = m + 1 := ⟨999999999, rfl⟩
  rw [hm] at r18
  simp only [iter] at r18
  have first : ∃ (k : Int32) (S : Mem), lb_Mod_gossip_25 v ((-1 : Int32), (-1 : Int32), (-1 : Int32), M1) = some (.inl ((-1 : Int32), k, (0 : Int32), S)) ∧ x1.1 = k ∧ 0 ≤ k.toInt ∧ ZA x1.2 S n ∧ FQ2 X M1 x1.2 S := by
    cases hl : lb_Mod_gossip_25 v ((-1 : Int32), (-1 : Int32), (-1 : Int32), M1) with
    | none => rw [hl] at r18; cases r18
    | some q =>
      have nn : (M1.1 162 4).toInt = (n : Int) := zaM.1.2.2.1.2.1.1
      unfold lb_Mod_gossip_25 at hl
      dsimp only at hl
      rw [if_neg (fun h => by have := q_le h; omega), if_pos rfl] at hl
      unfold j_Mod_gossip_58_25 at hl
      obtain ⟨R3, r3, hl⟩ := bo hl
      rw [if_pos rfl] at hl
      obtain ⟨y6, ry6, hl⟩ := bo hl
      obtain ⟨k, rk, hl⟩ := bo hl
      rw [show (93 : Int32).toNatClampNeg = 93 from rfl] at rk
      obtain ⟨H1, H2, H3, H4⟩ := hearers_2 (w := 0) zaM e1 r3 (fun _ _ _ => rfl) (by rw [Int32.or_zero]) (lay_t zaM.1.2.1 r3).1 ry6 rk
      rw [if_pos (Int32.lt_iff_toInt_lt.mpr (by omega))] at hl
      obtain rfl := Option.some.inj hl
      exact ⟨k, y6, rfl, H1, H2, H3, H4⟩
  obtain ⟨k0, S0, ef, hk, k0p, zS, fqS⟩ := first
  rw [ef] at r18
  dsimp only at r18
  have K : x7.1 = y18.1 ∧ x7.2.1 = y18.2.1 := by
    refine it_2 (I := fun (s t : Int32 × Int32 × Int32 × Mem) => s.1 = t.1 ∧ s.2.1 = t.2.1 ∧ s.2.2.1 = t.2.2.1 ∧ 0 ≤ s.2.1.toInt ∧ ∃ p : Nat, p ≤ n ∧ s.2.2.1.toInt = (p : Int) ∧ ZA s.2.2.2 t.2.2.2 n) (Q := fun (x y : Int32 × Int32 × Mem) => x.1 = y.1 ∧ x.2.1 = y.2.1) ?_ e7 r18 ⟨rfl, hk, rfl, by show 0 ≤ x1.1.toInt; rw [hk]; exact k0p, 0, by omega, rfl, zS⟩
    rintro ⟨b, mo_, p_, N⟩ ⟨b', mo', p', T⟩ A B ⟨h1, h2, h3, h4, p, pn, hp, z⟩ eA eB
    dsimp only at h1 h2 h3 h4 hp z
    subst h1
    subst h2
    subst h3
    unfold lb_Top_gossip_25 at eA
    unfold lb_Mod_gossip_25 at eB
    dsimp only at eA eB
    have n64 : N.1 6 4 = T.1 162 4 := z.1.2.2.1.2.1.2.1
    have nn : (T.1 162 4).toInt = (n : Int) := z.1.2.2.1.2.1.1
    have nw : N.1 11 8 = T.1 163 93 := z.1.2.2.2.1.2.2.2.2.2.2.1
    rw [n64] at eA
    rcases io eA with ⟨g, eA⟩ | ⟨g, eA⟩
    · rw [if_pos g] at eB
      obtain rfl := Option.some.inj eA
      obtain rfl := Option.some.inj eB
      exact .inr ⟨_, _, rfl, rfl, rfl, rfl⟩
    have g1 := q_ng g
    rw [if_neg g, if_neg (fun h => by have := q_eq h; omega), show (93 : Int32).toNatClampNeg = 93 from rfl] at eB
    obtain ⟨x14, e14, eB⟩ := bo eB
    have hb := hasR hp (by omega) e14
    rw [bt_shr hp (by omega), nw] at eA
    have p1 : (p_ + (1 : Int32)).toInt = ((p + 1 : Nat) : Int) := add_ti hp o1 (by omega) (by omega)
    cases hbt : bt (T.1 163 93) p with
    | true =>
      rw [hbt, if_pos rfl, if_neg (by decide)] at eA
      rw [if_neg (fun h => by rw [hb.mp h] at hbt; cases hbt)] at eB
      obtain rfl := Option.some.inj eB
      unfold j_Top_gossip_57_25 at eA
      rw [if_pos rfl] at eA
      unfold j_Top_gossip_77_25 at eA
      rw [if_pos (Int32.le_iff_toInt_le.mpr (by omega))] at eA
      obtain rfl := Option.some.inj eA
      exact .inl ⟨_, _, rfl, rfl, rfl, rfl, rfl, h4, p + 1, by omega, p1, z⟩
    | false =>
      rw [hbt, if_neg (show ¬ (false = true) by decide), if_pos rfl] at eA
      rw [if_pos (hb.mpr hbt)] at eB
      unfold j_Top_gossip_57_25 at eA
      rw [if_neg (by decide)] at eA
      obtain ⟨x3, ex3, eA⟩ := bo eA
      unfold j_Mod_gossip_58_25 at eB
      obtain ⟨R3, r3, eB⟩ := bo eB
      rw [if_neg (fun h => by have := q_eq h; omega)] at eB
      obtain ⟨M9, m9, eB⟩ := mo eB
      obtain ⟨y10, ry10, eB⟩ := bo eB
      obtain ⟨k, rk, eB⟩ := bo eB
      rw [show (93 : Int32).toNatClampNeg = 93 from rfl] at rk
      have m9' : M9 = s_i R3 176 93 ((R3.1 176 93) ||| ((1 : Int32) <<< (p_ &&& 31))) := m9
      obtain ⟨H1, H2, H3, H4⟩ := hearers_2 z ex3 r3 (fun kx i h => by rw [m9', si_ne h]) (by rw [m9', si_eq]) (by rw [m9]; exact Jws93 (lay_t z.1.2.1 r3).1 (.inr (.inr rfl)) _) ry10 rk
      unfold j_Top_gossip_77_25 at eA
      rw [H1] at eA
      rcases io eA with ⟨gl, eA⟩ | ⟨gl, eA⟩
      · have := q_le gl
        rw [if_neg (fun h => by have := q_lt h; omega)] at eB
        obtain rfl := Option.some.inj eA
        obtain rfl := Option.some.inj eB
        exact .inl ⟨_, _, rfl, rfl, rfl, rfl, rfl, h4, p + 1, by omega, p1, H3⟩
      · have := q_ng gl
        rw [if_pos (Int32.lt_iff_toInt_lt.mpr (by omega))] at eB
        obtain rfl := Option.some.inj eA
        obtain rfl := Option.some.inj eB
        exact .inl ⟨_, _, rfl, rfl, rfl, rfl, rfl, H2, p + 1, by omega, p1, H3⟩
  exact ⟨K.1, fun _ => RRn_r (by omega) (RR_n (RR_0 e8 m19) (by omega) K.2 e9 r20)⟩
end
section
/-! of one of the people -/
theorem mets_c {X R : Mem} {n p : Nat} {a x : Int32} (zs : ZS (scn X 11) (R.1 163) n) (n8 : n ≤ 8) (hp : a.toInt = (p : Int)) (pn : p < n) (e : f_Scene_meetingsOf 11 a X = some x) : x = smm (fun o => X.1 15 (8 * p + o) + X.1 15 (8 * o + p)) 8 := by
  have k8 : (8 : Int32).toInt = 8 := rfl
  unfold f_Scene_meetingsOf at e
  obtain ⟨_, e⟩ := io_n e
  obtain ⟨x3, e3, e⟩ := bo e
  obtain rfl := Option.some.inj e
  refine it_r (I := fun s : Int32 × Int32 => ∃ o : Nat, o ≤ 8 ∧ s.2.toInt = (o : Int) ∧ s.1 = smm (fun o => X.1 15 (8 * p + o) + X.1 15 (8 * o + p)) o) (Q := fun x : Int32 => x = smm (fun o => X.1 15 (8 * p + o) + X.1 15 (8 * o + p)) 8) ?_ e3 ⟨0, by omega, rfl, rfl⟩
  rintro ⟨s, i⟩ r ⟨o, o8, hi, hs⟩ e
  dsimp only at hi hs
  unfold lb_Scene_meetingsOf_4 at e
  dsimp only at e
  rcases io e with ⟨g, e⟩ | ⟨g, e⟩
  · have := q_le g
    obtain rfl := Option.some.inj e
    have : o = 8 := by omega
    subst this
    exact hs
  · have g1 := q_ng g
    obtain ⟨x1, e1, e⟩ := bo e
    obtain rfl := Option.some.inj e
    unfold f_Scene_meetingsOfTwo at e1
    obtain ⟨_, e1⟩ := io_n e1
    obtain ⟨_, e1⟩ := io_n e1
    obtain ⟨_, e1⟩ := io_n e1
    obtain rfl := Option.some.inj e1
    have i1 : (a * (8 : Int32) + i).toInt = ((8 * p + o : Nat) : Int) := by rw [add_ti (mul_ti hp k8 (by omega) (by omega)) hi (by omega) (by omega)]; omega
    have i2 : (i * (8 : Int32) + a).toInt = ((8 * o + p : Nat) : Int) := by rw [add_ti (mul_ti hi k8 (by omega) (by omega)) hp (by omega) (by omega)]; omega
    have r3 : rf 11 3 = 15 := by decide +kernel
    refine ⟨o + 1, by omega, add_ti hi o1 (by omega) (by omega), ?_⟩
    dsimp only
    rw [q_nat i1, q_nat i2, r3, hs]
    rfl
theorem mets_r {R : Mem} {n p : Nat} {a x : Int32} (hn : (R.1 162 4).toInt = (n : Int)) (n8 : n ≤ 8) (hp : a.toInt = (p : Int)) (pn : p < n) (e : f_Mod_meetingsOf a R = some x) : x = smm (fun o => R.1 163 (16 + 8 * p + o)) n := by
  have k8 : (8 : Int32).toInt = 8 := rfl
  have k16 : (16 : Int32).toInt = 16 := rfl
  unfold f_Mod_meetingsOf at e
  obtain ⟨x3, e3, e⟩ := bo e
  obtain rfl := Option.some.inj e
  refine it_r (I := fun s : Int32 × Int32 => ∃ o : Nat, o ≤ n ∧ s.2.toInt = (o : Int) ∧ s.1 = smm (fun o => R.1 163 (16 + 8 * p + o)) o) (Q := fun x : Int32 => x = smm (fun o => R.1 163 (16 + 8 * p + o)) n) ?_ e3 ⟨0, by omega, rfl, rfl⟩
  rintro ⟨s, i⟩ r ⟨o, o8, hi, hs⟩ e
  dsimp only at hi hs
  unfold lb_Mod_meetingsOf_4 at e
  dsimp only at e
  rcases io e with ⟨g, e⟩ | ⟨g, e⟩
  · have := q_le g
    obtain rfl := Option.some.inj e
    have : o = n := by omega
    subst this
    exact hs
  · have g1 := q_ng g
    obtain ⟨_, e⟩ := io_n e
    obtain rfl := Option.some.inj e
    have i3 : ((16 : Int32) + (8 : Int32) * a + i).toInt = ((16 + 8 * p + o : Nat) : Int) := by rw [add_ti (add_ti k16 (mul_ti k8 hp (by omega) (by omega)) (by omega) (by omega)) hi (by omega) (by omega)]; omega
    refine ⟨o + 1, by omega, add_ti hi o1 (by omega) (by omega), ?_⟩
    dsimp only
    rw [q_nat i3, hs]
    rfl
theorem smm_c {f g : Nat → Int32} {k : Nat} (h : ∀ o, o < k → f o = g o) : smm f k = smm g k := by
  induction k with
  | zero => rfl
  | succ k ih =>
    show smm f k + f k = smm g k + g k
    rw [ih (fun o ho => h o (by omega)), h k (by omega)]
theorem smm_b {f : Nat → Int32} {n : Nat} (k : Nat) (h : ∀ p, n ≤ p → p < n + k → f p = 0) : smm f (n + k) = smm f n := by
  induction k with
  | zero => rfl
  | succ k ih =>
    show smm f (n + k) + f (n + k) = _
    rw [ih (fun p h1 h2 => h p h1 (by omega)), h _ (by omega) (by omega), Int32.add_zero]
def LwA (y : Option Int32) (r : Int32 × Mem) : Prop := (y = none ∧ r.2.1 162 13 = 1) ∨ (y = some r.1 ∧ r.2.1 162 13 = 0)
theorem person_q {X R : Mem} {n : Nat} {a b : Int32} {y : Option Int32 × Mem} {r : Int32 × Mem} (za : ZA X R n) (ey : f_Top_person a b X = some y) (er : f_Mod_person a b R = some r) : LwA y.1 r := by
  have z0 := o0
  have z1 := o1
  have z2 := o2
  have z3 := o3
  have z4 := o4
  have z5 : (5 : Int32).toInt = 5 := rfl
  have z6 : (6 : Int32).toInt = 6 := rfl
  have z7 : (7 : Int32).toInt = 7 := rfl
  unfold f_Mod_person at er
  obtain ⟨M1, m1, er⟩ := mo er
  obtain ⟨zaM, fqM⟩ := ZA_M1 za m1
  have h13 : M1.1 162 13 = 0 := by rw [m1, si_eq]
  obtain ⟨n8, jM, ⟨zg, zc, zl⟩, zs, zv, zw⟩ := zaM.1
  obtain ⟨y2, ey2, er⟩ := bo er
  have hy := isOne_i zc.1 n8 ey2
  unfold f_Top_person at ey
  obtain ⟨x1, ex1, ey⟩ := bo ey
  have hx := crowd_has (n := n) (by rw [zc.2.1]; exact zc.1) n8 ex1
  have lost : j_Mod_person_23 M1 = some r → r.2.1 162 13 = 1 := by
    intro e
    unfold j_Mod_person_23 f_Mod_lost at e
    obtain ⟨x3, e3, e⟩ := bo e
    obtain ⟨M2, m2, e3⟩ := mo e3
    obtain rfl := Option.some.inj e3
    obtain rfl := Option.some.inj e
    show M2.1 162 13 = 1
    rw [m2, si_eq]
  rcases hx with ⟨hx1, hx2⟩ | ⟨hx1, hx2⟩
  rotate_left
  · rcases hy with ⟨_, c⟩ | ⟨c, _⟩
    · exact absurd c hx2
    rw [hx1, if_pos rfl] at ey
    rw [c, if_pos rfl] at er
    obtain rfl := Option.some.inj ey
    exact .inl ⟨rfl, lost er⟩
  rcases hy with ⟨c, _⟩ | ⟨_, c⟩
  rotate_left
  · exact absurd hx2 c
  rw [hx1, if_neg (by decide)] at ey
  rw [c, if_neg (by decide)] at er
  obtain ⟨p, hp⟩ := ti_ofn hx2.1
  have pn : p < n := by omega
  obtain ⟨y4, ey4, er⟩ := bo er
  have h4 := some_of (sp_in b 0 7) ey4
  rw [o0, z7] at h4
  have w := whr zaM.1 pn
  have s1 := zs.1 p pn
  rcases io ey with ⟨g, ey⟩ | ⟨g, ey⟩
  · have gg := q_eq g
    rcases h4 with ⟨h, _⟩ | ⟨_, h⟩
    rotate_left
    · omega
    rw [h, if_neg (by decide), if_pos g] at er
    obtain rfl := Option.some.inj er
    obtain ⟨x2, ex2, ey⟩ := bo ey
    have wv := womV hp (by omega) ex2
    rw [show X.1 6 5 = M1.1 162 5 from zc.2.2.1] at wv
    refine .inr ⟨?_, h13⟩
    rw [bt_shr hp (by omega), ← wv]
    cases hb : bt (M1.1 162 5) p with
    | true =>
      rw [hb, if_pos rfl] at wv
      rw [wv, if_neg (by decide)] at ey
      obtain rfl := Option.some.inj ey
      rw [wv]
    | false =>
      rw [hb, if_neg (show ¬ (false = true) by decide)] at wv
      rw [wv, if_pos rfl] at ey
      obtain rfl := Option.some.inj ey
      rw [wv]
  have g0 := q_ne g
  rcases io ey with ⟨g, ey⟩ | ⟨g, ey⟩
  · have gg := q_eq g
    rcases h4 with ⟨h, _⟩ | ⟨_, h⟩
    rotate_left
    · omega
    rw [h, if_neg (by decide), if_neg (fun h => by have := q_eq h; omega), if_pos g] at er
    obtain ⟨_, er⟩ := io_n er
    obtain ⟨x8, e8, er⟩ := bo er
    obtain rfl := Option.some.inj er
    obtain ⟨_, ey⟩ := io_n ey
    obtain rfl := Option.some.inj ey
    rw [q_nat hp] at e8
    exact .inr ⟨by show some (X.1 12 a.toNatClampNeg) = some x8; rw [q_nat hp, w.1 x8 e8], h13⟩
  have g1 := q_ne g
  rcases io ey with ⟨g, ey⟩ | ⟨g, ey⟩
  · have gg := q_eq g
    rcases h4 with ⟨h, _⟩ | ⟨_, h⟩
    rotate_left
    · omega
    rw [h, if_neg (by decide), if_neg (fun h => by have := q_eq h; omega), if_neg (fun h => by have := q_eq h; omega), if_pos g] at er
    obtain ⟨_, er⟩ := io_n er
    obtain ⟨x8, e8, er⟩ := bo er
    obtain rfl := Option.some.inj er
    obtain ⟨_, ey⟩ := io_n ey
    obtain rfl := Option.some.inj ey
    rw [q_nat hp] at e8
    exact .inr ⟨by show some (X.1 13 a.toNatClampNeg) = some x8; rw [q_nat hp, w.2.1 x8 e8], h13⟩
  have g2 := q_ne g
  have k8 : (8 : Int32).toInt = 8 := rfl
  have i8 : ((8 : Int32) + a).toInt = ((8 + p : Nat) : Int) := by rw [add_ti k8 hp (by omega) (by omega)]; omega
  rcases io ey with ⟨g, ey⟩ | ⟨g, ey⟩
  · have gg := q_eq g
    rcases h4 with ⟨h, _⟩ | ⟨_, h⟩
    rotate_left
    · omega
    rw [h, if_neg (by decide), if_neg (fun h => by have := q_eq h; omega), if_neg (fun h => by have := q_eq h; omega), if_neg (fun h => by have := q_eq h; omega), if_pos g] at er
    obtain ⟨_, er⟩ := io_n er
    obtain rfl := Option.some.inj er
    obtain ⟨_, ey⟩ := io_n ey
    obtain rfl := Option.some.inj ey
    exact .inr ⟨by show some (X.1 14 a.toNatClampNeg) = some (M1.1 163 ((8 : Int32) + a).toNatClampNeg); rw [q_nat hp, q_nat i8]; exact congrArg some s1.2.2.2.2.2.symm, h13⟩
  have g3 := q_ne g
  rcases io ey with ⟨g, ey⟩ | ⟨g, ey⟩
  · have gg := q_eq g
    rcases h4 with ⟨h, _⟩ | ⟨_, h⟩
    rotate_left
    · omega
    rw [h, if_neg (by decide), if_neg (fun h => by have := q_eq h; omega), if_neg (fun h => by have := q_eq h; omega), if_neg (fun h => by have := q_eq h; omega), if_neg (fun h => by have := q_eq h; omega), if_pos g] at er
    obtain ⟨_, er⟩ := io_n er
    obtain rfl := Option.some.inj er
    obtain ⟨_, ey⟩ := io_n ey
    obtain rfl := Option.some.inj ey
    exact .inr ⟨by show some (X.1 8 a.toNatClampNeg) = some (M1.1 166 a.toNatClampNeg); rw [q_nat hp, (zc.2.2.2.1 p pn).1], h13⟩
  have g4 := q_ne g
  rcases io ey with ⟨g, ey⟩ | ⟨g, ey⟩
  · have gg := q_eq g
    rcases h4 with ⟨h, _⟩ | ⟨_, h⟩
    rotate_left
    · omega
    rw [h, if_neg (by decide), if_neg (fun h => by have := q_eq h; omega), if_neg (fun h => by have := q_eq h; omega), if_neg (fun h => by have := q_eq h; omega), if_neg (fun h => by have := q_eq h; omega), if_neg (fun h => by have := q_eq h; omega), if_pos g] at er
    obtain rfl := Option.some.inj er
    obtain rfl := Option.some.inj ey
    have nw : X.1 11 8 = M1.1 163 93 := zs.2.2.2.2.2.2.1
    exact .inr ⟨by show some (((X.1 11 8) >>> (a &&& 31)) &&& (1 : Int32)) = some (((M1.1 163 93) >>> (a &&& 31)) &&& (1 : Int32)); rw [nw], h13⟩
  have g5 := q_ne g
  rcases io ey with ⟨g, ey⟩ | ⟨g, ey⟩
  · have gg := q_eq g
    rcases h4 with ⟨h, _⟩ | ⟨_, h⟩
    rotate_left
    · omega
    rw [h, if_neg (by decide), if_neg (fun h => by have := q_eq h; omega), if_neg (fun h => by have := q_eq h; omega), if_neg (fun h => by have := q_eq h; omega), if_neg (fun h => by have := q_eq h; omega), if_neg (fun h => by have := q_eq h; omega), if_neg (fun h => by have := q_eq h; omega), if_pos g] at er
    obtain ⟨x15, e15, er⟩ := bo er
    obtain rfl := Option.some.inj er
    obtain ⟨x10, e10, ey⟩ := bo ey
    obtain rfl := Option.some.inj ey
    refine .inr ⟨?_, h13⟩
    show some x10 = some x15
    rw [mets_c zs n8 hp pn e10, mets_r zc.1 n8 hp pn e15]
    have e8 : smm (fun o => X.1 15 (8 * p + o) + X.1 15 (8 * o + p)) (n + (8 - n)) = smm (fun o => X.1 15 (8 * p + o) + X.1 15 (8 * o + p)) n := smm_b (8 - n) (fun o ho o8 => by
      show X.1 15 (8 * p + o) + X.1 15 (8 * o + p) = 0
      rw [show X.1 15 (8 * p + o) = 0 from zs.2.2.1 p o (by omega) (by omega) (.inr ho), show X.1 15 (8 * o + p) = 0 from zs.2.2.1 o p (by omega) (by omega) (.inl ho)]; rfl)
    rw [show n + (8 - n) = 8 by omega] at e8
    rw [e8]
    exact congrArg some (smm_c (fun o ho => (zs.2.1 p o pn ho).symm))
  have g6 := q_ne g
  rcases io ey with ⟨g, ey⟩ | ⟨g, ey⟩
  · have gg := q_eq g
    rcases h4 with ⟨h, _⟩ | ⟨_, h⟩
    rotate_left
    · omega
    rw [h, if_neg (by decide), if_neg (fun h => by have := q_eq h; omega), if_neg (fun h => by have := q_eq h; omega), if_neg (fun h => by have := q_eq h; omega), if_neg (fun h => by have := q_eq h; omega), if_neg (fun h => by have := q_eq h; omega), if_neg (fun h => by have := q_eq h; omega), if_neg (fun h => by have := q_eq h; omega)] at er
    obtain ⟨x12, e12, ey⟩ := bo ey
    obtain ⟨y5, ey5, er⟩ := bo er
    have G := goes_2 (.inl rfl) (.inl rfl) jM n8 ⟨zg, zc, zs, zv, zl⟩ hp pn e12 ey5
    have fr := wf_Mod_goes 163 a M1 (L := []) (sb_r _) Fx_r ey5
    have f13 : y5.2.1 162 13 = 0 := by rw [(fr 162 13 (by decide +kernel) (by simp)).1]; exact h13
    rcases io ey with ⟨g, ey⟩ | ⟨g, ey⟩
    · rw [if_pos (G.mp g)] at er
      obtain rfl := Option.some.inj ey
      obtain rfl := Option.some.inj er
      exact .inr ⟨rfl, f13⟩
    · rw [if_neg (fun h => g (G.mpr h))] at er
      obtain rfl := Option.some.inj ey
      obtain rfl := Option.some.inj er
      exact .inr ⟨rfl, f13⟩
  have g7 := q_ne g
  obtain rfl := Option.some.inj ey
  rcases h4 with ⟨_, h⟩ | ⟨h, _⟩
  · omega
  rw [h, if_pos rfl] at er
  exact .inl ⟨rfl, lost er⟩
end
