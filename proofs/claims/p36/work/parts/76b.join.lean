section
/-! meet, known, gossip -/
theorem hasV {b v x : Int32} {p : Nat} (hp : v.toInt = (p : Int)) (h32 : p < 32) (e : f_Mod_has b v = some x) : x = if bt b p = true then 1 else 0 := by
  unfold f_Mod_has at e
  rw [bt_shr hp h32] at e
  cases hb : bt b p with
  | true =>
    rw [hb, if_pos rfl, if_pos rfl] at e
    obtain rfl := Option.some.inj e
    rfl
  | false =>
    rw [hb, if_neg (show ¬ (false = true) by decide), if_neg (by decide)] at e
    obtain rfl := Option.some.inj e
    rfl
theorem womV {X : Mem} {v x : Int32} {p : Nat} (hp : v.toInt = (p : Int)) (h32 : p < 32) (e : f_Crowd_woman v X = some x) : x = if bt (X.1 6 5) p = true then 1 else 0 := by
  unfold f_Crowd_woman at e
  rw [bt_shr hp h32] at e
  cases hb : bt (X.1 6 5) p with
  | true =>
    rw [hb, if_pos rfl, if_neg (by decide)] at e
    obtain rfl := Option.some.inj e
    rfl
  | false =>
    rw [hb, if_neg (show ¬ (false = true) by decide), if_pos rfl] at e
    obtain rfl := Option.some.inj e
    rfl
theorem meeting_t {X R : Mem} {n p q : Nat} {a b y z : Int32} (zt : ZT X R n) (hp : a.toInt = (p : Int)) (hq : b.toInt = (q : Int)) (pn : p < n) (qn : q < n) (ey : f_Mod_areMeeting 176 a b R = some y) (ez : X.1 26 p = X.1 26 q → f_Ground_isStair (X.1 26 p) X = some z) : (y = 0 ∧ (X.1 26 p = X.1 26 q → z = 0)) ∨ (y = 1 ∧ X.1 26 p = X.1 26 q ∧ z = 1) := by
  have w1 := whr_t zt pn
  have w2 := whr_t zt qn
  obtain ⟨n8, jR, zb, zs, zv, zw⟩ := zt
  unfold f_Mod_areMeeting at ey
  obtain ⟨_, ey⟩ := io_n ey
  obtain ⟨_, ey⟩ := io_n ey
  obtain ⟨c1, ec1, ey⟩ := bo ey
  obtain ⟨_, ey⟩ := io_n ey
  obtain ⟨c2, ec2, ey⟩ := bo ey
  rw [q_nat hp] at ec1
  rw [q_nat hq] at ec2
  have e1 := w1.1 c1 ec1
  have e2 := w2.1 c2 ec2
  subst e1
  subst e2
  rcases io ey with ⟨g, ey⟩ | ⟨g, ey⟩
  · have hz := ez g
    obtain ⟨_, ey⟩ := io_n ey
    obtain ⟨c3, ec3, ey⟩ := bo ey
    obtain ⟨_, ey⟩ := io_n ey
    rw [q_nat hp] at ec3
    have e3 := w1.1 c3 ec3
    subst e3
    have st := stairC zb.1 jR hz
    obtain ⟨k0, k35, kwh⟩ := w1.2
    rcases io ey with ⟨g3, ey⟩ | ⟨g3, ey⟩
    · obtain rfl := Option.some.inj ey
      rcases st with ⟨s, _⟩ | ⟨_, s⟩
      · exact .inr ⟨rfl, g, s⟩
      · exact absurd ⟨k0, kwh, by rw [← tcn', g3]; rfl⟩ s
    · obtain rfl := Option.some.inj ey
      rcases st with ⟨_, s⟩ | ⟨s, _⟩
      · exact absurd (Int32.toInt_inj.mp (by rw [tcn']; exact s.2.2)) g3
      · exact .inl ⟨rfl, fun _ => s⟩
  · obtain rfl := Option.some.inj ey
    exact .inl ⟨rfl, fun h => absurd h g⟩
theorem meet_q {X R : Mem} {n : Nat} {a b : Int32} {x r : Int32 × Mem} (za : ZA X R n) (ex : f_Top_meet a b X = some x) (er : f_Mod_meet a b R = some r) : x.1 = r.1 ∧ (RR X R → RR x.2 r.2) := by
  have n8 := za.1.1
  unfold f_Mod_meet at er
  obtain ⟨M1, m1, er⟩ := mo er
  obtain ⟨zaM, fqM⟩ := ZA_M1 za m1
  unfold f_Top_meet at ex
  obtain ⟨x1, ex1, ex⟩ := bo ex
  obtain ⟨y2, ey2, er⟩ := bo er
  rcases two_i zaM.1.2.2.1.2.1 n8 ex1 ey2 with ⟨h1, h2⟩ | ⟨h1, h2, p, q, hp, hq, pn, qn, pq⟩
  · rw [h1, if_pos rfl] at ex
    rw [h2, if_pos rfl] at er
    obtain rfl := Option.some.inj ex
    obtain rfl := Option.some.inj er
    exact ⟨rfl, FQ2_RR fqM⟩
  rw [h1, if_neg (by decide)] at ex
  rw [h2, if_neg (by decide)] at er
  obtain ⟨x2, ex2, ex⟩ := bo ex
  obtain ⟨x3, ex3, ex⟩ := bo ex
  obtain ⟨R3, r3, er⟩ := bo er
  obtain ⟨y, ey, er⟩ := bo er
  have wv2 := womV hp (by omega) ex2
  have wv3 := womV hq (by omega) ex3
  have w5 : X.1 6 5 = M1.1 162 5 := zaM.1.2.2.1.2.1.2.2.1
  rw [w5] at wv2 wv3
  obtain ⟨j3, l1, l2⟩ := lay_t zaM.1.2.1 r3
  have r35 : R3.1 162 5 = M1.1 162 5 := l2 162 5 (by omega)
  rcases io ex with ⟨g, ex⟩ | ⟨g, ex⟩
  · -- of one kind: they never meet
    obtain rfl := Option.some.inj ex
    have K : Sum.elim (fun s : Mem => s.1 162 12 = R3.1 162 12 ∧ ∀ i, s.1 168 i = R3.1 168 i) (fun _ : Int32 × Mem => False) y := by
      refine it_r (I := fun s : Int32 × Mem => s.2.1 162 5 = R3.1 162 5 ∧ s.2.1 162 12 = R3.1 162 12 ∧ ∀ i, s.2.1 168 i = R3.1 168 i) (Q := Sum.elim (fun s : Mem => s.1 162 12 = R3.1 162 12 ∧ ∀ i, s.1 168 i = R3.1 168 i) (fun _ : Int32 × Mem => False)) ?_ ey ⟨rfl, rfl, fun _ => rfl⟩
      rintro ⟨i, T⟩ u ⟨t5, t12, t168⟩ e
      dsimp only at t5 t12 t168
      unfold lb_Mod_meet_30 at e
      dsimp only at e
      rcases io e with ⟨_, e⟩ | ⟨_, e⟩
      · obtain rfl := Option.some.inj e
        exact ⟨t12, t168⟩
      obtain ⟨x4, e4, e⟩ := bo e
      obtain ⟨x5, e5, e⟩ := bo e
      obtain ⟨x6, e6, e⟩ := bo e
      have fr : Fx mG176 [] T x4 := wf_Mod_goMinute 176 T (by decide +kernel) (oc_c (sb_r _) (by decide +kernel)) Fx_r e4
      have f5 : x4.1 162 5 = M1.1 162 5 := by rw [(fr 162 5 (by decide +kernel) (by simp)).1, t5, r35]
      have v5 := hasV hp (by omega) e5
      have v6 := hasV hq (by omega) e6
      rw [f5] at v5 v6
      rw [if_pos (by rw [v5, v6, ← wv2, ← wv3]; exact g)] at e
      obtain rfl := Option.some.inj e
      refine ⟨?_, ?_, fun i => ?_⟩
      · show x4.1 162 5 = _; rw [f5, r35]
      · show x4.1 162 12 = _; rw [(fr 162 12 (by decide +kernel) (by simp)).1]; exact t12
      · show x4.1 168 i = _; rw [(fr 168 i (by rw [show sl 168 i = 168 from rfl]; decide +kernel) (by simp)).1]; exact t168 i
    rcases y with y | y
    · replace er := el_l er
      obtain rfl := Option.some.inj er
      refine ⟨rfl, fun h => ?_⟩
      have h := FQ2_RR fqM h
      exact RR_f rfl (fun _ => rfl) (by show y.1 162 12 = _; rw [K.1]; exact l2 162 12 (by omega)) (fun i => by show y.1 168 i = _; rw [K.2 i]; exact l2 168 i (by omega)) h
    · exact K.elim
  · obtain ⟨X1, e1, ex⟩ := bo ex
    obtain ⟨w, ew, ex⟩ := bo ex
    obtain ⟨zt1, fq1⟩ := begin_t zaM.1 e1 r3
    have nebit : ∀ T : Mem, T.1 162 5 = M1.1 162 5 → ∀ x5 x6, f_Mod_has (T.1 162 5) a = some x5 → f_Mod_has (T.1 162 5) b = some x6 → ¬ x5 = x6 := by
      intro T hT x5 x6 e5 e6
      have v5 := hasV hp (by omega) e5
      have v6 := hasV hq (by omega) e6
      rw [hT] at v5 v6
      rw [v5, v6, ← wv2, ← wv3]; exact g
    have K : (∃ (u v : Mem), w = .inl u ∧ y = .inl v ∧ FQ2 X1 R3 u v) ∨ (∃ (k c : Int32) (u v : Mem), w = .inr (k, c, u) ∧ y = .inr (k, v) ∧ ZT u v n ∧ FQ2 X1 R3 u v ∧ c = u.1 26 p) := by
      refine it_2 (I := fun (s t : Int32 × Mem) => s.1 = t.1 ∧ ZT s.2 t.2 n ∧ FQ2 X1 R3 s.2 t.2) (Q := fun (w : Mem ⊕ (Int32 × Int32 × Mem)) (y : Mem ⊕ (Int32 × Mem)) => (∃ (u v : Mem), w = .inl u ∧ y = .inl v ∧ FQ2 X1 R3 u v) ∨ (∃ (k c : Int32) (u v : Mem), w = .inr (k, c, u) ∧ y = .inr (k, v) ∧ ZT u v n ∧ FQ2 X1 R3 u v ∧ c = u.1 26 p)) ?_ ew ey ⟨rfl, zt1, FQ2_r⟩
      rintro ⟨i, N⟩ ⟨i', T⟩ A B ⟨hi, z, fq⟩ eA eB
      dsimp only at hi z fq
      subst hi
      unfold lb_Top_meet_46 at eA
      unfold lb_Mod_meet_30 at eB
      dsimp only at eA eB
      rcases io eA with ⟨g, eA⟩ | ⟨g, eA⟩
      · rw [if_pos g] at eB
        obtain rfl := Option.some.inj eA
        obtain rfl := Option.some.inj eB
        exact .inr ⟨_, _, rfl, rfl, .inl ⟨_, _, rfl, rfl, fq⟩⟩
      rw [if_neg g] at eB
      obtain ⟨x5, e5, eA⟩ := bo eA
      obtain ⟨x4, e4, eB⟩ := bo eB
      obtain ⟨zt2, pp, fq2⟩ := pass_t z e5 e4
      have fq3 := FQ2_t fq fq2
      obtain ⟨v5, ev5, eB⟩ := bo eB
      obtain ⟨v6, ev6, eB⟩ := bo eB
      have t5 : x4.1 162 5 = M1.1 162 5 := by rw [fq3.2.1 162 5 (by unfold CRr CR; omega)]; exact r35
      rw [if_neg (nebit x4 t5 v5 v6 ev5 ev6)] at eB
      obtain ⟨v7, ev7, eB⟩ := bo eB
      obtain ⟨_, eA⟩ := io_n eA
      obtain ⟨_, eA⟩ := io_n eA
      rw [q_nat hp, q_nat hq] at eA
      rcases io eA with ⟨gc, eA⟩ | ⟨gc, eA⟩
      · obtain ⟨z6, ez6, eA⟩ := bo eA
        rcases meeting_t zt2 hp hq pn qn ev7 (fun _ => ez6) with ⟨k1, k2⟩ | ⟨k1, _, k3⟩
        · rw [k2 gc, if_pos rfl] at eA
          rw [k1, if_pos rfl] at eB
          obtain rfl := Option.some.inj eA
          obtain rfl := Option.some.inj eB
          exact .inl ⟨_, _, rfl, rfl, rfl, zt2, fq3⟩
        · rw [k3, if_neg (by decide)] at eA
          rw [k1, if_neg (by decide)] at eB
          obtain rfl := Option.some.inj eA
          obtain rfl := Option.some.inj eB
          exact .inr ⟨_, _, rfl, rfl, .inr ⟨_, _, _, _, rfl, rfl, zt2, fq3, rfl⟩⟩
      · obtain rfl := Option.some.inj eA
        rcases meeting_t (z := 0) zt2 hp hq pn qn ev7 (fun h => absurd h gc) with ⟨k1, _⟩ | ⟨_, k2, _⟩
        · rw [k1, if_pos rfl] at eB
          obtain rfl := Option.some.inj eB
          exact .inl ⟨_, _, rfl, rfl, rfl, zt2, fq3⟩
        · exact absurd k2 gc
    have fqA : ∀ {u v : Mem}, FQ2 X1 R3 u v → RR X R → RR u v := fun f h => FQ2_RR (FQ2_t (FQ2_t fqM fq1) f) h
    rcases K with ⟨u, v, rfl, rfl, f⟩ | ⟨k, c, u, v, rfl, rfl, z, f, hc⟩
    · replace ex := el_l ex
      replace er := el_l er
      obtain rfl := Option.some.inj ex
      obtain rfl := Option.some.inj er
      exact ⟨rfl, fqA f⟩
    · replace ex := el_r ex
      replace er := el_r er
      obtain ⟨x13, e13, ex⟩ := bo ex
      obtain ⟨x14, e14, ex⟩ := bo ex
      obtain rfl := Option.some.inj ex
      obtain ⟨M14, m14, er⟩ := mo er
      obtain ⟨_, er⟩ := io_n er
      obtain ⟨y15, ey15, er⟩ := bo er
      obtain ⟨y16, ey16, er⟩ := bo er
      obtain rfl := Option.some.inj er
      dsimp only at e13 e14 m14
      rw [q_nat hp, m14, si_ne (by omega)] at ey15
      have w := (whr_t z pn).1 y15 ey15
      exact ⟨rfl, fun _ => RRn_r (by omega) (RR_n (RR_0 e13 m14) (by omega) (by rw [w, hc]) e14 ey16)⟩
theorem known_q {X R : Mem} {n : Nat} {x r : Int32 × Mem} (za : ZA X R n) (ex : f_Top_known X = some x) (er : f_Mod_known R = some r) : x.1 = r.1 ∧ (RR X R → RR x.2 r.2) := by
  have n8 := za.1.1
  have z0 := o0
  have ym := om
  have z60 : (60 : Int32).toInt = 60 := rfl
  have m2 : (-2 : Int32).toInt = -2 := rfl
  unfold f_Mod_known at er
  obtain ⟨M1, m1, er⟩ := mo er
  obtain ⟨zaM, fqM⟩ := ZA_M1 za m1
  unfold f_Top_known at ex
  obtain ⟨X1, e1, ex⟩ := bo ex
  obtain ⟨x5, e5, ex⟩ := bo ex
  obtain ⟨R2, r2, er⟩ := bo er
  obtain ⟨y8, ey8, er⟩ := bo er
  obtain ⟨zt1, fq1⟩ := begin_t zaM.1 e1 r2
  have a64 : X.1 6 4 = M1.1 162 4 := zaM.1.2.2.1.2.1.2.1
  generalize hall : (((1 : Int32) <<< ((X.1 6 4) &&& 31)) - (1 : Int32)) = all at *
  have hallR : ∀ T : Mem, T.1 162 4 = M1.1 162 4 → (((1 : Int32) <<< ((T.1 162 4) &&& 31)) - (1 : Int32)) = all := by
    intro T hT
    rw [hT, ← a64]; exact hall
  have tN : ∀ T, FQ2 X1 R2 X1 T ∨ (∃ N, FQ2 X1 R2 N T) → T.1 162 4 = M1.1 162 4 := by
    rintro T (h | ⟨N, h⟩)
    · rw [h.2.1 162 4 (by unfold CRr CR; omega), fq1.2.1 162 4 (by unfold CRr CR; omega)]
    · rw [h.2.1 162 4 (by unfold CRr CR; omega), fq1.2.1 162 4 (by unfold CRr CR; omega)]
  have nw : ∀ {N T : Mem}, ZT N T n → N.1 25 8 = T.1 176 93 := fun z => z.2.2.2.1.2.2.2.2.2.2.1
  -- the reference's first look
  obtain ⟨m, hm⟩ : ∃ m, FU = m + 1 := ⟨999999999, rfl⟩
  rw [hm] at ey8
  simp only [iter] at ey8
  have first : ∃ f0 : Int32, lb_Mod_known_22 ((-2 : Int32), (0 : Int32), R2) = some (.inl (f0, (0 : Int32) + (1 : Int32), R2)) ∧ ((X1.1 25 8 = all ∧ f0 = 0) ∨ (X1.1 25 8 ≠ all ∧ f0 = -2)) := by
    unfold lb_Mod_known_22 j_Mod_known_44_22
    dsimp only
    rw [if_neg (by decide), if_neg (by decide), if_pos (by decide), show (93 : Int32).toNatClampNeg = 93 from rfl, hallR R2 (tN R2 (.inl FQ2_r)), ← nw zt1]
    by_cases c : X1.1 25 8 = all
    · rw [if_pos c]; exact ⟨_, rfl, .inl ⟨c, rfl⟩⟩
    · rw [if_neg c]; exact ⟨_, rfl, .inr ⟨c, rfl⟩⟩
  obtain ⟨f0, ef0, hf0⟩ := first
  rw [ef0] at ey8
  dsimp only at ey8
  have K : ZT x5.2 y8.2 n ∧ FQ2 X1 R2 x5.2 y8.2 ∧ ((x5.2.1 25 8 = all ∧ y8.1 = x5.1) ∨ (x5.2.1 25 8 ≠ all ∧ y8.1 = -2)) := by
    refine it_2 (I := fun (s t : Int32 × Int32 × Mem) => ∃ i : Nat, i ≤ 60 ∧ s.1.toInt = (i : Int) ∧ s.2.1.toInt = (i : Int) ∧ t.2.1.toInt = ((i + 1 : Nat) : Int) ∧ ZT s.2.2 t.2.2 n ∧ FQ2 X1 R2 s.2.2 t.2.2 ∧ ((s.2.2.1 25 8 = all ∧ t.1 = s.1) ∨ (s.2.2.1 25 8 ≠ all ∧ t.1 = -2))) (Q := fun (x y : Int32 × Mem) => ZT x.2 y.2 n ∧ FQ2 X1 R2 x.2 y.2 ∧ ((x.2.1 25 8 = all ∧ y.1 = x.1) ∨ (x.2.1 25 8 ≠ all ∧ y.1 = -2))) ?_ e5 ey8 ⟨0, by omega, rfl, rfl, rfl, zt1, FQ2_r, ?_⟩
    · rintro ⟨af, si, N⟩ ⟨fd, ti, T⟩ A B ⟨i, i60, h1, h2, h3, z, fq, h4⟩ eA eB
      dsimp only at h1 h2 h3 z fq h4
      unfold lb_Top_known_27 at eA
      unfold lb_Mod_known_22 at eB
      dsimp only at eA eB
      rcases io eA with ⟨g, eA⟩ | ⟨g, eA⟩
      · have g1 := q_le g
        rw [if_pos (Int32.lt_iff_toInt_lt.mpr (by omega))] at eB
        obtain rfl := Option.some.inj eA
        obtain rfl := Option.some.inj eB
        exact .inr ⟨_, _, rfl, rfl, z, fq, h4⟩
      have g1 := q_ng g
      rw [if_neg (fun h => by have := q_lt h; omega)] at eB
      rcases io eA with ⟨gn, eA⟩ | ⟨gn, eA⟩
      · rcases h4 with ⟨_, h5⟩ | ⟨h5, _⟩
        rotate_left
        · exact absurd gn h5
        rw [if_pos (Int32.le_iff_toInt_le.mpr (by rw [h5]; omega))] at eB
        obtain rfl := Option.some.inj eA
        obtain rfl := Option.some.inj eB
        exact .inr ⟨_, _, rfl, rfl, z, fq, .inl ⟨gn, h5⟩⟩
      · rcases h4 with ⟨h5, _⟩ | ⟨_, h5⟩
        · exact absurd h5 gn
        rw [if_neg (fun h => by have := q_le h; rw [h5] at this; omega), if_neg (fun h => by have := q_le h; omega)] at eB
        obtain ⟨x2, e2, eA⟩ := bo eA
        obtain rfl := Option.some.inj eA
        obtain ⟨x4, e4, eB⟩ := bo eB
        obtain ⟨zt2, pp, fq2⟩ := pass_t z e2 e4
        have fq3 := FQ2_t fq fq2
        unfold j_Mod_known_44_22 at eB
        rw [show (93 : Int32).toNatClampNeg = 93 from rfl, hallR x4 (tN x4 (.inr ⟨_, fq3⟩)), ← nw zt2] at eB
        have n1 : (af + (1 : Int32)).toInt = ((i + 1 : Nat) : Int) := add_ti h1 o1 (by omega) (by omega)
        have n2 : (si + (1 : Int32)).toInt = ((i + 1 : Nat) : Int) := add_ti h2 o1 (by omega) (by omega)
        have n3 : (ti + (1 : Int32)).toInt = ((i + 1 + 1 : Nat) : Int) := add_ti h3 o1 (by omega) (by omega)
        rcases io eB with ⟨c, eB⟩ | ⟨c, eB⟩
        · obtain rfl := Option.some.inj eB
          exact .inl ⟨_, _, rfl, rfl, i + 1, by omega, n1, n2, n3, zt2, fq3, .inl ⟨c, Int32.toInt_inj.mp (h3.trans n1.symm)⟩⟩
        · obtain rfl := Option.some.inj eB
          exact .inl ⟨_, _, rfl, rfl, i + 1, by omega, n1, n2, n3, zt2, fq3, .inr ⟨c, h5⟩⟩
    · rcases hf0 with ⟨c, h⟩ | ⟨c, h⟩
      · exact .inl ⟨c, h⟩
      · exact .inr ⟨c, h⟩
  obtain ⟨zt5, fq5, h5⟩ := K
  unfold j_Top_known_80 at ex
  obtain ⟨x6, e6, ex⟩ := bo ex
  obtain ⟨x7, e7, ex⟩ := bo ex
  unfold j_Mod_known_70 at er
  obtain ⟨M9, m9, er⟩ := mo er
  obtain ⟨y10, ey10, er⟩ := bo er
  obtain rfl := Option.some.inj er
  rw [show (93 : Int32).toNatClampNeg = 93 from rfl, m9, si_ne (by omega)] at ey10
  have em := empty_i e6
  have nn := note_i e7
  have x78 : x7.1 25 8 = x5.2.1 25 8 := by rw [nn.1 25 8 (by omega) (by omega), em.1 25 8 (by omega)]
  rw [x78] at ex
  have rr : RRn 1 x7 y10 := RR_n (RR_0 e6 rfl) (by omega) (by rw [em.1 25 8 (by omega)]; exact nw zt5) e7 ey10
  rcases h5 with ⟨c, h⟩ | ⟨c, h⟩
  · rw [if_pos c] at ex
    obtain rfl := Option.some.inj ex
    exact ⟨h.symm, fun _ => RRn_r (by omega) rr⟩
  · rw [if_neg c] at ex
    obtain rfl := Option.some.inj ex
    exact ⟨h.symm, fun _ => RRn_r (by omega) rr⟩
end
section
/-! steps counted from a cell: the class's measure -/
theorem lc_0 {x : Int64} : lg_cmp x (0 : Int64) = 0 ↔ x = 0 := by
  unfold lg_cmp
  constructor
  · intro h
    by_cases c : x > 0
    · rw [if_pos c] at h; exact absurd h (by decide)
    · rw [if_neg c] at h
      by_cases e : x = 0
      · exact e
      · rw [if_neg e] at h; exact absurd h (by decide)
  · rintro rfl
    decide
theorem bl_0i {x : Int64} (h : ∀ d, bl x d = false) : x = 0 := bl_ext (fun d _ => by rw [h d, bl_0])
theorem bl_not {x : Int64} {d : Nat} (hd : d < 64) : bl (x ^^^ (-1 : Int64)) d = !bl x d := by
  have m1 : ∀ d : Fin 64, bl (-1) d.val = true := by decide +kernel
  rw [bl_xor, m1 ⟨d, hd⟩]
  cases bl x d <;> rfl
theorem cnt_lt {P Q : Nat → Bool} {n c : Nat} (hc : c < n) (h : ∀ i, i < n → P i = true → Q i = true) (hp : P c = false) (hq : Q c = true) : (List.range n).countP P < (List.range n).countP Q := by
  have mono : ∀ m, m ≤ n → (List.range m).countP P ≤ (List.range m).countP Q := by
    intro m
    induction m with
    | zero => intro _; exact Nat.le_refl _
    | succ m ih =>
      intro hm
      rw [cnt_s, cnt_s]
      have := ih (by omega)
      have k := h m (by omega)
      by_cases g : P m = true
      · rw [if_pos g, if_pos (k g)]; omega
      · rw [if_neg g]; split <;> omega
  have key : ∀ m, m ≤ n → c < m → (List.range m).countP P < (List.range m).countP Q := by
    intro m
    induction m with
    | zero => intro _ h; omega
    | succ m ih =>
      intro hm hcm
      rw [cnt_s, cnt_s]
      rcases Nat.lt_or_ge c m with g | g
      · have := ih (by omega) g
        have k := h m (by omega)
        by_cases g : P m = true
        · rw [if_pos g, if_pos (k g)]; omega
        · rw [if_neg g]; split <;> omega
      · have : c = m := by omega
        subst this
        have := mono c (by omega)
        rw [if_neg (by rw [hp]; decide), if_pos hq]; omega
  exact key n (Nat.le_refl _) hc
theorem cnt_le (P : Nat → Bool) (n : Nat) : (List.range n).countP P ≤ n := by
  have := List.countP_le_length (p := P) (l := List.range n)
  rwa [List.length_range] at this
theorem cnt_all {P : Nat → Bool} {n : Nat} (h : n ≤ (List.range n).countP P) : ∀ c, c < n → P c = true := by
  intro c hc
  have e : (List.range n).countP P = (List.range n).length := by rw [List.length_range]; exact Nat.le_antisymm (cnt_le P n) h
  exact List.countP_eq_length.mp e c (List.mem_range.mpr hc)
section MEAS
variable {v0 l : Nat} {v1 : Int32} {M : Mem}
theorem around_i (hv : isN v0) (h1 : v1.toInt = (l : Int)) (l2 : l < 2) {set y : Int64} (e : f_Nets_around v0 v1 set M = some y) : ∀ d, bl y d = true ↔ ∃ c, c < 36 ∧ bl set c = true ∧ bl (M.2.1 (v0 + 2) (l * 36 + c)) d = true := by
  have k36 : (36 : Int32).toInt = 36 := rfl
  unfold f_Nets_around at e
  obtain ⟨_, e⟩ := io_n e
  obtain ⟨x3, e3, e⟩ := bo e
  obtain rfl := Option.some.inj e
  refine it_r (I := fun s : Int64 × Int32 => ∃ k : Nat, k ≤ 36 ∧ s.2.toInt = (k : Int) ∧ ∀ d, bl s.1 d = true ↔ ∃ c, c < k ∧ bl set c = true ∧ bl (M.2.1 (v0 + 2) (l * 36 + c)) d = true) (Q := fun y : Int64 => ∀ d, bl y d = true ↔ ∃ c, c < 36 ∧ bl set c = true ∧ bl (M.2.1 (v0 + 2) (l * 36 + c)) d = true) ?_ e3 ⟨0, by omega, rfl, fun d => ?_⟩
  · rintro ⟨acc, i⟩ r ⟨k, k36', hk, hd⟩ e
    dsimp only at hk hd
    unfold lb_Nets_around_6 at e
    dsimp only at e
    rcases io e with ⟨g, e⟩ | ⟨g, e⟩
    · have := q_le g
      obtain rfl := Option.some.inj e
      have : k = 36 := by omega
      subst this
      exact hd
    have g1 := q_ng g
    have i1 : (i + (1 : Int32)).toInt = ((k + 1 : Nat) : Int) := add_ti hk o1 (by omega) (by omega)
    rcases io e with ⟨g, e⟩ | ⟨g, e⟩
    · have gb := (bl_cmp hk (by omega)).mp g
      obtain rfl := Option.some.inj e
      refine ⟨k + 1, by omega, i1, fun d => ?_⟩
      dsimp only
      rw [hd]
      constructor
      · rintro ⟨c, h1, h2⟩; exact ⟨c, by omega, h2⟩
      · rintro ⟨c, h1, h2, h3⟩
        refine ⟨c, ?_, h2, h3⟩
        rcases Nat.lt_or_ge c k with q | q
        · exact q
        · have : c = k := by omega
          subst this
          rw [gb] at h2; cases h2
    · have gb : bl set k = true := by
        cases hb : bl set k with
        | true => rfl
        | false => exact absurd ((bl_cmp hk (by omega)).mpr hb) g
      obtain ⟨_, e⟩ := io_n e
      obtain rfl := Option.some.inj e
      have i2 : (v1 * (36 : Int32) + i).toInt = ((l * 36 + k : Nat) : Int) := by rw [add_ti (mul_ti h1 k36 (by omega) (by omega)) hk (by omega) (by omega)]; omega
      refine ⟨k + 1, by omega, i1, fun d => ?_⟩
      dsimp only
      rw [bl_or, Bool.or_eq_true, hd, (isN_r hv).2.1, q_nat i2]
      constructor
      · rintro (⟨c, h1, h2⟩ | h)
        · exact ⟨c, by omega, h2⟩
        · exact ⟨k, by omega, gb, h⟩
      · rintro ⟨c, h1, h2, h3⟩
        rcases Nat.lt_or_ge c k with q | q
        · exact .inl ⟨c, q, h2, h3⟩
        · have : c = k := by omega
          subst this
          exact .inr h3
  · dsimp only
    rw [bl_0]
    constructor
    · intro h; cases h
    · rintro ⟨c, h, _⟩; omega
theorem fill_i {k : Nat} {v8 : Int32} {v4 v6 : Int64} {x : Mem} (e : iter (lb_Nets_measure_51 v0 v1 k v4 v6 v8) FU ((0 : Int32), M) = some x) : (∀ c, c < 36 → x.1 k c = if bl v6 c = true then v8 else M.1 k c) ∧ (∀ kx i, kx ≠ k → x.1 kx i = M.1 kx i) ∧ x.2 = M.2 := by
  have k36 : (36 : Int32).toInt = 36 := rfl
  refine it_r (I := fun s : Int32 × Mem => ∃ q : Nat, q ≤ 36 ∧ s.1.toInt = (q : Int) ∧ (∀ c, c < 36 → s.2.1 k c = if c < q ∧ bl v6 c = true then v8 else M.1 k c) ∧ (∀ kx i, kx ≠ k → s.2.1 kx i = M.1 kx i) ∧ s.2.2 = M.2) (Q := fun x : Mem => (∀ c, c < 36 → x.1 k c = if bl v6 c = true then v8 else M.1 k c) ∧ (∀ kx i, kx ≠ k → x.1 kx i = M.1 kx i) ∧ x.2 = M.2) ?_ e ⟨0, by omega, rfl, fun c _ => by rw [if_neg (by omega)], fun _ _ _ => rfl, rfl⟩
  rintro ⟨i, N⟩ r ⟨q, q36, hq, hd, hf, h2⟩ e
  dsimp only at hq hd hf h2
  unfold lb_Nets_measure_51 at e
  dsimp only at e
  rcases io e with ⟨g, e⟩ | ⟨g, e⟩
  · have := q_le g
    obtain rfl := Option.some.inj e
    refine ⟨fun c hc => ?_, hf, h2⟩
    rw [hd c hc]
    by_cases b : bl v6 c = true
    · rw [if_pos b, if_pos ⟨by omega, b⟩]
    · rw [if_neg b, if_neg (fun h => b h.2)]
  have g1 := q_ng g
  have i1 : (i + (1 : Int32)).toInt = ((q + 1 : Nat) : Int) := add_ti hq o1 (by omega) (by omega)
  rcases io e with ⟨g, e⟩ | ⟨g, e⟩
  · have gb := (bl_cmp hq (by omega)).mp g
    obtain rfl := Option.some.inj e
    refine ⟨q + 1, by omega, i1, fun c hc => ?_, hf, h2⟩
    dsimp only
    rw [hd c hc]
    by_cases b : bl v6 c = true
    · by_cases b2 : c < q
      · rw [if_pos ⟨b2, b⟩, if_pos ⟨by omega, b⟩]
      · rw [if_neg (fun h => b2 h.1), if_neg (fun h => by
          have : c = q := by omega
          subst this
          rw [gb] at b; cases b)]
    · rw [if_neg (fun h => b h.2), if_neg (fun h => b h.2)]
  · have gb : bl v6 q = true := by
      cases hb : bl v6 q with
      | true => rfl
      | false => exact absurd ((bl_cmp hq (by omega)).mpr hb) g
    obtain ⟨_, e⟩ := io_n e
    obtain ⟨M4, m4, e⟩ := mo e
    obtain rfl := Option.some.inj e
    rw [q_nat hq] at m4
    refine ⟨q + 1, by omega, i1, fun c hc => ?_, fun kx i h => ?_, ?_⟩
    · dsimp only
      rw [m4]
      by_cases b : c = q
      · subst b; rw [si_eq, if_pos ⟨by omega, gb⟩]
      · rw [si_ne (by omega), hd c hc]
        by_cases b3 : bl v6 c = true
        · by_cases b2 : c < q
          · rw [if_pos ⟨b2, b3⟩, if_pos ⟨by omega, b3⟩]
          · rw [if_neg (fun h => b2 h.1), if_neg (fun h => by omega)]
        · rw [if_neg (fun h => b3 h.2), if_neg (fun h => b3 h.2)]
    · dsimp only
      rw [m4, si_ne (by omega)]; exact hf kx i h
    · dsimp only
      rw [m4, si_2]; exact h2
theorem far_i {k : Nat} {v2 : Int32} {x : Mem} (e : iter (lb_Nets_measure_3 v0 v1 v2 k) FU ((0 : Int32), M) = some x) : (∀ c, c < 36 → x.1 k c = 1000000) ∧ (∀ kx i, kx ≠ k → x.1 kx i = M.1 kx i) ∧ x.2 = M.2 := by
  have k36 : (36 : Int32).toInt = 36 := rfl
  refine it_r (I := fun s : Int32 × Mem => ∃ q : Nat, q ≤ 36 ∧ s.1.toInt = (q : Int) ∧ (∀ c, c < q → s.2.1 k c = 1000000) ∧ (∀ kx i, kx ≠ k → s.2.1 kx i = M.1 kx i) ∧ s.2.2 = M.2) (Q := fun x : Mem => (∀ c, c < 36 → x.1 k c = 1000000) ∧ (∀ kx i, kx ≠ k → x.1 kx i = M.1 kx i) ∧ x.2 = M.2) ?_ e ⟨0, by omega, rfl, fun c h => by omega, fun _ _ _ => rfl, rfl⟩
  rintro ⟨i, N⟩ r ⟨q, q36, hq, hd, hf, h2⟩ e
  dsimp only at hq hd hf h2
  unfold lb_Nets_measure_3 at e
  dsimp only at e
  rcases io e with ⟨g, e⟩ | ⟨g, e⟩
  · have := q_le g
    obtain rfl := Option.some.inj e
    exact ⟨fun c hc => hd c (by omega), hf, h2⟩
  have g1 := q_ng g
  obtain ⟨_, e⟩ := io_n e
  obtain ⟨M1, m1, e⟩ := mo e
  obtain rfl := Option.some.inj e
  rw [q_nat hq] at m1
  refine ⟨q + 1, by omega, add_ti hq o1 (by omega) (by omega), fun c hc => ?_, fun kx i h => ?_, ?_⟩
  · dsimp only
    rw [m1]
    by_cases b : c = q
    · subst b; rw [si_eq]
    · rw [si_ne (by omega)]; exact hd c (by omega)
  · dsimp only
    rw [m1, si_ne (by omega)]; exact hf kx i h
  · dsimp only
    rw [m1, si_2]; exact h2
/-- what it is to be measured from f -/
def MSR (adj : Nat → Nat → Prop) (f : Nat) (D : Nat → Int) : Prop := D f = 0 ∧ (∀ c, c < 36 → 0 ≤ D c ∧ (D c < 36 ∨ D c = 1000000)) ∧ (∀ c, c < 36 → D c < 1000000 → c = f ∨ ∃ c', c' < 36 ∧ D c' + 1 = D c ∧ adj c' c) ∧ (∀ c, c < 36 → D c < 1000000 → ∀ d, adj c d → d < 36 ∧ D d ≤ D c + 1)
def MI (adj : Nat → Nat → Prop) (f k : Nat) (M0_ : Mem) (s : Int64 × Int64 × Int32 × Mem) : Prop := ∃ t : Nat, t ≤ 36 ∧ s.2.2.1.toInt = (t : Int) ∧ (∀ c, bl s.2.1 c = true → bl s.1 c = true) ∧ (∀ c, bl s.1 c = true → c < 36) ∧ (∀ c, c < 36 → (bl s.1 c = true ∧ bl s.2.1 c = false → 0 ≤ (s.2.2.2.1 k c).toInt ∧ (s.2.2.2.1 k c).toInt < (t : Int)) ∧ (¬ (bl s.1 c = true ∧ bl s.2.1 c = false) → (s.2.2.2.1 k c).toInt = 1000000)) ∧ (∀ c, bl s.1 c = true → bl s.2.1 c = false → c = f ∨ ∃ c', bl s.1 c' = true ∧ bl s.2.1 c' = false ∧ (s.2.2.2.1 k c').toInt + 1 = (s.2.2.2.1 k c).toInt ∧ adj c' c) ∧ (∀ c, bl s.2.1 c = true → (c = f ∧ t = 0) ∨ ∃ c', bl s.1 c' = true ∧ bl s.2.1 c' = false ∧ (s.2.2.2.1 k c').toInt + 1 = (t : Int) ∧ adj c' c) ∧ (∀ c, bl s.1 c = true → bl s.2.1 c = false → ∀ d, adj c d → (bl s.1 d = true ∧ bl s.2.1 d = false ∧ (s.2.2.2.1 k d).toInt ≤ (s.2.2.2.1 k c).toInt + 1) ∨ (bl s.2.1 d = true ∧ (s.2.2.2.1 k c).toInt + 1 = (t : Int))) ∧ (bl s.1 f = true ∧ ((t = 0 ∧ bl s.2.1 f = true) ∨ (0 < t ∧ bl s.2.1 f = false ∧ (s.2.2.2.1 k f).toInt = 0))) ∧ t ≤ (List.range 36).countP (fun c => bl s.1 c && !bl s.2.1 c) ∧ (∀ kx i, kx ≠ k → s.2.2.2.1 kx i = M0_.1 kx i) ∧ s.2.2.2.2 = M0_.2
theorem meas_i {f k : Nat} {v2 : Int32} {x : Mem} (hv : isN v0) (h1 : v1.toInt = (l : Int)) (l2 : l < 2) (h2 : v2.toInt = (f : Int)) (f36 : f < 36) (adjb : ∀ c d, c < 36 → bl (M.2.1 (v0 + 2) (l * 36 + c)) d = true → d < 36) (e : f_Nets_measure v0 v1 v2 k M = some x) : MSR (fun c d => bl (M.2.1 (v0 + 2) (l * 36 + c)) d = true) f (fun c => (x.1 k c).toInt) ∧ (∀ kx i, kx ≠ k → x.1 kx i = M.1 kx i) ∧ x.2 = M.2 := by
  have k36 : (36 : Int32).toInt = 36 := rfl
  have kF : (1000000 : Int32).toInt = 1000000 := rfl
  unfold f_Nets_measure at e
  obtain ⟨_, e⟩ := io_n e
  obtain ⟨_, e⟩ := io_n e
  obtain ⟨x3, e3, e⟩ := bo e
  obtain ⟨x11, e11, e⟩ := bo e
  obtain rfl := Option.some.inj e
  obtain ⟨a1, a2, a3⟩ := far_i e3
  have one : ∀ d, bl ((1 : Int64) <<< (v2.toInt64 &&& 63)) d = decide (d = f) := bl_one h2 (by omega)
  refine it_r (I := MI (fun c d => bl (M.2.1 (v0 + 2) (l * 36 + c)) d = true) f k M) (Q := fun x : Mem => MSR (fun c d => bl (M.2.1 (v0 + 2) (l * 36 + c)) d = true) f (fun c => (x.1 k c).toInt) ∧ (∀ kx i, kx ≠ k → x.1 kx i = M.1 kx i) ∧ x.2 = M.2) ?_ e11 ⟨0, by omega, rfl, fun c h => h, fun c h => ?_, fun c hc => ⟨fun h => ?_, fun _ => ?_⟩, fun c h1 h2 => ?_, fun c h => ?_, fun c h1 h2 => ?_, ⟨?_, .inl ⟨rfl, ?_⟩⟩, by omega, a2, a3⟩
  rotate_left
  · dsimp only at h; rw [one] at h; have := of_decide_eq_true h; omega
  · dsimp only at h; rw [h.1] at h; cases h.2
  · show (x3.1 k c).toInt = _; rw [a1 c hc]; rfl
  · dsimp only at h1 h2; rw [h1] at h2; cases h2
  · dsimp only at h; rw [one] at h; exact .inl ⟨of_decide_eq_true h, rfl⟩
  · dsimp only at h1 h2; rw [h1] at h2; cases h2
  · dsimp only; rw [one]; exact decide_eq_true rfl
  · dsimp only; rw [one]; exact decide_eq_true rfl
  rintro ⟨fo, fr, st, N⟩ r ⟨t, t36, ht, i1, i2, i3, i4, i5, i6, i7, i8, i9, i10⟩ e
  dsimp only at ht i1 i2 i3 i4 i5 i6 i7 i8 i9 i10
  -- the end: nobody is in front
  have fin : (∀ c, bl fr c = false) → MSR (fun c d => bl (M.2.1 (v0 + 2) (l * 36 + c)) d = true) f (fun c => (N.1 k c).toInt) ∧ (∀ kx i, kx ≠ k → N.1 kx i = M.1 kx i) ∧ N.2 = M.2 := by
    intro h0
    have D1 : ∀ c, c < 36 → (N.1 k c).toInt < 1000000 → bl fo c = true := by
      intro c hc hd
      cases hb : bl fo c with
      | true => rfl
      | false =>
        have := (i3 c hc).2 (fun h => by rw [hb] at h; cases h.1)
        omega
    refine ⟨⟨?_, fun c hc => ?_, fun c hc hd => ?_, fun c hc hd d had => ?_⟩, i9, i10⟩
    · rcases i7.2 with ⟨_, h⟩ | ⟨_, _, h⟩
      · rw [h0] at h; cases h
      · exact h
    · show 0 ≤ (N.1 k c).toInt ∧ _
      by_cases g : bl fo c = true
      · have := (i3 c hc).1 ⟨g, h0 c⟩
        exact ⟨this.1, .inl (by show (N.1 k c).toInt < 36; omega)⟩
      · have := (i3 c hc).2 (fun h => g h.1)
        exact ⟨by omega, .inr this⟩
    · rcases i4 c (D1 c hc hd) (h0 c) with h | ⟨c', h1, h2, h3, h4⟩
      · exact .inl h
      · exact .inr ⟨c', i2 c' h1, h3, h4⟩
    · rcases i6 c (D1 c hc hd) (h0 c) d had with ⟨h1, h2, h3⟩ | ⟨h, _⟩
      · exact ⟨i2 d h1, h3⟩
      · rw [h0] at h; cases h
  unfold lb_Nets_measure_34 at e
  dsimp only at e
  rcases io e with ⟨g, e⟩ | ⟨g, e⟩
  · have := q_le g
    obtain rfl := Option.some.inj e
    refine fin (fun c => ?_)
    have all := cnt_all (n := 36) (P := fun c => bl fo c && !bl fr c) (by omega)
    cases hb : bl fr c with
    | false => rfl
    | true =>
      have := all c (i2 c (i1 c hb))
      simp [hb] at this
  have g1 := q_ng g
  rcases io e with ⟨g, e⟩ | ⟨g, e⟩
  · have := lc_0.mp g
    obtain rfl := Option.some.inj e
    exact fin (fun c => by rw [this]; exact bl_0 c)
  have frn : ∃ c, bl fr c = true := by
    by_cases h : ∃ c, bl fr c = true
    · exact h
    · exact absurd (lc_0.mpr (bl_0i (fun d => by
        cases hb : bl fr d with
        | false => rfl
        | true => exact absurd ⟨d, hb⟩ h))) g
  obtain ⟨x7, e7, e⟩ := bo e
  obtain ⟨x8, e8, e⟩ := bo e
  obtain rfl := Option.some.inj e
  obtain ⟨b1, b2, b3⟩ := fill_i e7
  have ar := around_i hv h1 l2 e8
  rw [b3, i10] at ar
  -- the new front
  have nf : ∀ d, d < 64 → bl (x8 &&& (fo ^^^ (-1 : Int64))) d = (bl x8 d && !bl fo d) := fun d hd => by rw [bl_and, bl_not hd]
  have nf1 : ∀ d, bl (x8 &&& (fo ^^^ (-1 : Int64))) d = true ↔ bl x8 d = true ∧ bl fo d = false := by
    intro d
    by_cases hd : d < 64
    · rw [nf d hd]; cases bl x8 d <;> cases bl fo d <;> simp
    · rw [bl_hi (by omega)]
      constructor
      · intro h; cases h
      · rintro ⟨h, _⟩; rw [bl_hi (by omega)] at h; cases h
  have n36 : ∀ d, bl x8 d = true → d < 36 := fun d h => by
    obtain ⟨c, hc, _, h3⟩ := (ar d).mp h
    exact adjb c d hc h3
  -- found before: neither in the new front
  have old : ∀ c, bl (fo ||| (x8 &&& (fo ^^^ (-1 : Int64)))) c = true ∧ bl (x8 &&& (fo ^^^ (-1 : Int64))) c = false ↔ bl fo c = true := by
    intro c
    rw [bl_or, Bool.or_eq_true]
    constructor
    · rintro ⟨h | h, h2⟩
      · exact h
      · rw [h] at h2; cases h2
    · intro h
      refine ⟨.inl h, ?_⟩
      cases hb : bl (x8 &&& (fo ^^^ (-1 : Int64))) c with
      | false => rfl
      | true => rw [((nf1 c).mp hb).2] at h; cases h
  have D7 : ∀ c, c < 36 → (bl fr c = true → (x7.1 k c).toInt = (t : Int)) ∧ (bl fr c = false → x7.1 k c = N.1 k c) := fun c hc => ⟨fun h => by rw [b1 c hc, if_pos h]; exact ht, fun h => by rw [b1 c hc, if_neg (by rw [h]; decide)]⟩
  have c0 : ∀ c, bl fo c = true → (0 ≤ (x7.1 k c).toInt ∧ (x7.1 k c).toInt < ((t + 1 : Nat) : Int)) := by
    intro c h
    have hc := i2 c h
    cases hb : bl fr c with
    | true => rw [(D7 c hc).1 hb]; omega
    | false =>
      rw [(D7 c hc).2 hb]
      have := (i3 c hc).1 ⟨h, hb⟩
      omega
  refine ⟨t + 1, by omega, add_ti ht o1 (by omega) (by omega), fun c h => ?_, fun c h => ?_, fun c hc => ⟨fun h => c0 c ((old c).mp h), fun h => ?_⟩, fun c h1 h2 => ?_, fun c h => ?_, fun c h1 h2 d had => ?_, ⟨?_, .inr ⟨by omega, ?_, ?_⟩⟩, ?_, fun kx i h => ?_, ?_⟩
  · dsimp only at h ⊢
    rw [bl_or, h, Bool.or_true]
  · dsimp only at h
    rw [bl_or, Bool.or_eq_true] at h
    rcases h with h | h
    · exact i2 c h
    · exact n36 c ((nf1 c).mp h).1
  · dsimp only at h ⊢
    have hn : ¬ bl fo c = true := fun q => h ((old c).mpr q)
    have hfr : bl fr c = false := by
      cases hb : bl fr c with
      | false => rfl
      | true => exact absurd (i1 c hb) hn
    rw [(D7 c hc).2 hfr]
    exact (i3 c hc).2 (fun q => hn q.1)
  · dsimp only at h1 h2 ⊢
    have hfo := (old c).mp ⟨h1, h2⟩
    have hc := i2 c hfo
    cases hb : bl fr c with
    | true =>
      rcases i5 c hb with ⟨h, _⟩ | ⟨c', q1, q2, q3, q4⟩
      · exact .inl h
      · refine .inr ⟨c', ((old c').mpr q1).1, ((old c').mpr q1).2, ?_, q4⟩
        rw [(D7 c' (i2 c' q1)).2 q2, (D7 c hc).1 hb]; exact q3
    | false =>
      rcases i4 c hfo hb with h | ⟨c', q1, q2, q3, q4⟩
      · exact .inl h
      · refine .inr ⟨c', ((old c').mpr q1).1, ((old c').mpr q1).2, ?_, q4⟩
        rw [(D7 c' (i2 c' q1)).2 q2, (D7 c hc).2 hb]; exact q3
  · dsimp only at h ⊢
    obtain ⟨q1, q2⟩ := (nf1 c).mp h
    obtain ⟨c', hc', q3, q4⟩ := (ar c).mp q1
    refine .inr ⟨c', ((old c').mpr (i1 c' q3)).1, ((old c').mpr (i1 c' q3)).2, ?_, q4⟩
    rw [(D7 c' hc').1 q3]; omega
  · dsimp only at h1 h2 had ⊢
    have hfo := (old c).mp ⟨h1, h2⟩
    have hc := i2 c hfo
    have d36 := adjb c d hc had
    cases hb : bl fr c with
    | true =>
      have hx8 : bl x8 d = true := (ar d).mpr ⟨c, hc, hb, had⟩
      cases hd : bl fo d with
      | true =>
        refine .inl ⟨((old d).mpr hd).1, ((old d).mpr hd).2, ?_⟩
        have := c0 d hd
        rw [(D7 c hc).1 hb]; omega
      | false =>
        refine .inr ⟨(nf1 d).mpr ⟨hx8, hd⟩, ?_⟩
        rw [(D7 c hc).1 hb]; omega
    | false =>
      rcases i6 c hfo hb d had with ⟨q1, q2, q3⟩ | ⟨q1, q2⟩
      · refine .inl ⟨((old d).mpr q1).1, ((old d).mpr q1).2, ?_⟩
        rw [(D7 d d36).2 q2, (D7 c hc).2 hb]; exact q3
      · refine .inl ⟨((old d).mpr (i1 d q1)).1, ((old d).mpr (i1 d q1)).2, ?_⟩
        rw [(D7 d d36).1 q1, (D7 c hc).2 hb]; omega
  · exact ((old f).mpr i7.1).1
  · exact ((old f).mpr i7.1).2
  · dsimp only
    rcases i7.2 with ⟨h0, hb⟩ | ⟨_, hb, hd⟩
    · rw [(D7 f f36).1 hb]; omega
    · rw [(D7 f f36).2 hb]; exact hd
  · dsimp only
    obtain ⟨c, hc⟩ := frn
    have lt := cnt_lt (n := 36) (c := c) (P := fun c => bl fo c && !bl fr c) (Q := fun c => bl (fo ||| (x8 &&& (fo ^^^ (-1 : Int64)))) c && !bl (x8 &&& (fo ^^^ (-1 : Int64))) c) (i2 c (i1 c hc)) (fun i _ h => by
      simp only [Bool.and_eq_true, Bool.not_eq_true'] at h ⊢
      exact (old i).mpr h.1) (by simp [hc]) (by
      simp only [Bool.and_eq_true, Bool.not_eq_true']
      exact (old c).mpr (i1 c hc))
    omega
  · dsimp only
    rw [b2 kx i h]; exact i9 kx i h
  · dsimp only
    rw [b3]; exact i10
end MEAS
end
section
/-! the class's nets and the reference's steps; both measures are one -/
theorem near_go {X R : Mem} {v0 a n l c d : Nat} (jR : J R) (zv : ZV R (R.1 a) n) (zx : ZX v0 R (onA R) (fun c d => plk R a c d) X) (l2 : l < 2) (c36 : c < 36) : bl (X.2.1 (v0 + 2) (l * 36 + c)) d = true ↔ (onN R l c ∧ d < 36 ∧ ∃ s : Int, 0 ≤ s ∧ s ≤ 3 ∧ goR R a ((36 * l + c : Nat) : Int) s ((36 * l + d : Nat) : Int)) := by
  have hw := aw jR
  have hh := ah jR
  have wh := awh jR
  have pm : ((36 * l + c : Nat) : Int) % 36 = (c : Int) := by omega
  have pd : ((36 * l + c : Nat) : Int) / 36 = (l : Int) := by omega
  rw [zx.2 l c l2 c36 d]
  constructor
  · rintro (⟨s, s4, ⟨o1, o2, o3⟩, o4⟩ | ⟨hl, s, s4, hb, hp⟩)
    · have onl := (onA_i jR).mp o1
      have on2 := (onA_i jR).mp o3
      rw [o4] at on2
      rw [show (((d : Int)).toNat : Int) = (d : Int) by omega] at on2
      refine ⟨onl, by have := on2.2.1; omega, s, by omega, by omega, .inr ⟨by omega, .inr (.inl ⟨by rw [pm]; exact o2, by rw [pm, pd, o4]; exact on2, by rw [pm, pd, o4]; omega⟩)⟩⟩
    · subst hl
      have onl := (plk_on (KP_v zv) hp).1
      have ond := (plk_on (KP_v zv) hp).2
      have b1 : bes (xw R) (xh R) c s ≠ -1 := by
        intro h
        unfold bb at hb
        rw [if_pos h] at hb
        omega
      have b2 : bb (xw R) (xh R) c s = bes (xw R) (xh R) (bes (xw R) (xh R) c s) s := by unfold bb; rw [if_neg b1]
      have no := mid_no jR zv onl s4 (by omega) (by rw [hb]; exact hp)
      refine ⟨onl, by have := ond.2.1; omega, s, by omega, by omega, .inr ⟨by omega, .inr (.inr (.inr (.inl ⟨by rw [pm]; exact b1, by rw [pm, pd]; exact no, by rw [pd]; omega, ?_, ?_, ?_⟩)))⟩⟩
      · rw [pm, ← b2]; omega
      · rw [pm, ← b2, hb]; exact hp
      · rw [pm, ← b2, hb]; omega
  · rintro ⟨onl, d36, s, s0, s3, g⟩
    rcases g with ⟨h, _⟩ | ⟨_, g⟩
    · omega
    rw [pm, pd] at g
    obtain ⟨s', hs'⟩ : ∃ s' : Nat, s = (s' : Int) := ⟨s.toNat, by omega⟩
    subst hs'
    rcases g with ⟨g1, g2⟩ | ⟨g1, g2, g3⟩ | ⟨g1, g2, g3, g4⟩ | ⟨g1, g2, g3, g4, g5, g6⟩ | ⟨g1, g2, g3, g4, g5⟩
    · omega
    · have e : bes (xw R) (xh R) c s' = (d : Int) := by omega
      refine .inl ⟨s', by omega, ⟨(onA_i jR).mpr onl, g1, (onA_i jR).mpr ?_⟩, e⟩
      rw [e]
      rw [e] at g2
      rw [show (((d : Int)).toNat : Int) = (d : Int) by omega]
      exact g2
    · omega
    · have l1 : l = 1 := by omega
      have b2 : bb (xw R) (xh R) c s' = bes (xw R) (xh R) (bes (xw R) (xh R) c s') s' := by unfold bb; rw [if_neg g1]
      rw [← b2] at g4 g5 g6
      have e : bb (xw R) (xh R) c s' = (d : Int) := by omega
      rw [e] at g5
      exact .inr ⟨l1, s', by omega, e, g5⟩
    · omega
theorem onP_lc {R : Mem} {l c : Nat} (l2 : l < 2) (c36 : c < 36) : onP R ((36 * l + c : Nat) : Int) ↔ onN R l c := by
  unfold onP
  rw [show ((36 * l + c : Nat) : Int) % 36 = (c : Int) by omega, show ((36 * l + c : Nat) : Int) / 36 = (l : Int) by omega]
  constructor
  · intro h; exact h.2.2
  · intro h; exact ⟨by omega, by omega, h⟩
/-- one stays on one's level -/
theorem go_lev {R : Mem} {a : Nat} {p s m : Int} (jR : J R) (hp : 0 ≤ p ∧ p ≤ 71) (s0 : 0 ≤ s ∧ s ≤ 3) (h : goR R a p s m) (hm : m ≠ -1) : ∃ d : Nat, d < 36 ∧ m = 36 * (p / 36) + d := by
  have hw := aw jR
  have hh := ah jR
  have wh := awh jR
  rcases h with ⟨h, _⟩ | ⟨_, g⟩
  · omega
  have inn : ∀ q : Int, bes (xw R) (xh R) q s ≠ -1 → 0 ≤ bes (xw R) (xh R) q s ∧ bes (xw R) (xh R) q s < 36 := by
    intro q hq
    unfold bes at hq ⊢
    by_cases c : 0 ≤ q % xw R + (if s = 1 then 1 else if s = 3 then -1 else 0) ∧ q % xw R + (if s = 1 then 1 else if s = 3 then -1 else 0) ≤ xw R - 1 ∧ 0 ≤ q / xw R + (if s = 2 then 1 else if s = 0 then -1 else 0) ∧ q / xw R + (if s = 2 then 1 else if s = 0 then -1 else 0) ≤ xh R - 1
    · rw [if_pos c]
      generalize q % xw R + (if s = 1 then 1 else if s = 3 then -1 else 0) = u at c ⊢
      generalize q / xw R + (if s = 2 then 1 else if s = 0 then -1 else 0) = v at c ⊢
      have v5 : v ≤ xh R - 1 := c.2.2.2
      have mul : xw R * v ≤ xw R * (xh R - 1) := Int.mul_le_mul_of_nonneg_left v5 (by omega)
      have mul0 : 0 ≤ xw R * v := Int.mul_nonneg (by omega) (by omega)
      rw [Int.mul_sub, Int.mul_one] at mul
      constructor <;> omega
    · rw [if_neg c] at hq; exact absurd rfl hq
  rcases g with ⟨g1, g2⟩ | ⟨g1, g2, g3⟩ | ⟨g1, g2, g3, g4⟩ | ⟨g1, g2, g3, g4, g5, g6⟩ | ⟨g1, g2, g3, g4, g5⟩
  · exact absurd g2 hm
  · have := inn _ g1
    exact ⟨(bes (xw R) (xh R) (p % 36) s).toNat, by omega, by omega⟩
  · exact absurd g4 hm
  · have := inn _ g4
    exact ⟨(bes (xw R) (xh R) (bes (xw R) (xh R) (p % 36) s) s).toNat, by omega, by omega⟩
  · exact absurd g5 hm
/-- both measures are one -/
theorem far_eq {X R r : Mem} {v0 n l f : Nat} {D : Nat → Int} (jR : J R) (jr : J r) (zv : ZV R (R.1 163) n) (zx : ZX v0 R (onA R) (fun c d => plk R 163 c d) X) (l2 : l < 2) (f36 : f < 36) (onf : onN R l f) (ms : MSR (fun c d => bl (X.2.1 (v0 + 2) (l * 36 + c)) d = true) f D) (ff : FF R ((36 * l + f : Nat) : Int) r) : ∀ c, c < 36 → D c = (r.1 177 (36 * l + c)).toInt := by
  obtain ⟨m1, m2, m3, m4⟩ := ms
  have kp := KP_v zv
  have onp : onP R ((36 * l + f : Nat) : Int) := (onP_lc l2 f36).mpr onf
  obtain ⟨⟨_, _, _, q0, q1⟩, cl⟩ := ff
  have q0 : (r.1 177 (36 * l + f)).toInt = 0 := q0
  have up : ∀ (m : Nat) (c : Nat), c < 36 → D c < 1000000 → (D c).toNat ≤ m → (r.1 177 (36 * l + c)).toInt ≤ D c := by
    intro m
    induction m with
    | zero =>
      intro c hc hd hm
      rcases m3 c hc hd with h | ⟨c', hc', h1, h2⟩
      · subst h; rw [q0, m1]; omega
      · have := (m2 c' hc').1; omega
    | succ m ih =>
      intro c hc hd hm
      rcases m3 c hc hd with h | ⟨c', hc', h1, h2⟩
      · subst h; rw [q0, m1]; omega
      · have k := (m2 c' hc').1
        have i := ih c' hc' (by omega) (by omega)
        obtain ⟨_, _, s, s0, s3, g⟩ := (near_go jR zv zx l2 hc').mp h2
        have := cl (36 * l + c') (by omega) (by omega) s s0 s3 _ g (by omega)
        rw [show (((36 * l + c : Nat) : Int)).toNat = 36 * l + c by omega, show (((36 * l + c' : Nat) : Int)).toNat = 36 * l + c' by omega] at this
        omega
  have ffR : FF R ((36 * l + f : Nat) : Int) r := ⟨⟨‹_›, ‹_›, ‹_›, q0, q1⟩, cl⟩
  have dn : ∀ (m : Nat) (k : Nat), k < 72 → (r.1 177 k).toInt < 1000000 → (r.1 177 k).toInt.toNat ≤ m → ∃ c, c < 36 ∧ k = 36 * l + c ∧ D c ≤ (r.1 177 k).toInt := by
    intro m
    induction m with
    | zero =>
      intro k hk hd hm
      have b := (Jr_177 jr k).1
      rcases q1 k hk hd with h | ⟨q, hq, s, s0, s3, g, h⟩
      · exact ⟨f, f36, by omega, by rw [m1]; omega⟩
      · have := (Jr_177 jr q).1; omega
    | succ m ih =>
      intro k hk hd hm
      have b := (Jr_177 jr k).1
      rcases q1 k hk hd with h | ⟨q, hq, s, s0, s3, g, h⟩
      · exact ⟨f, f36, by omega, by rw [m1]; omega⟩
      · have bq := (Jr_177 jr q).1
        obtain ⟨c', hc', e', hD⟩ := ih q hq (by omega) (by omega)
        subst e'
        have onq := far_on jR kp onp ffR ((r.1 177 (36 * l + c')).toInt.toNat) (36 * l + c') hq (by omega) (Nat.le_refl _)
        obtain ⟨d, d36, hd'⟩ := go_lev jR (by omega) ⟨s0, s3⟩ g (by omega)
        have e2 : k = 36 * l + d := by omega
        subst e2
        have := m4 c' hc' (by omega) d ((near_go jR zv zx l2 hc').mpr ⟨(onP_lc l2 hc').mp onq, d36, s, s0, s3, g⟩)
        exact ⟨d, d36, rfl, by omega⟩
  intro c hc
  have b := Jr_177 jr (36 * l + c)
  rcases (m2 c hc).2 with h | h
  · have u := up (D c).toNat c hc (by omega) (Nat.le_refl _)
    obtain ⟨c', hc', e', hD⟩ := dn ((r.1 177 (36 * l + c)).toInt.toNat) (36 * l + c) (by omega) (by omega) (Nat.le_refl _)
    have : c' = c := by omega
    subst this
    omega
  · by_cases g : (r.1 177 (36 * l + c)).toInt < 1000000
    · obtain ⟨c', hc', e', hD⟩ := dn ((r.1 177 (36 * l + c)).toInt.toNat) (36 * l + c) (by omega) g (Nat.le_refl _)
      have : c' = c := by omega
      subst this
      omega
    · omega
/-- the class measures, the reference finds: from the same place the same numbers -/
theorem meas_2 {X R x r : Mem} {n l f k : Nat} {v1 v2 p : Int32} (jR : J R) (zv : ZV R (R.1 163) n) (zw : ZW X R 163) (h1 : v1.toInt = (l : Int)) (l2 : l < 2) (h2 : v2.toInt = (f : Int)) (f36 : f < 36) (onf : onN R l f) (hp : p.toInt = ((36 * l + f : Nat) : Int)) (ex : f_Nets_measure 32 v1 v2 k X = some x) (er : f_Mod_findFar p R = some r) : (∀ c, c < 36 → x.1 k c = r.1 177 (36 * l + c)) ∧ (∀ kx i, kx ≠ k → x.1 kx i = X.1 kx i) ∧ x.2 = X.2 ∧ J r ∧ (∀ kx i, kx ≠ 177 → r.1 kx i = R.1 kx i) ∧ r.2 = R.2 := by
  have wh := awh jR
  obtain ⟨ms, fx, q⟩ := meas_i (.inl rfl) h1 l2 h2 f36 (fun c d hc h => ((near_go jR zv zw.2 l2 hc).mp h).2.1) ex
  have ff := some_of (fs_findFar jR p (by omega)) er
  rw [hp] at ff
  have jr : J r := ff.1.1
  have E := far_eq jR jr zv zw.2 l2 f36 onf ms ff
  refine ⟨fun c hc => Int32.toInt_inj.mp (E c hc), fx, q, jr, fun kx i h => ff.1.2.1 kx i h, ff.1.2.2.1⟩
end
section
/-! path, tryst -/
theorem plc_2 {X R : Mem} {lv cv x y : Int32} (zg : ZG X R) (jR : J R) (ex : f_Ground_holds lv cv X = some x) (ey : f_Mod_isPlaceOf lv cv R = some y) : (x = 0 ∧ y = 0) ∨ (x = 1 ∧ y = 1 ∧ ∃ l c : Nat, l < 2 ∧ c < 36 ∧ lv.toInt = (l : Int) ∧ cv.toInt = (c : Int) ∧ onN R l c) := by
  have wh := awh jR
  have h := holdsC zg jR ex
  unfold f_Mod_isPlaceOf at ey
  obtain ⟨y1, ey1, ey⟩ := bo ey
  have h1 := some_of (sp_in lv 0 1) ey1
  rw [o0, o1] at h1
  rcases h1 with ⟨a, b⟩ | ⟨a, b⟩
  · rw [a, if_neg (by decide)] at ey
    obtain ⟨y2, ey2, ey⟩ := bo ey
    have h2 := some_of (fs_isOf jR lv cv) ey2
    rcases h2 with ⟨c, d⟩ | ⟨c, d⟩
    · rw [c, if_neg (by decide)] at ey
      obtain rfl := Option.some.inj ey
      rcases h with ⟨hx, _⟩ | ⟨_, hx⟩
      · obtain ⟨l, hl⟩ := ti_ofn b.1
        obtain ⟨c', hc'⟩ := ti_ofn d.1
        have := d.2.1
        exact .inr ⟨hx, rfl, l, c', by omega, by omega, hl, hc', by rw [← hl, ← hc']; exact d⟩
      · exact absurd ⟨b.1, b.2, d⟩ hx
    · rw [c, if_pos rfl] at ey
      obtain rfl := Option.some.inj ey
      rcases h with ⟨_, hx⟩ | ⟨hx, _⟩
      · exact absurd hx.2.2 d
      · exact .inl ⟨hx, rfl⟩
  · rw [a, if_pos rfl] at ey
    obtain rfl := Option.some.inj ey
    rcases h with ⟨_, hx⟩ | ⟨hx, _⟩
    · exact absurd ⟨hx.1, hx.2.1⟩ b
    · exact .inl ⟨hx, rfl⟩
theorem place_c {lv cv x : Int32} {l c : Nat} (hl : lv.toInt = (l : Int)) (hc : cv.toInt = (c : Int)) (l2 : l < 2) (c36 : c < 36) (e : f_Mod_placeOf lv cv = some x) : x.toInt = ((36 * l + c : Nat) : Int) := by
  have k36 : (36 : Int32).toInt = 36 := rfl
  unfold f_Mod_placeOf at e
  obtain rfl := Option.some.inj e
  rw [add_ti (mul_ti k36 hl (by omega) (by omega)) hc (by omega) (by omega)]; omega
theorem path_q {X R : Mem} {n : Nat} {v1 v2 v3 : Int32} {x r : Int32 × Mem} (za : ZA X R n) (ex : f_Top_path v1 v2 v3 X = some x) (er : f_Mod_path v1 v2 v3 R = some r) : x.1 = r.1 := by
  unfold f_Mod_path at er
  obtain ⟨M1, m1, er⟩ := mo er
  obtain ⟨zaM, fqM⟩ := ZA_M1 za m1
  obtain ⟨n8, jM, ⟨zg, zc, zl⟩, zs, zv, zw⟩ := zaM.1
  unfold f_Top_path at ex
  obtain ⟨x1, ex1, ex⟩ := bo ex
  obtain ⟨y2, ey2, er⟩ := bo er
  rcases plc_2 zg jM ex1 ey2 with ⟨a, b⟩ | ⟨a, b, l, c, l2, c36, hl, hc, onc⟩
  · rw [a, if_pos rfl] at ex
    rw [b, if_pos rfl] at er
    obtain rfl := Option.some.inj ex
    obtain rfl := Option.some.inj er
    rfl
  rw [a, if_neg (by decide)] at ex
  rw [b, if_neg (by decide)] at er
  obtain ⟨x2, ex2, ex⟩ := bo ex
  obtain ⟨y3, ey3, er⟩ := bo er
  rcases plc_2 zg jM ex2 ey3 with ⟨a, b⟩ | ⟨a, b, l', f, l2', f36, hl', hf, onf⟩
  · rw [a, if_pos rfl] at ex
    rw [b, if_pos rfl] at er
    obtain rfl := Option.some.inj ex
    obtain rfl := Option.some.inj er
    rfl
  have : l' = l := by omega
  subst this
  rw [a, if_neg (by decide)] at ex
  rw [b, if_neg (by decide)] at er
  obtain ⟨x3, ex3, ex⟩ := bo ex
  obtain ⟨p4, e4, er⟩ := bo er
  obtain ⟨r5, e5, er⟩ := bo er
  obtain ⟨p6, e6, er⟩ := bo er
  obtain ⟨_, ex⟩ := io_n ex
  obtain ⟨_, er⟩ := io_n er
  obtain ⟨E, _⟩ := meas_2 jM zv zw hl l2 hf f36 onf (place_c hl hf l2 f36 e4) ex3 e5
  rw [q_nat hc, E c c36] at ex
  rw [q_nat (place_c hl hc l2 c36 e6)] at er
  rcases io ex with ⟨g, ex⟩ | ⟨g, ex⟩
  · rw [if_pos g] at er
    obtain ⟨x4, _, ex⟩ := bo ex
    obtain ⟨x11, _, ex⟩ := bo ex
    obtain rfl := Option.some.inj ex
    obtain ⟨M7, _, er⟩ := mo er
    obtain ⟨y17, _, er⟩ := bo er
    obtain rfl := Option.some.inj er
    rfl
  · rw [if_neg g] at er
    obtain rfl := Option.some.inj ex
    obtain rfl := Option.some.inj er
    rfl
/-- the soonest of cells below k, the first of equal ones -/
def pick (P : Nat → Bool) (V : Nat → Int) : Nat → Int × Int
  | 0 => (1000000, -1)
  | k + 1 => if P k = true ∧ V k < (pick P V k).1 then (V k, (k : Int)) else pick P V k
theorem pick_p {P : Nat → Bool} {V : Nat → Int} {k : Nat} (h : P k = true ∧ V k < (pick P V k).1) : pick P V (k + 1) = (V k, (k : Int)) := if_pos h
theorem pick_n {P : Nat → Bool} {V : Nat → Int} {k : Nat} (h : ¬ (P k = true ∧ V k < (pick P V k).1)) : pick P V (k + 1) = pick P V k := if_neg h
theorem pick_b {P : Nat → Bool} {V : Nat → Int} (hV : ∀ c, P c = true → 0 ≤ V c) : ∀ k, 0 ≤ (pick P V k).1 ∧ (pick P V k).1 ≤ 1000000 ∧ -1 ≤ (pick P V k).2 ∧ (pick P V k).2 < (k : Int) ∧ ((pick P V k).1 = 1000000 ↔ (pick P V k).2 = -1) ∧ (∀ c : Nat, (pick P V k).2 = (c : Int) → (pick P V k).1 = V c) := by
  intro k
  induction k with
  | zero => exact ⟨by show (0 : Int) ≤ 1000000; decide, by show (1000000 : Int) ≤ 1000000; decide, by show (-1 : Int) ≤ -1; decide, by show (-1 : Int) < ((0 : Nat) : Int); decide, ⟨fun _ => rfl, fun _ => rfl⟩, fun c h => by simp only [pick] at h; omega⟩
  | succ k ih =>
    simp only [pick]
    by_cases g : P k = true ∧ V k < (pick P V k).1
    · rw [if_pos g]
      have := hV k g.1
      refine ⟨this, by dsimp only; omega, by dsimp only; omega, by dsimp only; omega, ⟨fun h => by dsimp only at h; omega, fun h => by dsimp only at h; omega⟩, fun c h => ?_⟩
      dsimp only at h ⊢
      have : c = k := by omega
      subst this; rfl
    · rw [if_neg g]
      exact ⟨ih.1, ih.2.1, ih.2.2.1, by have := ih.2.2.2.1; omega, ih.2.2.2.2.1, ih.2.2.2.2.2⟩
theorem pick_s {P : Nat → Bool} {V : Nat → Int} {k : Nat} (j : Nat) (h : ∀ c, k ≤ c → c < k + j → P c = false) : pick P V (k + j) = pick P V k := by
  induction j with
  | zero => rfl
  | succ j ih =>
    show (if P (k + j) = true ∧ V (k + j) < (pick P V (k + j)).1 then (V (k + j), ((k + j : Nat) : Int)) else pick P V (k + j)) = _
    rw [if_neg (fun w => by rw [h (k + j) (by omega) (by omega)] at w; cases w.1), ih (fun c h1 h2 => h c h1 (by omega))]
theorem pick_c {P Q : Nat → Bool} {V W : Nat → Int} {k : Nat} (h : ∀ c, c < k → P c = Q c) (g : ∀ c, c < k → P c = true → V c = W c) : pick P V k = pick Q W k := by
  induction k with
  | zero => rfl
  | succ k ih =>
    have i := ih (fun c hc => h c (by omega)) (fun c hc => g c (by omega))
    simp only [pick]
    rw [i, ← h k (by omega)]
    by_cases b : P k = true
    · rw [g k (by omega) b]
    · rw [if_neg (fun w => b w.1), if_neg (fun w => b w.1)]
def mxi (a b : Int32) : Int := if a < b then b.toInt else a.toInt
theorem mxi_i (a b : Int32) : (if a < b then b else a).toInt = mxi a b := by
  unfold mxi
  by_cases g : a < b
  · rw [if_pos g, if_pos g]
  · rw [if_neg g, if_neg g]
theorem later_i {X : Mem} {v x : Int32} {c : Nat} (hv : v.toInt = (c : Int)) (e : f_Ways_later v X = some x) : x.toInt = mxi (X.1 155 c) (X.1 156 c) := by
  unfold f_Ways_later at e
  obtain ⟨_, e⟩ := io_n e
  obtain ⟨_, e⟩ := io_n e
  obtain rfl := Option.some.inj e
  rw [q_nat hv]
  exact mxi_i _ _
theorem soon_c {v1 : Nat} {X : Mem} {x : Int32} {sv : Int64} (hs : f_Nets_stairs v1 X = some sv) (hb : ∀ c, bl sv c = true → 0 ≤ (X.1 155 c).toInt ∧ 0 ≤ (X.1 156 c).toInt) (e : iter (lb_Top_soonestStair_69 v1 X) FU ((-1 : Int32), (1000000 : Int32), (0 : Int32)) = some x) : x.toInt = (pick (fun c => bl sv c) (fun c => mxi (X.1 155 c) (X.1 156 c)) 36).2 := by
  have k36 : (36 : Int32).toInt = 36 := rfl
  refine it_r (I := fun s : Int32 × Int32 × Int32 => ∃ k : Nat, k ≤ 36 ∧ s.2.2.toInt = (k : Int) ∧ s.1.toInt = (pick (fun c => bl sv c) (fun c => mxi (X.1 155 c) (X.1 156 c)) k).2 ∧ s.2.1.toInt = (pick (fun c => bl sv c) (fun c => mxi (X.1 155 c) (X.1 156 c)) k).1) (Q := fun x : Int32 => x.toInt = (pick (fun c => bl sv c) (fun c => mxi (X.1 155 c) (X.1 156 c)) 36).2) ?_ e ⟨0, by omega, rfl, rfl, rfl⟩
  rintro ⟨b, so, i⟩ r ⟨k, k36', hk, h1, h2⟩ e
  dsimp only at hk h1 h2
  unfold lb_Top_soonestStair_69 at e
  dsimp only at e
  rcases io e with ⟨g, e⟩ | ⟨g, e⟩
  · have := q_le g
    obtain rfl := Option.some.inj e
    have : k = 36 := by omega
    subst this
    exact h1
  have g1 := q_ng g
  have i1 : (i + (1 : Int32)).toInt = ((k + 1 : Nat) : Int) := add_ti hk o1 (by omega) (by omega)
  obtain ⟨x3, e3, e⟩ := bo e
  rw [hs] at e3
  obtain rfl := Option.some.inj e3
  rcases io e with ⟨g, e⟩ | ⟨g, e⟩
  · have gb := (bl_cmp hk (by omega)).mp g
    obtain rfl := Option.some.inj e
    refine ⟨k + 1, by omega, i1, ?_⟩
    simp only [pick]
    rw [if_neg (fun w => by rw [gb] at w; cases w.1)]
    exact ⟨h1, h2⟩
  have gb : bl sv k = true := by
    cases hb : bl sv k with
    | true => rfl
    | false => exact absurd ((bl_cmp hk (by omega)).mpr hb) g
  obtain ⟨x4, e4, e⟩ := bo e
  have l4 := later_i hk e4
  rcases io e with ⟨g, e⟩ | ⟨g, e⟩
  · have := q_le g
    obtain rfl := Option.some.inj e
    refine ⟨k + 1, by omega, i1, ?_⟩
    simp only [pick]
    rw [if_neg (fun w => by have := w.2; omega)]
    exact ⟨h1, h2⟩
  · have := q_ng g
    obtain ⟨x5, e5, e⟩ := bo e
    have l5 := later_i hk e5
    obtain rfl := Option.some.inj e
    refine ⟨k + 1, by omega, i1, ?_⟩
    simp only [pick]
    rw [if_pos ⟨gb, by omega⟩]
    exact ⟨hk, l5⟩
end
section
/-! tryst: both sides -/
theorem meas_v {X R x r : Mem} {v0 n l f k : Nat} {v1 v2 p : Int32} (hv : isN v0) (jR : J R) (zv : ZV R (R.1 163) n) (zx : ZX v0 R (onA R) (fun c d => plk R 163 c d) X) (h1 : v1.toInt = (l : Int)) (l2 : l < 2) (h2 : v2.toInt = (f : Int)) (f36 : f < 36) (onf : onN R l f) (hp : p.toInt = ((36 * l + f : Nat) : Int)) (ex : f_Nets_measure v0 v1 v2 k X = some x) (er : f_Mod_findFar p R = some r) : (∀ c, c < 36 → x.1 k c = r.1 177 (36 * l + c)) ∧ (∀ kx i, kx ≠ k → x.1 kx i = X.1 kx i) ∧ x.2 = X.2 ∧ J r ∧ (∀ kx i, kx ≠ 177 → r.1 kx i = R.1 kx i) ∧ r.2 = R.2 := by
  have wh := awh jR
  obtain ⟨ms, fx, q⟩ := meas_i hv h1 l2 h2 f36 (fun c d hc h => ((near_go jR zv zx l2 hc).mp h).2.1) ex
  have ff := some_of (fs_findFar jR p (by omega)) er
  rw [hp] at ff
  have jr : J r := ff.1.1
  have E := far_eq jR jr zv zx l2 f36 onf ms ff
  refine ⟨fun c hc => Int32.toInt_inj.mp (E c hc), fx, q, jr, fun kx i h => ff.1.2.1 kx i h, ff.1.2.2.1⟩
theorem ln_far : ln 177 = 72 ∧ ln 181 = 72 ∧ ln 182 = 72 ∧ ln 183 = 72 := by decide +kernel
theorem copy_r {R r : Mem} {k : Nat} (hk : k ≠ 177) (e : f_Mod_copy 177 k R = some r) : (∀ i, i < 72 → r.1 k i = R.1 177 i) ∧ (∀ kx i, kx ≠ k → r.1 kx i = R.1 kx i) ∧ r.2 = R.2 := by
  have k72 : (Int32.ofNat (ln 177)).toInt = 72 := by rw [ln_far.1]; rfl
  unfold f_Mod_copy at e
  obtain ⟨_, e⟩ := io_n e
  obtain ⟨_, e⟩ := io_n e
  obtain ⟨x3, e3, e⟩ := bo e
  obtain rfl := Option.some.inj e
  refine it_r (I := fun s : Int32 × Mem => ∃ q : Nat, q ≤ 72 ∧ s.1.toInt = (q : Int) ∧ (∀ i, i < q → s.2.1 k i = R.1 177 i) ∧ (∀ kx i, kx ≠ k → s.2.1 kx i = R.1 kx i) ∧ s.2.2 = R.2) (Q := fun r : Mem => (∀ i, i < 72 → r.1 k i = R.1 177 i) ∧ (∀ kx i, kx ≠ k → r.1 kx i = R.1 kx i) ∧ r.2 = R.2) ?_ e3 ⟨0, by omega, rfl, fun i h => by omega, fun _ _ _ => rfl, rfl⟩
  rintro ⟨i, N⟩ r ⟨q, q72, hq, hd, hf, h2⟩ e
  dsimp only at hq hd hf h2
  unfold lb_Mod_copy_2 at e
  dsimp only at e
  rcases io e with ⟨g, e⟩ | ⟨g, e⟩
  · have := q_le g
    obtain rfl := Option.some.inj e
    exact ⟨fun i hi => hd i (by omega), hf, h2⟩
  have g1 := q_ng g
  obtain ⟨_, e⟩ := io_n e
  obtain ⟨_, e⟩ := io_n e
  obtain ⟨M1, m1, e⟩ := mo e
  obtain rfl := Option.some.inj e
  rw [q_nat hq] at m1
  refine ⟨q + 1, by omega, add_ti hq o1 (by omega) (by omega), fun j hj => ?_, fun kx j h => ?_, ?_⟩
  · dsimp only
    rw [m1]
    by_cases b : j = q
    · subst b; rw [si_eq]; exact hf 177 j (fun h => hk h.symm)
    · rw [si_ne (by omega)]; exact hd j (by omega)
  · dsimp only
    rw [m1, si_ne (by omega)]; exact hf kx j h
  · dsimp only
    rw [m1, si_2]; exact h2
/-- where two of the people are, both sides -/
theorem at_2 {X R : Mem} {n p : Nat} (n8 : n ≤ 8) (zs : ZS (scn X 11) (R.1 163) n) (zv : ZV R (R.1 163) n) (pn : p < n) : ∃ l c : Nat, l < 2 ∧ c < 36 ∧ (X.1 13 p).toInt = (l : Int) ∧ (X.1 12 p).toInt = (c : Int) ∧ (R.1 163 p).toInt = ((36 * l + c : Nat) : Int) ∧ onN R l c := by
  obtain ⟨s1, s2, s3, s4, s5, _⟩ := zs.1 p pn
  have s1 : (R.1 163 p).toInt = (X.1 12 p).toInt + 36 * (X.1 13 p).toInt := s1
  have s2 : 0 ≤ (X.1 12 p).toInt := s2
  have s3 : (X.1 12 p).toInt ≤ 35 := s3
  have s4 : 0 ≤ (X.1 13 p).toInt := s4
  have s5 : (X.1 13 p).toInt ≤ 1 := s5
  obtain ⟨c, hc⟩ := ti_ofn s2
  obtain ⟨l, hl⟩ := ti_ofn s4
  have v := (zv.1 p pn).1
  have e : (R.1 163 p).toInt = ((36 * l + c : Nat) : Int) := by omega
  rw [e] at v
  exact ⟨l, c, by omega, by omega, hl, hc, e, (onP_lc (by omega) (by omega)).mp v⟩
theorem stairs_i {X R : Mem} {v0 : Nat} {sv : Int64} (hv : isN v0) (jR : J R) (kr : ∀ i, i < 36 → 0 ≤ (R.1 164 i).toInt ∧ (R.1 164 i).toInt ≤ 3) (nb : NB v0 (onA R) 36 X) (e : f_Nets_stairs v0 X = some sv) (c : Nat) : bl sv c = true ↔ (c : Int) < xw R * xh R ∧ (R.1 164 c).toInt = 3 := by
  have wh := awh jR
  unfold f_Nets_stairs at e
  obtain ⟨_, e⟩ := io_n e
  obtain rfl := Option.some.inj e
  rw [(isN_r hv).1, show (0 : Int32).toNatClampNeg = 0 from rfl, show (1 : Int32).toNatClampNeg = 1 from rfl, bl_and, Bool.and_eq_true, nb 0 c (by omega), nb 1 c (by omega), onA_i jR, onA_i jR]
  unfold onN
  rw [show ((c : Int)).toNat = c by omega]
  constructor
  · rintro ⟨⟨_, _, h1, h2⟩, _, _, _, h3⟩
    rw [if_pos (by decide)] at h2
    rw [if_neg (by decide)] at h3
    exact ⟨h1, by omega⟩
  · rintro ⟨h1, h2⟩
    refine ⟨⟨by omega, by omega, h1, ?_⟩, by omega, by omega, h1, ?_⟩
    · rw [if_pos (by decide)]; omega
    · rw [if_neg (by decide)]; omega
theorem soon_2 {X R : Mem} {v0 n p q : Nat} {a b : Int32} {x r : Int32 × Mem} (hv : isN v0) (n8 : n ≤ 8) (jR : J R) (kr : ∀ i, i < 36 → 0 ≤ (R.1 164 i).toInt ∧ (R.1 164 i).toInt ≤ 3) (zs : ZS (scn X 11) (R.1 163) n) (zv : ZV R (R.1 163) n) (nb : NB v0 (onA R) 36 X) (zx : ZX v0 R (onA R) (fun c d => plk R 163 c d) X) (hp : a.toInt = (p : Int)) (hq : b.toInt = (q : Int)) (pn : p < n) (qn : q < n) (ex : f_Top_soonestStair v0 a b X = some x) (er : f_Mod_findTryst a b R = some r) : ∃ pk : Int × Int, x.1.toInt = pk.2 ∧ r.1.toInt = pk.1 ∧ (pk.1 = 1000000 ↔ pk.2 = -1) ∧ (0 ≤ pk.1 ∧ pk.1 ≤ 1000000 ∧ -1 ≤ pk.2 ∧ pk.2 < 36) ∧ (pk.2 ≠ -1 → (r.2.1 162 42).toInt = pk.2) ∧ (∀ c : Nat, pk.2 = (c : Int) → mxi (x.2.1 155 c) (x.2.1 156 c) = pk.1) ∧ ((∀ kx i, kx ≠ 155 → kx ≠ 156 → x.2.1 kx i = X.1 kx i) ∧ x.2.2 = X.2) ∧ (∀ kx i, kx ≠ 177 → kx ≠ 183 → ¬ (kx = 162 ∧ i = 42) → r.2.1 kx i = R.1 kx i) := by
  have wh := awh jR
  obtain ⟨l1, c1, l12, c136, hl1, hc1, hP1, on1⟩ := at_2 n8 zs zv pn
  obtain ⟨l2, c2, l22, c236, hl2, hc2, hP2, on2⟩ := at_2 n8 zs zv qn
  unfold f_Top_soonestStair at ex
  obtain ⟨_, ex⟩ := io_n ex
  obtain ⟨_, ex⟩ := io_n ex
  obtain ⟨_, ex⟩ := io_n ex
  obtain ⟨x1, e1, ex⟩ := bo ex
  obtain ⟨_, ex⟩ := io_n ex
  obtain ⟨_, ex⟩ := io_n ex
  obtain ⟨x2, e2, ex⟩ := bo ex
  obtain ⟨x9, e9, ex⟩ := bo ex
  obtain rfl := Option.some.inj ex
  unfold f_Mod_findTryst at er
  obtain ⟨_, er⟩ := io_n er
  obtain ⟨r1, f1, er⟩ := bo er
  obtain ⟨r2, f2, er⟩ := bo er
  obtain ⟨_, er⟩ := io_n er
  obtain ⟨r3, f3, er⟩ := bo er
  obtain ⟨y13, f13, er⟩ := bo er
  obtain rfl := Option.some.inj er
  rw [q_nat hp] at e1 f1
  rw [q_nat hq] at e2 f3
  obtain ⟨E1, fx1, qx1, jr1, fr1, qr1⟩ := meas_v hv jR zv zx hl1 l12 hc1 c136 on1 hP1 e1 f1
  obtain ⟨g1, g2, g3⟩ := copy_r (by omega) f2
  have j2 := (some_of (sf_Mod_copy 177 183 r1 (.inl rfl) (.inr (.inr (.inr rfl))) jr1) f2).1
  have fr2 : ∀ kx i, kx ≠ 177 → kx ≠ 183 → r2.1 kx i = R.1 kx i := fun kx i h1 h2 => by rw [g2 kx i h2]; exact fr1 kx i h1
  have x13 : x1.1 13 q = X.1 13 q := fx1 13 q (by omega)
  have x12 : x1.1 12 q = X.1 12 q := fx1 12 q (by omega)
  rw [x13, x12] at e2
  rw [fr2 163 q (by omega) (by omega)] at f3
  have mE : MapEq r2 R := ⟨fr2 162 2 (by omega) (by omega), fr2 162 3 (by omega) (by omega), fun i => fr2 164 i (by omega) (by omega)⟩
  have agr : AgR R r2 := ⟨fr2 162 2 (by omega) (by omega), fr2 162 3 (by omega) (by omega), fr2 162 4 (by omega) (by omega), fr2 162 5 (by omega) (by omega), fr2 162 23 (by omega) (by omega), fun i => fr2 164 i (by omega) (by omega), fun i => fr2 165 i (by omega) (by omega), fun i => fr2 166 i (by omega) (by omega), fun i => fr2 172 i (by omega) (by omega)⟩
  have zv2 : ZV r2 (r2.1 163) n := ZV_a n8 agr (fun i _ => fr2 163 i (by omega) (by omega)) zv
  have zx2 : ZX v0 r2 (onA r2) (fun c d => plk r2 163 c d) x1 := by
    have w1 : xw r2 = xw R := congrArg Int32.toInt mE.1
    have w2 : xh r2 = xh R := congrArg Int32.toInt mE.2.1
    have on : onA r2 = onA R := by funext l d; exact propext (by unfold onA; rw [onN_c mE])
    have pk : (fun c d => plk r2 163 c d) = (fun c d => plk R 163 c d) := by funext c d; exact propext (plk_c (fun i _ _ => fr2 163 i (by omega) (by omega)) zv.2.1.2 c d)
    unfold ZX NXT NRD LKn lk
    rw [on, pk, w1, w2, qx1]
    refine ⟨fun l c s hl hc hs => ?_, zx.2⟩
    have : ∀ i, x1.1 (v0 + 3) i = X.1 (v0 + 3) i := fun i => fx1 _ i (by rcases hv with rfl | rfl <;> omega)
    rw [this]
    exact zx.1 l c s hl hc hs
  obtain ⟨E2, fx2, qx2, jr3, fr3, qr3⟩ := meas_v hv j2 zv2 zx2 hl2 l22 hc2 c236 ((onN_c mE).mpr on2) hP2 e2 f3
  have k155 : ∀ c, c < 36 → x2.1 155 c = r3.1 183 (36 * l1 + c) := fun c hc => by rw [fx2 155 c (by omega), E1 c hc, fr3 183 _ (by omega), g1 _ (by omega)]
  have k156 : ∀ c, c < 36 → x2.1 156 c = r3.1 177 (36 * l2 + c) := E2
  have fr3R : ∀ kx i, kx ≠ 177 → kx ≠ 183 → r3.1 kx i = R.1 kx i := fun kx i h1 h2 => by rw [fr3 kx i h1]; exact fr2 kx i h1 h2
  have b177 : ∀ i, 0 ≤ (r3.1 177 i).toInt := fun i => (Jr_177 jr3 i).1
  have b183 : ∀ i, i < 72 → 0 ≤ (r3.1 183 i).toInt := fun i hi => by rw [fr3 183 i (by omega), g1 i hi]; exact (Jr_177 jr1 i).1
  -- the class's look round
  have fxa : ∀ kx i, kx ≠ 155 → kx ≠ 156 → x2.1 kx i = X.1 kx i := fun kx i h1 h2 => by rw [fx2 kx i h2]; exact fx1 kx i h1
  have qxa : x2.2 = X.2 := by rw [qx2, qx1]
  have hst : ∃ sv, f_Nets_stairs v0 x2 = some sv := by
    unfold f_Nets_stairs
    rw [if_pos (by rcases hv with rfl | rfl <;> decide +kernel)]
    exact ⟨_, rfl⟩
  obtain ⟨sv, hsv⟩ := hst
  have nb2 : NB v0 (onA R) 36 x2 := by
    intro l d hl
    rw [qxa]; exact nb l d hl
  have st := stairs_i hv jR kr nb2 hsv
  have S := soon_c hsv (fun c h => by
    have := (st c).mp h
    rw [k155 c (by omega), k156 c (by omega)]
    exact ⟨b183 _ (by omega), b177 _⟩) e9
  obtain ⟨W, hW⟩ : ∃ W : Nat, xw R * xh R = (W : Int) := ⟨(xw R * xh R).toNat, by omega⟩
  have W36 : W ≤ 36 := by omega
  have PE : pick (fun c => bl sv c) (fun c => mxi (x2.1 155 c) (x2.1 156 c)) 36 = pick (fun c => bl sv c) (fun c => mxi (x2.1 155 c) (x2.1 156 c)) W := by
    have := pick_s (P := fun c => bl sv c) (V := fun c => mxi (x2.1 155 c) (x2.1 156 c)) (k := W) (36 - W) (fun c h1 h2 => by
      cases hb : bl sv c with
      | false => rfl
      | true => have := ((st c).mp hb).1; omega)
    rwa [show W + (36 - W) = 36 by omega] at this
  have PB := pick_b (P := fun c => bl sv c) (V := fun c => mxi (x2.1 155 c) (x2.1 156 c)) (fun c h => by
    have := (st c).mp h
    unfold mxi
    rw [k155 c (by omega), k156 c (by omega)]
    have q1 := b183 (36 * l1 + c) (by omega)
    have q2 := b177 (36 * l2 + c)
    split
    · exact q2
    · exact q1) W
  -- the reference's
  have K : y13.1.toInt = (pick (fun c => bl sv c) (fun c => mxi (x2.1 155 c) (x2.1 156 c)) W).1 ∧ ((pick (fun c => bl sv c) (fun c => mxi (x2.1 155 c) (x2.1 156 c)) W).2 ≠ -1 → (y13.2.1 162 42).toInt = (pick (fun c => bl sv c) (fun c => mxi (x2.1 155 c) (x2.1 156 c)) W).2) ∧ (∀ kx i, ¬ (kx = 162 ∧ i = 42) → y13.2.1 kx i = r3.1 kx i) := by
    refine it_r (I := fun s : Int32 × Int32 × Mem => ∃ k : Nat, k ≤ W ∧ s.2.1.toInt = (k : Int) ∧ s.1.toInt = (pick (fun c => bl sv c) (fun c => mxi (x2.1 155 c) (x2.1 156 c)) k).1 ∧ ((pick (fun c => bl sv c) (fun c => mxi (x2.1 155 c) (x2.1 156 c)) k).2 ≠ -1 → (s.2.2.1 162 42).toInt = (pick (fun c => bl sv c) (fun c => mxi (x2.1 155 c) (x2.1 156 c)) k).2) ∧ (∀ kx i, ¬ (kx = 162 ∧ i = 42) → s.2.2.1 kx i = r3.1 kx i)) (Q := fun y13 : Int32 × Mem => y13.1.toInt = (pick (fun c => bl sv c) (fun c => mxi (x2.1 155 c) (x2.1 156 c)) W).1 ∧ ((pick (fun c => bl sv c) (fun c => mxi (x2.1 155 c) (x2.1 156 c)) W).2 ≠ -1 → (y13.2.1 162 42).toInt = (pick (fun c => bl sv c) (fun c => mxi (x2.1 155 c) (x2.1 156 c)) W).2) ∧ (∀ kx i, ¬ (kx = 162 ∧ i = 42) → y13.2.1 kx i = r3.1 kx i)) ?_ f13 ⟨0, by omega, rfl, rfl, fun h => absurd rfl h, fun _ _ _ => rfl⟩
    rintro ⟨bs, i, N⟩ u ⟨k, kW, hk, h1, h2, h3⟩ e
    dsimp only at hk h1 h2 h3
    unfold lb_Mod_findTryst_38 at e
    dsimp only at e
    obtain ⟨x4, e4, e⟩ := bo e
    have h4 : x4.toInt = (W : Int) := by
      unfold f_Mod_cells at e4
      obtain rfl := Option.some.inj e4
      rw [h3 162 2 (by omega), h3 162 3 (by omega), fr3R 162 2 (by omega) (by omega), fr3R 162 3 (by omega) (by omega)]
      rw [wh_ti jR]; exact hW
    rcases io e with ⟨g, e⟩ | ⟨g, e⟩
    · have := q_le g
      obtain rfl := Option.some.inj e
      have : k = W := by omega
      subst this
      exact ⟨h1, h2, h3⟩
    have g1 := q_ng g
    have i1 : (i + (1 : Int32)).toInt = ((k + 1 : Nat) : Int) := add_ti hk o1 (by omega) (by omega)
    obtain ⟨_, e⟩ := io_n e
    rw [q_nat hk, h3 164 k (by omega), fr3R 164 k (by omega) (by omega)] at e
    rcases io e with ⟨g3', e⟩ | ⟨g3', e⟩
    · have gb : bl sv k = true := (st k).mpr ⟨by omega, by rw [g3']; rfl⟩
      obtain ⟨_, e⟩ := io_n e
      obtain ⟨x5, e5, e⟩ := bo e
      obtain ⟨x6, e6, e⟩ := bo e
      obtain ⟨_, e⟩ := io_n e
      obtain ⟨_, e⟩ := io_n e
      obtain ⟨x7, e7, e⟩ := bo e
      obtain ⟨x8, e8, e⟩ := bo e
      obtain ⟨_, e⟩ := io_n e
      rw [q_nat hp, h3 163 p (by omega), fr3R 163 p (by omega) (by omega)] at e5
      rw [q_nat hq, h3 163 q (by omega), fr3R 163 q (by omega) (by omega)] at e7
      have v5 : x5.toInt = (l1 : Int) := by rw [(place_i (v := R.1 163 p) (by omega) (by omega)).2 e5]; omega
      have v7 : x7.toInt = (l2 : Int) := by rw [(place_i (v := R.1 163 q) (by omega) (by omega)).2 e7]; omega
      have v6 := place_c v5 hk l12 (by omega) e6
      have v8 := place_c v7 hk l22 (by omega) e8
      rw [q_nat v6, q_nat v8, h3 183 _ (by omega), h3 177 _ (by omega), ← k155 k (by omega), ← k156 k (by omega)] at e
      rcases io e with ⟨g, e⟩ | ⟨g, e⟩
      · have gl := q_lt g
        rw [mxi_i] at gl
        obtain ⟨M9, m9, e⟩ := mo e
        obtain rfl := Option.some.inj e
        refine ⟨k + 1, by omega, i1, ?_⟩
        have hlt : mxi (x2.1 155 k) (x2.1 156 k) < (pick (fun c => bl sv c) (fun c => mxi (x2.1 155 c) (x2.1 156 c)) k).1 := by omega
        rw [pick_p (P := fun c => bl sv c) (V := fun c => mxi (x2.1 155 c) (x2.1 156 c)) ⟨gb, hlt⟩]
        refine ⟨mxi_i _ _, fun _ => by rw [m9, si_eq]; exact hk, fun kx j h => by rw [m9, si_ne h]; exact h3 kx j h⟩
      · have gl := q_nl g
        rw [mxi_i] at gl
        obtain rfl := Option.some.inj e
        refine ⟨k + 1, by omega, i1, ?_⟩
        rw [pick_n (fun w => by have := w.2; omega)]
        exact ⟨h1, h2, h3⟩
    · have gb : ¬ bl sv k = true := fun h => g3' (Int32.toInt_inj.mp (((st k).mp h).2))
      obtain rfl := Option.some.inj e
      refine ⟨k + 1, by omega, i1, ?_⟩
      rw [pick_n (fun w => gb w.1)]
      exact ⟨h1, h2, h3⟩
  refine ⟨pick (fun c => bl sv c) (fun c => mxi (x2.1 155 c) (x2.1 156 c)) W, by rw [← PE]; exact S, K.1, PB.2.2.2.2.1, ⟨PB.1, PB.2.1, PB.2.2.1, by have := PB.2.2.2.1; omega⟩, K.2.1, fun c h => (PB.2.2.2.2.2 c h).symm, ⟨fxa, qxa⟩, fun kx i h1 h2 h3 => by rw [K.2.2 kx i h3]; exact fr3R kx i h1 h2⟩
theorem mw_2 {X R : Mem} {n : Nat} {a b x y : Int32} (zc : ZC X R n) (n8 : n ≤ 8) (ex : f_Top_areManAndWoman a b X = some x) (ey : f_Mod_areManWoman a b R = some y) : (x = 0 ∧ y = 0) ∨ (x = 1 ∧ y = 1 ∧ ∃ p q : Nat, a.toInt = (p : Int) ∧ b.toInt = (q : Int) ∧ p < n ∧ q < n) := by
  unfold f_Top_areManAndWoman at ex
  unfold f_Mod_areManWoman at ey
  obtain ⟨x1, ex1, ex⟩ := bo ex
  obtain ⟨y1, ey1, ey⟩ := bo ey
  have h1 := crowd_has (n := n) (by rw [zc.2.1]; exact zc.1) n8 ex1
  have g1 := isOne_i zc.1 n8 ey1
  rcases h1 with ⟨a1, b1⟩ | ⟨a1, b1⟩
  rotate_left
  · rcases g1 with ⟨_, c⟩ | ⟨c, _⟩
    · exact absurd c b1
    rw [a1, if_pos rfl] at ex
    rw [c, if_pos rfl] at ey
    exact .inl ⟨(Option.some.inj ex).symm, (Option.some.inj ey).symm⟩
  rcases g1 with ⟨c1, _⟩ | ⟨_, c⟩
  rotate_left
  · exact absurd b1 c
  rw [a1, if_neg (by decide)] at ex
  rw [c1, if_neg (by decide)] at ey
  obtain ⟨x2, ex2, ex⟩ := bo ex
  obtain ⟨y2, ey2, ey⟩ := bo ey
  have h2 := crowd_has (n := n) (by rw [zc.2.1]; exact zc.1) n8 ex2
  have g2 := isOne_i zc.1 n8 ey2
  rcases h2 with ⟨a2, b2⟩ | ⟨a2, b2⟩
  rotate_left
  · rcases g2 with ⟨_, c⟩ | ⟨c, _⟩
    · exact absurd c b2
    rw [a2, if_pos rfl] at ex
    rw [c, if_pos rfl] at ey
    exact .inl ⟨(Option.some.inj ex).symm, (Option.some.inj ey).symm⟩
  rcases g2 with ⟨c2, _⟩ | ⟨_, c⟩
  rotate_left
  · exact absurd b2 c
  rw [a2, if_neg (by decide)] at ex
  rw [c2, if_neg (by decide)] at ey
  obtain ⟨p, hp⟩ := ti_ofn b1.1
  obtain ⟨q, hq⟩ := ti_ofn b2.1
  obtain ⟨x3, ex3, ex⟩ := bo ex
  obtain ⟨y3, ey3, ey⟩ := bo ey
  have w3 := womanC hp (by omega) ex3
  have v3 := hasR hp (by omega) ey3
  rw [zc.2.2.1] at w3
  rcases io ex with ⟨g, ex⟩ | ⟨g, ex⟩
  · rw [if_pos (v3.mpr (w3.mp g))] at ey
    obtain ⟨x4, ex4, ex⟩ := bo ex
    obtain ⟨y4, ey4, ey⟩ := bo ey
    have w4 := womanC hq (by omega) ex4
    have v4 := hasR hq (by omega) ey4
    rw [zc.2.2.1] at w4
    rcases io ex with ⟨g, ex⟩ | ⟨g, ex⟩
    · rw [if_pos (v4.mpr (w4.mp g))] at ey
      exact .inl ⟨(Option.some.inj ex).symm, (Option.some.inj ey).symm⟩
    · rw [if_neg (fun h => g (w4.mpr (v4.mp h)))] at ey
      exact .inr ⟨(Option.some.inj ex).symm, (Option.some.inj ey).symm, p, q, hp, hq, by omega, by omega⟩
  · rw [if_neg (fun h => g (w3.mpr (v3.mp h)))] at ey
    exact .inl ⟨(Option.some.inj ex).symm, (Option.some.inj ey).symm⟩
theorem tryst_q {X R : Mem} {n : Nat} {a b : Int32} {x r : Int32 × Mem} (za : ZA X R n) (ex : f_Top_tryst a b X = some x) (er : f_Mod_tryst a b R = some r) : x.1 = r.1 ∧ (RR X R → RR x.2 r.2) := by
  have n8 := za.1.1
  have ym := om
  have kF : (1000000 : Int32).toInt = 1000000 := rfl
  unfold f_Mod_tryst at er
  obtain ⟨M1, m1, er⟩ := mo er
  obtain ⟨zaM, fqM⟩ := ZA_M1 za m1
  obtain ⟨_, jM, ⟨zg, zc, zl⟩, zs, zv, zw⟩ := zaM.1
  unfold f_Top_tryst at ex
  obtain ⟨x1, ex1, ex⟩ := bo ex
  obtain ⟨y2, ey2, er⟩ := bo er
  rcases mw_2 zc n8 ex1 ey2 with ⟨h1, h2⟩ | ⟨h1, h2, p, q, hp, hq, pn, qn⟩
  · rw [h1, if_pos rfl] at ex
    rw [h2, if_pos rfl] at er
    obtain rfl := Option.some.inj ex
    obtain rfl := Option.some.inj er
    exact ⟨rfl, FQ2_RR fqM⟩
  rw [h1, if_neg (by decide)] at ex
  rw [h2, if_neg (by decide)] at er
  obtain ⟨x2, ex2, ex⟩ := bo ex
  obtain ⟨y3, ey3, er⟩ := bo er
  obtain ⟨pk, s1, s2, s3, s4, s5, s6, s7, s8⟩ := soon_2 (.inl rfl) n8 jM zg.2.2.2 zs zv zw.1 zw.2 hp hq pn qn ex2 ey3
  rcases io ex with ⟨g, ex⟩ | ⟨g, ex⟩
  · have gg := q_eq g
    rw [if_pos (Int32.toInt_inj.mp (by rw [s2, s3.mpr (by omega)]; rfl))] at er
    obtain rfl := Option.some.inj ex
    obtain rfl := Option.some.inj er
    refine ⟨rfl, fun h => ?_⟩
    have h := FQ2_RR fqM h
    exact RR_f (s7.1 0 15 (by omega) (by omega)) (fun i => s7.1 161 i (by omega) (by omega)) (s8 162 12 (by omega) (by omega) (by omega)) (fun i => s8 168 i (by omega) (by omega) (by omega)) h
  · have gg := q_ne g
    rw [if_neg (fun h => by have := q_eq h; rw [s2] at this; have := s3.mp (by omega); omega)] at er
    obtain ⟨x3, e3, ex⟩ := bo ex
    obtain ⟨x4, e4, ex⟩ := bo ex
    obtain ⟨x5, e5, ex⟩ := bo ex
    obtain rfl := Option.some.inj ex
    obtain ⟨M4, m4, er⟩ := mo er
    obtain ⟨y5, ey5, er⟩ := bo er
    obtain rfl := Option.some.inj er
    obtain ⟨c, hc⟩ := ti_ofn (show 0 ≤ x2.1.toInt by omega)
    have em := empty_i e3
    have l4 := later_i hc e4
    rw [em.1 155 c (by omega), em.1 156 c (by omega), s6 c (by omega)] at l4
    have pf := put_i ey5
    refine ⟨?_, fun _ => RRn_r (by omega) (RR_n (RR_0 e3 m4) (by omega) (Int32.toInt_inj.mp (by rw [l4, s2])) e5 ey5)⟩
    show x2.1 = y5.1 162 42
    rw [pf 162 42 (by omega) (by omega), m4, si_ne (by omega)]
    exact Int32.toInt_inj.mp (by rw [s1, s5 (by omega)])
end
section
/-! fires: who is near -/
def FRI (R : Mem) : Prop := R.1 162 8 = -1 ∨ (0 ≤ (R.1 162 8).toInt ∧ (R.1 162 8).toInt < xw R * xh R)
theorem fire_2 {X R : Mem} {n p : Nat} {v : Int32} {x r : Int32 × Mem} (za : ZA X R n) (fi : X.1 0 16 = R.1 162 8) (fb : 0 ≤ (R.1 162 8).toInt ∧ (R.1 162 8).toInt < xw R * xh R) (hp : v.toInt = (p : Int)) (pn : p < n) (ex : f_Top_stepsToFire v X = some x) (er : f_Mod_fights1 v R = some r) : x.1 = r.1 ∧ 0 ≤ r.1.toInt ∧ (r.1.toInt < 36 ∨ r.1.toInt = 1000000) ∧ (∀ kx i, kx ≠ 155 → x.2.1 kx i = X.1 kx i) ∧ x.2.2 = X.2 ∧ J r.2 ∧ (∀ kx i, kx ≠ 177 → r.2.1 kx i = R.1 kx i) := by
  obtain ⟨n8, jR, ⟨zg, zc, zl⟩, zs, zv, zw⟩ := za.1
  have wh := awh jR
  have ym := om
  have y4 := o4
  obtain ⟨l, c, l2, c36, hl, hc, hP, on⟩ := at_2 n8 zs zv pn
  unfold f_Top_stepsToFire at ex
  obtain ⟨_, ex⟩ := io_n ex
  obtain ⟨_, ex⟩ := io_n ex
  obtain ⟨x1, e1, ex⟩ := bo ex
  obtain ⟨x5, e5, ex⟩ := bo ex
  obtain rfl := Option.some.inj ex
  unfold f_Mod_fights1 at er
  obtain ⟨_, er⟩ := io_n er
  obtain ⟨r1, f1, er⟩ := bo er
  obtain ⟨r7, f7, er⟩ := bo er
  obtain rfl := Option.some.inj er
  rw [q_nat hp] at e1 f1
  obtain ⟨E, fx, qx, jr, fr, qr⟩ := meas_v (.inl rfl) jR zv zw.2 hl l2 hc c36 on hP e1 f1
  have ms := (meas_i (.inl rfl) hl l2 hc c36 (fun c d hc h => ((near_go jR zv zw.2 l2 hc).mp h).2.1) e1).1
  have zg1 : ZG x1 R := ZG_f (fx 3 2 (by omega)) (fx 3 3 (by omega)) (fun i => fx 4 i (by omega)) rfl rfl (fun _ => rfl) zg
  have K : x5 = r7 ∧ 0 ≤ r7.toInt ∧ (r7.toInt < 36 ∨ r7.toInt = 1000000) := by
    refine it_2 (I := fun (s t : Int32 × Int32) => s = t ∧ 0 ≤ t.1.toInt ∧ (t.1.toInt < 36 ∨ t.1.toInt = 1000000) ∧ 0 ≤ t.2.toInt) (Q := fun (x y : Int32) => x = y ∧ 0 ≤ y.toInt ∧ (y.toInt < 36 ∨ y.toInt = 1000000)) ?_ e5 f7 ⟨rfl, by decide, .inr rfl, by decide⟩
    rintro ⟨b, i⟩ ⟨b', i'⟩ A B ⟨h1, h2, h3, h4⟩ eA eB
    obtain ⟨rfl, rfl⟩ := Prod.mk.inj h1
    dsimp only at h2 h3 h4
    unfold lb_Top_stepsToFire_38 at eA
    unfold lb_Mod_fights1_16 at eB
    dsimp only at eA eB
    rcases io eA with ⟨g, eA⟩ | ⟨g, eA⟩
    · rw [if_pos g] at eB
      obtain rfl := Option.some.inj eA
      obtain rfl := Option.some.inj eB
      exact .inr ⟨_, _, rfl, rfl, rfl, h2, h3⟩
    have g1 := q_ng g
    rw [if_neg g] at eB
    obtain ⟨x2, e2, eA⟩ := bo eA
    obtain ⟨y2, ey2, eB⟩ := bo eB
    rw [fx 0 16 (by omega), fi] at e2
    rw [fr 162 8 (by omega)] at ey2
    have b1 := (besC zg1 jR e2).1 fb.1 fb.2 h4 (by omega)
    have b2 := some_of (fs_beside jr (R.1 162 8) i (by omega)) ey2
    have w1 : xw r1 = xw R := congrArg Int32.toInt (fr 162 2 (by omega))
    have w2 : xh r1 = xh R := congrArg Int32.toInt (fr 162 3 (by omega))
    rw [w1, w2] at b2
    have e22 : x2 = y2 := Int32.toInt_inj.mp (b1.trans b2.symm)
    subst e22
    have bi := bes_in (aw jR) (ah jR) fb.1 fb.2 (s := i.toInt) (by omega)
    have i1 : 0 ≤ (i + (1 : Int32)).toInt := by rw [add_ti rfl o1 (by omega) (by omega)]; omega
    rcases io eA with ⟨g2, eA⟩ | ⟨g2, eA⟩
    · rw [if_pos g2] at eB
      obtain rfl := Option.some.inj eA
      obtain rfl := Option.some.inj eB
      exact .inl ⟨_, _, rfl, rfl, rfl, h2, h3, i1⟩
    · rw [if_neg g2] at eB
      have g3 := q_ne g2
      obtain ⟨_, eA⟩ := io_n eA
      obtain rfl := Option.some.inj eA
      obtain ⟨_, eB⟩ := io_n eB
      obtain ⟨y3, ey3, eB⟩ := bo eB
      obtain ⟨y4', ey4, eB⟩ := bo eB
      obtain ⟨_, eB⟩ := io_n eB
      obtain rfl := Option.some.inj eB
      rw [q_nat hp, fr 163 p (by omega)] at ey3
      have v3 : y3.toInt = (l : Int) := by rw [(place_i (v := R.1 163 p) (by omega) (by omega)).2 ey3]; omega
      obtain ⟨d, hd⟩ := ti_ofn (show 0 ≤ x2.toInt by omega)
      have v4 := place_c v3 hd l2 (by omega) ey4
      have m := (ms.2.1 d (by omega))
      dsimp only at m
      rw [E d (by omega)] at m
      rw [q_nat hd, q_nat v4, E d (by omega)]
      refine .inl ⟨_, _, rfl, rfl, rfl, ?_, ?_, i1⟩
      · dsimp only; split
        · exact m.1
        · exact h2
      · dsimp only; split
        · exact m.2
        · exact h3
  exact ⟨K.1, K.2.1, K.2.2, fx, qx, jr, fr⟩
theorem FQ2_155 {X R x r : Mem} (fx : ∀ kx i, kx ≠ 155 → x.1 kx i = X.1 kx i) (qx : x.2 = X.2) (fr : ∀ kx i, kx ≠ 177 → r.1 kx i = R.1 kx i) : FQ2 X R x r := ⟨⟨fun kx i h => fx kx i (by unfold CXr CX at h; omega), fun i => by rw [qx], fun i => by rw [qx], fun i => by rw [qx], fun i => by rw [qx]⟩, fun kx i h => fr kx i (by unfold CRr CR at h; omega), ⟨fx 0 15 (by omega), fun i => fx 161 i (by omega)⟩, fr 162 12 (by omega), fun i => fr 168 i (by omega)⟩
theorem fights_q {X R : Mem} {n : Nat} {v : Int32} {x r : Int32 × Mem} (za : ZA X R n) (fi : X.1 0 16 = R.1 162 8) (fri : FRI R) (ex : f_Top_fights v X = some x) (er : f_Mod_fights v R = some r) : x.1 = r.1 := by
  have n8 := za.1.1
  have z0 := o0
  have ym := om
  have z60 : (60 : Int32).toInt = 60 := rfl
  unfold f_Mod_fights at er
  obtain ⟨M1, m1, er⟩ := mo er
  obtain ⟨zaM, fqM⟩ := ZA_M1 za m1
  have f1 : ∀ kx i, ¬ (kx = 162 ∧ i = 13) → M1.1 kx i = R.1 kx i := fun kx i h => by rw [m1, si_ne h]
  have fiM : X.1 0 16 = M1.1 162 8 := by rw [f1 162 8 (by omega)]; exact fi
  obtain ⟨y2, ey2, er⟩ := bo er
  have h2 := some_of (sp_in v 0 60) ey2
  rw [o0, z60] at h2
  unfold f_Top_fights at ex
  have out : ¬ (0 ≤ v.toInt ∧ v.toInt ≤ 60) → some ((-1 : Int32), X) = some x → x.1 = r.1 := by
    intro hn e
    rcases h2 with ⟨_, h⟩ | ⟨h, _⟩
    · exact absurd h hn
    rw [h, if_pos rfl] at er
    obtain rfl := Option.some.inj e
    obtain rfl := Option.some.inj er
    rfl
  rcases io ex with ⟨c, ex⟩ | ⟨c, ex⟩
  · exact out (by have := q_lt c; omega) ex
  have c1 := q_nl c
  rcases io ex with ⟨c, ex⟩ | ⟨c, ex⟩
  rotate_left
  · exact out (by have := q_ng c; omega) ex
  have c2 := q_le c
  rcases h2 with ⟨h, _⟩ | ⟨_, h⟩
  rotate_left
  · exact absurd ⟨by omega, by omega⟩ h
  rw [h, if_neg (by decide)] at er
  rw [fiM] at ex
  rcases io ex with ⟨g, ex⟩ | ⟨g, ex⟩
  · rw [if_pos g] at er
    obtain rfl := Option.some.inj ex
    obtain rfl := Option.some.inj er
    rfl
  rw [if_neg g] at er
  have w1 : xw M1 = xw R := congrArg Int32.toInt (f1 162 2 (by omega))
  have w2 : xh M1 = xh R := congrArg Int32.toInt (f1 162 3 (by omega))
  have fbM : 0 ≤ (M1.1 162 8).toInt ∧ (M1.1 162 8).toInt < xw M1 * xh M1 := by
    rw [f1 162 8 (by omega), w1, w2]
    rcases fri with h | h
    · rw [f1 162 8 (by omega)] at g; exact absurd h g
    · exact h
  obtain ⟨x4, e4, ex⟩ := bo ex
  obtain ⟨x5, e5, ex⟩ := bo ex
  obtain ⟨x6, e6, ex⟩ := bo ex
  obtain ⟨x7, e7, ex⟩ := bo ex
  obtain ⟨x8, e8, ex⟩ := bo ex
  obtain ⟨x9, e9, ex⟩ := bo ex
  obtain rfl := Option.some.inj ex
  obtain ⟨y6, ey6, er⟩ := bo er
  obtain ⟨M7, m7, er⟩ := mo er
  obtain ⟨y8, ey8, er⟩ := bo er
  obtain ⟨y9, ey9, er⟩ := bo er
  obtain ⟨y10, ey10, er⟩ := bo er
  obtain ⟨y11, ey11, er⟩ := bo er
  obtain rfl := Option.some.inj er
  show x4.1 = y6.1
  refine it_2 (I := fun (s t : Int32 × Int32 × Mem) => s.1 = t.1 ∧ s.2.1 = t.2.1 ∧ ∃ p : Nat, p ≤ n ∧ s.2.1.toInt = (p : Int) ∧ ZA s.2.2 t.2.2 n ∧ s.2.2.1 0 16 = M1.1 162 8 ∧ t.2.2.1 162 8 = M1.1 162 8 ∧ xw t.2.2 = xw M1 ∧ xh t.2.2 = xh M1) (Q := fun (x y : Int32 × Mem) => x.1 = y.1) ?_ e4 ey6 ⟨rfl, rfl, 0, by omega, rfl, zaM, fiM, rfl, rfl, rfl⟩
  rintro ⟨b, i, N⟩ ⟨b', i', T⟩ A B ⟨h1, h2, p, pn, hp, z, q1, q2, q3, q4⟩ eA eB
  dsimp only at h1 h2 hp z q1 q2 q3 q4
  subst h1
  subst h2
  unfold lb_Top_fights_27 at eA
  unfold lb_Mod_fights_32 at eB
  dsimp only at eA eB
  have n64 : N.1 6 4 = T.1 162 4 := z.1.2.2.1.2.1.2.1
  have nn : (T.1 162 4).toInt = (n : Int) := z.1.2.2.1.2.1.1
  rw [n64] at eA
  rcases io eA with ⟨g, eA⟩ | ⟨g, eA⟩
  · rw [if_pos g] at eB
    obtain rfl := Option.some.inj eA
    obtain rfl := Option.some.inj eB
    exact .inr ⟨_, _, rfl, rfl, rfl⟩
  have g1 := q_ng g
  rw [if_neg g] at eB
  obtain ⟨x1, e1, eA⟩ := bo eA
  obtain ⟨y3, ey3, eB⟩ := bo eB
  obtain ⟨F1, _, _, F4, F5, F6, F7⟩ := fire_2 z (by rw [q1, q2]) (by rw [q2, q3, q4]; exact fbM) hp (by omega) e1 ey3
  have z2 : ZA x1.2 y3.2 n := FQ2_ZA (FQ2_155 F4 F5 F7) F6 z
  have p1 : (i + (1 : Int32)).toInt = ((p + 1 : Nat) : Int) := add_ti hp o1 (by omega) (by omega)
  have w3 : xw y3.2 = xw T := congrArg Int32.toInt (F7 162 2 (by omega))
  have w4 : xh y3.2 = xh T := congrArg Int32.toInt (F7 162 3 (by omega))
  rw [F1] at eA
  rcases io eA with ⟨gl, eA⟩ | ⟨gl, eA⟩
  · rw [if_pos gl] at eB
    obtain rfl := Option.some.inj eA
    obtain rfl := Option.some.inj eB
    exact .inl ⟨_, _, rfl, rfl, (Int32.or_zero).symm, rfl, p + 1, by omega, p1, z2, by show x1.2.1 0 16 = _; rw [F4 0 16 (by omega)]; exact q1, by show y3.2.1 162 8 = _; rw [F7 162 8 (by omega)]; exact q2, w3.trans q3, w4.trans q4⟩
  · rw [if_neg gl] at eB
    obtain rfl := Option.some.inj eA
    obtain rfl := Option.some.inj eB
    exact .inl ⟨_, _, rfl, rfl, rfl, rfl, p + 1, by omega, p1, z2, by show x1.2.1 0 16 = _; rw [F4 0 16 (by omega)]; exact q1, by show y3.2.1 162 8 = _; rw [F7 162 8 (by omega)]; exact q2, w3.trans q3, w4.trans q4⟩
end
section
/-! a man and a woman at the fire -/
theorem soonA {M1 A : Mem} {n : Nat} {sx : Int32} {V : Nat → Int} {x : Int32 × Mem} (n8 : n ≤ 8) (w5 : A.1 6 5 = M1.1 162 5) (w4 : (A.1 6 4).toInt = (n : Int)) (Vc : ∀ N : Mem, (∀ kx i, kx ≠ 155 → N.1 kx i = A.1 kx i) → N.2 = A.2 → ∀ (v : Int32) (p : Nat), v.toInt = (p : Int) → p < n → ∀ x : Int32 × Mem, f_Top_stepsToFire v N = some x → x.1.toInt = V p ∧ (∀ kx i, kx ≠ 155 → x.2.1 kx i = N.1 kx i) ∧ x.2.2 = N.2) (e : f_Top_soonestAtFire sx A = some x) : x.1.toInt = (pick (fun p => decide ((if bt (M1.1 162 5) p = true then (1 : Int32) else 0) = sx)) V n).2 ∧ (∀ kx i, kx ≠ 155 → x.2.1 kx i = A.1 kx i) ∧ x.2.2 = A.2 := by
  unfold f_Top_soonestAtFire at e
  obtain ⟨x7, e7, e⟩ := bo e
  obtain rfl := Option.some.inj e
  refine it_r (I := fun s : Int32 × Int32 × Int32 × Mem => ∃ k : Nat, k ≤ n ∧ s.2.2.1.toInt = (k : Int) ∧ s.1.toInt = (pick (fun p => decide ((if bt (M1.1 162 5) p = true then (1 : Int32) else 0) = sx)) V k).2 ∧ s.2.1.toInt = (pick (fun p => decide ((if bt (M1.1 162 5) p = true then (1 : Int32) else 0) = sx)) V k).1 ∧ (∀ kx i, kx ≠ 155 → s.2.2.2.1 kx i = A.1 kx i) ∧ s.2.2.2.2 = A.2) (Q := fun x : Int32 × Mem => x.1.toInt = (pick (fun p => decide ((if bt (M1.1 162 5) p = true then (1 : Int32) else 0) = sx)) V n).2 ∧ (∀ kx i, kx ≠ 155 → x.2.1 kx i = A.1 kx i) ∧ x.2.2 = A.2) ?_ e7 ⟨0, by omega, rfl, rfl, rfl, fun _ _ _ => rfl, rfl⟩
  rintro ⟨b, so, i, N⟩ r ⟨k, kn, hk, h1, h2, h3, h4⟩ e
  dsimp only at hk h1 h2 h3 h4
  unfold lb_Top_soonestAtFire_9 at e
  dsimp only at e
  rw [h3 6 4 (by omega)] at e
  rcases io e with ⟨g, e⟩ | ⟨g, e⟩
  · have := q_le g
    obtain rfl := Option.some.inj e
    have : k = n := by omega
    subst this
    exact ⟨h1, h3, h4⟩
  have g1 := q_ng g
  have i1 : (i + (1 : Int32)).toInt = ((k + 1 : Nat) : Int) := add_ti hk o1 (by omega) (by omega)
  obtain ⟨x1, e1, e⟩ := bo e
  have wv := womV hk (by omega) e1
  rw [h3 6 5 (by omega), w5] at wv
  rcases io e with ⟨g2, e⟩ | ⟨g2, e⟩
  · rw [wv] at g2
    obtain ⟨x2, e2, e⟩ := bo e
    obtain ⟨a1, a2, a3⟩ := Vc N h3 h4 i k hk (by omega) x2 e2
    rcases io e with ⟨g3, e⟩ | ⟨g3, e⟩
    · have := q_le g3
      obtain rfl := Option.some.inj e
      refine ⟨k + 1, by omega, i1, ?_⟩
      rw [pick_n (fun w => by have := w.2; omega)]
      exact ⟨h1, h2, fun kx j h => by show x2.2.1 kx j = _; rw [a2 kx j h]; exact h3 kx j h, by show x2.2.2 = _; rw [a3]; exact h4⟩
    · have := q_ng g3
      obtain ⟨x3, e3, e⟩ := bo e
      have h3' : ∀ kx j, kx ≠ 155 → x2.2.1 kx j = A.1 kx j := fun kx j h => by rw [a2 kx j h]; exact h3 kx j h
      obtain ⟨c1, c2, c3⟩ := Vc x2.2 h3' (by rw [a3]; exact h4) i k hk (by omega) x3 e3
      obtain rfl := Option.some.inj e
      refine ⟨k + 1, by omega, i1, ?_⟩
      rw [pick_p ⟨decide_eq_true g2, by omega⟩]
      exact ⟨hk, c1, fun kx j h => by show x3.2.1 kx j = _; rw [c2 kx j h]; exact h3' kx j h, by show x3.2.2 = _; rw [c3, a3]; exact h4⟩
  · rw [wv] at g2
    obtain rfl := Option.some.inj e
    refine ⟨k + 1, by omega, i1, ?_⟩
    rw [pick_n (fun w => g2 (of_decide_eq_true w.1))]
    exact ⟨h1, h2, h3, h4⟩
theorem saved_q {X R : Mem} {n : Nat} {x r : Int32 × Mem} (hJ : J X) (za : ZA X R n) (fi : X.1 0 16 = R.1 162 8) (fri : FRI R) (ex : f_Top_saved X = some x) (er : f_Mod_saved R = some r) : x.1 = r.1 ∧ (RR X R → RR x.2 r.2) := by
  have n8 := za.1.1
  have z0 := o0
  have ym := om
  have z60 : (60 : Int32).toInt = 60 := rfl
  have kF : (1000000 : Int32).toInt = 1000000 := rfl
  unfold f_Mod_saved at er
  obtain ⟨M1, m1, er⟩ := mo er
  obtain ⟨zaM, fqM⟩ := ZA_M1 za m1
  have f1 : ∀ kx i, ¬ (kx = 162 ∧ i = 13) → M1.1 kx i = R.1 kx i := fun kx i h => by rw [m1, si_ne h]
  have fiM : X.1 0 16 = M1.1 162 8 := by rw [f1 162 8 (by omega)]; exact fi
  have jM := zaM.1.2.1
  unfold f_Top_saved at ex
  rw [fiM] at ex
  rcases io ex with ⟨g, ex⟩ | ⟨g, ex⟩
  · rw [if_pos g] at er
    obtain rfl := Option.some.inj ex
    obtain rfl := Option.some.inj er
    exact ⟨rfl, FQ2_RR fqM⟩
  rw [if_neg g] at er
  have w1 : xw M1 = xw R := congrArg Int32.toInt (f1 162 2 (by omega))
  have w2 : xh M1 = xh R := congrArg Int32.toInt (f1 162 3 (by omega))
  have fbM : 0 ≤ (M1.1 162 8).toInt ∧ (M1.1 162 8).toInt < xw M1 * xh M1 := by
    rw [f1 162 8 (by omega), w1, w2]
    rcases fri with h | h
    · rw [f1 162 8 (by omega)] at g; exact absurd h g
    · exact h
  have zc := zaM.1.2.2.1.2.1
  -- the steps of each, once for all
  have ref : ∀ (v : Int32) (p : Nat), v.toInt = (p : Int) → p < n → ∃ r0 : Int32 × Mem, f_Mod_fights1 v M1 = some r0 := fun v p hp pn => by
    cases h0 : f_Mod_fights1 v M1 with
    | some r0 => exact ⟨r0, rfl⟩
    | none =>
      exfalso
      obtain ⟨l, c, l2, c36, _, _, hP, _⟩ := at_2 n8 zaM.1.2.2.2.1 zaM.1.2.2.2.2.1 pn
      obtain ⟨r0, e0, _⟩ := sf_Mod_fights1 v M1 (by omega) jM
      rw [h0] at e0
      cases e0
  let V : Nat → Int := fun p => match f_Mod_fights1 (Int32.ofInt (p : Int)) M1 with | some q => q.1.toInt | none => 0
  have Vd : ∀ (v : Int32) (p : Nat), v.toInt = (p : Int) → ∀ r0 : Int32 × Mem, f_Mod_fights1 v M1 = some r0 → V p = r0.1.toInt := by
    intro v p hp r0 e0
    show (match f_Mod_fights1 (Int32.ofInt (p : Int)) M1 with | some q => q.1.toInt | none => 0) = _
    rw [← ofi_eq hp, e0]
  have Vc0 : ∀ N : Mem, ZA N M1 n → N.1 0 16 = M1.1 162 8 → ∀ (v : Int32) (p : Nat), v.toInt = (p : Int) → p < n → ∀ x : Int32 × Mem, f_Top_stepsToFire v N = some x → x.1.toInt = V p ∧ (∀ kx i, kx ≠ 155 → x.2.1 kx i = N.1 kx i) ∧ x.2.2 = N.2 ∧ 0 ≤ V p ∧ (V p < 36 ∨ V p = 1000000) := by
    intro N zN fN v p hp pn x ex
    obtain ⟨r0, e0⟩ := ref v p hp pn
    obtain ⟨a, b, c, d, e, _, _⟩ := fire_2 zN fN fbM hp pn ex e0
    rw [Vd v p hp r0 e0, a]
    exact ⟨rfl, d, e, b, c⟩
  have VB : ∀ p, p < n → 0 ≤ V p ∧ (V p < 36 ∨ V p = 1000000) := by
    intro p pn
    have hpi : (Int32.ofInt (p : Int)).toInt = (p : Int) := Int32.toInt_ofInt_of_le (by omega) (by omega)
    obtain ⟨x0, ex0, _⟩ := sf_Top_stepsToFire (Int32.ofInt (p : Int)) X (by omega) hJ
    exact (Vc0 X zaM fiM _ p hpi pn x0 ex0).2.2.2
  have Vr : ∀ T : Mem, (∀ kx i, kx ≠ 177 → T.1 kx i = M1.1 kx i) → J T → ∀ (v : Int32) (p : Nat), v.toInt = (p : Int) → p < n → ∀ r : Int32 × Mem, f_Mod_fights1 v T = some r → r.1.toInt = V p ∧ (∀ kx i, kx ≠ 177 → r.2.1 kx i = T.1 kx i) ∧ J r.2 := by
    intro T fT jT v p hp pn r er
    obtain ⟨x0, ex0, _⟩ := sf_Top_stepsToFire v X (by omega) hJ
    have zT : ZA X T n := ZA_z zaM jT (fun _ _ _ => rfl) (fun _ => rfl) (fun _ => rfl) (fun _ => rfl) (fun _ => rfl) (fun kx i h => fT kx i (by unfold CRr CR at h; omega))
    have w3 : xw T = xw M1 := congrArg Int32.toInt (fT 162 2 (by omega))
    have w4 : xh T = xh M1 := congrArg Int32.toInt (fT 162 3 (by omega))
    obtain ⟨a, _, _, _, _, c, d⟩ := fire_2 zT (by rw [fT 162 8 (by omega)]; exact fiM) (by rw [fT 162 8 (by omega), w3, w4]; exact fbM) hp pn ex0 er
    exact ⟨by rw [← a]; exact (Vc0 X zaM fiM v p hp pn x0 ex0).1, d, c⟩
  have zaN : ∀ N : Mem, (∀ kx i, kx ≠ 155 → kx ≠ 161 → ¬ (kx = 0 ∧ i = 15) → N.1 kx i = X.1 kx i) → N.2 = X.2 → ZA N M1 n ∧ N.1 0 16 = M1.1 162 8 := by
    intro N fN qN
    exact ⟨ZA_z zaM jM (fun kx i h => fN kx i (by unfold CXr CX at h; omega) (by unfold CXr CX at h; omega) (by unfold CXr CX at h; omega)) (fun i => by rw [qN]) (fun i => by rw [qN]) (fun i => by rw [qN]) (fun i => by rw [qN]) (fun _ _ _ => rfl), by rw [fN 0 16 (by omega) (by omega) (by omega)]; exact fiM⟩
  -- the class
  obtain ⟨x1, e1, ex⟩ := bo ex
  obtain ⟨x2, e2, ex⟩ := bo ex
  obtain ⟨A1, A2, A3⟩ := soonA (V := V) n8 zc.2.2.1 (by rw [zc.2.1]; exact zc.1) (fun N fN qN v p hp pn x e => by
    obtain ⟨q1, q2⟩ := zaN N (fun kx i h _ _ => fN kx i h) qN
    obtain ⟨a, b, c, _⟩ := Vc0 N q1 q2 v p hp pn x e
    exact ⟨a, b, c⟩) e1
  obtain ⟨B1, B2, B3⟩ := soonA (V := V) (A := x1.2) n8 (by rw [A2 6 5 (by omega)]; exact zc.2.2.1) (by rw [A2 6 4 (by omega), zc.2.1]; exact zc.1) (fun N fN qN v p hp pn x e => by
    obtain ⟨q1, q2⟩ := zaN N (fun kx i h _ _ => by rw [fN kx i h]; exact A2 kx i h) (by rw [qN, A3])
    obtain ⟨a, b, c, _⟩ := Vc0 N q1 q2 v p hp pn x e
    exact ⟨a, b, c⟩) e2
  have Pm : ∀ k, k ≤ n → pick (fun p => decide ((if bt (M1.1 162 5) p = true then (1 : Int32) else 0) = 0)) V k = pick (fun p => !bt (M1.1 162 5) p) V k := fun k _ => pick_c (fun c _ => by cases bt (M1.1 162 5) c <;> decide) (fun _ _ _ => rfl)
  have Pw : ∀ k, k ≤ n → pick (fun p => decide ((if bt (M1.1 162 5) p = true then (1 : Int32) else 0) = 1)) V k = pick (fun p => bt (M1.1 162 5) p) V k := fun k _ => pick_c (fun c _ => by cases bt (M1.1 162 5) c <;> decide) (fun _ _ _ => rfl)
  rw [Pm n (Nat.le_refl _)] at A1
  rw [Pw n (Nat.le_refl _)] at B1
  -- the reference
  obtain ⟨y10, ey10, er⟩ := bo er
  have K : y10.1.toInt = (pick (fun p => !bt (M1.1 162 5) p) V n).2 ∧ y10.2.1.toInt = (pick (fun p => bt (M1.1 162 5) p) V n).2 ∧ y10.2.2.1.toInt = (pick (fun p => !bt (M1.1 162 5) p) V n).1 ∧ y10.2.2.2.1.toInt = (pick (fun p => bt (M1.1 162 5) p) V n).1 ∧ (∀ kx i, kx ≠ 177 → y10.2.2.2.2.1 kx i = M1.1 kx i) := by
    refine it_r (I := fun s : Int32 × Int32 × Int32 × Int32 × Int32 × Mem => ∃ k : Nat, k ≤ n ∧ s.2.2.2.2.1.toInt = (k : Int) ∧ s.1.toInt = (pick (fun p => !bt (M1.1 162 5) p) V k).2 ∧ s.2.1.toInt = (pick (fun p => bt (M1.1 162 5) p) V k).2 ∧ s.2.2.1.toInt = (pick (fun p => !bt (M1.1 162 5) p) V k).1 ∧ s.2.2.2.1.toInt = (pick (fun p => bt (M1.1 162 5) p) V k).1 ∧ (∀ kx i, kx ≠ 177 → s.2.2.2.2.2.1 kx i = M1.1 kx i) ∧ J s.2.2.2.2.2) (Q := fun y10 : Int32 × Int32 × Int32 × Int32 × Mem => y10.1.toInt = (pick (fun p => !bt (M1.1 162 5) p) V n).2 ∧ y10.2.1.toInt = (pick (fun p => bt (M1.1 162 5) p) V n).2 ∧ y10.2.2.1.toInt = (pick (fun p => !bt (M1.1 162 5) p) V n).1 ∧ y10.2.2.2.1.toInt = (pick (fun p => bt (M1.1 162 5) p) V n).1 ∧ (∀ kx i, kx ≠ 177 → y10.2.2.2.2.1 kx i = M1.1 kx i)) ?_ ey10 ⟨0, by omega, rfl, rfl, rfl, rfl, rfl, fun _ _ _ => rfl, jM⟩
    rintro ⟨a, b, c, d, i, T⟩ u ⟨k, kn, hk, h1, h2, h3, h4, h5, h6⟩ e
    dsimp only at hk h1 h2 h3 h4 h5 h6
    unfold lb_Mod_saved_32 at e
    dsimp only at e
    rw [h5 162 4 (by omega)] at e
    have nn : (M1.1 162 4).toInt = (n : Int) := zc.1
    rcases io e with ⟨g, e⟩ | ⟨g, e⟩
    · have := q_le g
      obtain rfl := Option.some.inj e
      have : k = n := by omega
      subst this
      exact ⟨h1, h2, h3, h4, h5⟩
    have g1 := q_ng g
    have i1 : (i + (1 : Int32)).toInt = ((k + 1 : Nat) : Int) := add_ti hk o1 (by omega) (by omega)
    obtain ⟨x2', e2', e⟩ := bo e
    obtain ⟨v1, v2, v3⟩ := Vr T h5 h6 i k hk (by omega) x2' e2'
    have h5' : ∀ kx j, kx ≠ 177 → x2'.2.1 kx j = M1.1 kx j := fun kx j h => by rw [v2 kx j h]; exact h5 kx j h
    obtain ⟨x3, e3, e⟩ := bo e
    have b3 := hasR hk (by omega) e3
    rw [h5' 162 5 (by omega)] at b3
    cases hb : bt (M1.1 162 5) k with
    | true =>
      rw [if_neg (fun h => by rw [b3.mp h] at hb; cases hb)] at e
      have j75 : ∀ (va vb vd : Int32), vb.toInt = (pick (fun p => bt (M1.1 162 5) p) V (k + 1)).2 → vd.toInt = (pick (fun p => bt (M1.1 162 5) p) V (k + 1)).1 → j_Mod_saved_75_32 a vb c vd i x2'.1 x2'.2 = some u → Sum.elim (fun s : Int32 × Int32 × Int32 × Int32 × Int32 × Mem => ∃ k : Nat, k ≤ n ∧ s.2.2.2.2.1.toInt = (k : Int) ∧ s.1.toInt = (pick (fun p => !bt (M1.1 162 5) p) V k).2 ∧ s.2.1.toInt = (pick (fun p => bt (M1.1 162 5) p) V k).2 ∧ s.2.2.1.toInt = (pick (fun p => !bt (M1.1 162 5) p) V k).1 ∧ s.2.2.2.1.toInt = (pick (fun p => bt (M1.1 162 5) p) V k).1 ∧ (∀ kx i, kx ≠ 177 → s.2.2.2.2.2.1 kx i = M1.1 kx i) ∧ J s.2.2.2.2.2) (fun y10 : Int32 × Int32 × Int32 × Int32 × Mem => y10.1.toInt = (pick (fun p => !bt (M1.1 162 5) p) V n).2 ∧ y10.2.1.toInt = (pick (fun p => bt (M1.1 162 5) p) V n).2 ∧ y10.2.2.1.toInt = (pick (fun p => !bt (M1.1 162 5) p) V n).1 ∧ y10.2.2.2.1.toInt = (pick (fun p => bt (M1.1 162 5) p) V n).1 ∧ (∀ kx i, kx ≠ 177 → y10.2.2.2.2.1 kx i = M1.1 kx i)) u := by
        intro _ vb vd q1 q2 e
        unfold j_Mod_saved_75_32 at e
        obtain ⟨x4, e4, e⟩ := bo e
        have b4 := hasR hk (by omega) e4
        rw [h5' 162 5 (by omega)] at b4
        rw [if_neg (fun h => by rw [b4.mp h] at hb; cases hb)] at e
        obtain rfl := Option.some.inj e
        refine ⟨k + 1, by omega, i1, ?_, q1, ?_, q2, h5', v3⟩
        · show a.toInt = _
          rw [pick_n (fun w => by simp [hb] at w)]; exact h1
        · show c.toInt = _
          rw [pick_n (fun w => by simp [hb] at w)]; exact h3
      rcases io e with ⟨gl, e⟩ | ⟨gl, e⟩
      · have := q_le gl
        have pn : pick (fun p => bt (M1.1 162 5) p) V (k + 1) = pick (fun p => bt (M1.1 162 5) p) V k := pick_n (fun w => by have := w.2; omega)
        exact j75 0 b d (by rw [pn]; exact h2) (by rw [pn]; exact h4) e
      · have := q_ng gl
        have pn : pick (fun p => bt (M1.1 162 5) p) V (k + 1) = (V k, (k : Int)) := pick_p ⟨hb, by omega⟩
        exact j75 0 i x2'.1 (by rw [pn]; exact hk) (by rw [pn]; exact v1) e
    | false =>
      rw [if_pos (b3.mpr hb)] at e
      unfold j_Mod_saved_75_32 at e
      obtain ⟨x4, e4, e⟩ := bo e
      have b4 := hasR hk (by omega) e4
      rw [h5' 162 5 (by omega)] at b4
      rw [if_pos (b4.mpr hb)] at e
      have pw : pick (fun p => bt (M1.1 162 5) p) V (k + 1) = pick (fun p => bt (M1.1 162 5) p) V k := pick_n (fun w => by rw [hb] at w; cases w.1)
      rcases io e with ⟨gl, e⟩ | ⟨gl, e⟩
      · have := q_le gl
        have pn : pick (fun p => !bt (M1.1 162 5) p) V (k + 1) = pick (fun p => !bt (M1.1 162 5) p) V k := pick_n (fun w => by have := w.2; omega)
        obtain rfl := Option.some.inj e
        exact ⟨k + 1, by omega, i1, by rw [pn]; exact h1, by rw [pw]; exact h2, by rw [pn]; exact h3, by rw [pw]; exact h4, h5', v3⟩
      · have := q_ng gl
        have pn : pick (fun p => !bt (M1.1 162 5) p) V (k + 1) = (V k, (k : Int)) := pick_p ⟨by simp [hb], by omega⟩
        obtain rfl := Option.some.inj e
        exact ⟨k + 1, by omega, i1, by rw [pn]; exact hk, by rw [pw]; exact h2, by rw [pn]; exact v1, by rw [pw]; exact h4, h5', v3⟩
  obtain ⟨K1, K2, K3, K4, K5⟩ := K
  have bnd : ∀ P : Nat → Bool, -1 ≤ (pick P V n).2 ∧ (pick P V n).2 < (n : Int) ∧ ((pick P V n).1 = 1000000 ↔ (pick P V n).2 = -1) ∧ (∀ c : Nat, (pick P V n).2 = (c : Int) → (pick P V n).1 = V c) := by
    intro P
    have e : pick P V n = pick (fun c => P c && decide (c < n)) V n := pick_c (fun c hc => by simp [hc]) (fun _ _ _ => rfl)
    have q := pick_b (P := fun c => P c && decide (c < n)) (V := V) (fun c h => by
      simp only [Bool.and_eq_true, decide_eq_true_eq] at h
      exact (VB c h.2).1) n
    rw [e]
    exact ⟨q.2.2.1, q.2.2.2.1, q.2.2.2.2.1, q.2.2.2.2.2⟩
  have bm := bnd (fun p => !bt (M1.1 162 5) p)
  have bw := bnd (fun p => bt (M1.1 162 5) p)
  generalize pick (fun p => !bt (M1.1 162 5) p) V n = pm at *
  generalize pick (fun p => bt (M1.1 162 5) p) V n = pw at *
  have mxE : (if y10.2.2.1 < y10.2.2.2.1 then y10.2.2.2.1 else y10.2.2.1).toInt = if pm.1 < pw.1 then pw.1 else pm.1 := by
    by_cases c : y10.2.2.1 < y10.2.2.2.1
    · have := q_lt c
      rw [if_pos c, if_pos (by omega)]; exact K4
    · have := q_nl c
      rw [if_neg c, if_neg (by omega)]; exact K3
  have fin : (pm.2 = -1 ∨ pw.2 = -1) → some ((-2 : Int32), x2.2) = some x → x.1 = r.1 ∧ (RR X R → RR x.2 r.2) := by
    intro h e
    rw [if_neg (fun w => by
      have wle := q_le w
      rw [mxE] at wle
      have o60 : (60 : Int32).toInt = 60 := rfl
      have big : pm.1 = 1000000 ∨ pw.1 = 1000000 := h.imp bm.2.2.1.mpr bw.2.2.1.mpr
      by_cases c : pm.1 < pw.1
      · rw [if_pos c] at wle; omega
      · rw [if_neg c] at wle; omega)] at er
    obtain rfl := Option.some.inj e
    obtain rfl := Option.some.inj er
    refine ⟨rfl, fun h => ?_⟩
    have h := FQ2_RR fqM h
    exact RR_f (by show x2.2.1 0 15 = _; rw [B2 0 15 (by omega)]; exact A2 0 15 (by omega)) (fun i => by show x2.2.1 161 i = _; rw [B2 161 i (by omega)]; exact A2 161 i (by omega)) (K5 162 12 (by omega)) (fun i => K5 168 i (by omega)) h
  rcases io ex with ⟨g1, ex⟩ | ⟨g1, ex⟩
  · have := q_eq g1
    exact fin (.inl (by omega)) ex
  have g1' := q_ne g1
  rcases io ex with ⟨g2, ex⟩ | ⟨g2, ex⟩
  · have := q_eq g2
    exact fin (.inr (by omega)) ex
  have g2' := q_ne g2
  obtain ⟨pmn, hpm⟩ : ∃ c : Nat, pm.2 = (c : Int) := ⟨pm.2.toNat, by omega⟩
  obtain ⟨pwn, hpw⟩ : ∃ c : Nat, pw.2 = (c : Int) := ⟨pw.2.toNat, by omega⟩
  have vm := bm.2.2.2 pmn hpm
  have vw := bw.2.2.2 pwn hpw
  have rm := VB pmn (by omega)
  have rw_ := VB pwn (by omega)
  have pmF : ¬ pm.1 = 1000000 := fun h => by have := bm.2.2.1.mp h; omega
  have pwF : ¬ pw.1 = 1000000 := fun h => by have := bw.2.2.1.mp h; omega
  rw [if_pos (Int32.le_iff_toInt_le.mpr (by rw [mxE]; split <;> omega))] at er
  obtain ⟨x3, e3, ex⟩ := bo ex
  obtain ⟨x4, e4, ex⟩ := bo ex
  obtain ⟨x5, e5, ex⟩ := bo ex
  obtain ⟨x6, e6, ex⟩ := bo ex
  obtain ⟨x7, e7, ex⟩ := bo ex
  obtain rfl := Option.some.inj ex
  obtain ⟨M11, m11, er⟩ := mo er
  obtain ⟨y12, ey12, er⟩ := bo er
  obtain ⟨y13, ey13, er⟩ := bo er
  obtain rfl := Option.some.inj er
  have em := empty_i e3
  have n4 := note_i e4
  have n5 := note_i e5
  have f5 : ∀ kx i, kx ≠ 155 → kx ≠ 161 → ¬ (kx = 0 ∧ i = 15) → x5.1 kx i = X.1 kx i := fun kx i h1 h2 h3 => by rw [n5.1 kx i h2 h3, n4.1 kx i h2 h3, em.1 kx i h3, B2 kx i h1]; exact A2 kx i h1
  have q5 : x5.2 = X.2 := by rw [n5.2, n4.2, em.2, B3, A3]
  obtain ⟨z5, fz5⟩ := zaN x5 f5 q5
  obtain ⟨C1, C2, C3, _⟩ := Vc0 x5 z5 fz5 x1.1 pmn (by omega) (by omega) x6 e6
  obtain ⟨z6, fz6⟩ := zaN x6.2 (fun kx i h1 h2 h3 => by rw [C2 kx i h1]; exact f5 kx i h1 h2 h3) (by rw [C3, q5])
  obtain ⟨D1, D2, D3, _⟩ := Vc0 x6.2 z6 fz6 x2.1 pwn (by omega) (by omega) x7 e7
  refine ⟨Int32.toInt_inj.mp ?_, fun _ => ?_⟩
  · show (if x6.1 < x7.1 then x7.1 else x6.1).toInt = (if y10.2.2.1 < y10.2.2.2.1 then y10.2.2.2.1 else y10.2.2.1).toInt
    rw [mxE, mxi_i]
    unfold mxi
    by_cases c : x6.1 < x7.1
    · have := q_lt c
      rw [if_pos c, if_pos (by omega)]; omega
    · have := q_nl c
      rw [if_neg c, if_neg (by omega)]; omega
  · have r1 := RR_n (RR_0 e3 m11) (by omega) (Int32.toInt_inj.mp (A1.trans K1.symm)) e4 ey12
    have r2 := RR_n r1 (by omega) (Int32.toInt_inj.mp (B1.trans K2.symm)) e5 ey13
    refine RR_f ?_ (fun i => ?_) rfl (fun _ => rfl) (RRn_r (by omega) r2)
    · show x7.2.1 0 15 = _; rw [D2 0 15 (by omega), C2 0 15 (by omega)]
    · show x7.2.1 161 i = _; rw [D2 161 i (by omega), C2 161 i (by omega)]
end
section
/-! the fire is nowhere or at a cell: the class's side -/
def FRC (M : Mem) : Prop := M.1 0 16 = -1 ∨ (0 ≤ (M.1 0 16).toInt ∧ (M.1 0 16).toInt < (M.1 3 3).toInt)
theorem FRC_I {M : Mem} (h : RL M) (f : FRC M) : FRI M := by
  unfold FRI xw xh
  rw [← h.2.2, ← h.2.1]
  exact f
theorem FRI_g {M x : Mem} (g : ∀ kx i, 162 ≤ kx → x.1 kx i = M.1 kx i) (f : FRI M) : FRI x := by
  unfold FRI xw xh at *
  rw [g 162 8 (by decide), g 162 2 (by decide), g 162 3 (by decide)]
  exact f
theorem FRC_k {M x r : Mem} (f : FRC M) (a : x.1 0 16 = M.1 0 16) (b : x.1 3 3 = M.1 3 3) (c : r.1 0 16 = x.1 0 16) (d : r.1 3 3 = x.1 3 3) : FRC r := by
  unfold FRC at *
  rw [c, d, a, b]
  exact f
theorem FRC_town {M : Mem} {x : Int32 × Mem} {r : Mem} (hJ : J M) (f : FRC M) (ex : f_Top_town M = some x) (c : r.1 0 16 = x.2.1 0 16) (d : r.1 3 3 = x.2.1 3 3) : FRC r := by
  have t := town_c (Jr_1_1 hJ).2 ex
  unfold CT at t
  rcases t with ⟨p, _, _, _, _, c2, _, c4⟩ | ⟨p, _, _, _, _, _, _, _, c4⟩
  · exact FRC_k f c4 c2 c d
  · refine .inl ?_
    rw [c]
    exact Int32.toInt_inj.mp c4
theorem FRC_fire {M : Mem} {v : Int32} {x : Int32 × Mem} {r : Mem} (hJ : J M) (f : FRC M) (ex : f_Top_fire v M = some x) (c : r.1 0 16 = x.2.1 0 16) (d : r.1 3 3 = x.2.1 3 3) : FRC r := by
  unfold f_Top_fire j_Top_fire_19 at ex
  have put : ∀ M1 : Mem, M1 = s_i M 0 16 v → x.2 = M1 → (v = -1 ∨ (0 ≤ v.toInt ∧ v.toInt < (M.1 3 3).toInt)) → FRC r := by
    intro M1 e1 e2 h
    unfold FRC
    rw [c, d, e2, e1, si_eq, si_ne (by omega)]
    exact h
  rcases io ex with ⟨g, e⟩ | ⟨g, e⟩
  · obtain ⟨M1, e1, e⟩ := mo e
    obtain rfl := Option.some.inj e
    exact put M1 e1 rfl (.inl g)
  · obtain ⟨x2, e2, e⟩ := bo e
    rcases has_i (Jr_3_3 hJ).2 e2 with ⟨a, b⟩ | ⟨a, b⟩
    · rw [a, if_neg (by decide)] at e
      obtain ⟨M1, e1, e⟩ := mo e
      obtain rfl := Option.some.inj e
      exact put M1 e1 rfl (.inr b)
    · rw [a, if_pos rfl] at e
      obtain rfl := Option.some.inj e
      exact FRC_k f rfl rfl c d
def IY (n : Int) (M : Mem) : Prop := IW n M ∧ FRC M
theorem IY_up {n : Int} {M : Mem} (h : IY n M) : IY (n + 1) M := ⟨IW_up h.1, h.2⟩
theorem IY_0 (h : Inv 0 M0) : IY 0 M0 := ⟨IW_0 h, .inl (by decide +kernel)⟩
end
