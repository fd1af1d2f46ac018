/-! a route told, both sides -/
theorem beg_i {R M1 x2 M3 : Mem} {v : Int32} {K : Nat} (hv : v.toInt = (K : Int)) (h80 : (R.1 162 10).toInt ≤ 80) (hb : ∀ p : Nat, (p : Int) < (R.1 162 10).toInt → -128 ≤ (R.1 167 p).toInt ∧ (R.1 167 p).toInt ≤ 127) (m1 : M1 = s_i R 162 13 (0 : Int32)) (e2 : f_Mod_begin 167 (M1.1 162 10) v M1 = some x2) (m3 : M3 = s_i x2 162 10 (0 : Int32)) : Rd (rx R K) M3 ∧ M3.1 162 15 = R.1 162 10 ∧ (M3.1 162 17).toInt = 0 ∧ (M3.1 162 18).toInt = -1 ∧ (∀ kx i, ¬ (kx = 162 ∧ (i = 10 ∨ i = 13 ∨ i = 15 ∨ i = 16 ∨ i = 17 ∨ i = 18)) → M3.1 kx i = R.1 kx i) ∧ M3.2.1 = R.2.1 ∧ (∀ kx i, kx ≠ 162 → M3.2.2 kx i = R.2.2 kx i) := by
  unfold f_Mod_begin at e2
  obtain ⟨_, e2⟩ := io_n e2
  obtain ⟨N1, n1, e2⟩ := mo e2
  obtain ⟨N2, n2, e2⟩ := mo e2
  obtain ⟨N3, n3, e2⟩ := mo e2
  obtain ⟨N4, n4, e2⟩ := mo e2
  obtain ⟨N5, n5, e2⟩ := mo e2
  obtain rfl := Option.some.inj e2
  have q1 : N1.1 = M1.1 := by rw [n1]; rfl
  have hf : ∀ kx i, ¬ (kx = 162 ∧ (i = 10 ∨ i = 13 ∨ i = 15 ∨ i = 16 ∨ i = 17 ∨ i = 18)) → M3.1 kx i = R.1 kx i := by
    intro k i h
    rw [m3, si_ne (by omega), n5, si_ne (by omega), n4, si_ne (by omega), n3, si_ne (by omega), n2, si_ne (by omega), q1, m1, si_ne (by omega)]
  have b15 : M3.1 162 15 = R.1 162 10 := by
    rw [m3, si_ne (by omega), n5, si_ne (by omega), n4, si_ne (by omega), n3, si_ne (by omega), n2, si_eq, m1, si_ne (by omega)]
  have b16 : (M3.1 162 16).toInt = (K : Int) := by
    rw [m3, si_ne (by omega), n5, si_ne (by omega), n4, si_ne (by omega), n3, si_eq]; exact hv
  have b17 : (M3.1 162 17).toInt = 0 := by
    rw [m3, si_ne (by omega), n5, si_ne (by omega), n4, si_eq]; rfl
  have b18 : (M3.1 162 18).toInt = -1 := by
    rw [m3, si_ne (by omega), n5, si_eq]; rfl
  have q3 : M3.2 = N1.2 := by rw [m3, si_2, n5, si_2, n4, si_2, n3, si_2, n2, si_2]
  have b14 : M3.2.2 162 14 = some 167 := by rw [q3, n1]; simp [s_q]
  have qr : M1.2 = R.2 := by rw [m1, si_2]
  refine ⟨⟨167, b14, .inl rfl, by rw [b15]; exact h80, fun p => ?_⟩, b15, b17, b18, hf, ?_, fun kx i h => ?_⟩
  · rw [b15, b16, hf 167 p (by omega)]
    refine ⟨?_, fun h _ => hb p h⟩
    unfold rx
    by_cases c : (p : Int) < (R.1 162 10).toInt ∧ p < K
    · rw [if_pos c, if_pos (by omega)]
    · rw [if_neg c, if_neg (by omega)]
  · rw [q3, n1]; show M1.2.1 = _; rw [qr]
  · rw [q3, n1, sq_ne (by omega), qr]
theorem ZW_f {X Y R S : Mem} (f35 : ∀ i, Y.1 35 i = X.1 35 i) (f33 : ∀ i, Y.2.1 33 i = X.2.1 33 i) (f34 : ∀ i, Y.2.1 34 i = X.2.1 34 i) (g2 : S.1 162 2 = R.1 162 2) (g3 : S.1 162 3 = R.1 162 3) (g164 : ∀ i, S.1 164 i = R.1 164 i) (pk0 : ∀ i, 80 ≤ i → i < 93 → S.1 163 i = R.1 163 i) (h6 : (R.1 163 92).toInt ≤ 6) (zw : ZW X R 163) : ZW Y S 163 := by
  have w1 : xw S = xw R := congrArg Int32.toInt g2
  have w2 : xh S = xh R := congrArg Int32.toInt g3
  have on : onA S = onA R := by funext l d; exact propext (by unfold onA; rw [onN_c ⟨g2, g3, g164⟩])
  have pk : (fun c d => plk S 163 c d) = (fun c d => plk R 163 c d) := by funext c d; exact propext (plk_c pk0 h6 c d)
  obtain ⟨h1, h2, h3⟩ := zw
  unfold ZW ZX NXT NRD LKn lk
  rw [on, pk, w1, w2]
  refine ⟨fun l d hl => ?_, fun l c s hl hc hs => ?_, fun l c hl hc => ?_⟩
  · rw [f33]; exact h1 l d hl
  · rw [f35]; exact h2 l c s hl hc hs
  · rw [f34]; exact h3 l c hl hc
theorem ZG_f {X Y R S : Mem} (x2 : Y.1 3 2 = X.1 3 2) (x3 : Y.1 3 3 = X.1 3 3) (x4 : ∀ i, Y.1 4 i = X.1 4 i) (g2 : S.1 162 2 = R.1 162 2) (g3 : S.1 162 3 = R.1 162 3) (g164 : ∀ i, S.1 164 i = R.1 164 i) (z : ZG X R) : ZG Y S := by
  have w1 : xw S = xw R := congrArg Int32.toInt g2
  have w2 : xh S = xh R := congrArg Int32.toInt g3
  obtain ⟨a, b, c, d⟩ := z
  exact ⟨by rw [x2, w1]; exact a, by rw [x3, w1, w2]; exact b, fun i hi => by rw [x4, g164]; exact c i hi, fun i hi => by rw [g164]; exact d i hi⟩
theorem ZHK_0 {X R x r : Mem} {n m : Nat} (za : ZA X R n) (kk : KK R) (big : (R.1 162 48).toInt ≤ 2000000) (h0 : 0 ≤ (R.1 162 48).toInt) (h462 : x.1 46 2 = 0) (h463 : x.1 46 3 = 0) (q47 : ∀ i, x.2.2 47 i = X.2.2 47 i) (q48 : ∀ i, x.2.2 48 i = X.2.2 48 i) (r27 : r.1 162 27 = 0) (r48 : r.1 162 48 = R.1 162 48 + (1 : Int32)) (r191 : ∀ i, r.1 191 i = R.1 191 i) : ZH x r m ∧ ZK x r m := by
  have hx : HX X := za.2.1.1
  refine ⟨⟨⟨fun i hi => ?_, fun i j hi hj e => ?_⟩, 0, by omega, by rw [h462]; rfl, by rw [r27]; rfl, fun u hu => by omega⟩, fun t ht => ?_, fun t ht => ?_⟩
  · rw [q47]; exact hx.1 i hi
  · rw [q47, q47] at e; exact hx.2 i j hi hj e
  · rw [q48]; exact za.2.2.1 t ht
  · have b3 : bt (x.1 46 3) t = false := by rw [h463]; exact bt_0 t
    refine ⟨?_, fun h => by rw [b3] at h; cases h⟩
    rw [b3, r191, r48]
    constructor
    · intro h; cases h
    · rintro ⟨_, h⟩
      have k := (kk.2.2 t ht).1.2
      have e := congrArg Int32.toInt h
      rw [add_ti rfl o1 (by omega) (by omega)] at e
      omega
theorem way_c {A x : Mem} {v1 v3 : Int32} {p : Nat} (hp : v1.toInt = (p : Int)) (p8 : p < 8) (e : iter (lb_Crowd_tellWay_40 v1 v3) FU ((0 : Int32), A) = some x) : (∀ i, i < 9 → x.1 7 (9 * p + i) = A.1 10 i) ∧ (∀ kx i, ¬ (kx = 7 ∧ 9 * p ≤ i ∧ i < 9 * p + 9) → x.1 kx i = A.1 kx i) ∧ x.2 = A.2 := by
  refine it_r (I := fun s : Int32 × Mem => ∃ j : Nat, j ≤ 9 ∧ s.1.toInt = (j : Int) ∧ (∀ i, i < j → s.2.1 7 (9 * p + i) = A.1 10 i) ∧ (∀ kx i, ¬ (kx = 7 ∧ 9 * p ≤ i ∧ i < 9 * p + 9) → s.2.1 kx i = A.1 kx i) ∧ s.2.2 = A.2) (Q := fun x : Mem => (∀ i, i < 9 → x.1 7 (9 * p + i) = A.1 10 i) ∧ (∀ kx i, ¬ (kx = 7 ∧ 9 * p ≤ i ∧ i < 9 * p + 9) → x.1 kx i = A.1 kx i) ∧ x.2 = A.2) ?_ e ⟨0, by omega, rfl, fun i hi => by omega, fun _ _ _ => rfl, rfl⟩
  rintro ⟨a, N⟩ r ⟨j, j9, ha, hc, hf, hq⟩ e
  dsimp only at ha hc hf hq
  have z9 : (9 : Int32).toInt = 9 := rfl
  unfold lb_Crowd_tellWay_40 at e
  dsimp only at e
  rcases io e with ⟨c, e⟩ | ⟨c, e⟩
  · have := q_le c
    obtain rfl := Option.some.inj e
    exact ⟨fun i hi => hc i (by omega), hf, hq⟩
  have c1 := q_ng c
  obtain ⟨_, e⟩ := io_n e
  obtain ⟨_, e⟩ := io_n e
  obtain ⟨M3, m3, e⟩ := mo e
  obtain rfl := Option.some.inj e
  have h9 : (v1 * (9 : Int32)).toInt = ((p : Int)) * 9 := mul_ti hp z9 (by omega) (by omega)
  have hi : (v1 * (9 : Int32) + a).toInt = ((9 * p + j : Nat) : Int) := by
    rw [add_ti h9 ha (by omega) (by omega)]; omega
  rw [q_nat hi, q_nat ha] at m3
  refine ⟨j + 1, by omega, add_ti ha o1 (by omega) (by omega), fun i hi => ?_, fun kx i h => ?_, ?_⟩
  · dsimp only
    rw [m3]
    rcases Nat.lt_or_ge i j with g | g
    · rw [si_ne (by omega)]; exact hc i g
    · have : i = j := by omega
      subst this
      rw [si_eq]; exact hf 10 i (by omega)
  · dsimp only
    rw [m3, si_ne (by omega)]; exact hf kx i h
  · dsimp only
    rw [m3, si_2]; exact hq
theorem way_r {A x : Mem} {v1 v2 : Int32} {p k : Nat} (hp : v1.toInt = (p : Int)) (p8 : p < 8) (hk : v2.toInt = (k : Int)) (k9 : k ≤ 9) (e : iter (lb_Mod_route_87 v1 v2) FU ((0 : Int32), A) = some x) : (∀ i, i < k → x.1 165 (9 * p + i) = A.1 171 i) ∧ (∀ kx i, ¬ (kx = 165 ∧ 9 * p ≤ i ∧ i < 9 * p + 9) → x.1 kx i = A.1 kx i) ∧ x.2 = A.2 := by
  refine it_r (I := fun s : Int32 × Mem => ∃ j : Nat, j ≤ k ∧ s.1.toInt = (j : Int) ∧ (∀ i, i < j → s.2.1 165 (9 * p + i) = A.1 171 i) ∧ (∀ kx i, ¬ (kx = 165 ∧ 9 * p ≤ i ∧ i < 9 * p + 9) → s.2.1 kx i = A.1 kx i) ∧ s.2.2 = A.2) (Q := fun x : Mem => (∀ i, i < k → x.1 165 (9 * p + i) = A.1 171 i) ∧ (∀ kx i, ¬ (kx = 165 ∧ 9 * p ≤ i ∧ i < 9 * p + 9) → x.1 kx i = A.1 kx i) ∧ x.2 = A.2) ?_ e ⟨0, by omega, rfl, fun i hi => by omega, fun _ _ _ => rfl, rfl⟩
  rintro ⟨a, N⟩ r ⟨j, j9, ha, hc, hf, hq⟩ e
  dsimp only at ha hc hf hq
  have z9 : (9 : Int32).toInt = 9 := rfl
  unfold lb_Mod_route_87 at e
  dsimp only at e
  rcases io e with ⟨c, e⟩ | ⟨c, e⟩
  · have := q_le c
    obtain rfl := Option.some.inj e
    exact ⟨fun i hi => hc i (by omega), hf, hq⟩
  have c1 := q_ng c
  obtain ⟨_, e⟩ := io_n e
  obtain ⟨_, e⟩ := io_n e
  obtain ⟨M3, m3, e⟩ := mo e
  obtain rfl := Option.some.inj e
  have h9 : ((9 : Int32) * v1).toInt = 9 * ((p : Int)) := mul_ti z9 hp (by omega) (by omega)
  have hi : ((9 : Int32) * v1 + a).toInt = ((9 * p + j : Nat) : Int) := by
    rw [add_ti h9 ha (by omega) (by omega)]; omega
  rw [q_nat hi, q_nat ha] at m3
  refine ⟨j + 1, by omega, add_ti ha o1 (by omega) (by omega), fun i hi => ?_, fun kx i h => ?_, ?_⟩
  · dsimp only
    rw [m3]
    rcases Nat.lt_or_ge i j with g | g
    · rw [si_ne (by omega)]; exact hc i g
    · have : i = j := by omega
      subst this
      rw [si_eq]; exact hf 171 i (by omega)
  · dsimp only
    rw [m3, si_ne (by omega)]; exact hf kx i h
  · dsimp only
    rw [m3, si_2]; exact hq
theorem route_q {X R x r : Mem} {n p k : Nat} (zq : ZQ X R n) (jr : J r) (hp : p < n) (k1 : 1 ≤ k) (k9 : k ≤ 9) (fx : ∀ kx i, kx ≠ 1 → kx ≠ 10 → ¬ (kx = 7 ∧ 9 * p ≤ i ∧ i < 9 * p + 9) → ¬ (kx = 8 ∧ i = p) → ¬ (kx = 14 ∧ i = p) → ¬ (kx = 46 ∧ (i = 2 ∨ i = 3)) → x.1 kx i = X.1 kx i) (xq : x.2.1 = X.2.1) (x8 : (x.1 8 p).toInt = (k : Int)) (x14 : x.1 14 p = 0) (fr : ∀ kx i, kx ≠ 171 → ¬ (kx = 165 ∧ 9 * p ≤ i ∧ i < 9 * p + 9) → ¬ (kx = 166 ∧ i = p) → ¬ (kx = 163 ∧ i = 8 + p) → ¬ (kx = 162 ∧ (i = 10 ∨ i = 13 ∨ i = 15 ∨ i = 16 ∨ i = 17 ∨ i = 18 ∨ i = 27 ∨ i = 48)) → r.1 kx i = R.1 kx i) (r166 : (r.1 166 p).toInt = (k : Int)) (r163 : r.1 163 (8 + p) = 0) (hs : ∀ i, i < k → x.1 7 (9 * p + i) = r.1 165 (9 * p + i) ∧ 0 ≤ (r.1 165 (9 * p + i)).toInt ∧ (r.1 165 (9 * p + i)).toInt ≤ 4) : ZQ x r n := by
  obtain ⟨n8, jR, ⟨zg, zc, zl⟩, zs, zv, zw⟩ := zq
  have g2 : r.1 162 2 = R.1 162 2 := fr 162 2 (by omega) (by omega) (by omega) (by omega) (by omega)
  have g3 : r.1 162 3 = R.1 162 3 := fr 162 3 (by omega) (by omega) (by omega) (by omega) (by omega)
  have g4 : r.1 162 4 = R.1 162 4 := fr 162 4 (by omega) (by omega) (by omega) (by omega) (by omega)
  have g5 : r.1 162 5 = R.1 162 5 := fr 162 5 (by omega) (by omega) (by omega) (by omega) (by omega)
  have g164 : ∀ i, r.1 164 i = R.1 164 i := fun i => fr 164 i (by omega) (by omega) (by omega) (by omega) (by omega)
  have g163 : ∀ i, i ≠ 8 + p → r.1 163 i = R.1 163 i := fun i h => fr 163 i (by omega) (by omega) (by omega) (by omega) (by omega)
  have onE : ∀ l c, onN r l c ↔ onN R l c := fun l c => by rw [onN_c ⟨g2, g3, g164⟩]
  have w1 : xw r = xw R := congrArg Int32.toInt g2
  have w2 : xh r = xh R := congrArg Int32.toInt g3
  refine ⟨n8, jr, ⟨ZG_f (fx 3 2 (by omega) (by omega) (by omega) (by omega) (by omega) (by omega)) (fx 3 3 (by omega) (by omega) (by omega) (by omega) (by omega) (by omega)) (fun i => fx 4 i (by omega) (by omega) (by omega) (by omega) (by omega) (by omega)) g2 g3 g164 zg, ?_, ZL_a (fx 40 4 (by omega) (by omega) (by omega) (by omega) (by omega) (by omega)) (fun i => fx 41 i (by omega) (by omega) (by omega) (by omega) (by omega) (by omega)) (fr 162 23 (by omega) (by omega) (by omega) (by omega) (by omega)) (fun i => fr 172 i (by omega) (by omega) (by omega) (by omega) (by omega)) zl⟩, ?_, ?_, ?_⟩
  · obtain ⟨c1, c2, c3, c4, c5, c6⟩ := zc
    refine ⟨by rw [g4]; exact c1, by rw [fx 6 4 (by omega) (by omega) (by omega) (by omega) (by omega) (by omega), g4]; exact c2, by rw [fx 6 5 (by omega) (by omega) (by omega) (by omega) (by omega) (by omega), g5]; exact c3, fun q hq => ?_, fun q i hq hi => ?_, fun q hq => by rw [g5]; exact c6 q hq⟩
    · by_cases e : q = p
      · subst e
        refine ⟨Int32.toInt_inj.mp (x8.trans r166.symm), by omega, by omega⟩
      · rw [fx 8 q (by omega) (by omega) (by omega) (by omega) (by omega) (by omega), fr 166 q (by omega) (by omega) (by omega) (by omega) (by omega)]; exact c4 q hq
    · by_cases e : q = p
      · subst e
        exact hs i (by omega)
      · rw [fr 166 q (by omega) (by omega) (by omega) (by omega) (by omega)] at hi
        have h9 := (c4 q hq).2.2
        rw [fx 7 (9 * q + i) (by omega) (by omega) (by omega) (by omega) (by omega) (by omega), fr 165 (9 * q + i) (by omega) (by omega) (by omega) (by omega) (by omega)]
        exact c5 q i hq hi
  · obtain ⟨s1, s2, s3, s4, s5, s6, s7, s8⟩ := zs
    have sc : ∀ j i, ¬ (j = 2 ∧ i = p) → scn x 11 j i = scn X 11 j i := by
      intro j i h
      unfold scn
      by_cases g : j < 6
      · rw [if_pos g, if_pos g]; exact fx _ _ (by omega) (by omega) (by omega) (by omega) (by omega) (by omega)
      · rw [if_neg g, if_neg g]; exact fx _ _ (by omega) (by omega) (by omega) (by omega) (by omega) (by omega)
    refine ⟨fun q hq => ?_, fun q q' h h' => ?_, fun q q' h h' ho => ?_, ?_, fun j hj h => ?_, ?_, ?_, ?_⟩
    · obtain ⟨t1, t2, t3, t4, t5, t6⟩ := s1 q hq
      rw [sc 0 q (by omega), sc 1 q (by omega), g163 q (by omega)]
      refine ⟨t1, t2, t3, t4, t5, ?_⟩
      by_cases e : q = p
      · subst e; rw [r163]; exact x14.symm
      · rw [g163 (8 + q) (by omega), sc 2 q (by omega)]; exact t6
    · rw [g163 _ (by omega), sc 3 _ (by omega), sc 3 _ (by omega)]; exact s2 q q' h h'
    · rw [sc 3 _ (by omega)]; exact s3 q q' h h' ho
    · rw [sc 6 0 (by omega), g163 92 (by omega)]; exact s4
    · rw [g163 92 (by omega)] at h
      rw [sc 4 j (by omega), sc 5 j (by omega), g163 _ (by omega), g163 _ (by omega)]; exact s5 j hj h
    · rw [sc 7 0 (by omega), g163 95 (by omega)]; exact s6
    · rw [sc 8 0 (by omega), g163 93 (by omega)]; exact s7
    · rw [sc 9 0 (by omega), g163 94 (by omega)]; exact s8
  · obtain ⟨v1, v2, v3, v4⟩ := zv
    refine ⟨fun q hq => ?_, by rw [g163 92 (by omega)]; exact v2, by rw [g163 94 (by omega)]; exact v3, fun j hj => ?_⟩
    · obtain ⟨t1, t2, t3, t4⟩ := v1 q hq
      rw [g163 q (by omega), g5]
      refine ⟨?_, t2, ?_⟩
      · unfold onP at t1 ⊢
        rw [onE]; exact t1
      · by_cases e : q = p
        · subst e; rw [r163, o0]; omega
        · rw [g163 (8 + q) (by omega), fr 166 q (by omega) (by omega) (by omega) (by omega) (by omega)]; exact ⟨t3, t4⟩
    · rw [g163 92 (by omega)] at hj
      rw [g163 _ (by omega), g163 _ (by omega), onE, onE, w1, w2]
      obtain ⟨a, b, s, s4, e1, e2⟩ := v4 j hj
      exact ⟨a, b, s, s4, e1, by rw [onE]; exact e2⟩
  · exact ZW_f (fun i => fx 35 i (by omega) (by omega) (by omega) (by omega) (by omega) (by omega)) (fun i => by rw [xq]) (fun i => by rw [xq]) g2 g3 g164 (fun i _ _ => g163 i (by omega)) zv.2.1.2 zw
