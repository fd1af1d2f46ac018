/-! route: the whole command -/
theorem no_neg {N : Nat} (g : (0 : Int) ≤ -1 - (N : Int)) : False := by omega
theorem route_2 {X R : Mem} {n : Nat} {v : Int32} {x r : Int32 × Mem} (za : ZA X R n) (kk : KK R) (big : 0 ≤ (R.1 162 48).toInt ∧ (R.1 162 48).toInt ≤ 2000000) (tx : cx X 80 = rx R 80) (l : X.1 1 1 = R.1 162 10) (hb : ∀ p : Nat, (p : Int) < (R.1 162 10).toInt → -128 ≤ (R.1 167 p).toInt ∧ (R.1 167 p).toInt ≤ 127) (jr : J r.2) (ex : f_Top_route v X = some x) (er : f_Mod_route v R = some r) : x.1 = r.1 ∧ ZA x.2 r.2 n := by
  have l2 := Jr_162_10 za.1.2.1
  have hl : (X.1 1 1).toInt ≤ 80 := by rw [l]; exact l2.2
  have zq := za.1
  obtain ⟨n8, jR, ⟨zg, zc, zl⟩, zs, zv, zw⟩ := zq
  have z0 := o0
  have ym := om
  unfold f_Mod_route at er
  obtain ⟨M1, m1, er⟩ := mo er
  obtain ⟨x2, e2, er⟩ := bo er
  obtain ⟨M3, m3, er⟩ := mo er
  obtain ⟨rd, b15, b17, b18, bf, bq, bq2⟩ := beg_i (K := 80) rfl l2.2 hb m1 e2 m3
  obtain ⟨y4, ey4, er⟩ := bo er
  have hy := isOne_i (n := n) (by rw [bf 162 4 (by omega)]; exact zc.1) n8 ey4
  unfold f_Top_route at ex
  obtain ⟨x1, ex1, ex⟩ := bo ex
  have hx := crowd_has (n := n) (by rw [zc.2.1]; exact zc.1) n8 ex1
  have rfz : ∀ kx i, CRr kx i → M3.1 kx i = R.1 kx i := fun kx i h => bf kx i (by unfold CRr CR at h; omega)
  rcases hx with ⟨a, a1, a2⟩ | ⟨a, a1⟩
  · rcases hy with ⟨b, _⟩ | ⟨_, b⟩
    rotate_left
    · exact absurd ⟨a1, a2⟩ b
    rw [a, if_neg (by decide)] at ex
    rw [b, if_neg (by decide)] at er
    obtain ⟨p, hp⟩ := ti_ofn a1
    have hpn : p < n := by omega
    obtain ⟨x7, ex7, ex⟩ := bo ex
    obtain ⟨y5, ey5, er⟩ := bo er
    have hlr := ln_rt
    obtain ⟨r1, r2, r3, r4, r5, r6⟩ := route_i (o := 0) (p := 0) rd (.inl rfl) rfl (by omega) b17 b18 (by omega) ey5
    unfold f_Crowd_tellWay at ex7
    obtain ⟨s1, es1, ex7⟩ := bo ex7
    obtain ⟨c1, c2, c3, c4⟩ := steps_i (K := 80) (o := 0) (p := 0) hl rfl (by omega) rfl (.inl rfl) rfl (by omega) es1
    rw [tx] at c1 c2
    obtain ⟨s2, es2, ex7⟩ := bo ex7
    have hs2 := crowd_has (n := n) (by rw [c3 6 4 (by omega), zc.2.1]; exact zc.1) n8 es2
    rcases hs2 with ⟨s20, _⟩ | ⟨_, s21⟩
    rotate_left
    · exact absurd ⟨a1, a2⟩ s21
    rw [s20, if_neg (by decide)] at ex7
    generalize hN : rtn (rx R 80) 9 0 = N at *
    have N9 : N ≤ 9 := by
      have : ∀ K q, rtn (rx R 80) K q ≤ K := by
        intro K
        induction K with
        | zero => intro q; exact Nat.le_refl 0
        | succ K ih =>
          intro q
          unfold rtn
          split
          · omega
          · have := ih (q + 1); omega
      rw [← hN]; exact this 9 0
    have f11 : s1.2.1 1 1 = R.1 162 10 := by rw [c3 1 1 (by omega)]; exact l
    unfold RW at r4
    rw [hN] at r4
    rw [Nat.zero_add] at r2 r4
    have y15 : y5.2.1 162 15 = R.1 162 10 := by rw [r5 162 15 (by omega) (by omega)]; exact b15
    -- the class's refusal
    have refused : ∀ w : Int32 × Mem, w = ((-1 : Int32) - s1.1, s1.2) → j_Top_route_28 v w.1 w.2 = some x → x.1.toInt = -1 - (N : Int) ∧ (∀ kx i, CXr kx i → x.2.1 kx i = X.1 kx i) ∧ x.2.2 = X.2 := by
      rintro w rfl e
      unfold j_Top_route_28 at e
      obtain ⟨M2, m2, e⟩ := mo e
      have t : ((-1 : Int32) - s1.1).toInt = -1 - (N : Int) := sub_ti om c1 (by omega) (by omega)
      rcases io e with ⟨c, _⟩ | ⟨c, e⟩
      · have g := q_le c
        dsimp only at g
        rw [t, o0] at g
        exact (no_neg g).elim
      obtain rfl := Option.some.inj e
      refine ⟨t, fun kx i h => ?_, ?_⟩
      · show M2.1 kx i = _
        have h' : kx ≠ 1 ∧ kx ≠ 10 := by unfold CXr CX at h; omega
        rw [m2, si_ne (by omega)]; exact c3 kx i (by omega)
      · show M2.2 = _
        rw [m2, si_2]; exact c4
    -- the reference's refusal
    have refusedR : ∀ S : Mem, (S.1 162 18).toInt = (N : Int) → (∀ kx i, CRr kx i → S.1 kx i = R.1 kx i) → j_Mod_route_64 v y5.1 S = some r → r.1.toInt = -1 - (N : Int) ∧ ∀ kx i, CRr kx i → r.2.1 kx i = R.1 kx i := by
      intro S hS hf e
      unfold j_Mod_route_64 at e
      obtain ⟨x6, e6, e⟩ := bo e
      rcases fine_i e6 with ⟨g, _⟩ | ⟨_, g⟩
      · rw [g, if_pos rfl] at e
        obtain rfl := Option.some.inj e
        exact ⟨sub_ti om hS (by omega) (by omega), hf⟩
      · omega
    have fy5 : ∀ kx i, CRr kx i → y5.2.1 kx i = R.1 kx i := fun kx i h => by
      rw [r5 kx i (by unfold CRr CR at h; omega) (by unfold CRr CR at h; omega)]; exact rfz kx i h
    have both : j_Top_route_28 v x7.1 x7.2 = some x → x7 = ((-1 : Int32) - s1.1, s1.2) → (∃ S : Mem, (S.1 162 18).toInt = (N : Int) ∧ (∀ kx i, CRr kx i → S.1 kx i = R.1 kx i) ∧ j_Mod_route_64 v y5.1 S = some r) → x.1 = r.1 ∧ ZA x.2 r.2 n := by
      rintro e1 e2 ⟨S, h1, h2, h3⟩
      obtain ⟨p1, p2, p3⟩ := refused x7 e2 e1
      obtain ⟨q1, q2⟩ := refusedR S h1 h2 h3
      exact ⟨Int32.toInt_inj.mp (p1.trans q1.symm), ZA_z za jr p2 (fun i => by rw [p3]) (fun i => by rw [p3]) (fun i => by rw [p3]) (fun i => by rw [p3]) q2⟩
    rcases io ex7 with ⟨c, ex7⟩ | ⟨c, ex7⟩
    · have cc := q_eq c
      have N0 : N = 0 := by omega
      refine both ex (Option.some.inj ex7).symm ?_
      have w0 : (y5.2.1 162 18).toInt = (N : Int) := by omega
      rcases io er with ⟨g, er⟩ | ⟨g, er⟩
      · exact ⟨y5.2, w0, fy5, er⟩
      · obtain ⟨z15, ez15, er⟩ := bo er
        rcases fault_i ez15 with ⟨_, h⟩ | ⟨h, _⟩
        · rw [h] at er; exact ⟨y5.2, w0, fy5, er⟩
        · omega
    have cc := q_ne c
    have N1 : 0 < N := by omega
    rcases io ex7 with ⟨c, ex7⟩ | ⟨c, ex7⟩
    rotate_left
    · have c5 := q_ng c
      rw [f11] at c5
      refine both ex (Option.some.inj ex7).symm ?_
      rcases io er with ⟨g, er⟩ | ⟨g, er⟩
      · have := q_le g
        rw [y15] at this
        omega
      · obtain ⟨z15, ez15, er⟩ := bo er
        rcases fault_i ez15 with ⟨h0, h⟩ | ⟨h0, h⟩
        · rw [h] at er; exact ⟨y5.2, by omega, fy5, er⟩
        · refine ⟨z15, by rw [h, si_eq]; exact r2, fun kx i hh => ?_, er⟩
          rw [h, si_ne (by unfold CRr CR at hh; omega)]; exact fy5 kx i hh
    · have c5 := q_le c
      rw [f11] at c5
      have w0 : (y5.2.1 162 18).toInt = -1 := by
        rcases r4 with ⟨h, _⟩ | ⟨h, h1, h2⟩ | ⟨_, _, h⟩
        · omega
        · have k1 := (Rd_rng rd 9).2.2
          have k2 := stp_b (rx R 80 9)
          have : ¬ rx R 80 9 = -1 := by omega
          unfold rx at this
          rw [if_neg (by omega)] at this
          exact absurd rfl this
        · exact h
      obtain ⟨x5, e5, ex7⟩ := bo ex7
      obtain ⟨_, ex7⟩ := io_n ex7
      obtain ⟨M6, m6, ex7⟩ := mo ex7
      obtain rfl := Option.some.inj ex7
      rw [q_nat hp] at m6
      obtain ⟨d1, d2, d3⟩ := way_c hp (by omega) e5
      unfold j_Top_route_28 at ex
      obtain ⟨M2, m2, ex⟩ := mo ex
      dsimp only at ex m2
      rcases io ex with ⟨g, ex⟩ | ⟨g, _⟩
      rotate_left
      · have := q_ng g; omega
      obtain ⟨_, ex⟩ := io_n ex
      obtain ⟨K3, p3, ex⟩ := mo ex
      rw [q_nat hp] at p3
      unfold f_History_forget f_History_spoil at ex
      obtain ⟨k4, ek4, ex⟩ := bo ex
      obtain ⟨K4, p4, ek4⟩ := mo ek4
      obtain rfl := Option.some.inj ek4
      obtain ⟨k5, ek5, ex⟩ := bo ex
      obtain ⟨K5, p5, ek5⟩ := mo ek5
      obtain rfl := Option.some.inj ek5
      obtain rfl := Option.some.inj ex
      rcases io er with ⟨g2, er⟩ | ⟨g2, er⟩
      rotate_left
      · have := q_ng g2
        rw [y15] at this
        omega
      unfold j_Mod_route_64 at er
      obtain ⟨y6, ey6, er⟩ := bo er
      rcases fine_i ey6 with ⟨_, h⟩ | ⟨h, _⟩
      · exact absurd w0 h
      rw [h, if_neg (by decide)] at er
      obtain ⟨_, er⟩ := io_n er
      obtain ⟨M7, m7, er⟩ := mo er
      rw [q_nat hp] at m7
      obtain ⟨y10, ey10, er⟩ := bo er
      obtain ⟨_, er⟩ := io_n er
      obtain ⟨M11, m11, er⟩ := mo er
      obtain ⟨M12, m12, er⟩ := mo er
      obtain ⟨M13, m13, er⟩ := mo er
      obtain rfl := Option.some.inj er
      have z8 : (8 : Int32).toInt = 8 := rfl
      have i8 : ((8 : Int32) + v).toInt = ((8 + p : Nat) : Int) := by rw [add_ti z8 hp (by omega) (by omega)]; omega
      rw [q_nat i8] at m11
      obtain ⟨f1, f2, f3⟩ := way_r hp (by omega) r1 N9 ey10
      have fx : ∀ kx i, kx ≠ 1 → kx ≠ 10 → ¬ (kx = 7 ∧ 9 * p ≤ i ∧ i < 9 * p + 9) → ¬ (kx = 8 ∧ i = p) → ¬ (kx = 14 ∧ i = p) → ¬ (kx = 46 ∧ (i = 2 ∨ i = 3)) → K5.1 kx i = X.1 kx i := by
        intro kx i h1 h2 h3 h4 h5 h6
        rw [p5, si_ne (by omega), p4, si_ne (by omega), p3, si_ne (by omega), m2, si_ne (by omega), m6, si_ne (by omega), d2 kx i h3]
        exact c3 kx i (by omega)
      have xq : K5.2 = X.2 := by rw [p5, si_2, p4, si_2, p3, si_2, m2, si_2, m6, si_2, d3, c4]
      have x8 : K5.1 8 p = s1.1 := by rw [p5, si_ne (by omega), p4, si_ne (by omega), p3, si_ne (by omega), m2, si_ne (by omega), m6, si_eq]
      have x14 : K5.1 14 p = 0 := by rw [p5, si_ne (by omega), p4, si_ne (by omega), p3, si_eq]
      have fr : ∀ kx i, kx ≠ 171 → ¬ (kx = 165 ∧ 9 * p ≤ i ∧ i < 9 * p + 9) → ¬ (kx = 166 ∧ i = p) → ¬ (kx = 163 ∧ i = 8 + p) → ¬ (kx = 162 ∧ (i = 10 ∨ i = 13 ∨ i = 15 ∨ i = 16 ∨ i = 17 ∨ i = 18 ∨ i = 27 ∨ i = 48)) → M13.1 kx i = R.1 kx i := by
        intro kx i h1 h2 h3 h4 h5
        rw [m13, si_ne (by omega), m12, si_ne (by omega), m11, si_ne (by omega), f2 kx i h2, m7, si_ne (by omega), r5 kx i (by omega) (by omega)]
        exact bf kx i (by omega)
      have r166 : M13.1 166 p = y5.1 := by rw [m13, si_ne (by omega), m12, si_ne (by omega), m11, si_ne (by omega), f2 166 p (by omega), m7, si_eq]
      have r163 : M13.1 163 (8 + p) = 0 := by rw [m13, si_ne (by omega), m12, si_ne (by omega), m11, si_eq]
      have hs : ∀ i, i < N → K5.1 7 (9 * p + i) = M13.1 165 (9 * p + i) ∧ 0 ≤ (M13.1 165 (9 * p + i)).toInt ∧ (M13.1 165 (9 * p + i)).toInt ≤ 4 := by
        intro i hi
        have e1 : K5.1 7 (9 * p + i) = s1.2.1 10 i := by
          rw [p5, si_ne (by omega), p4, si_ne (by omega), p3, si_ne (by omega), m2, si_ne (by omega), m6, si_ne (by omega)]; exact d1 i (by omega)
        have e2 : M13.1 165 (9 * p + i) = y5.2.1 171 i := by
          rw [m13, si_ne (by omega), m12, si_ne (by omega), m11, si_ne (by omega), f1 i hi, m7, si_ne (by omega)]
        have h1 := c2 i hi
        have h2 := r3 i hi
        rw [Nat.zero_add] at h1 h2
        have hsb := stp_b (rx R 80 i)
        rw [e1, e2]
        exact ⟨Int32.toInt_inj.mp (h1.1.trans h2.1.symm), by omega, by omega⟩
      have zq' := route_q za.1 jr hpn N1 N9 fx (by rw [xq]) (by rw [x8]; exact c1) x14 fr (by rw [r166]; exact r1) r163 hs
      obtain ⟨zh, zk⟩ := ZHK_0 (x := K5) (r := M13) (m := n) za kk big.2 big.1 (by rw [p5, si_ne (by omega), p4, si_eq]) (by rw [p5, si_eq]) (fun i => by rw [xq]) (fun i => by rw [xq]) (by rw [m13, si_ne (by omega), m12, si_eq]) (by rw [m13, si_eq, m12, si_ne (by omega), m11, si_ne (by omega), f2 162 48 (by omega), m7, si_ne (by omega), r5 162 48 (by omega) (by omega), bf 162 48 (by omega)]) (fun i => fr 191 i (by omega) (by omega) (by omega) (by omega) (by omega))
      exact ⟨Int32.toInt_inj.mp (c1.trans r1.symm), zq', zh, zk⟩
  · rcases hy with ⟨_, b⟩ | ⟨b, _⟩
    · exact absurd b a1
    rw [a, if_pos rfl] at ex
    rw [b, if_pos rfl] at er
    obtain rfl := Option.some.inj er
    unfold j_Top_route_28 at ex
    obtain ⟨M2, m2, ex⟩ := mo ex
    rcases io ex with ⟨c, _⟩ | ⟨c, ex⟩
    · have := q_le c
      have z100 : (-100 : Int32).toInt = -100 := rfl
      omega
    obtain rfl := Option.some.inj ex
    exact ⟨rfl, ZA_z za jr (fun kx i h => by show M2.1 kx i = _; rw [m2, si_ne (by unfold CXr CX at h; omega)]) (fun i => by show M2.2.1 33 i = _; rw [m2, si_2]) (fun i => by show M2.2.1 34 i = _; rw [m2, si_2]) (fun i => by show M2.2.2 47 i = _; rw [m2, si_2]) (fun i => by show M2.2.2 48 i = _; rw [m2, si_2]) rfz⟩
