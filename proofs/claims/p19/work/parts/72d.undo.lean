/-! nets laid anew; planks taken, undone, kept -/
theorem pd_plk {X R : Mem} {n m : Nat} (zs : ZS (scn X 11) (R.1 163) n) (hm : (R.1 163 92).toInt = (m : Int)) (m6 : m ≤ 6) (c d : Int) : PD X m c d ↔ plk R 163 c d := by
  obtain ⟨_, _, _, _, s5, _⟩ := zs
  have e4 : ∀ j, j < m → X.1 16 j = R.1 163 (80 + 2 * j) := fun j hj => (s5 j (by omega) (by omega)).1
  have e5 : ∀ j, j < m → X.1 17 j = R.1 163 (81 + 2 * j) := fun j hj => (s5 j (by omega) (by omega)).2
  unfold PD plk plkA
  constructor
  · rintro ⟨j, hj, h⟩
    rw [e4 j hj, e5 j hj] at h
    refine ⟨j, by omega, ?_⟩
    rcases h with ⟨h1, h2⟩ | ⟨h1, h2⟩
    · exact .inl ⟨h1, h2⟩
    · exact .inr ⟨h2, h1⟩
  · rintro ⟨j, hj, h⟩
    refine ⟨j, by omega, ?_⟩
    rw [e4 j (by omega), e5 j (by omega)]
    rcases h with ⟨h1, h2⟩ | ⟨h1, h2⟩
    · exact .inl ⟨h1, h2⟩
    · exact .inr ⟨h2, h1⟩
theorem lay_q {X R x : Mem} {n : Nat} (n8 : n ≤ 8) (jR : J R) (zb : ZB X R n) (zs : ZS (scn X 11) (R.1 163) n) (zv : ZV R (R.1 163) n) (e : f_Nets_lay 32 11 (-1 : Int32) X = some x) : ZQ x R n ∧ HFx X x ∧ (∀ kx i, kx ≠ 35 → x.1 kx i = X.1 kx i) ∧ x.2.2 = X.2.2 := by
  obtain ⟨m, hm⟩ := ti_ofn zv.2.1.1
  have m6 : m ≤ 6 := by have := zv.2.1.2; omega
  have wh := awh jR
  have lai : X.1 11 6 = R.1 163 92 := zs.2.2.2.1
  have pl : ∀ j, j < m → 0 ≤ (X.1 16 j).toInt ∧ (X.1 16 j).toInt < xw R * xh R ∧ 0 ≤ (X.1 17 j).toInt ∧ (X.1 17 j).toInt < xw R * xh R := by
    intro j hj
    have s := zs.2.2.2.2.1 j (by omega) (by omega)
    have e4 : X.1 16 j = R.1 163 (80 + 2 * j) := s.1
    have e5 : X.1 17 j = R.1 163 (81 + 2 * j) := s.2
    obtain ⟨a, b, _⟩ := zv.2.2.2 j (by omega)
    rw [e4, e5]
    exact ⟨a.1, a.2.1, b.1, b.2.1⟩
  obtain ⟨l1, l2, l3, l4, l5⟩ := lay_i (v0 := 32) (.inl rfl) jR zb.1 (v3 := -1) (by rw [om]; omega) (n := m) (by rw [lai]; exact hm) m6 pl e
  have agg : ∀ kx i, kx ≠ 35 → x.1 kx i = X.1 kx i := l3
  have zb' : ZB x R n := by
    obtain ⟨zg, zc, zl⟩ := zb
    refine ⟨ZG_X zg (agg 3 2 (by omega)) (agg 3 3 (by omega)) (fun i => agg 4 i (by omega)), ?_, ?_⟩
    · obtain ⟨a1, a2, a3, a4, a5, a6⟩ := zc
      exact ⟨a1, by rw [agg _ _ (by omega)]; exact a2, by rw [agg _ _ (by omega)]; exact a3, fun q hq => by rw [agg _ _ (by omega)]; exact a4 q hq, fun q i hq hh => by rw [agg _ _ (by omega)]; exact a5 q i hq hh, a6⟩
    · unfold ZL at zl ⊢
      rw [agg 40 4 (by omega)]
      rcases zl with l | ⟨b1, b2, b3, S, b4, b5, b6, b7, b8, b9, b10⟩
      · exact .inl l
      · exact .inr ⟨b1, b2, b3, S, b4, b5, b6, b7, b8, b9, stk_c b10 (fun i _ => agg 41 i (by omega))⟩
  refine ⟨⟨n8, jR, zb', ZS_c n8 (scn_f (fun kx i a b => agg kx i (by omega))) (fun _ _ => rfl) zs, zv, ⟨l1, ZX_e (pd_plk zs hm m6) l2⟩⟩, ⟨⟨fun kx i w => agg kx i (by omega), agg 46 2 (by omega), agg 46 3 (by omega)⟩, fun i => by rw [l5], fun i => by rw [l5]⟩, agg, l5⟩
theorem lift_q {X R x r : Mem} {n : Nat} {w w' : Int32} (zq : ZQ X R n) (h0 : 0 < (R.1 163 92).toInt) (hw : w.toInt = (R.1 163 92).toInt - 1) (e : f_Nets_lay 32 11 (-1 : Int32) (s_i X 11 6 w) = some x) (hr : r = s_i R 163 92 w) : CS X R n x r := by
  obtain ⟨n8, jR, zb, zs, zv, zw⟩ := zq
  have fx : ∀ kx i, ¬ (kx = 11 ∧ i = 6) → (s_i X 11 6 w).1 kx i = X.1 kx i := fun kx i h => si_ne h
  have fr : ∀ kx i, ¬ (kx = 163 ∧ i = 92) → r.1 kx i = R.1 kx i := fun kx i h => by rw [hr, si_ne h]
  have r92 : r.1 163 92 = w := by rw [hr, si_eq]
  have b := zv.2.1
  have jr : J r := by rw [hr]; exact Jws92 jR (.inl rfl) w (by omega) (by omega)
  have agx : AgX X (s_i X 11 6 w) := ⟨fx 3 2 (by omega), fx 3 3 (by omega), fun i => fx 4 i (by omega), fx 6 4 (by omega), fx 6 5 (by omega), fun i => fx 7 i (by omega), fun i => fx 8 i (by omega), fx 40 4 (by omega), fun i => fx 41 i (by omega), fun i => fx 35 i (by omega), fun i => rfl, fun i => rfl⟩
  have agr : AgR R r := ⟨fr 162 2 (by omega), fr 162 3 (by omega), fr 162 4 (by omega), fr 162 5 (by omega), fr 162 23 (by omega), fun i => fr 164 i (by omega), fun i => fr 165 i (by omega), fun i => fr 166 i (by omega), fun i => fr 172 i (by omega)⟩
  have sc : ∀ j i, j ≠ 6 → j < 10 → scn (s_i X 11 6 w) 11 j i = scn X 11 j i := by
    intro j i h6 h10
    unfold scn
    by_cases g : j < 6
    · rw [if_pos g, if_pos g]; exact fx _ _ (by omega)
    · rw [if_neg g, if_neg g]; exact fx _ _ (by omega)
  have zs' : ZS (scn (s_i X 11 6 w) 11) (r.1 163) n := by
    obtain ⟨h1, h2, h3, h4, h5, h6, h7, h8⟩ := zs
    refine ⟨fun p hp => ?_, fun p q hp hq => ?_, fun p q hp hq hh => ?_, ?_, fun j hj hl => ?_, ?_, ?_, ?_⟩
    · rw [fr 163 p (by omega), fr 163 (8 + p) (by omega), sc 0 p (by omega) (by omega), sc 1 p (by omega) (by omega), sc 2 p (by omega) (by omega)]; exact h1 p hp
    · rw [fr 163 _ (by omega), sc 3 _ (by omega) (by omega), sc 3 _ (by omega) (by omega)]; exact h2 p q hp hq
    · rw [sc 3 _ (by omega) (by omega)]; exact h3 p q hp hq hh
    · show (s_i X 11 6 w).1 11 6 = r.1 163 92
      rw [si_eq, r92]
    · rw [r92] at hl
      rw [sc 4 j (by omega) (by omega), sc 5 j (by omega) (by omega), fr 163 _ (by omega), fr 163 _ (by omega)]; exact h5 j hj (by omega)
    · rw [sc 7 0 (by omega) (by omega), fr 163 95 (by omega)]; exact h6
    · rw [sc 8 0 (by omega) (by omega), fr 163 93 (by omega)]; exact h7
    · rw [sc 9 0 (by omega) (by omega), fr 163 94 (by omega)]; exact h8
  have zv' : ZV r (r.1 163) n := by
    have w1 : xw r = xw R := congrArg Int32.toInt agr.1
    have w2 : xh r = xh R := congrArg Int32.toInt agr.2.1
    obtain ⟨h1, h2, h3, h4⟩ := zv
    refine ⟨fun p hp => ?_, by rw [r92]; omega, by rw [fr 163 94 (by omega)]; exact h3, fun j hj => ?_⟩
    · rw [fr 163 p (by omega), fr 163 (8 + p) (by omega), agr.2.2.2.1, agr.2.2.2.2.2.2.2.1 p]
      obtain ⟨q1, q2⟩ := h1 p hp
      exact ⟨⟨q1.1, q1.2.1, (onN_a agr).mpr q1.2.2⟩, q2⟩
    · rw [r92] at hj
      rw [fr 163 _ (by omega), fr 163 _ (by omega), w1, w2]
      obtain ⟨q1, q2, s, q3, q4, q5⟩ := h4 j (by omega)
      exact ⟨(onN_a agr).mpr q1, (onN_a agr).mpr q2, s, q3, q4, fun h => q5 ((onN_a agr).mp h)⟩
  obtain ⟨zq', hf, _, _⟩ := lay_q n8 jr (ZB_a agx agr zb) zs' zv' e
  exact ⟨zq', HFx_t ⟨⟨fun kx i w => fx kx i (by omega), fx 46 2 (by omega), fx 46 3 (by omega)⟩, fun i => rfl, fun i => rfl⟩ hf, ⟨fr 162 27 (by omega), fr 162 48 (by omega), fun i => fr 173 i (by omega), fun i => fr 189 i (by omega), fun i => fr 190 i (by omega), fun i => fr 191 i (by omega)⟩, agr⟩
theorem take_2 {X R : Mem} {n : Nat} {x r : Int32 × Mem} (za : ZA X R n) (kk : KK R) (ex : f_Top_take X = some x) (er : f_Mod_take R = some r) : x.1 = r.1 ∧ ZA x.2 r.2 n := by
  have jR := za.1.2.1
  have z0 := o0
  unfold f_Top_take at ex
  unfold f_Mod_take at er
  rw [show (92 : Int32).toNatClampNeg = 92 from rfl] at er
  obtain ⟨X1, ex1, exa⟩ := bo ex
  obtain ⟨x2, ex2, exb⟩ := bo exa
  obtain ⟨M1, m1, era⟩ := mo er
  have j1 : J M1 := by rw [m1]; exact Jw_fld okf_162_13 jR _
  have zaM : ZA X M1 n := ZA_13 j1 (fun kx i h _ _ => by rw [m1, si_ne (by omega)]) za
  obtain ⟨zq1, _, _⟩ := copy_q (.inl rfl) zaM.1 ex1
  obtain ⟨c1, c2, c3⟩ := copy_i (v0 := 18) (v1 := 11) (by omega) ex1
  have lai : X1.1 11 6 = M1.1 163 92 := zq1.2.2.2.1.2.2.2.1
  have b := zq1.2.2.2.2.1.2.1
  unfold f_Top_lift at ex2
  rw [lai] at ex2
  rcases io ex2 with ⟨g, ex2⟩ | ⟨g, ex2⟩
  · have g1 := q_lt g
    obtain ⟨M2, m2, ex2⟩ := mo ex2
    obtain ⟨z2, ez2, ex2⟩ := bo ex2
    have ex2 := Option.some.inj ex2
    rw [← ex2] at exb
    rw [if_neg (by show ¬ (1 : Int32) = 0; decide)] at exb
    obtain ⟨x3, ex3, exc⟩ := bo exb
    have exc := Option.some.inj exc
    rw [if_neg (fun h => by have := congrArg Int32.toInt h; omega)] at era
    obtain ⟨R1, er1, erb⟩ := bo era
    obtain ⟨M3, m3, erc⟩ := mo erb
    have erc := Option.some.inj erc
    obtain ⟨zq', _, rf1⟩ := rem_q zaM (KK_13 jR kk m1) er1
    have zq1' : ZQ X1 R1 n := (copy_q (.inl rfl) zq' ex1).1
    have r1 : R1.1 163 92 = M1.1 163 92 := rf1 163 92 (by omega) (by omega)
    rw [r1] at m3
    have ws : ((M1.1 163 92) - (1 : Int32)).toInt = (R1.1 163 92).toInt - 1 := by rw [r1]; exact sub_ti rfl o1 (by omega) (by omega)
    rw [m2] at ez2
    have cs := lift_q (w' := 0) zq1' (by rw [r1]; omega) ws ez2 m3
    have W := with_hist zaM ex1 er1 cs ex3
    rw [← exc, ← erc]
    refine ⟨?_, W⟩
    exact W.1.2.2.2.1.2.2.2.1
  · have g1 := q_nl g
    have ex2 := Option.some.inj ex2
    rw [← ex2, if_pos rfl] at exb
    have exb := Option.some.inj exb
    have m0 : M1.1 163 92 = 0 := Int32.toInt_inj.mp (by omega)
    rw [if_pos m0] at era
    have era := Option.some.inj era
    rw [← exb, ← era]
    exact ⟨rfl, ZA_x (fun kx i h _ _ => c2 kx i (by omega)) c3 zaM⟩
theorem row_r {A x : Mem} {c o : Nat} (hc : c = 173 ∨ c = 189) (f : Int32 × Mem → Option ((Int32 × Mem) ⊕ Mem)) (hf : ∀ (k : Int32) (N : Mem) (p : Nat) r, k.toInt = (p : Int) → p ≤ 96 → (∀ kx i, kx ≠ 163 → N.1 kx i = A.1 kx i) → f (k, N) = some r → (p = 96 ∧ r = .inr N) ∨ (p < 96 ∧ r = .inl (k + (1 : Int32), s_i N 163 p (N.1 c (o + p))))) (e : iter f FU ((0 : Int32), A) = some x) : (∀ i, i < 96 → x.1 163 i = A.1 c (o + i)) ∧ (∀ kx i, kx ≠ 163 → x.1 kx i = A.1 kx i) := by
  refine it_r (I := fun s : Int32 × Mem => ∃ p : Nat, p ≤ 96 ∧ s.1.toInt = (p : Int) ∧ (∀ i, i < p → s.2.1 163 i = A.1 c (o + i)) ∧ (∀ kx i, kx ≠ 163 → s.2.1 kx i = A.1 kx i)) (Q := fun x : Mem => (∀ i, i < 96 → x.1 163 i = A.1 c (o + i)) ∧ (∀ kx i, kx ≠ 163 → x.1 kx i = A.1 kx i)) ?_ e ⟨0, by omega, rfl, fun i hi => absurd hi (by omega), fun _ _ _ => rfl⟩
  rintro ⟨k, N⟩ r ⟨p, lp, hp, h1, h2⟩ e
  dsimp only at hp h1 h2
  rcases hf k N p r hp lp h2 e with ⟨h, rfl⟩ | ⟨h, rfl⟩
  · subst h; exact ⟨h1, h2⟩
  · refine ⟨p + 1, by omega, add_ti hp o1 (by omega) (by omega), fun i hi => ?_, fun kx i hk => ?_⟩
    · show (s_i N 163 p _).1 163 i = _
      by_cases g : i = p
      · subst g; rw [si_eq]; exact h2 c _ (by omega)
      · rw [si_ne (by omega)]; exact h1 i (by omega)
    · show (s_i N 163 p _).1 kx i = _
      rw [si_ne (by omega)]; exact h2 kx i hk
theorem undo_2 {X R : Mem} {n : Nat} {x r : Int32 × Mem} (za : ZA X R n) (jr : J r.2) (ex : f_Top_undo X = some x) (er : f_Mod_undo R = some r) : x.1 = r.1 ∧ ZA x.2 r.2 n := by
  have jR := za.1.2.1
  have z0 := o0
  have z1 := o1
  have z12 : (12 : Int32).toInt = 12 := rfl
  unfold f_Mod_undo at er
  obtain ⟨M1, m1, era⟩ := mo er
  have j1 : J M1 := by rw [m1]; exact Jw_fld okf_162_13 jR _
  have zaM : ZA X M1 n := ZA_13 j1 (fun kx i h _ _ => by rw [m1, si_ne (by omega)]) za
  have zaM' := zaM
  obtain ⟨⟨n8, _, zb, zs, zv, zw⟩, ⟨hx, m, m12, h1, h2, h3⟩, zk⟩ := zaM
  unfold f_Top_undo f_History_back at ex
  obtain ⟨x1, ex1, exa⟩ := bo ex
  obtain ⟨_, ex1⟩ := io_n ex1
  rcases io ex1 with ⟨g, ex1⟩ | ⟨g, ex1⟩
  · have g1 := q_lt g
    have ex1 := Option.some.inj ex1
    rw [← ex1, if_pos rfl] at exa
    have exa := Option.some.inj exa
    rw [if_pos (Int32.toInt_inj.mp (show (M1.1 162 27).toInt = (0 : Int32).toInt by omega))] at era
    have era := Option.some.inj era
    rw [← exa, ← era]
    exact ⟨rfl, zaM'⟩
  have g1 := q_nl g
  rw [if_neg (fun h => by have := congrArg Int32.toInt h; omega)] at era
  rcases io ex1 with ⟨g2, ex1⟩ | ⟨g2, ex1⟩
  · obtain ⟨N1, n1, ex1⟩ := mo ex1
    obtain ⟨_, ex1⟩ := io_n ex1
    have hm1 : (N1.1 46 2).toInt = ((m - 1 : Nat) : Int) := by rw [n1, si_eq, sub_ti h1 o1 (by omega) (by omega)]; omega
    rw [q_nat hm1] at ex1
    obtain ⟨a2, ea2, ex1⟩ := bo ex1
    obtain ⟨_, ex1⟩ := io_n ex1
    obtain ⟨x3, ex3, ex1⟩ := bo ex1
    have ex1 := Option.some.inj ex1
    rw [← ex1, if_neg (by show ¬ (1 : Int32) = 0; decide)] at exa
    obtain ⟨x4, ex4, exb⟩ := bo exa
    have exb := Option.some.inj exb
    have q47 : N1.2.2 47 (m - 1) = X.2.2 47 (m - 1) := by rw [n1]; rfl
    rw [q47] at ea2
    obtain ⟨k, k1, k2, k3⟩ := h3 (m - 1) (by omega)
    have ka : a2 = k := Option.some.inj (ea2.symm.trans k1)
    subst ka
    obtain ⟨j, hj, hqj⟩ := hx.1 (m - 1) (by omega)
    have ja : a2 = 49 + 7 * j := Option.some.inj (k1.symm.trans hqj)
    obtain ⟨c1, c2, c3⟩ := copy_i (v0 := 11) (v1 := a2) (by omega) ex3
    have fN : ∀ kx i, ¬ (kx = 46 ∧ i = 2) → N1.1 kx i = X.1 kx i := fun kx i h => by rw [n1, si_ne h]
    have f3 : ∀ kx i, (kx < 11 ∨ 18 ≤ kx) → ¬ (kx = 46 ∧ i = 2) → x3.1 kx i = X.1 kx i := fun kx i h g => by rw [c2 kx i (by omega)]; exact fN kx i g
    have q3 : x3.2 = X.2 := by rw [c3, n1]; rfl
    -- the reference
    obtain ⟨M2, m2, erb⟩ := mo era
    obtain ⟨y5, ey5, erc⟩ := bo erb
    have erc := Option.some.inj erc
    have m27 : (M2.1 162 27).toInt = ((m - 1 : Nat) : Int) := by rw [m2, si_eq, sub_ti h2 o1 (by omega) (by omega)]; omega
    have fM : ∀ kx i, ¬ (kx = 162 ∧ i = 27) → M2.1 kx i = M1.1 kx i := fun kx i h => by rw [m2, si_ne h]
    have z96 : (96 : Int32).toInt = 96 := rfl
    obtain ⟨r1, r2⟩ := row_r (c := 173) (o := 96 * (m - 1)) (.inl rfl) lb_Mod_undo_26 (by
      intro k N p r hp lp hN e
      unfold lb_Mod_undo_26 at e
      dsimp only at e
      rcases io e with ⟨g, e⟩ | ⟨g, e⟩
      · have := q_le g
        exact .inl ⟨by omega, (Option.some.inj e).symm⟩
      · have := q_ng g
        obtain ⟨_, e⟩ := io_n e
        obtain ⟨_, e⟩ := io_n e
        obtain ⟨M3, e3, e⟩ := mo e
        have i1 : ((96 : Int32) * (N.1 162 27)).toInt = ((96 * (m - 1) : Nat) : Int) := by rw [hN 162 27 (by omega), mul_ti z96 m27 (by omega) (by omega)]; omega
        have i2 : ((96 : Int32) * (N.1 162 27) + k).toInt = ((96 * (m - 1) + p : Nat) : Int) := by rw [add_ti i1 hp (by omega) (by omega)]; omega
        rw [q_nat i2, q_nat hp] at e3
        exact .inr ⟨by omega, by rw [← Option.some.inj e, e3]⟩) ey5
    have ry : ∀ kx i, kx ≠ 163 → ¬ (kx = 162 ∧ i = 27) → y5.1 kx i = M1.1 kx i := fun kx i h g => by rw [r2 kx i h]; exact fM kx i g
    have agr : AgR M1 y5 := ⟨ry 162 2 (by omega) (by omega), ry 162 3 (by omega) (by omega), ry 162 4 (by omega) (by omega), ry 162 5 (by omega) (by omega), ry 162 23 (by omega) (by omega), fun i => ry 164 i (by omega) (by omega), fun i => ry 165 i (by omega) (by omega), fun i => ry 166 i (by omega) (by omega), fun i => ry 172 i (by omega) (by omega)⟩
    have agx : AgX X x3 := ⟨f3 3 2 (by omega) (by omega), f3 3 3 (by omega) (by omega), fun i => f3 4 i (by omega) (by omega), f3 6 4 (by omega) (by omega), f3 6 5 (by omega) (by omega), fun i => f3 7 i (by omega) (by omega), fun i => f3 8 i (by omega) (by omega), f3 40 4 (by omega) (by omega), fun i => f3 41 i (by omega) (by omega), fun i => f3 35 i (by omega) (by omega), fun i => by rw [q3], fun i => by rw [q3]⟩
    have row : ∀ i, i < 96 → y5.1 163 i = M1.1 173 (96 * (m - 1) + i) := fun i hi => by rw [r1 i hi]; exact fM 173 _ (by omega)
    have jy : J y5 := by rw [← erc] at jr; exact jr
    have zs3 : ZS (scn x3 11) (y5.1 163) n := ZS_c n8 (SEq_t (scn_f (fun kx i a b => fN kx i (by omega))) c1) (fun i hi => (row i hi).symm) k2
    have zv3 : ZV y5 (y5.1 163) n := ZV_a n8 agr row k3
    obtain ⟨zq4, hf4, ag4, q4⟩ := lay_q n8 jy (ZB_a agx agr zb) zs3 zv3 ex4
    have x4f : ∀ kx i, (47 ≤ kx ∧ kx < 147) → x4.1 kx i = X.1 kx i := fun kx i h => by rw [ag4 kx i (by omega)]; exact f3 kx i (by omega) (by omega)
    have x42 : (x4.1 46 2).toInt = ((m - 1 : Nat) : Int) := by rw [ag4 46 2 (by omega), c2 46 2 (by omega)]; exact hm1
    have y27 : (y5.1 162 27).toInt = ((m - 1 : Nat) : Int) := by rw [r2 162 27 (by omega)]; exact m27
    rw [← exb, ← erc]
    refine ⟨Int32.toInt_inj.mp (x42.trans y27.symm), zq4, ⟨⟨fun i hi => by rw [q4, q3]; exact hx.1 i hi, fun i j hi hj h => by rw [q4, q3] at h; exact hx.2 i j hi hj h⟩, m - 1, by omega, x42, y27, fun u hu => ?_⟩, ?_⟩
    · obtain ⟨k', d1, d2, d3⟩ := h3 u (by omega)
      obtain ⟨j', hj', hqj'⟩ := hx.1 u (by omega)
      have ja' : k' = 49 + 7 * j' := Option.some.inj (d1.symm.trans hqj')
      exact ⟨k', by rw [q4, q3]; exact d1, ZS_c n8 (scn_f (fun kx i a b => x4f kx i (by omega))) (fun i _ => (ry 173 _ (by omega) (by omega)).symm) d2, ZV_a n8 agr (fun i _ => ry 173 _ (by omega) (by omega)) d3⟩
    · exact ZK_a n8 (by rw [ag4 46 3 (by omega)]; exact f3 46 3 (by omega) (by omega)) (fun kx i a b => x4f kx i (by omega)) (fun i => by rw [q4, q3]) agr (ry 162 48 (by omega) (by omega)) (fun i => ry 189 i (by omega) (by omega)) (fun i => ry 190 i (by omega) (by omega)) (fun i => ry 191 i (by omega) (by omega)) zk
  · have := q_ng g2; omega
