/-! the folk comes: the whole command -/
/-- all come: the reference -/
def CmR (A : Mem) (n0 q : Nat) (S : Mem) : Prop := (S.1 162 4).toInt = ((n0 + q : Nat) : Int) ∧ (∀ i, i < q → (S.1 163 (n0 + i)).toInt = 36 * (A.1 170 (12 * i)).toInt + (A.1 170 (12 * i + 1)).toInt ∧ S.1 163 (8 + (n0 + i)) = 0 ∧ S.1 166 (n0 + i) = A.1 170 (12 * i + 2) ∧ ∀ s : Nat, (s : Int) < (A.1 170 (12 * i + 2)).toInt → S.1 165 (9 * (n0 + i) + s) = A.1 170 (12 * i + 3 + s)) ∧ (∀ p o, p < 8 → o < 8 → ((n0 ≤ p ∧ p < n0 + q) ∨ (n0 ≤ o ∧ o < n0 + q)) → S.1 163 (16 + 8 * p + o) = 0) ∧ (∀ d, bt (S.1 162 5) d = (bt (A.1 162 5) d || decide (∃ i, i < q ∧ d = n0 + i ∧ (A.1 170 (12 * i)).toInt = 1))) ∧ (∀ kx j, ¬ (kx = 162 ∧ (j = 4 ∨ j = 5)) → ¬ (kx = 163 ∧ n0 ≤ j ∧ j < 80 ∧ ¬ (8 ≤ j ∧ j < 8 + n0) ∧ ¬ (∃ p o, p < n0 ∧ o < n0 ∧ j = 16 + 8 * p + o)) → ¬ (kx = 165 ∧ 9 * n0 ≤ j) → ¬ (kx = 166 ∧ n0 ≤ j) → S.1 kx j = A.1 kx j) ∧ S.2 = A.2
theorem comes_r {A x : Mem} {v1 : Int32} {n0 L : Nat} (hv : v1.toInt = (L : Int)) (hn : (A.1 162 4).toInt = (n0 : Int)) (n8 : n0 + L ≤ 8) (hd : ∀ i, i < L → (0 ≤ (A.1 170 (12 * i)).toInt ∧ (A.1 170 (12 * i)).toInt ≤ 1) ∧ (0 ≤ (A.1 170 (12 * i + 1)).toInt ∧ (A.1 170 (12 * i + 1)).toInt ≤ 35) ∧ 1 ≤ (A.1 170 (12 * i + 2)).toInt ∧ (A.1 170 (12 * i + 2)).toInt ≤ 9) (e : iter (lb_Mod_folk_126 v1) FU ((0 : Int32), A) = some x) : CmR A n0 L x := by
  have k12 : (12 : Int32).toInt = 12 := rfl
  refine it_r (I := fun s : Int32 × Mem => ∃ q : Nat, s.1.toInt = (q : Int) ∧ q ≤ L ∧ CmR A n0 q s.2) (Q := fun x : Mem => CmR A n0 L x) ?_ e ⟨0, rfl, by omega, by rw [hn]; omega, fun i hi => by omega, fun p o _ _ h => by omega, fun d => ?_, fun _ _ _ _ _ _ => rfl, rfl⟩
  rotate_left
  · have : ¬ ∃ i, i < 0 ∧ d = n0 + i ∧ (A.1 170 (12 * i)).toInt = 1 := by rintro ⟨i, h, _⟩; omega
    rw [decide_eq_false this, Bool.or_false]
  rintro ⟨v, B⟩ r ⟨q, hq, qL, c1, c2, c3, c4, c5, c6⟩ e
  dsimp only at hq c1 c2 c3 c4 c5 c6
  unfold lb_Mod_folk_126 at e
  dsimp only at e
  rcases io e with ⟨c, e⟩ | ⟨c, e⟩
  · have := q_le c
    obtain rfl := Option.some.inj e
    have : q = L := by omega
    subst this
    exact ⟨c1, c2, c3, c4, c5, c6⟩
  have cc := q_ng c
  obtain ⟨x13, e13, e⟩ := bo e
  obtain rfl := Option.some.inj e
  have i12 : ((12 : Int32) * v).toInt = ((12 * q : Nat) : Int) := by rw [mul_ti k12 hq (by omega) (by omega)]; omega
  have f170 : ∀ j, B.1 170 j = A.1 170 j := fun j => c5 170 j (by omega) (by omega) (by omega) (by omega)
  obtain ⟨d1, d2, d3, d4⟩ := hd q (by omega)
  obtain ⟨k, hk⟩ := ti_ofn (show 0 ≤ (A.1 170 (12 * q + 2)).toInt by omega)
  obtain ⟨m1, m2, m3, m4, m5, m6, m7, m8, m9⟩ := come_r (k := k) i12 (by omega) c1 (by omega) (by rw [f170]; exact d1) (by rw [f170]; exact d2) (by rw [f170]; exact hk) (by omega) e13
  rw [f170] at m5
  simp only [f170] at m2 m6 m7
  refine ⟨q + 1, add_ti hq o1 (by omega) (by omega), by omega, by rw [m1]; omega, fun i hi => ?_, fun p o hp ho h => ?_, fun d => ?_, fun kx j g1 g2 g3 g4 => ?_, by rw [m9]; exact c6⟩
  · dsimp only
    rcases Nat.lt_or_ge i q with g | g
    · obtain ⟨a1, a2, a3, a4⟩ := c2 i g
      rw [m8 163 (n0 + i) (by omega) (by rintro ⟨_, h | h | ⟨o, ho, h⟩⟩ <;> omega) (by omega) (by omega), m8 163 (8 + (n0 + i)) (by omega) (by rintro ⟨_, h | h | ⟨o, ho, h⟩⟩ <;> omega) (by omega) (by omega), m8 166 (n0 + i) (by omega) (by omega) (by omega) (by omega)]
      refine ⟨a1, a2, a3, fun s hs => ?_⟩
      obtain ⟨_, _, _, h9⟩ := hd i (by omega)
      rw [m8 165 _ (by omega) (by omega) (by omega) (by omega)]; exact a4 s hs
    · have : i = q := by omega
      subst this
      exact ⟨m2, m3, m5, fun s hs => m6 s (by omega)⟩
  · dsimp only
    by_cases g : p = n0 + q ∨ o = n0 + q
    · rcases g with rfl | rfl
      · exact (m4 o ho).1
      · exact (m4 p hp).2
    · rw [m8 163 _ (by omega) (by rintro ⟨_, h | h | ⟨o', ho', h⟩⟩ <;> omega) (by omega) (by omega)]
      exact c3 p o hp ho (by omega)
  · dsimp only
    rw [m7, c4, Bool.or_assoc]
    congr 1
    rw [← Bool.decide_and, ← Bool.decide_or]
    refine decide_eq_decide.mpr ⟨?_, ?_⟩
    · rintro (⟨i, h1, h2, h3⟩ | ⟨h1, h2⟩)
      · exact ⟨i, by omega, h2, h3⟩
      · exact ⟨q, by omega, h2, h1⟩
    · rintro ⟨i, h1, h2, h3⟩
      rcases Nat.lt_or_ge i q with g | g
      · exact .inl ⟨i, g, h2, h3⟩
      · have : i = q := by omega
        subst this
        exact .inr ⟨h3, h2⟩
  · dsimp only
    rw [m8 kx j g1 ?_ (by omega) (by omega)]
    · exact c5 kx j g1 g2 g3 g4
    · rintro ⟨h, h'⟩
      refine g2 ⟨h, ?_⟩
      rcases h' with h' | h' | ⟨o, ho, h' | h'⟩
      · exact ⟨by omega, by omega, by omega, by rintro ⟨p, o, h1, h2, h3⟩; omega⟩
      · exact ⟨by omega, by omega, by omega, by rintro ⟨p, o, h1, h2, h3⟩; omega⟩
      · exact ⟨by omega, by omega, by omega, by rintro ⟨p, o, h1, h2, h3⟩; omega⟩
      · exact ⟨by omega, by omega, by omega, by rintro ⟨p, o, h1, h2, h3⟩; omega⟩
theorem folk_2 {X R : Mem} {n : Nat} {x r : Int32 × Mem} (za : ZA X R n) (kk : KK R) (big : 0 ≤ (R.1 162 48).toInt ∧ (R.1 162 48).toInt ≤ 2000000) (hJ : J X) (tx : cx X 76 = rx R 76) (l : X.1 1 1 = R.1 162 10) (hb : ∀ p : Nat, (p : Int) < (R.1 162 10).toInt → -128 ≤ (R.1 167 p).toInt ∧ (R.1 167 p).toInt ≤ 127) (jr : J r.2) (ex : f_Top_folk X = some x) (er : f_Mod_folk R = some r) : ∃ m, ZA x.2 r.2 m := by
  have l2 := Jr_162_10 za.1.2.1
  have hl : (X.1 1 1).toInt ≤ 80 := by rw [l]; exact l2.2
  have zq := za.1
  obtain ⟨n8, jR, ⟨zg, zc, zl⟩, zs, zv, zw⟩ := zq
  have z0 := o0
  have ym := om
  have k76 : (76 : Int32).toInt = 76 := rfl
  unfold f_Mod_folk at er
  obtain ⟨M1, m1, er⟩ := mo er
  obtain ⟨x2, e2, er⟩ := bo er
  obtain ⟨M3, m3, er⟩ := mo er
  obtain ⟨rd, b15, b17, b18, bf, bq, bq2⟩ := beg_i (K := 76) rfl l2.2 hb m1 e2 m3
  have rfz : ∀ kx i, CRr kx i → M3.1 kx i = R.1 kx i := fun kx i h => bf kx i (by unfold CRr CR at h; omega)
  unfold f_Top_folk at ex
  obtain ⟨x1, ex1, ex⟩ := bo ex
  obtain ⟨M2, m2, ex⟩ := mo ex
  unfold f_Crowd_read at ex1
  -- both refuse
  have refuse : ∀ (A : Mem) (S : Mem), (∀ kx i, CXr kx i → A.1 kx i = X.1 kx i ∨ (kx = 7 ∧ 9 * n ≤ i) ∨ (kx = 8 ∧ n ≤ i)) → A.2 = X.2 → (∀ kx i, CRr kx i → S.1 kx i = R.1 kx i) → J S → ZA (s_i A 1 1 (0 : Int32)) S n := by
    intro A S hA qA hS jS
    have fA : ∀ kx i, CXr kx i → ¬ (kx = 7 ∧ 9 * n ≤ i) → ¬ (kx = 8 ∧ n ≤ i) → (s_i A 1 1 (0 : Int32)).1 kx i = X.1 kx i := fun kx i h h1 h2 => by
      rw [si_ne (by unfold CXr CX at h; omega)]
      rcases hA kx i h with g | g | g
      · exact g
      · exact absurd g h1
      · exact absurd g h2
    -- a memory with the old rows, so that the old relation holds of it
    let A0 : Mem := (fun kx i => if kx = 7 then X.1 7 i else if kx = 8 then X.1 8 i else (s_i A 1 1 (0 : Int32)).1 kx i, A.2)
    have za0 : ZA A0 S n := ZA_z za jS (fun kx i h => by
      show (if kx = 7 then X.1 7 i else if kx = 8 then X.1 8 i else (s_i A 1 1 (0 : Int32)).1 kx i) = X.1 kx i
      by_cases g7 : kx = 7
      · rw [if_pos g7, g7]
      by_cases g8 : kx = 8
      · rw [if_neg g7, if_pos g8, g8]
      · rw [if_neg g7, if_neg g8]; exact fA kx i h (by omega) (by omega)) (fun i => by show A.2.1 33 i = _; rw [qA]) (fun i => by show A.2.1 34 i = _; rw [qA]) (fun i => by show A.2.2 47 i = _; rw [qA]) (fun i => by show A.2.2 48 i = _; rw [qA]) hS
    obtain ⟨⟨k8, jS', ⟨yg, yc, yl⟩, ys, yv, yw⟩, yh, yk⟩ := za0
    have eq0 : ∀ kx i, kx ≠ 7 → kx ≠ 8 → A0.1 kx i = (s_i A 1 1 (0 : Int32)).1 kx i := fun kx i h1 h2 => by
      show (if kx = 7 then X.1 7 i else if kx = 8 then X.1 8 i else (s_i A 1 1 (0 : Int32)).1 kx i) = _
      rw [if_neg h1, if_neg h2]
    have yc' : ZC (s_i A 1 1 (0 : Int32)) S n := by
      obtain ⟨c1, c2, c3, c4, c5, c6⟩ := yc
      refine ⟨c1, by rw [← eq0 6 4 (by omega) (by omega)]; exact c2, by rw [← eq0 6 5 (by omega) (by omega)]; exact c3, fun p hp => ?_, fun p i hp hi => ?_, c6⟩
      · have := c4 p hp
        rw [fA 8 p (by unfold CXr CX; omega) (by omega) (by omega)]; exact this
      · have h9 := (c4 p hp).2.2
        have := c5 p i hp hi
        rw [fA 7 _ (by unfold CXr CX; omega) (by omega) (by omega)]; exact this
    refine ⟨⟨k8, jS', ⟨ZG_f (eq0 3 2 (by omega) (by omega)).symm (eq0 3 3 (by omega) (by omega)).symm (fun i => (eq0 4 i (by omega) (by omega)).symm) rfl rfl (fun _ => rfl) yg, yc', ZL_a (eq0 40 4 (by omega) (by omega)).symm (fun i => (eq0 41 i (by omega) (by omega)).symm) rfl (fun _ => rfl) yl⟩, ZS_c k8 (scn_f (fun kx i h1 h2 => (eq0 kx i (by omega) (by omega)).symm)) (fun _ _ => rfl) ys, yv, ZW_f (fun i => (eq0 35 i (by omega) (by omega)).symm) (fun _ => rfl) (fun _ => rfl) rfl rfl (fun _ => rfl) (fun _ _ _ => rfl) yv.2.1.2 yw⟩, ZH_a k8 (eq0 46 2 (by omega) (by omega)).symm (fun kx i h1 h2 => (eq0 kx i (by omega) (by omega)).symm) (fun _ => rfl) AgR_r rfl (fun _ => rfl) yh, ZK_a k8 (eq0 46 3 (by omega) (by omega)).symm (fun kx i h1 h2 => (eq0 kx i (by omega) (by omega)).symm) (fun _ => rfl) AgR_r rfl (fun _ => rfl) (fun _ => rfl) (fun _ => rfl) yk⟩
  rcases io ex1 with ⟨c, ex1⟩ | ⟨c, ex1⟩
  · obtain rfl := Option.some.inj ex1
    have cc := q_eq c
    dsimp only at ex m2
    rcases io ex with ⟨g, _⟩ | ⟨_, ex⟩
    · have := q_lt g; omega
    obtain rfl := Option.some.inj ex
    rcases io er with ⟨_, er⟩ | ⟨g, _⟩
    rotate_left
    · have := q_ne g
      rw [b15, ← l] at this
      omega
    obtain rfl := Option.some.inj er
    refine ⟨n, ?_⟩
    show ZA M2 M3 n
    rw [m2]
    exact refuse X M3 (fun kx i _ => .inl rfl) rfl rfz jr
  have cc := q_ne c
  obtain ⟨X1, x1e, ex1⟩ := mo ex1
  obtain ⟨y, ey, ex1⟩ := bo ex1
  rcases io er with ⟨g, _⟩ | ⟨_, er⟩
  · have := q_eq g
    rw [b15, ← l] at this
    omega
  obtain ⟨z, ez, er⟩ := bo er
  have zgM : ZG X M3 := ZG_f rfl rfl (fun _ => rfl) (bf 162 2 (by omega)) (bf 162 3 (by omega)) (fun i => bf 164 i (by omega)) zg
  have jM3 : J M3 := by
    have j1 : J M1 := by rw [m1]; exact Jw_fld okf_162_13 jR _
    have q10 : M1.1 162 10 = R.1 162 10 := by rw [m1, si_ne (by omega)]
    have j2 := some_of (sp_begin j1 167 (M1.1 162 10) (76 : Int32) (.inl ⟨rfl, by rw [q10]; exact l2.1, by rw [q10]; exact l2.2, by omega, by omega⟩)) e2
    rw [m3]; exact Jw_162_10 j2.1.1 _ (by decide) (by decide)
  rw [← tx] at rd
  have FoQ_ := folk_l (n0 := n) zgM jM3 (by rw [bf 162 4 (by omega)]; exact zc.2.1) (by rw [bf 162 4 (by omega)]; exact zc.1) n8 hl rd b17 b18 (by rw [b15]; exact l.symm) x1e ey ez
  have cxA : ∀ A S, FoA X M3 n A S → (∀ kx i, CXr kx i → A.1 kx i = X.1 kx i ∨ (kx = 7 ∧ 9 * n ≤ i) ∨ (kx = 8 ∧ n ≤ i)) ∧ (∀ kx i, CRr kx i → S.1 kx i = R.1 kx i) := by
    intro A S fa
    refine ⟨fun kx i h => ?_, fun kx i h => ?_⟩
    · by_cases g7 : kx = 7 ∧ 9 * n ≤ i
      · exact .inr (.inl g7)
      by_cases g8 : kx = 8 ∧ n ≤ i
      · exact .inr (.inr g8)
      · exact .inl (fa.1 kx i (by unfold CXr CX at h; omega) (by unfold CXr CX at h; omega) (by unfold CXr CX at h; omega) g7 g8)
    · rw [fa.2.2.1 kx i (by unfold CRr CR at h; omega) (by unfold CRr CR at h; omega)]; exact rfz kx i h
  -- the reference refuses
  have refR : RFu z.2 → FoA X M3 n X z.2 ∨ (∃ A, FoA X M3 n A z.2) → ∀ kx i, CRr kx i → r.2.1 kx i = R.1 kx i := by
    intro hr hfa
    have fz : ∀ kx i, CRr kx i → z.2.1 kx i = R.1 kx i := by
      rcases hfa with h | ⟨A, h⟩
      · exact (cxA _ _ h).2
      · exact (cxA _ _ h).2
    have h110 : ∀ S : Mem, (S.1 162 18).toInt ≠ -1 → (∀ kx i, CRr kx i → S.1 kx i = R.1 kx i) → j_Mod_folk_110 z.1 S = some r → ∀ kx i, CRr kx i → r.2.1 kx i = R.1 kx i := by
      intro S hS hf e
      unfold j_Mod_folk_110 at e
      obtain ⟨y12, e12, e⟩ := bo e
      rcases fine_i e12 with ⟨g, _⟩ | ⟨_, g⟩
      · rw [g, if_pos rfl] at e
        obtain rfl := Option.some.inj e
        exact hf
      · exact absurd g hS
    unfold j_Mod_folk_91 at er
    rcases io er with ⟨g, er⟩ | ⟨g, er⟩
    · have := q_le g
      rcases hr with h | h
      · exact h110 z.2 h fz er
      · omega
    · have gg := q_ng g
      obtain ⟨x19, e19, er⟩ := bo er
      have ff := fault_f e19
      refine h110 x19 ?_ (fun kx i h => by rw [ff.1 kx i (by unfold CRr CR at h; omega)]; exact fz kx i h) er
      rcases fault_i e19 with ⟨h, h'⟩ | ⟨h, h'⟩
      · rw [h']; exact h
      · rw [h', si_eq]
        rcases hr with hr | hr
        · exact absurd h hr
        · omega
  rcases y with y | y | y | y
  · exact FoQ_.elim
  · replace ex1 := el_l (el_r ex1)
    obtain rfl := Option.some.inj ex1
    obtain ⟨neg, hr, fa⟩ := FoQ_
    dsimp only at ex m2
    rcases io ex with ⟨g, _⟩ | ⟨_, ex⟩
    · have := q_lt g; omega
    obtain rfl := Option.some.inj ex
    refine ⟨n, ?_⟩
    show ZA M2 r.2 n
    rw [m2]
    exact refuse y.2 r.2 (cxA _ _ fa).1 fa.2.1 (refR hr (.inr ⟨y.2, fa⟩)) jr
  rotate_left
  · replace ex1 := el_r (el_r (el_r ex1))
    obtain rfl := Option.some.inj ex1
    obtain ⟨pos, hr, fa⟩ := FoQ_
    dsimp only at ex m2
    have hy : y.1.toInt ≤ 2147483647 := by have := Int32.toInt_le y.1; rw [show Int32.maxValue.toInt = 2147483647 by decide] at this; exact this
    rcases io ex with ⟨g, _⟩ | ⟨_, ex⟩
    · have := q_lt g
      rw [sub_ti om rfl (by omega) (by omega)] at this
      omega
    obtain rfl := Option.some.inj ex
    refine ⟨n, ?_⟩
    show ZA M2 r.2 n
    rw [m2]
    exact refuse y.2 r.2 (cxA _ _ fa).1 fa.2.1 (refR hr (.inr ⟨y.2, fa⟩)) jr
  replace ex1 := el_l (el_r (el_r ex1))
  obtain ⟨j, p, nj, hj, hz, ha, hw, tp, p76, fd, fa⟩ := FoQ_
  have y11 : y.2.1 1 1 = X.1 1 1 := fa.1 1 1 (by omega) (by omega) (by omega) (by omega) (by omega)
  have z15 : z.2.1 162 15 = X.1 1 1 := by rw [fa.2.2.1 162 15 (by omega) (by omega), b15]; exact l.symm
  rcases io ex1 with ⟨c76, ex1⟩ | ⟨c76, ex1⟩
  rotate_left
  · have c7 := q_ng c76
    rw [y11] at c7
    obtain rfl := Option.some.inj ex1
    dsimp only at ex m2
    have k77 : (-77 : Int32).toInt = -77 := rfl
    rcases io ex with ⟨g, _⟩ | ⟨_, ex⟩
    · have := q_lt g; omega
    obtain rfl := Option.some.inj ex
    refine ⟨n, ?_⟩
    show ZA M2 r.2 n
    rw [m2]
    exact refuse y.2 r.2 (cxA _ _ fa).1 fa.2.1 (refR (.inr ⟨by omega, by rw [z15]; omega⟩) (.inr ⟨y.2, fa⟩)) jr
  have c7 := q_le c76
  rw [y11] at c7
  obtain rfl := Option.some.inj ex1
  have lp : (X.1 1 1).toInt ≤ (p : Int) := by
    unfold cx at tp
    by_cases g : ((p : Nat) : Int) < (X.1 1 1).toInt ∧ p < 76
    · rw [if_pos g] at tp
      have := (Jr_2 hJ p).1
      omega
    · omega
  unfold j_Mod_folk_91 at er
  rcases io er with ⟨_, er⟩ | ⟨g, _⟩
  rotate_left
  · have := q_ng g
    rw [z15] at this
    omega
  unfold j_Mod_folk_110 at er
  obtain ⟨y12, ey12, er⟩ := bo er
  rcases fine_i ey12 with ⟨_, h⟩ | ⟨h, _⟩
  · exact absurd hw h
  rw [h, if_neg (by decide)] at er
  obtain ⟨S1, es1, er⟩ := bo er
  obtain ⟨M16, m16, er⟩ := mo er
  obtain ⟨M17, m17, er⟩ := mo er
  obtain rfl := Option.some.inj er
  dsimp only at ex m2
  have jl : (y.1 + (1 : Int32)).toInt = ((j + 1 : Nat) : Int) := add_ti hj o1 (by omega) (by omega)
  rcases io ex with ⟨_, ex⟩ | ⟨g, _⟩
  rotate_left
  · have := q_nl g; omega
  obtain ⟨x3, ex3, ex⟩ := bo ex
  unfold f_Crowd_letIn at ex3
  obtain ⟨P1, p1, ex3⟩ := mo ex3
  obtain ⟨P2, p2, ex3⟩ := mo ex3
  obtain rfl := Option.some.inj ex3
  obtain ⟨x8, ex8, ex⟩ := bo ex
  unfold f_History_forget f_History_spoil at ex
  obtain ⟨k4, ek4, ex⟩ := bo ex
  obtain ⟨K4, p4, ek4⟩ := mo ek4
  obtain rfl := Option.some.inj ek4
  obtain ⟨k5, ek5, ex⟩ := bo ex
  obtain ⟨K5, p5, ek5⟩ := mo ek5
  obtain rfl := Option.some.inj ek5
  obtain rfl := Option.some.inj ex
  -- the class
  have g64 : M2.1 6 4 = R.1 162 4 := by rw [m2, si_ne (by omega), fa.1 6 4 (by omega) (by omega) (by omega) (by omega) (by omega)]; exact zc.2.1
  have g65 : M2.1 6 5 = R.1 162 5 := by rw [m2, si_ne (by omega), fa.1 6 5 (by omega) (by omega) (by omega) (by omega) (by omega)]; exact zc.2.2.1
  have g66 : M2.1 6 6 = y.2.1 6 6 := by rw [m2, si_ne (by omega)]
  have P64 : (P2.1 6 4).toInt = ((n + (j + 1) : Nat) : Int) := by
    rw [p2, si_ne (by omega), p1, si_eq, g64, add_ti zc.1 jl (by omega) (by omega)]; omega
  have P65 : P2.1 6 5 = (R.1 162 5) ||| (y.2.1 6 6) := by
    rw [p2, si_eq, p1, si_ne (by omega), si_ne (by omega), g65, g66]
  have Pf : ∀ kx i, ¬ (kx = 6 ∧ (i = 4 ∨ i = 5)) → ¬ (kx = 1 ∧ i = 1) → P2.1 kx i = y.2.1 kx i := fun kx i h1 h2 => by rw [p2, si_ne (by omega), p1, si_ne (by omega), m2, si_ne h2]
  obtain ⟨cc1, cc2, cc3⟩ := comes_c (n0 := n) (N := n + (j + 1)) (by rw [g64]; exact zc.1) P64 (by omega) (by omega) ex8
  have Kf : ∀ kx i, ¬ (kx = 46 ∧ (i = 2 ∨ i = 3)) → K5.1 kx i = x8.1 kx i := fun kx i h => by rw [p5, si_ne (by omega), p4, si_ne (by omega)]
  have Kq : K5.2 = X.2 := by rw [p5, si_2, p4, si_2, cc3, p2, si_2, p1, si_2, m2, si_2, fa.2.1]
  have Kx : ∀ kx i, kx ≠ 1 → kx ≠ 6 → kx ≠ 9 → ¬ (kx = 7 ∧ 9 * n ≤ i) → ¬ (kx = 8 ∧ n ≤ i) → ¬ ((kx = 12 ∨ kx = 13 ∨ kx = 14) ∧ n ≤ i) → ¬ (kx = 46 ∧ (i = 2 ∨ i = 3)) → K5.1 kx i = X.1 kx i := fun kx i h1 h2 h3 h4 h5 h6 h7 => by
    rw [Kf kx i h7, cc2 kx i h6, Pf kx i (by omega) (by omega)]; exact fa.1 kx i (by omega) h3 (by omega) h4 h5
  -- the reference
  have zn : (z.2.1 162 4).toInt = (n : Int) := by rw [fa.2.2.1 162 4 (by omega) (by omega), bf 162 4 (by omega)]; exact zc.1
  have onM : ∀ lv c, onN M3 lv c ↔ onN R lv c := fun lv c => by rw [onN_c ⟨bf 162 2 (by omega), bf 162 3 (by omega), fun i => bf 164 i (by omega)⟩]
  have wh := awh jR
  have hdd : ∀ i, i < j + 1 → (0 ≤ (z.2.1 170 (12 * i)).toInt ∧ (z.2.1 170 (12 * i)).toInt ≤ 1) ∧ (0 ≤ (z.2.1 170 (12 * i + 1)).toInt ∧ (z.2.1 170 (12 * i + 1)).toInt ≤ 35) ∧ 1 ≤ (z.2.1 170 (12 * i + 2)).toInt ∧ (z.2.1 170 (12 * i + 2)).toInt ≤ 9 := by
    intro i hi
    obtain ⟨_, _, a3, a4, a5, a6, _⟩ := fd.1 i hi
    rw [onM] at a6
    exact ⟨a5, ⟨a6.1, by have := a6.2.1; omega⟩, a3, a4⟩
  obtain ⟨d1, d2, d3, d4, d5, d6⟩ := comes_r (n0 := n) (L := j + 1) hz zn (by omega) hdd es1
  have Sf : ∀ kx i, kx ≠ 170 → ¬ (kx = 162 ∧ (i = 4 ∨ i = 5 ∨ i = 10 ∨ i = 13 ∨ i = 15 ∨ i = 16 ∨ i = 17 ∨ i = 18 ∨ i = 27 ∨ i = 48)) → ¬ (kx = 163 ∧ n ≤ i ∧ i < 80 ∧ ¬ (8 ≤ i ∧ i < 8 + n) ∧ ¬ (∃ p o, p < n ∧ o < n ∧ i = 16 + 8 * p + o)) → ¬ (kx = 165 ∧ 9 * n ≤ i) → ¬ (kx = 166 ∧ n ≤ i) → M17.1 kx i = R.1 kx i := fun kx i h1 h2 h3 h4 h5 => by
    have a1 : ¬ (kx = 162 ∧ i = 48) := by clear h3; omega
    have a2 : ¬ (kx = 162 ∧ i = 27) := by clear h3; omega
    have a3 : ¬ (kx = 162 ∧ (i = 4 ∨ i = 5)) := by clear h3; omega
    have a4 : ¬ (kx = 162 ∧ (i = 17 ∨ i = 18)) := by clear h3; omega
    have a5 : ¬ (kx = 162 ∧ (i = 10 ∨ i = 13 ∨ i = 15 ∨ i = 16 ∨ i = 17 ∨ i = 18)) := by clear h3; omega
    rw [m17, si_ne a1, m16, si_ne a2, d5 kx i a3 h3 h4 h5, fa.2.2.1 kx i h1 a4]; exact bf kx i a5
  have Tf : ∀ kx i, ¬ (kx = 162 ∧ (i = 27 ∨ i = 48)) → M17.1 kx i = S1.1 kx i := fun kx i h => by rw [m17, si_ne (by omega), m16, si_ne (by omega)]
  have g2 : M17.1 162 2 = R.1 162 2 := Sf 162 2 (by omega) (by omega) (by omega) (by omega) (by omega)
  have g3 : M17.1 162 3 = R.1 162 3 := Sf 162 3 (by omega) (by omega) (by omega) (by omega) (by omega)
  have g164 : ∀ i, M17.1 164 i = R.1 164 i := fun i => Sf 164 i (by omega) (by omega) (by omega) (by omega) (by omega)
  have onE : ∀ lv c, onN M17 lv c ↔ onN R lv c := fun lv c => by rw [onN_c ⟨g2, g3, g164⟩]
  have z5 : z.2.1 162 5 = R.1 162 5 := by rw [fa.2.2.1 162 5 (by omega) (by omega)]; exact bf 162 5 (by omega)
  have c6 := zc.2.2.2.2.2
  have bits : ∀ d, bt (M17.1 162 5) d = (bt (R.1 162 5) d || bt (y.2.1 6 6) d) := by
    intro d
    rw [Tf 162 5 (by omega), d4, z5]
    congr 1
    by_cases g : n ≤ d ∧ d < n + (j + 1)
    · obtain ⟨i, hi, rfl⟩ : ∃ i, i < j + 1 ∧ d = n + i := ⟨d - n, by omega, by omega⟩
      rw [(fd.1 i hi).2.2.2.2.2.2.1]
      refine decide_eq_decide.mpr ⟨?_, fun h => ⟨i, hi, rfl, h⟩⟩
      rintro ⟨i', h1, h2, h3⟩
      have : i' = i := by omega
      subst this
      exact h3
    · rw [fd.2 d g]
      refine decide_eq_false ?_
      rintro ⟨i', h1, h2, h3⟩
      omega
  have old : ∀ p, p < n → bt (M17.1 162 5) p = bt (R.1 162 5) p := fun p hp => by
    rw [bits, fd.2 p (by omega), Bool.or_false]
  have lvb : ∀ i, i < j + 1 → (K5.1 13 (n + i)).toInt = (z.2.1 170 (12 * i)).toInt := by
    intro i hi
    obtain ⟨_, _, _, _, a5, _, a7, _⟩ := fd.1 i hi
    rw [Kf 13 _ (by omega), (cc1 (n + i) (by omega) (by omega)).2.1, P65, bt_or, c6 (n + i) (by omega), Bool.false_or, a7]
    by_cases g : (z.2.1 170 (12 * i)).toInt = 1
    · rw [if_pos (decide_eq_true g)]; exact g.symm
    · rw [if_neg (by rw [decide_eq_false g]; decide)]; omega
  have s163 : ∀ i, i < n → M17.1 163 i = R.1 163 i ∧ M17.1 163 (8 + i) = R.1 163 (8 + i) := fun i hi => ⟨Sf 163 i (by omega) (by omega) (by rintro ⟨_, h, _⟩; omega) (by omega) (by omega), Sf 163 (8 + i) (by omega) (by omega) (by rintro ⟨_, _, _, h, _⟩; omega) (by omega) (by omega)⟩
  have smet : ∀ p q, p < n → q < n → M17.1 163 (16 + 8 * p + q) = R.1 163 (16 + 8 * p + q) := fun p q hp hq => Sf 163 _ (by omega) (by omega) (by rintro ⟨_, _, _, _, h⟩; exact h ⟨p, q, hp, hq, rfl⟩) (by omega) (by omega)
  have shi : ∀ i, 80 ≤ i → M17.1 163 i = R.1 163 i := fun i hi => Sf 163 i (by omega) (by omega) (by rintro ⟨_, _, h, _⟩; omega) (by omega) (by omega)
  have scx : ∀ q i, ¬ ((q = 0 ∨ q = 1 ∨ q = 2) ∧ n ≤ i) → scn K5 11 q i = scn X 11 q i := by
    intro q i h
    unfold scn
    by_cases g : q < 6
    · rw [if_pos g, if_pos g]; exact Kx _ _ (by omega) (by omega) (by omega) (by omega) (by omega) (by omega) (by omega)
    · rw [if_neg g, if_neg g]; exact Kx _ _ (by omega) (by omega) (by omega) (by omega) (by omega) (by omega) (by omega)
  obtain ⟨zh, zk⟩ := ZHK_0 (x := K5) (r := M17) (m := n + (j + 1)) za kk big.2 big.1 (by rw [p5, si_ne (by omega), p4, si_eq]) (by rw [p5, si_eq]) (fun i => by rw [Kq]) (fun i => by rw [Kq]) (by rw [m17, si_ne (by omega), m16, si_eq]) (by rw [m17, si_eq, m16, si_ne (by omega), d5 162 48 (by omega) (by omega) (by omega) (by omega), fa.2.2.1 162 48 (by omega) (by omega), bf 162 48 (by omega)]) (fun i => Sf 191 i (by omega) (by omega) (by omega) (by omega) (by omega))
  refine ⟨n + (j + 1), ⟨by omega, jr, ⟨ZG_f (Kx 3 2 (by omega) (by omega) (by omega) (by omega) (by omega) (by omega) (by omega)) (Kx 3 3 (by omega) (by omega) (by omega) (by omega) (by omega) (by omega) (by omega)) (fun i => Kx 4 i (by omega) (by omega) (by omega) (by omega) (by omega) (by omega) (by omega)) g2 g3 g164 zg, ?_, ZL_a (Kx 40 4 (by omega) (by omega) (by omega) (by omega) (by omega) (by omega) (by omega)) (fun i => Kx 41 i (by omega) (by omega) (by omega) (by omega) (by omega) (by omega) (by omega)) (Sf 162 23 (by omega) (by omega) (by omega) (by omega) (by omega)) (fun i => Sf 172 i (by omega) (by omega) (by omega) (by omega) (by omega)) zl⟩, ?_, ?_, ?_⟩, zh, zk⟩
  · -- people
    have n4 : (M17.1 162 4).toInt = ((n + (j + 1) : Nat) : Int) := by rw [Tf 162 4 (by omega)]; exact d1
    refine ⟨n4, ?_, ?_, fun p hp => ?_, fun p i hp hi => ?_, fun p hp => ?_⟩
    · refine Int32.toInt_inj.mp ?_
      show (K5.1 6 4).toInt = _
      rw [n4, Kf 6 4 (by omega), cc2 6 4 (by omega)]; exact P64
    · show K5.1 6 5 = M17.1 162 5
      refine bt_ext (fun d _ => ?_)
      rw [Kf 6 5 (by omega), cc2 6 5 (by omega), P65, bt_or, bits]
    · rcases Nat.lt_or_ge p n with g | g
      · show K5.1 8 p = M17.1 166 p ∧ _
        rw [Kx 8 p (by omega) (by omega) (by omega) (by omega) (by omega) (by omega) (by omega), Sf 166 p (by omega) (by omega) (by omega) (by omega) (by omega)]; exact zc.2.2.2.1 p g
      · obtain ⟨i, hi, rfl⟩ : ∃ i, i < j + 1 ∧ p = n + i := ⟨p - n, by omega, by omega⟩
        show K5.1 8 (n + i) = M17.1 166 (n + i) ∧ _
        rw [Kf 8 _ (by omega), cc2 8 _ (by omega), Pf 8 _ (by omega) (by omega), Tf 166 _ (by omega), (d2 i hi).2.2.1]
        obtain ⟨_, a2, a3, a4, _⟩ := fd.1 i hi
        exact ⟨a2, a3, a4⟩
    · rcases Nat.lt_or_ge p n with g | g
      · show K5.1 7 _ = M17.1 165 _ ∧ _
        rw [Sf 166 p (by omega) (by omega) (by omega) (by omega) (by omega)] at hi
        have h9 := (zc.2.2.2.1 p g).2.2
        rw [Kx 7 _ (by omega) (by omega) (by omega) (by omega) (by omega) (by omega) (by omega), Sf 165 _ (by omega) (by omega) (by omega) (by omega) (by omega)]; exact zc.2.2.2.2.1 p i g hi
      · obtain ⟨q, hq, rfl⟩ : ∃ q, q < j + 1 ∧ p = n + q := ⟨p - n, by omega, by omega⟩
        show K5.1 7 _ = M17.1 165 _ ∧ _
        rw [Tf 166 _ (by omega), (d2 q hq).2.2.1] at hi
        rw [Kf 7 _ (by omega), cc2 7 _ (by omega), Pf 7 _ (by omega) (by omega), Tf 165 _ (by omega), (d2 q hq).2.2.2 i hi]
        obtain ⟨_, _, _, _, _, _, _, a8⟩ := fd.1 q hq
        exact a8 i hi
    · show bt (M17.1 162 5) p = false
      rw [bits, c6 p (by omega), fd.2 p (by omega)]; rfl
  · -- where they are
    obtain ⟨s1, s2, s3, s4, s5, s6, s7, s8⟩ := zs
    refine ⟨fun p hp => ?_, fun p q hp hq => ?_, fun p q h h' ho => ?_, ?_, fun q hq h => ?_, ?_, ?_, ?_⟩
    · show (M17.1 163 p).toInt = _ ∧ _
      rcases Nat.lt_or_ge p n with g | g
      · rw [scx 0 p (by omega), scx 1 p (by omega), scx 2 p (by omega), (s163 p g).1, (s163 p g).2]; exact s1 p g
      · obtain ⟨i, hi, rfl⟩ : ∃ i, i < j + 1 ∧ p = n + i := ⟨p - n, by omega, by omega⟩
        have e0 : scn K5 11 0 (n + i) = z.2.1 170 (12 * i + 1) := by
          show K5.1 12 (n + i) = _
          rw [Kf 12 _ (by omega), (cc1 (n + i) (by omega) (by omega)).1, Pf 9 _ (by omega) (by omega)]; exact (fd.1 i hi).1
        have e1 : (scn K5 11 1 (n + i)).toInt = (z.2.1 170 (12 * i)).toInt := lvb i hi
        have e2 : scn K5 11 2 (n + i) = 0 := by
          show K5.1 14 (n + i) = _
          rw [Kf 14 _ (by omega)]; exact (cc1 (n + i) (by omega) (by omega)).2.2
        obtain ⟨h1, h2, _, _⟩ := hdd i hi
        rw [e0, e1, e2]
        refine ⟨?_, h2.1, h2.2, h1.1, h1.2, ?_⟩
        · rw [Tf 163 _ (by omega), (d2 i hi).1]; omega
        · rw [Tf 163 _ (by omega)]; exact (d2 i hi).2.1
    · show M17.1 163 (16 + 8 * p + q) = _
      rw [scx 3 _ (by omega), scx 3 _ (by omega)]
      by_cases g : p < n ∧ q < n
      · rw [smet p q g.1 g.2]; exact s2 p q g.1 g.2
      · rw [Tf 163 _ (by omega), d3 p q (by omega) (by omega) (by omega), s3 p q (by omega) (by omega) (by omega), s3 q p (by omega) (by omega) (by omega)]; rfl
    · rw [scx 3 _ (by omega)]; exact s3 p q h h' (by omega)
    · show scn K5 11 6 0 = M17.1 163 92
      rw [scx 6 0 (by omega), shi 92 (by omega)]; exact s4
    · show scn K5 11 4 q = M17.1 163 (80 + 2 * q) ∧ scn K5 11 5 q = M17.1 163 (81 + 2 * q)
      rw [show (M17.1 163 92) = R.1 163 92 from shi 92 (by omega)] at h
      rw [scx 4 q (by omega), scx 5 q (by omega), shi _ (by omega), shi _ (by omega)]; exact s5 q hq h
    · show scn K5 11 7 0 = M17.1 163 95
      rw [scx 7 0 (by omega), shi 95 (by omega)]; exact s6
    · show scn K5 11 8 0 = M17.1 163 93
      rw [scx 8 0 (by omega), shi 93 (by omega)]; exact s7
    · show scn K5 11 9 0 = M17.1 163 94
      rw [scx 9 0 (by omega), shi 94 (by omega)]; exact s8
  · obtain ⟨v1, v2, v3, v4⟩ := zv
    refine ⟨fun p hp => ?_, by show _ ∧ _; rw [show (M17.1 163 92) = R.1 163 92 from shi 92 (by omega)]; exact v2, by rw [show (M17.1 163 94) = R.1 163 94 from shi 94 (by omega)]; exact v3, fun q hq => ?_⟩
    · show onP M17 (M17.1 163 p).toInt ∧ (bt (M17.1 162 5) p = false → (M17.1 163 p).toInt < 36) ∧ 0 ≤ (M17.1 163 (8 + p)).toInt ∧ (M17.1 163 (8 + p)).toInt < (M17.1 166 p).toInt
      rcases Nat.lt_or_ge p n with g | g
      · obtain ⟨t1, t2, t3, t4⟩ := v1 p g
        rw [(s163 p g).1, (s163 p g).2, old p g, Sf 166 p (by omega) (by omega) (by omega) (by omega) (by omega)]
        refine ⟨?_, t2, t3, t4⟩
        unfold onP at t1 ⊢
        rw [onE]; exact t1
      · obtain ⟨i, hi, rfl⟩ : ∃ i, i < j + 1 ∧ p = n + i := ⟨p - n, by omega, by omega⟩
        obtain ⟨h1, h2, h3, h4⟩ := hdd i hi
        obtain ⟨_, _, _, _, a5, a6, a7, _⟩ := fd.1 i hi
        rw [onM] at a6
        rw [Tf 163 _ (by omega), Tf 163 (8 + (n + i)) (by omega), Tf 166 _ (by omega), (d2 i hi).1, (d2 i hi).2.1, (d2 i hi).2.2.1, bits, c6 (n + i) (by omega), Bool.false_or, a7, o0]
        refine ⟨⟨by omega, by omega, ?_⟩, fun h => ?_, by omega, by omega⟩
        · rw [onE]
          rw [show (36 * (z.2.1 170 (12 * i)).toInt + (z.2.1 170 (12 * i + 1)).toInt) / 36 = (z.2.1 170 (12 * i)).toInt by omega, show (36 * (z.2.1 170 (12 * i)).toInt + (z.2.1 170 (12 * i + 1)).toInt) % 36 = (z.2.1 170 (12 * i + 1)).toInt by omega]
          exact a6
        · have := of_decide_eq_false h
          omega
    · show onN M17 1 (M17.1 163 (80 + 2 * q)).toInt ∧ onN M17 1 (M17.1 163 (81 + 2 * q)).toInt ∧ ∃ s : Nat, s < 4 ∧ bb (xw M17) (xh M17) (M17.1 163 (80 + 2 * q)).toInt s = (M17.1 163 (81 + 2 * q)).toInt ∧ ¬ onN M17 1 (bes (xw M17) (xh M17) (M17.1 163 (80 + 2 * q)).toInt s)
      have hq' : (q : Int) < (R.1 163 92).toInt := by rw [← shi 92 (by omega)]; exact hq
      have w1 : xw M17 = xw R := congrArg Int32.toInt g2
      have w2 : xh M17 = xh R := congrArg Int32.toInt g3
      rw [shi _ (by omega), shi _ (by omega), onE, onE, w1, w2]
      obtain ⟨a, b, s, s4, e1, e2⟩ := v4 q hq'
      exact ⟨a, b, s, s4, e1, by rw [onE]; exact e2⟩
  · exact ZW_f (fun i => Kx 35 i (by omega) (by omega) (by omega) (by omega) (by omega) (by omega) (by omega)) (fun i => by show K5.2.1 33 i = _; rw [Kq]) (fun i => by show K5.2.1 34 i = _; rw [Kq]) g2 g3 g164 (fun i h1 _ => shi i h1) zv.2.1.2 zw
