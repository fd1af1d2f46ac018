section
/-! the folk comes: the whole command -/
/-- all come: the reference -/
def CmR (A : Mem) (n0 q : Nat) (S : Mem) : Prop := (S.1 162 4).toInt = ((n0 + q : Nat) : Int) ∧ (∀ i, i < q → (S.1 163 (n0 + i)).toInt = 36 * (A.1 170 (12 * i)).toInt + (A.1 170 (12 * i + 1)).toInt ∧ S.1 163 (8 + (n0 + i)) = 0 ∧ S.1 166 (n0 + i) = A.1 170 (12 * i + 2) ∧ ∀ s : Nat, (s : Int) < (A.1 170 (12 * i + 2)).toInt → S.1 165 (9 * (n0 + i) + s) = A.1 170 (12 * i + 3 + s)) ∧ (∀ p o, p < 8 → o < 8 → ((n0 ≤ p ∧ p < n0 + q) ∨ (n0 ≤ o ∧ o < n0 + q)) → S.1 163 (16 + 8 * p + o) = 0) ∧ (∀ d, bt (S.1 162 5) d = (bt (A.1 162 5) d || decide (∃ i, i < q ∧ d = n0 + i ∧ (A.1 170 (12 * i)).toInt = 1))) ∧ (∀ kx j, ¬ (kx = 162 ∧ (j = 4 ∨ j = 5)) → ¬ (kx = 163 ∧ n0 ≤ j ∧ j < 80 ∧ ¬ (8 ≤ j ∧ j < 8 + n0) ∧ ¬ (∃ p o, p < n0 ∧ o < n0 ∧ j = 16 + 8 * p + o)) → ¬ (kx = 165 ∧ 9 * n0 ≤ j) → ¬ (kx = 166 ∧ n0 ≤ j) → S.1 kx j = A.1 kx j) ∧ S.2 = A.2
theorem comes_r {A x : Mem} {v1 : Int32} {n0 L : Nat} (hv : v1.toInt = (L : Int)) (hn : (A.1 162 4).toInt = (n0 : Int)) (n8 : n0 + L ≤ 8) (hd : ∀ i, i < L → (0 ≤ (A.1 170 (12 * i)).toInt ∧ (A.1 170 (12 * i)).toInt ≤ 1) ∧ (0 ≤ (A.1 170 (12 * i + 1)).toInt ∧ (A.1 170 (12 * i + 1)).toInt ≤ 35) ∧ 1 ≤ (A.1 170 (12 * i + 2)).toInt ∧ (A.1 170 (12 * i + 2)).toInt ≤ 9) (e : iter (lb_Mod_folk_126 v1) FU ((0 : Int32), A) = some x) : CmR A n0 L x := by
  have k12 : (12 : Int32).toInt = 12 := rfl
  refine it_r (I := fun s : Int32 × Mem => ∃ q : Nat, s.1.toInt = (q : Int) ∧ q ≤ L ∧ CmR A n0 q s.2) (Q := fun x : Mem => CmR A n0 L x) ?_ e ⟨0, rfl, by omega, by rw [hn]; omega, fun i hi => by omega, fun p o _ _ h => by omega, fun d => ?_, fun _ _ _ _ _ _ => rfl, rfl⟩
  rotate_left
  · have : ¬ ∃ i, i < 0 ∧ d = n0 + i ∧ (A.1 170 (12 * i)).toInt = 1 := by rintro ⟨i, h, _⟩; omega
    rw [decide_eq_false this, Bool.or_false]
  rintro ⟨v, B⟩ r ⟨q, hq, qL, c1, c2, c3, c4, c5, c6⟩ e
  dsimp only at hq c1 c2 c3 c4 c5 c6
  unfold lb_Mod_folk_126 at e
  dsimp only at e
  rcases io e with ⟨c, e⟩ | ⟨c, e⟩
  · have := q_le c
    obtain rfl := Option.some.inj e
    have : q = L := by omega
    subst this
    exact ⟨c1, c2, c3, c4, c5, c6⟩
  have cc := q_ng c
  obtain ⟨x13, e13, e⟩ := bo e
  obtain rfl := Option.some.inj e
  have i12 : ((12 : Int32) * v).toInt = ((12 * q : Nat) : Int) := by rw [mul_ti k12 hq (by omega) (by omega)]; omega
  have f170 : ∀ j, B.1 170 j = A.1 170 j := fun j => c5 170 j (by omega) (by omega) (by omega) (by omega)
  obtain ⟨d1, d2, d3, d4⟩ := hd q (by omega)
  obtain ⟨k, hk⟩ := ti_ofn (show 0 ≤ (A.1 170 (12 * q + 2)).toInt by omega)
  obtain ⟨m1, m2, m3, m4, m5, m6, m7, m8, m9⟩ := come_r (k := k) i12 (by omega) c1 (by omega) (by rw [f170]; exact d1) (by rw [f170]; exact d2) (by rw [f170]; exact hk) (by omega) e13
  rw [f170] at m5
  simp only [f170] at m2 m6 m7
  refine ⟨q + 1, add_ti hq o1 (by omega) (by omega), by omega, by rw [m1]; omega, fun i hi => ?_, fun p o hp ho h => ?_, fun d => ?_, fun kx j g1 g2 g3 g4 => ?_, by rw [m9]; exact c6⟩
  · dsimp only
    rcases Nat.lt_or_ge i q with g | g
    · obtain ⟨a1, a2, a3, a4⟩ := c2 i g
      rw [m8 163 (n0 + i) (by omega) (by rintro ⟨_, h | h | ⟨o, ho, h⟩⟩ <;> omega) (by omega) (by omega), m8 163 (8 + (n0 + i)) (by omega) (by rintro ⟨_, h | h | ⟨o, ho, h⟩⟩ <;> omega) (by omega) (by omega), m8 166 (n0 + i) (by omega) (by omega) (by omega) (by omega)]
      refine ⟨a1, a2, a3, fun s hs => ?_⟩
      obtain ⟨_, _, _, h9⟩ := hd i (by omega)
      rw [m8 165 _ (by omega) (by omega) (by omega) (by omega)]; exact a4 s hs
    · have : i = q := by omega
      subst this
      exact ⟨m2, m3, m5, fun s hs => m6 s (by omega)⟩
  · dsimp only
    by_cases g : p = n0 + q ∨ o = n0 + q
    · rcases g with rfl | rfl
      · exact (m4 o ho).1
      · exact (m4 p hp).2
    · rw [m8 163 _ (by omega) (by rintro ⟨_, h | h | ⟨o', ho', h⟩⟩ <;> omega) (by omega) (by omega)]
      exact c3 p o hp ho (by omega)
  · dsimp only
    rw [m7, c4, Bool.or_assoc]
    congr 1
    rw [← Bool.decide_and, ← Bool.decide_or]
    refine decide_eq_decide.mpr ⟨?_, ?_⟩
    · rintro (⟨i, h1, h2, h3⟩ | ⟨h1, h2⟩)
      · exact ⟨i, by omega, h2, h3⟩
      · exact ⟨q, by omega, h2, h1⟩
    · rintro ⟨i, h1, h2, h3⟩
      rcases Nat.lt_or_ge i q with g | g
      · exact .inl ⟨i, g, h2, h3⟩
      · have : i = q := by omega
        subst this
        exact .inr ⟨h3, h2⟩
  · dsimp only
    rw [m8 kx j g1 ?_ (by omega) (by omega)]
    · exact c5 kx j g1 g2 g3 g4
    · rintro ⟨h, h'⟩
      refine g2 ⟨h, ?_⟩
      rcases h' with h' | h' | ⟨o, ho, h' | h'⟩
      · exact ⟨by omega, by omega, by omega, by rintro ⟨p, o, h1, h2, h3⟩; omega⟩
      · exact ⟨by omega, by omega, by omega, by rintro ⟨p, o, h1, h2, h3⟩; omega⟩
      · exact ⟨by omega, by omega, by omega, by rintro ⟨p, o, h1, h2, h3⟩; omega⟩
      · exact ⟨by omega, by omega, by omega, by rintro ⟨p, o, h1, h2, h3⟩; omega⟩
theorem folk_2 {X R : Mem} {n : Nat} {x r : Int32 × Mem} (za : ZA X R n) (kk : KK R) (big : 0 ≤ (R.1 162 48).toInt ∧ (R.1 162 48).toInt ≤ 2000000) (hJ : J X) (tx : cx X 76 = rx R 76) (l : X.1 1 1 = R.1 162 10) (hb : ∀ p : Nat, (p : Int) < (R.1 162 10).toInt → -128 ≤ (R.1 167 p).toInt ∧ (R.1 167 p).toInt ≤ 127) (jr : J r.2) (ex : f_Top_folk X = some x) (er : f_Mod_folk R = some r) : ∃ m, ZA x.2 r.2 m := by
  have l2 := Jr_162_10 za.1.2.1
  have hl : (X.1 1 1).toInt ≤ 80 := by rw [l]; exact l2.2
  have zq := za.1
  obtain ⟨n8, jR, ⟨zg, zc, zl⟩, zs, zv, zw⟩ := zq
  have z0 := o0
  have ym := om
  have k76 : (76 : Int32).toInt = 76 := rfl
  unfold f_Mod_folk at er
  obtain ⟨M1, m1, er⟩ := mo er
  obtain ⟨x2, e2, er⟩ := bo er
  obtain ⟨M3, m3, er⟩ := mo er
  obtain ⟨rd, b15, b17, b18, bf, bq, bq2⟩ := beg_i (K := 76) rfl l2.2 hb m1 e2 m3
  have rfz : ∀ kx i, CRr kx i → M3.1 kx i = R.1 kx i := fun kx i h => bf kx i (by unfold CRr CR at h; omega)
  unfold f_Top_folk at ex
  obtain ⟨x1, ex1, ex⟩ := bo ex
  obtain ⟨M2, m2, ex⟩ := mo ex
  unfold f_Crowd_read at ex1
  -- both refuse
  have refuse : ∀ (A : Mem) (S : Mem), (∀ kx i, CXr kx i → A.1 kx i = X.1 kx i ∨ (kx = 7 ∧ 9 * n ≤ i) ∨ (kx = 8 ∧ n ≤ i)) → A.2 = X.2 → (∀ kx i, CRr kx i → S.1 kx i = R.1 kx i) → J S → ZA (s_i A 1 1 (0 : Int32)) S n := by
    intro A S hA qA hS jS
    have fA : ∀ kx i, CXr kx i → ¬ (kx = 7 ∧ 9 * n ≤ i) → ¬ (kx = 8 ∧ n ≤ i) → (s_i A 1 1 (0 : Int32)).1 kx i = X.1 kx i := fun kx i h h1 h2 => by
      rw [si_ne (by unfold CXr CX at h; omega)]
      rcases hA kx i h with g | g | g
      · exact g
      · exact absurd g h1
      · exact absurd g h2
    -- a memory with the old rows, so that the old relation holds of it
    let A0 : Mem := (fun kx i => if kx = 7 then X.1 7 i else if kx = 8 then X.1 8 i else (s_i A 1 1 (0 : Int32)).1 kx i, A.2)
    have za0 : ZA A0 S n := ZA_z za jS (fun kx i h => by
      show (if kx = 7 then X.1 7 i else if kx = 8 then X.1 8 i else (s_i A 1 1 (0 : Int32)).1 kx i) = X.1 kx i
      by_cases g7 : kx = 7
      · rw [if_pos g7, g7]
      by_cases g8 : kx = 8
      · rw [if_neg g7, if_pos g8, g8]
      · rw [if_neg g7, if_neg g8]; exact fA kx i h (by omega) (by omega)) (fun i => by show A.2.1 33 i = _; rw [qA]) (fun i => by show A.2.1 34 i = _; rw [qA]) (fun i => by show A.2.2 47 i = _; rw [qA]) (fun i => by show A.2.2 48 i = _; rw [qA]) hS
    obtain ⟨⟨k8, jS', ⟨yg, yc, yl⟩, ys, yv, yw⟩, yh, yk⟩ := za0
    have eq0 : ∀ kx i, kx ≠ 7 → kx ≠ 8 → A0.1 kx i = (s_i A 1 1 (0 : Int32)).1 kx i := fun kx i h1 h2 => by
      show (if kx = 7 then X.1 7 i else if kx = 8 then X.1 8 i else (s_i A 1 1 (0 : Int32)).1 kx i) = _
      rw [if_neg h1, if_neg h2]
    have yc' : ZC (s_i A 1 1 (0 : Int32)) S n := by
      obtain ⟨c1, c2, c3, c4, c5, c6⟩ := yc
      refine ⟨c1, by rw [← eq0 6 4 (by omega) (by omega)]; exact c2, by rw [← eq0 6 5 (by omega) (by omega)]; exact c3, fun p hp => ?_, fun p i hp hi => ?_, c6⟩
      · have := c4 p hp
        rw [fA 8 p (by unfold CXr CX; omega) (by omega) (by omega)]; exact this
      · have h9 := (c4 p hp).2.2
        have := c5 p i hp hi
        rw [fA 7 _ (by unfold CXr CX; omega) (by omega) (by omega)]; exact this
    refine ⟨⟨k8, jS', ⟨ZG_f (eq0 3 2 (by omega) (by omega)).symm (eq0 3 3 (by omega) (by omega)).symm (fun i => (eq0 4 i (by omega) (by omega)).symm) rfl rfl (fun _ => rfl) yg, yc', ZL_a (eq0 40 4 (by omega) (by omega)).symm (fun i => (eq0 41 i (by omega) (by omega)).symm) rfl (fun _ => rfl) yl⟩, ZS_c k8 (scn_f (fun kx i h1 h2 => (eq0 kx i (by omega) (by omega)).symm)) (fun _ _ => rfl) ys, yv, ZW_f (fun i => (eq0 35 i (by omega) (by omega)).symm) (fun _ => rfl) (fun _ => rfl) rfl rfl (fun _ => rfl) (fun _ _ _ => rfl) yv.2.1.2 yw⟩, ZH_a k8 (eq0 46 2 (by omega) (by omega)).symm (fun kx i h1 h2 => (eq0 kx i (by omega) (by omega)).symm) (fun _ => rfl) AgR_r rfl (fun _ => rfl) yh, ZK_a k8 (eq0 46 3 (by omega) (by omega)).symm (fun kx i h1 h2 => (eq0 kx i (by omega) (by omega)).symm) (fun _ => rfl) AgR_r rfl (fun _ => rfl) (fun _ => rfl) (fun _ => rfl) yk⟩
  rcases io ex1 with ⟨c, ex1⟩ | ⟨c, ex1⟩
  · obtain rfl := Option.some.inj ex1
    have cc := q_eq c
    dsimp only at ex m2
    rcases io ex with ⟨g, _⟩ | ⟨_, ex⟩
    · have := q_lt g; omega
    obtain rfl := Option.some.inj ex
    rcases io er with ⟨_, er⟩ | ⟨g, _⟩
    rotate_left
    · have := q_ne g
      rw [b15, ← l] at this
      omega
    obtain rfl := Option.some.inj er
    refine ⟨n, ?_⟩
    show ZA M2 M3 n
    rw [m2]
    exact refuse X M3 (fun kx i _ => .inl rfl) rfl rfz jr
  have cc := q_ne c
  obtain ⟨X1, x1e, ex1⟩ := mo ex1
  obtain ⟨y, ey, ex1⟩ := bo ex1
  rcases io er with ⟨g, _⟩ | ⟨_, er⟩
  · have := q_eq g
    rw [b15, ← l] at this
    omega
  obtain ⟨z, ez, er⟩ := bo er
  have zgM : ZG X M3 := ZG_f rfl rfl (fun _ => rfl) (bf 162 2 (by omega)) (bf 162 3 (by omega)) (fun i => bf 164 i (by omega)) zg
  have jM3 : J M3 := by
    have j1 : J M1 := by rw [m1]; exact Jw_fld okf_162_13 jR _
    have q10 : M1.1 162 10 = R.1 162 10 := by rw [m1, si_ne (by omega)]
    have j2 := some_of (sp_begin j1 167 (M1.1 162 10) (76 : Int32) (.inl ⟨rfl, by rw [q10]; exact l2.1, by rw [q10]; exact l2.2, by omega, by omega⟩)) e2
    rw [m3]; exact Jw_162_10 j2.1.1 _ (by decide) (by decide)
  rw [← tx] at rd
  have FoQ_ := folk_l (n0 := n) zgM jM3 (by rw [bf 162 4 (by omega)]; exact zc.2.1) (by rw [bf 162 4 (by omega)]; exact zc.1) n8 hl rd b17 b18 (by rw [b15]; exact l.symm) x1e ey ez
  have cxA : ∀ A S, FoA X M3 n A S → (∀ kx i, CXr kx i → A.1 kx i = X.1 kx i ∨ (kx = 7 ∧ 9 * n ≤ i) ∨ (kx = 8 ∧ n ≤ i)) ∧ (∀ kx i, CRr kx i → S.1 kx i = R.1 kx i) := by
    intro A S fa
    refine ⟨fun kx i h => ?_, fun kx i h => ?_⟩
    · by_cases g7 : kx = 7 ∧ 9 * n ≤ i
      · exact .inr (.inl g7)
      by_cases g8 : kx = 8 ∧ n ≤ i
      · exact .inr (.inr g8)
      · exact .inl (fa.1 kx i (by unfold CXr CX at h; omega) (by unfold CXr CX at h; omega) (by unfold CXr CX at h; omega) g7 g8)
    · rw [fa.2.2.1 kx i (by unfold CRr CR at h; omega) (by unfold CRr CR at h; omega)]; exact rfz kx i h
  -- the reference refuses
  have refR : RFu z.2 → FoA X M3 n X z.2 ∨ (∃ A, FoA X M3 n A z.2) → ∀ kx i, CRr kx i → r.2.1 kx i = R.1 kx i := by
    intro hr hfa
    have fz : ∀ kx i, CRr kx i → z.2.1 kx i = R.1 kx i := by
      rcases hfa with h | ⟨A, h⟩
      · exact (cxA _ _ h).2
      · exact (cxA _ _ h).2
    have h110 : ∀ S : Mem, (S.1 162 18).toInt ≠ -1 → (∀ kx i, CRr kx i → S.1 kx i = R.1 kx i) → j_Mod_folk_110 z.1 S = some r → ∀ kx i, CRr kx i → r.2.1 kx i = R.1 kx i := by
      intro S hS hf e
      unfold j_Mod_folk_110 at e
      obtain ⟨y12, e12, e⟩ := bo e
      rcases fine_i e12 with ⟨g, _⟩ | ⟨_, g⟩
      · rw [g, if_pos rfl] at e
        obtain rfl := Option.some.inj e
        exact hf
      · exact absurd g hS
    unfold j_Mod_folk_91 at er
    rcases io er with ⟨g, er⟩ | ⟨g, er⟩
    · have := q_le g
      rcases hr with h | h
      · exact h110 z.2 h fz er
      · omega
    · have gg := q_ng g
      obtain ⟨x19, e19, er⟩ := bo er
      have ff := fault_f e19
      refine h110 x19 ?_ (fun kx i h => by rw [ff.1 kx i (by unfold CRr CR at h; omega)]; exact fz kx i h) er
      rcases fault_i e19 with ⟨h, h'⟩ | ⟨h, h'⟩
      · rw [h']; exact h
      · rw [h', si_eq]
        rcases hr with hr | hr
        · exact absurd h hr
        · omega
  rcases y with y | y | y | y
  · exact FoQ_.elim
  · replace ex1 := el_l (el_r ex1)
    obtain rfl := Option.some.inj ex1
    obtain ⟨neg, hr, fa⟩ := FoQ_
    dsimp only at ex m2
    rcases io ex with ⟨g, _⟩ | ⟨_, ex⟩
    · have := q_lt g; omega
    obtain rfl := Option.some.inj ex
    refine ⟨n, ?_⟩
    show ZA M2 r.2 n
    rw [m2]
    exact refuse y.2 r.2 (cxA _ _ fa).1 fa.2.1 (refR hr (.inr ⟨y.2, fa⟩)) jr
  rotate_left
  · replace ex1 := el_r (el_r (el_r ex1))
    obtain rfl := Option.some.inj ex1
    obtain ⟨pos, hr, fa⟩ := FoQ_
    dsimp only at ex m2
    have hy : y.1.toInt ≤ 2147483647 := by have := Int32.toInt_le y.1; rw [show Int32.maxValue.toInt = 2147483647 by decide] at this; exact this
    rcases io ex with ⟨g, _⟩ | ⟨_, ex⟩
    · have := q_lt g
      rw [sub_ti om rfl (by omega) (by omega)] at this
      omega
    obtain rfl := Option.some.inj ex
    refine ⟨n, ?_⟩
    show ZA M2 r.2 n
    rw [m2]
    exact refuse y.2 r.2 (cxA _ _ fa).1 fa.2.1 (refR hr (.inr ⟨y.2, fa⟩)) jr
  replace ex1 := el_l (el_r (el_r ex1))
  obtain ⟨j, p, nj, hj, hz, ha, hw, tp, p76, fd, fa⟩ := FoQ_
  have y11 : y.2.1 1 1 = X.1 1 1 := fa.1 1 1 (by omega) (by omega) (by omega) (by omega) (by omega)
  have z15 : z.2.1 162 15 = X.1 1 1 := by rw [fa.2.2.1 162 15 (by omega) (by omega), b15]; exact l.symm
  rcases io ex1 with ⟨c76, ex1⟩ | ⟨c76, ex1⟩
  rotate_left
  · have c7 := q_ng c76
    rw [y11] at c7
    obtain rfl := Option.some.inj ex1
    dsimp only at ex m2
    have k77 : (-77 : Int32).toInt = -77 := rfl
    rcases io ex with ⟨g, _⟩ | ⟨_, ex⟩
    · have := q_lt g; omega
    obtain rfl := Option.some.inj ex
    refine ⟨n, ?_⟩
    show ZA M2 r.2 n
    rw [m2]
    exact refuse y.2 r.2 (cxA _ _ fa).1 fa.2.1 (refR (.inr ⟨by omega, by rw [z15]; omega⟩) (.inr ⟨y.2, fa⟩)) jr
  have c7 := q_le c76
  rw [y11] at c7
  obtain rfl := Option.some.inj ex1
  have lp : (X.1 1 1).toInt ≤ (p : Int) := by
    unfold cx at tp
    by_cases g : ((p : Nat) : Int) < (X.1 1 1).toInt ∧ p < 76
    · rw [if_pos g] at tp
      have := (Jr_2 hJ p).1
      omega
    · omega
  unfold j_Mod_folk_91 at er
  rcases io er with ⟨_, er⟩ | ⟨g, _⟩
  rotate_left
  · have := q_ng g
    rw [z15] at this
    omega
  unfold j_Mod_folk_110 at er
  obtain ⟨y12, ey12, er⟩ := bo er
  rcases fine_i ey12 with ⟨_, h⟩ | ⟨h, _⟩
  · exact absurd hw h
  rw [h, if_neg (by decide)] at er
  obtain ⟨S1, es1, er⟩ := bo er
  obtain ⟨M16, m16, er⟩ := mo er
  obtain ⟨M17, m17, er⟩ := mo er
  obtain rfl := Option.some.inj er
  dsimp only at ex m2
  have jl : (y.1 + (1 : Int32)).toInt = ((j + 1 : Nat) : Int) := add_ti hj o1 (by omega) (by omega)
  rcases io ex with ⟨_, ex⟩ | ⟨g, _⟩
  rotate_left
  · have := q_nl g; omega
  obtain ⟨x3, ex3, ex⟩ := bo ex
  unfold f_Crowd_letIn at ex3
  obtain ⟨P1, p1, ex3⟩ := mo ex3
  obtain ⟨P2, p2, ex3⟩ := mo ex3
  obtain rfl := Option.some.inj ex3
  obtain ⟨x8, ex8, ex⟩ := bo ex
  unfold f_History_forget f_History_spoil at ex
  obtain ⟨k4, ek4, ex⟩ := bo ex
  obtain ⟨K4, p4, ek4⟩ := mo ek4
  obtain rfl := Option.some.inj ek4
  obtain ⟨k5, ek5, ex⟩ := bo ex
  obtain ⟨K5, p5, ek5⟩ := mo ek5
  obtain rfl := Option.some.inj ek5
  obtain rfl := Option.some.inj ex
  -- the class
  have g64 : M2.1 6 4 = R.1 162 4 := by rw [m2, si_ne (by omega), fa.1 6 4 (by omega) (by omega) (by omega) (by omega) (by omega)]; exact zc.2.1
  have g65 : M2.1 6 5 = R.1 162 5 := by rw [m2, si_ne (by omega), fa.1 6 5 (by omega) (by omega) (by omega) (by omega) (by omega)]; exact zc.2.2.1
  have g66 : M2.1 6 6 = y.2.1 6 6 := by rw [m2, si_ne (by omega)]
  have P64 : (P2.1 6 4).toInt = ((n + (j + 1) : Nat) : Int) := by
    rw [p2, si_ne (by omega), p1, si_eq, g64, add_ti zc.1 jl (by omega) (by omega)]; omega
  have P65 : P2.1 6 5 = (R.1 162 5) ||| (y.2.1 6 6) := by
    rw [p2, si_eq, p1, si_ne (by omega), si_ne (by omega), g65, g66]
  have Pf : ∀ kx i, ¬ (kx = 6 ∧ (i = 4 ∨ i = 5)) → ¬ (kx = 1 ∧ i = 1) → P2.1 kx i = y.2.1 kx i := fun kx i h1 h2 => by rw [p2, si_ne (by omega), p1, si_ne (by omega), m2, si_ne h2]
  obtain ⟨cc1, cc2, cc3⟩ := comes_c (n0 := n) (N := n + (j + 1)) (by rw [g64]; exact zc.1) P64 (by omega) (by omega) ex8
  have Kf : ∀ kx i, ¬ (kx = 46 ∧ (i = 2 ∨ i = 3)) → K5.1 kx i = x8.1 kx i := fun kx i h => by rw [p5, si_ne (by omega), p4, si_ne (by omega)]
  have Kq : K5.2 = X.2 := by rw [p5, si_2, p4, si_2, cc3, p2, si_2, p1, si_2, m2, si_2, fa.2.1]
  have Kx : ∀ kx i, kx ≠ 1 → kx ≠ 6 → kx ≠ 9 → ¬ (kx = 7 ∧ 9 * n ≤ i) → ¬ (kx = 8 ∧ n ≤ i) → ¬ ((kx = 12 ∨ kx = 13 ∨ kx = 14) ∧ n ≤ i) → ¬ (kx = 46 ∧ (i = 2 ∨ i = 3)) → K5.1 kx i = X.1 kx i := fun kx i h1 h2 h3 h4 h5 h6 h7 => by
    rw [Kf kx i h7, cc2 kx i h6, Pf kx i (by omega) (by omega)]; exact fa.1 kx i (by omega) h3 (by omega) h4 h5
  -- the reference
  have zn : (z.2.1 162 4).toInt = (n : Int) := by rw [fa.2.2.1 162 4 (by omega) (by omega), bf 162 4 (by omega)]; exact zc.1
  have onM : ∀ lv c, onN M3 lv c ↔ onN R lv c := fun lv c => by rw [onN_c ⟨bf 162 2 (by omega), bf 162 3 (by omega), fun i => bf 164 i (by omega)⟩]
  have wh := awh jR
  have hdd : ∀ i, i < j + 1 → (0 ≤ (z.2.1 170 (12 * i)).toInt ∧ (z.2.1 170 (12 * i)).toInt ≤ 1) ∧ (0 ≤ (z.2.1 170 (12 * i + 1)).toInt ∧ (z.2.1 170 (12 * i + 1)).toInt ≤ 35) ∧ 1 ≤ (z.2.1 170 (12 * i + 2)).toInt ∧ (z.2.1 170 (12 * i + 2)).toInt ≤ 9 := by
    intro i hi
    obtain ⟨_, _, a3, a4, a5, a6, _⟩ := fd.1 i hi
    rw [onM] at a6
    exact ⟨a5, ⟨a6.1, by have := a6.2.1; omega⟩, a3, a4⟩
  obtain ⟨d1, d2, d3, d4, d5, d6⟩ := comes_r (n0 := n) (L := j + 1) hz zn (by omega) hdd es1
  have Sf : ∀ kx i, kx ≠ 170 → ¬ (kx = 162 ∧ (i = 4 ∨ i = 5 ∨ i = 10 ∨ i = 13 ∨ i = 15 ∨ i = 16 ∨ i = 17 ∨ i = 18 ∨ i = 27 ∨ i = 48)) → ¬ (kx = 163 ∧ n ≤ i ∧ i < 80 ∧ ¬ (8 ≤ i ∧ i < 8 + n) ∧ ¬ (∃ p o, p < n ∧ o < n ∧ i = 16 + 8 * p + o)) → ¬ (kx = 165 ∧ 9 * n ≤ i) → ¬ (kx = 166 ∧ n ≤ i) → M17.1 kx i = R.1 kx i := fun kx i h1 h2 h3 h4 h5 => by
    have a1 : ¬ (kx = 162 ∧ i = 48) := by clear h3; omega
    have a2 : ¬ (kx = 162 ∧ i = 27) := by clear h3; omega
    have a3 : ¬ (kx = 162 ∧ (i = 4 ∨ i = 5)) := by clear h3; omega
    have a4 : ¬ (kx = 162 ∧ (i = 17 ∨ i = 18)) := by clear h3; omega
    have a5 : ¬ (kx = 162 ∧ (i = 10 ∨ i = 13 ∨ i = 15 ∨ i = 16 ∨ i = 17 ∨ i = 18)) := by clear h3; omega
    rw [m17, si_ne a1, m16, si_ne a2, d5 kx i a3 h3 h4 h5, fa.2.2.1 kx i h1 a4]; exact bf kx i a5
  have Tf : ∀ kx i, ¬ (kx = 162 ∧ (i = 27 ∨ i = 48)) → M17.1 kx i = S1.1 kx i := fun kx i h => by rw [m17, si_ne (by omega), m16, si_ne (by omega)]
  have g2 : M17.1 162 2 = R.1 162 2 := Sf 162 2 (by omega) (by omega) (by omega) (by omega) (by omega)
  have g3 : M17.1 162 3 = R.1 162 3 := Sf 162 3 (by omega) (by omega) (by omega) (by omega) (by omega)
  have g164 : ∀ i, M17.1 164 i = R.1 164 i := fun i => Sf 164 i (by omega) (by omega) (by omega) (by omega) (by omega)
  have onE : ∀ lv c, onN M17 lv c ↔ onN R lv c := fun lv c => by rw [onN_c ⟨g2, g3, g164⟩]
  have z5 : z.2.1 162 5 = R.1 162 5 := by rw [fa.2.2.1 162 5 (by omega) (by omega)]; exact bf 162 5 (by omega)
  have c6 := zc.2.2.2.2.2
  have bits : ∀ d, bt (M17.1 162 5) d = (bt (R.1 162 5) d || bt (y.2.1 6 6) d) := by
    intro d
    rw [Tf 162 5 (by omega), d4, z5]
    congr 1
    by_cases g : n ≤ d ∧ d < n + (j + 1)
    · obtain ⟨i, hi, rfl⟩ : ∃ i, i < j + 1 ∧ d = n + i := ⟨d - n, by omega, by omega⟩
      rw [(fd.1 i hi).2.2.2.2.2.2.1]
      refine decide_eq_decide.mpr ⟨?_, fun h => ⟨i, hi, rfl, h⟩⟩
      rintro ⟨i', h1, h2, h3⟩
      have : i' = i := by omega
      subst this
      exact h3
    · rw [fd.2 d g]
      refine decide_eq_false ?_
      rintro ⟨i', h1, h2, h3⟩
      omega
  have old : ∀ p, p < n → bt (M17.1 162 5) p = bt (R.1 162 5) p := fun p hp => by
    rw [bits, fd.2 p (by omega), Bool.or_false]
  have lvb : ∀ i, i < j + 1 → (K5.1 13 (n + i)).toInt = (z.2.1 170 (12 * i)).toInt := by
    intro i hi
    obtain ⟨_, _, _, _, a5, _, a7, _⟩ := fd.1 i hi
    rw [Kf 13 _ (by omega), (cc1 (n + i) (by omega) (by omega)).2.1, P65, bt_or, c6 (n + i) (by omega), Bool.false_or, a7]
    by_cases g : (z.2.1 170 (12 * i)).toInt = 1
    · rw [if_pos (decide_eq_true g)]; exact g.symm
    · rw [if_neg (by rw [decide_eq_false g]; decide)]; omega
  have s163 : ∀ i, i < n → M17.1 163 i = R.1 163 i ∧ M17.1 163 (8 + i) = R.1 163 (8 + i) := fun i hi => ⟨Sf 163 i (by omega) (by omega) (by rintro ⟨_, h, _⟩; omega) (by omega) (by omega), Sf 163 (8 + i) (by omega) (by omega) (by rintro ⟨_, _, _, h, _⟩; omega) (by omega) (by omega)⟩
  have smet : ∀ p q, p < n → q < n → M17.1 163 (16 + 8 * p + q) = R.1 163 (16 + 8 * p + q) := fun p q hp hq => Sf 163 _ (by omega) (by omega) (by rintro ⟨_, _, _, _, h⟩; exact h ⟨p, q, hp, hq, rfl⟩) (by omega) (by omega)
  have shi : ∀ i, 80 ≤ i → M17.1 163 i = R.1 163 i := fun i hi => Sf 163 i (by omega) (by omega) (by rintro ⟨_, _, h, _⟩; omega) (by omega) (by omega)
  have scx : ∀ q i, ¬ ((q = 0 ∨ q = 1 ∨ q = 2) ∧ n ≤ i) → scn K5 11 q i = scn X 11 q i := by
    intro q i h
    unfold scn
    by_cases g : q < 6
    · rw [if_pos g, if_pos g]; exact Kx _ _ (by omega) (by omega) (by omega) (by omega) (by omega) (by omega) (by omega)
    · rw [if_neg g, if_neg g]; exact Kx _ _ (by omega) (by omega) (by omega) (by omega) (by omega) (by omega) (by omega)
  obtain ⟨zh, zk⟩ := ZHK_0 (x := K5) (r := M17) (m := n + (j + 1)) za kk big.2 big.1 (by rw [p5, si_ne (by omega), p4, si_eq]) (by rw [p5, si_eq]) (fun i => by rw [Kq]) (fun i => by rw [Kq]) (by rw [m17, si_ne (by omega), m16, si_eq]) (by rw [m17, si_eq, m16, si_ne (by omega), d5 162 48 (by omega) (by omega) (by omega) (by omega), fa.2.2.1 162 48 (by omega) (by omega), bf 162 48 (by omega)]) (fun i => Sf 191 i (by omega) (by omega) (by omega) (by omega) (by omega))
  refine ⟨n + (j + 1), ⟨by omega, jr, ⟨ZG_f (Kx 3 2 (by omega) (by omega) (by omega) (by omega) (by omega) (by omega) (by omega)) (Kx 3 3 (by omega) (by omega) (by omega) (by omega) (by omega) (by omega) (by omega)) (fun i => Kx 4 i (by omega) (by omega) (by omega) (by omega) (by omega) (by omega) (by omega)) g2 g3 g164 zg, ?_, ZL_a (Kx 40 4 (by omega) (by omega) (by omega) (by omega) (by omega) (by omega) (by omega)) (fun i => Kx 41 i (by omega) (by omega) (by omega) (by omega) (by omega) (by omega) (by omega)) (Sf 162 23 (by omega) (by omega) (by omega) (by omega) (by omega)) (fun i => Sf 172 i (by omega) (by omega) (by omega) (by omega) (by omega)) zl⟩, ?_, ?_, ?_⟩, zh, zk⟩
  · -- people
    have n4 : (M17.1 162 4).toInt = ((n + (j + 1) : Nat) : Int) := by rw [Tf 162 4 (by omega)]; exact d1
    refine ⟨n4, ?_, ?_, fun p hp => ?_, fun p i hp hi => ?_, fun p hp => ?_⟩
    · refine Int32.toInt_inj.mp ?_
      show (K5.1 6 4).toInt = _
      rw [n4, Kf 6 4 (by omega), cc2 6 4 (by omega)]; exact P64
    · show K5.1 6 5 = M17.1 162 5
      refine bt_ext (fun d _ => ?_)
      rw [Kf 6 5 (by omega), cc2 6 5 (by omega), P65, bt_or, bits]
    · rcases Nat.lt_or_ge p n with g | g
      · show K5.1 8 p = M17.1 166 p ∧ _
        rw [Kx 8 p (by omega) (by omega) (by omega) (by omega) (by omega) (by omega) (by omega), Sf 166 p (by omega) (by omega) (by omega) (by omega) (by omega)]; exact zc.2.2.2.1 p g
      · obtain ⟨i, hi, rfl⟩ : ∃ i, i < j + 1 ∧ p = n + i := ⟨p - n, by omega, by omega⟩
        show K5.1 8 (n + i) = M17.1 166 (n + i) ∧ _
        rw [Kf 8 _ (by omega), cc2 8 _ (by omega), Pf 8 _ (by omega) (by omega), Tf 166 _ (by omega), (d2 i hi).2.2.1]
        obtain ⟨_, a2, a3, a4, _⟩ := fd.1 i hi
        exact ⟨a2, a3, a4⟩
    · rcases Nat.lt_or_ge p n with g | g
      · show K5.1 7 _ = M17.1 165 _ ∧ _
        rw [Sf 166 p (by omega) (by omega) (by omega) (by omega) (by omega)] at hi
        have h9 := (zc.2.2.2.1 p g).2.2
        rw [Kx 7 _ (by omega) (by omega) (by omega) (by omega) (by omega) (by omega) (by omega), Sf 165 _ (by omega) (by omega) (by omega) (by omega) (by omega)]; exact zc.2.2.2.2.1 p i g hi
      · obtain ⟨q, hq, rfl⟩ : ∃ q, q < j + 1 ∧ p = n + q := ⟨p - n, by omega, by omega⟩
        show K5.1 7 _ = M17.1 165 _ ∧ _
        rw [Tf 166 _ (by omega), (d2 q hq).2.2.1] at hi
        rw [Kf 7 _ (by omega), cc2 7 _ (by omega), Pf 7 _ (by omega) (by omega), Tf 165 _ (by omega), (d2 q hq).2.2.2 i hi]
        obtain ⟨_, _, _, _, _, _, _, a8⟩ := fd.1 q hq
        exact a8 i hi
    · show bt (M17.1 162 5) p = false
      rw [bits, c6 p (by omega), fd.2 p (by omega)]; rfl
  · -- where they are
    obtain ⟨s1, s2, s3, s4, s5, s6, s7, s8⟩ := zs
    refine ⟨fun p hp => ?_, fun p q hp hq => ?_, fun p q h h' ho => ?_, ?_, fun q hq h => ?_, ?_, ?_, ?_⟩
    · show (M17.1 163 p).toInt = _ ∧ _
      rcases Nat.lt_or_ge p n with g | g
      · rw [scx 0 p (by omega), scx 1 p (by omega), scx 2 p (by omega), (s163 p g).1, (s163 p g).2]; exact s1 p g
      · obtain ⟨i, hi, rfl⟩ : ∃ i, i < j + 1 ∧ p = n + i := ⟨p - n, by omega, by omega⟩
        have e0 : scn K5 11 0 (n + i) = z.2.1 170 (12 * i + 1) := by
          show K5.1 12 (n + i) = _
          rw [Kf 12 _ (by omega), (cc1 (n + i) (by omega) (by omega)).1, Pf 9 _ (by omega) (by omega)]; exact (fd.1 i hi).1
        have e1 : (scn K5 11 1 (n + i)).toInt = (z.2.1 170 (12 * i)).toInt := lvb i hi
        have e2 : scn K5 11 2 (n + i) = 0 := by
          show K5.1 14 (n + i) = _
          rw [Kf 14 _ (by omega)]; exact (cc1 (n + i) (by omega) (by omega)).2.2
        obtain ⟨h1, h2, _, _⟩ := hdd i hi
        rw [e0, e1, e2]
        refine ⟨?_, h2.1, h2.2, h1.1, h1.2, ?_⟩
        · rw [Tf 163 _ (by omega), (d2 i hi).1]; omega
        · rw [Tf 163 _ (by omega)]; exact (d2 i hi).2.1
    · show M17.1 163 (16 + 8 * p + q) = _
      rw [scx 3 _ (by omega), scx 3 _ (by omega)]
      by_cases g : p < n ∧ q < n
      · rw [smet p q g.1 g.2]; exact s2 p q g.1 g.2
      · rw [Tf 163 _ (by omega), d3 p q (by omega) (by omega) (by omega), s3 p q (by omega) (by omega) (by omega), s3 q p (by omega) (by omega) (by omega)]; rfl
    · rw [scx 3 _ (by omega)]; exact s3 p q h h' (by omega)
    · show scn K5 11 6 0 = M17.1 163 92
      rw [scx 6 0 (by omega), shi 92 (by omega)]; exact s4
    · show scn K5 11 4 q = M17.1 163 (80 + 2 * q) ∧ scn K5 11 5 q = M17.1 163 (81 + 2 * q)
      rw [show (M17.1 163 92) = R.1 163 92 from shi 92 (by omega)] at h
      rw [scx 4 q (by omega), scx 5 q (by omega), shi _ (by omega), shi _ (by omega)]; exact s5 q hq h
    · show scn K5 11 7 0 = M17.1 163 95
      rw [scx 7 0 (by omega), shi 95 (by omega)]; exact s6
    · show scn K5 11 8 0 = M17.1 163 93
      rw [scx 8 0 (by omega), shi 93 (by omega)]; exact s7
    · show scn K5 11 9 0 = M17.1 163 94
      rw [scx 9 0 (by omega), shi 94 (by omega)]; exact s8
  · obtain ⟨v1, v2, v3, v4⟩ := zv
    refine ⟨fun p hp => ?_, by show _ ∧ _; rw [show (M17.1 163 92) = R.1 163 92 from shi 92 (by omega)]; exact v2, by rw [show (M17.1 163 94) = R.1 163 94 from shi 94 (by omega)]; exact v3, fun q hq => ?_⟩
    · show onP M17 (M17.1 163 p).toInt ∧ (bt (M17.1 162 5) p = false → (M17.1 163 p).toInt < 36) ∧ 0 ≤ (M17.1 163 (8 + p)).toInt ∧ (M17.1 163 (8 + p)).toInt < (M17.1 166 p).toInt
      rcases Nat.lt_or_ge p n with g | g
      · obtain ⟨t1, t2, t3, t4⟩ := v1 p g
        rw [(s163 p g).1, (s163 p g).2, old p g, Sf 166 p (by omega) (by omega) (by omega) (by omega) (by omega)]
        refine ⟨?_, t2, t3, t4⟩
        unfold onP at t1 ⊢
        rw [onE]; exact t1
      · obtain ⟨i, hi, rfl⟩ : ∃ i, i < j + 1 ∧ p = n + i := ⟨p - n, by omega, by omega⟩
        obtain ⟨h1, h2, h3, h4⟩ := hdd i hi
        obtain ⟨_, _, _, _, a5, a6, a7, _⟩ := fd.1 i hi
        rw [onM] at a6
        rw [Tf 163 _ (by omega), Tf 163 (8 + (n + i)) (by omega), Tf 166 _ (by omega), (d2 i hi).1, (d2 i hi).2.1, (d2 i hi).2.2.1, bits, c6 (n + i) (by omega), Bool.false_or, a7, o0]
        refine ⟨⟨by omega, by omega, ?_⟩, fun h => ?_, by omega, by omega⟩
        · rw [onE]
          rw [show (36 * (z.2.1 170 (12 * i)).toInt + (z.2.1 170 (12 * i + 1)).toInt) / 36 = (z.2.1 170 (12 * i)).toInt by omega, show (36 * (z.2.1 170 (12 * i)).toInt + (z.2.1 170 (12 * i + 1)).toInt) % 36 = (z.2.1 170 (12 * i + 1)).toInt by omega]
          exact a6
        · have := of_decide_eq_false h
          omega
    · show onN M17 1 (M17.1 163 (80 + 2 * q)).toInt ∧ onN M17 1 (M17.1 163 (81 + 2 * q)).toInt ∧ ∃ s : Nat, s < 4 ∧ bb (xw M17) (xh M17) (M17.1 163 (80 + 2 * q)).toInt s = (M17.1 163 (81 + 2 * q)).toInt ∧ ¬ onN M17 1 (bes (xw M17) (xh M17) (M17.1 163 (80 + 2 * q)).toInt s)
      have hq' : (q : Int) < (R.1 163 92).toInt := by rw [← shi 92 (by omega)]; exact hq
      have w1 : xw M17 = xw R := congrArg Int32.toInt g2
      have w2 : xh M17 = xh R := congrArg Int32.toInt g3
      rw [shi _ (by omega), shi _ (by omega), onE, onE, w1, w2]
      obtain ⟨a, b, s, s4, e1, e2⟩ := v4 q hq'
      exact ⟨a, b, s, s4, e1, by rw [onE]; exact e2⟩
  · exact ZW_f (fun i => Kx 35 i (by omega) (by omega) (by omega) (by omega) (by omega) (by omega) (by omega)) (fun i => by show K5.2.1 33 i = _; rw [Kq]) (fun i => by show K5.2.1 34 i = _; rw [Kq]) g2 g3 g164 (fun i h1 _ => shi i h1) zv.2.1.2 zw
end
section
/-! acts of an evening: both readers -/
def a1 (t : Nat → Int) (p : Nat) : Nat := dgn t 2 (p + 1)
def a2 (t : Nat → Int) (p : Nat) : Nat := dgn t 2 (p + 2 + a1 t p)
def aOk (t : Nat → Int) (p : Nat) : Prop := t p = 102 ∨ t p = 120 ∨ (t p = 109 ∧ 0 < a1 t p) ∨ (t p = 110 ∧ 97 ≤ t (p + 1) ∧ t (p + 1) ≤ 104) ∨ (t p = 112 ∧ 0 < a1 t p ∧ t (p + 1 + a1 t p) = 45 ∧ 0 < a2 t p)
def aNx (t : Nat → Int) (p : Nat) : Nat := if t p = 109 then p + 1 + a1 t p else if t p = 110 then p + 2 else if t p = 112 then p + 2 + a1 t p + a2 t p else p + 1
def aBd (t : Nat → Int) (p : Nat) : Nat := if t p = 109 then p + 1 else if t p = 110 then p + 1 else if t p = 112 then (if a1 t p = 0 then p + 1 else if t (p + 1 + a1 t p) = 45 then p + 2 + a1 t p else p + 1 + a1 t p) else p
def aV1 (t : Nat → Int) (p : Nat) : Int := if t p = 110 then t (p + 1) - 97 else dgv t 2 (p + 1) 0
def aV2 (t : Nat → Int) (p : Nat) : Int := dgv t 2 (p + 2 + a1 t p) 0
def AcX (t : Nat → Int) (p : Nat) (k o q : Int) : Prop := k = t p ∧ ((t p = 109 ∨ t p = 110 ∨ t p = 112) → o = aV1 t p) ∧ (t p = 112 → q = aV2 t p)
theorem cx_lt {A : Mem} {K p : Nat} (h : cx A K p ≠ -1) : p < K ∧ (p : Int) < (A.1 1 1).toInt := by
  unfold cx at h
  by_cases g : (p : Int) < (A.1 1 1).toInt ∧ p < K
  · exact ⟨g.2, g.1⟩
  · exact absurd (if_neg g) h
theorem add_a {A x : Mem} {v1 v2 v3 : Int32} {j : Nat} (hj : (A.1 147 3).toInt = (j : Int)) (j32 : j < 32) (e : f_Acts_add v1 v2 v3 A = some x) : x.1 148 j = v1 ∧ x.1 149 j = v2 ∧ x.1 150 j = v3 ∧ (x.1 147 3).toInt = ((j + 1 : Nat) : Int) ∧ (∀ kx i, ¬ ((kx = 148 ∨ kx = 149 ∨ kx = 150) ∧ i = j) → ¬ (kx = 147 ∧ i = 3) → x.1 kx i = A.1 kx i) ∧ x.2 = A.2 := by
  have z0 := o0
  have k32 : (32 : Int32).toInt = 32 := rfl
  unfold f_Acts_add at e
  rcases io e with ⟨c, _⟩ | ⟨_, e⟩
  · have := q_lt c; omega
  rcases io e with ⟨c, _⟩ | ⟨_, e⟩
  · have := q_le c; omega
  obtain ⟨_, e⟩ := io_n e
  obtain ⟨M1, m1, e⟩ := mo e
  rw [q_nat hj] at m1
  have j1 : M1.1 147 3 = A.1 147 3 := by rw [m1, si_ne (by omega)]
  rw [j1, q_nat hj] at e
  obtain ⟨_, e⟩ := io_n e
  obtain ⟨M2, m2, e⟩ := mo e
  have j2 : M2.1 147 3 = A.1 147 3 := by rw [m2, si_ne (by omega), j1]
  rw [j2, q_nat hj] at e
  obtain ⟨_, e⟩ := io_n e
  obtain ⟨M3, m3, e⟩ := mo e
  have j3 : M3.1 147 3 = A.1 147 3 := by rw [m3, si_ne (by omega), j2]
  obtain ⟨M4, m4, e⟩ := mo e
  obtain rfl := Option.some.inj e
  refine ⟨?_, ?_, ?_, ?_, fun kx i h1 h2 => ?_, ?_⟩
  · rw [m4, si_ne (by omega), m3, si_ne (by omega), m2, si_ne (by omega), m1, si_eq]
  · rw [m4, si_ne (by omega), m3, si_ne (by omega), m2, si_eq]
  · rw [m4, si_ne (by omega), m3, si_eq]
  · rw [m4, si_eq, j3]; exact add_ti hj o1 (by omega) (by omega)
  · rw [m4, si_ne h2, m3, si_ne (by omega), m2, si_ne (by omega), m1, si_ne (by omega)]
  · rw [m4, si_2, m3, si_2, m2, si_2, m1, si_2]
def AfX (A x : Mem) (j : Nat) : Prop := (∀ kx i, ¬ ((kx = 148 ∨ kx = 149 ∨ kx = 150) ∧ i = j) → ¬ (kx = 147 ∧ i = 3) → ¬ (kx = 1 ∧ i = 2) → x.1 kx i = A.1 kx i) ∧ x.2 = A.2
theorem act_c {A : Mem} (hl : (A.1 1 1).toInt ≤ 80) {v : Int32} {p j : Nat} (hp : v.toInt = (p : Int)) (p80 : p ≤ 80) (hj : (A.1 147 3).toInt = (j : Int)) (j32 : j < 32) {x} (e : f_Acts_readAct v A = some x) : AfX A x.2 j ∧ ((aOk (cx A 60) p ∧ x.1.toInt = (aNx (cx A 60) p : Int) ∧ (x.2.1 147 3).toInt = ((j + 1 : Nat) : Int) ∧ AcX (cx A 60) p (x.2.1 148 j).toInt (x.2.1 149 j).toInt (x.2.1 150 j).toInt) ∨ (¬ aOk (cx A 60) p ∧ x.1.toInt = -1 - (aBd (cx A 60) p : Int))) := by
  have z0 := o0
  have ym := om
  have y1 := o1
  have k60 : (60 : Int32).toInt = ((60 : Nat) : Int) := rfl
  have k102 : (102 : Int32).toInt = 102 := rfl
  have k109 : (109 : Int32).toInt = 109 := rfl
  have k110 : (110 : Int32).toInt = 110 := rfl
  have k112 : (112 : Int32).toInt = 112 := rfl
  have k120 : (120 : Int32).toInt = 120 := rfl
  have k97 : (97 : Int32).toInt = 97 := rfl
  have k104 : (104 : Int32).toInt = 104 := rfl
  have k45 : (45 : Int32).toInt = 45 := rfl
  have km2 : (-2 : Int32).toInt = -2 := rfl
  generalize ht : cx A 60 = t at *
  have a1l : a1 t p ≤ 2 := dgn_le _ 2 (p + 1)
  have a2l : a2 t p ≤ 2 := dgn_le _ 2 _
  have p1 : (v + (1 : Int32)).toInt = ((p + 1 : Nat) : Int) := add_ti hp o1 (by omega) (by omega)
  have AfR : AfX A A j := ⟨fun _ _ _ _ _ => rfl, rfl⟩
  have AfA : ∀ {B y : Mem} {w1 w2 w3 : Int32}, AfX A B j → B.1 147 3 = A.1 147 3 → f_Acts_add w1 w2 w3 B = some y → AfX A y j := by
    intro B y w1 w2 w3 h hB e
    obtain ⟨_, _, _, _, f, q⟩ := add_a (j := j) (by rw [hB]; exact hj) j32 e
    exact ⟨fun kx i g1 g2 g3 => by rw [f kx i g1 g2]; exact h.1 kx i g1 g2 g3, by rw [q]; exact h.2⟩
  unfold f_Acts_readAct at e
  obtain ⟨s1, es1, e⟩ := bo e
  have hs := at_i (K := 60) hp k60 hl es1
  rw [ht] at hs
  -- one sign
  have one : (t p = 102 ∨ t p = 120) → ∀ y, f_Acts_add s1 (0 : Int32) (0 : Int32) A = some y → x = (v + (1 : Int32), y) → AfX A x.2 j ∧ ((aOk t p ∧ x.1.toInt = (aNx t p : Int) ∧ (x.2.1 147 3).toInt = ((j + 1 : Nat) : Int) ∧ AcX t p (x.2.1 148 j).toInt (x.2.1 149 j).toInt (x.2.1 150 j).toInt) ∨ (¬ aOk t p ∧ x.1.toInt = -1 - (aBd t p : Int))) := by
    rintro hk y ey rfl
    have F := AfA AfR rfl ey
    obtain ⟨b1, b2, b3, b4, _, _⟩ := add_a hj j32 ey
    refine ⟨F, .inl ⟨by unfold aOk; omega, ?_, b4, ?_⟩⟩
    · show (v + (1 : Int32)).toInt = _
      rw [p1]; unfold aNx; rw [if_neg (by omega), if_neg (by omega), if_neg (by omega)]
    · refine ⟨by rw [b1]; exact hs, fun h => by omega, fun h => by omega⟩
  rcases io e with ⟨c, e⟩ | ⟨c, e⟩
  · have := q_eq c
    obtain ⟨y, ey, e⟩ := bo e
    exact one (by omega) y ey (Option.some.inj e).symm
  have n1 := q_ne c
  rcases io e with ⟨c, e⟩ | ⟨c, e⟩
  · have := q_eq c
    obtain ⟨y, ey, e⟩ := bo e
    exact one (by omega) y ey (Option.some.inj e).symm
  have n2 := q_ne c
  rcases io e with ⟨c, e⟩ | ⟨c, e⟩
  · have cc := q_eq c
    have tp : t p = 109 := by omega
    obtain ⟨x5, e5, e⟩ := bo e
    have e := Option.some.inj e
    have p76 : p < 60 := (cx_lt (A := A) (K := 60) (p := p) (by rw [ht, tp]; decide)).1
    unfold f_Acts_readNumber at e5
    obtain ⟨y1', ey1, e5⟩ := bo e5
    obtain ⟨d1, d2, d3, d4, d5⟩ := dig_i (K := 60) (n := 2) hl p1 k60 rfl (by omega) (by omega) ey1
    rw [ht] at d2 d3
    have dq := dig_q ey1
    have AfD : AfX A y1'.2 j := ⟨fun kx i _ _ g => d1 kx i g, dq⟩
    rcases io e5 with ⟨c, e5⟩ | ⟨c, e5⟩
    · have c0 := q_eq c
      obtain rfl := Option.some.inj e5
      subst e
      refine ⟨AfD, .inr ⟨fun h => ?_, ?_⟩⟩
      · unfold aOk a1 at h; omega
      · show ((-1 : Int32) - (v + (1 : Int32))).toInt = _
        rw [sub_ti om p1 (by omega) (by omega)]; unfold aBd; rw [if_pos tp]
    · have c0 := q_ne c
      obtain ⟨y2, ey2, e5⟩ := bo e5
      obtain rfl := Option.some.inj e5
      subst e
      have h147 : y1'.2.1 147 3 = A.1 147 3 := d1 147 3 (by omega)
      have F := AfA AfD h147 ey2
      obtain ⟨b1, b2, b3, b4, _, _⟩ := add_a (j := j) (by rw [h147]; exact hj) j32 ey2
      have pos : 0 < a1 t p := by unfold a1; omega
      refine ⟨F, .inl ⟨by unfold aOk; omega, ?_, b4, ?_⟩⟩
      · show ((v + (1 : Int32)) + y1'.1).toInt = _
        rw [add_ti p1 d2 (by unfold a1 at a1l; omega) (by unfold a1 at a1l; omega)]; unfold aNx; rw [if_pos tp]; unfold a1; omega
      · refine ⟨by rw [b1]; omega, fun _ => ?_, fun h => by omega⟩
        rw [b2, d3]; unfold aV1; rw [if_neg (by omega)]
  have n3 := q_ne c
  rcases io e with ⟨c, e⟩ | ⟨c, e⟩
  · have cc := q_eq c
    have tp : t p = 110 := by omega
    obtain ⟨x7, e7, e⟩ := bo e
    have e := Option.some.inj e
    have p76 : p < 60 := (cx_lt (A := A) (K := 60) (p := p) (by rw [ht, tp]; decide)).1
    unfold f_Acts_readLetter at e7
    obtain ⟨y1', ey1, e7⟩ := bo e7
    have hy := at_i (K := 60) p1 k60 hl ey1
    rw [ht] at hy
    have bad : ¬ (97 ≤ t (p + 1) ∧ t (p + 1) ≤ 104) → x = ((-1 : Int32) - (v + (1 : Int32)), A) → AfX A x.2 j ∧ ((aOk t p ∧ x.1.toInt = (aNx t p : Int) ∧ (x.2.1 147 3).toInt = ((j + 1 : Nat) : Int) ∧ AcX t p (x.2.1 148 j).toInt (x.2.1 149 j).toInt (x.2.1 150 j).toInt) ∨ (¬ aOk t p ∧ x.1.toInt = -1 - (aBd t p : Int))) := by
      rintro hn rfl
      refine ⟨AfR, .inr ⟨fun h => ?_, ?_⟩⟩
      · unfold aOk at h; omega
      · show ((-1 : Int32) - (v + (1 : Int32))).toInt = _
        rw [sub_ti om p1 (by omega) (by omega)]; unfold aBd; rw [if_neg (by omega), if_pos tp]
    rcases io e7 with ⟨c, e7⟩ | ⟨c, e7⟩
    · have c0 := q_lt c
      obtain rfl := Option.some.inj e7
      exact bad (by omega) e.symm
    have c0 := q_nl c
    rcases io e7 with ⟨c, e7⟩ | ⟨c, e7⟩
    · have c1 := q_le c
      obtain ⟨y2, ey2, e7⟩ := bo e7
      obtain rfl := Option.some.inj e7
      subst e
      have F := AfA AfR rfl ey2
      obtain ⟨b1, b2, b3, b4, _, _⟩ := add_a hj j32 ey2
      refine ⟨F, .inl ⟨by unfold aOk; omega, ?_, b4, ?_⟩⟩
      · show ((v + (1 : Int32)) + (1 : Int32)).toInt = _
        rw [add_ti p1 o1 (by omega) (by omega)]; unfold aNx; rw [if_neg (by omega), if_pos tp]; omega
      · refine ⟨by rw [b1]; omega, fun _ => ?_, fun h => by omega⟩
        rw [b2, sub_ti hy k97 (by omega) (by omega)]; unfold aV1; rw [if_pos tp]
    · have c1 := q_ng c
      obtain rfl := Option.some.inj e7
      exact bad (by omega) e.symm
  have n4 := q_ne c
  rcases io e with ⟨c, e⟩ | ⟨c, e⟩
  · have cc := q_eq c
    have tp : t p = 112 := by omega
    obtain ⟨x9, e9, e⟩ := bo e
    have e := Option.some.inj e
    have p76 : p < 60 := (cx_lt (A := A) (K := 60) (p := p) (by rw [ht, tp]; decide)).1
    unfold f_Acts_readPlank at e9
    obtain ⟨y1', ey1, e9⟩ := bo e9
    obtain ⟨d1, d2, d3, d4, d5⟩ := dig_i (K := 60) (n := 2) hl p1 k60 rfl (by omega) (by omega) ey1
    rw [ht] at d2 d3
    have dq := dig_q ey1
    have AfD : AfX A y1'.2 j := ⟨fun kx i _ _ g => d1 kx i g, dq⟩
    have da : y1'.1.toInt = (a1 t p : Int) := d2
    have dash : ((v + (1 : Int32)) + y1'.1).toInt = ((p + 1 + a1 t p : Nat) : Int) := by rw [add_ti p1 da (by omega) (by omega)]; omega
    rcases io e9 with ⟨c, e9⟩ | ⟨c, e9⟩
    · have c0 := q_eq c
      obtain rfl := Option.some.inj e9
      subst e
      refine ⟨AfD, .inr ⟨fun h => ?_, ?_⟩⟩
      · unfold aOk at h; omega
      · show ((-1 : Int32) - ((v + (1 : Int32)) + y1'.1)).toInt = _
        rw [sub_ti om dash (by omega) (by omega)]; unfold aBd; rw [if_neg (by omega), if_neg (by omega), if_pos tp, if_pos (by omega)]; omega
    have c0 := q_ne c
    obtain ⟨y2, ey2, e9⟩ := bo e9
    have l2 : (y1'.2.1 1 1).toInt ≤ 80 := by rw [d1 1 1 (by omega)]; exact hl
    have cx1 : cx y1'.2 60 = t := by rw [← ht]; exact cx_c (d1 1 1 (by omega)) (fun i => d1 2 i (by omega)) 60
    have hy2 := at_i (K := 60) dash k60 l2 ey2
    rw [cx1] at hy2
    rcases io e9 with ⟨c, e9⟩ | ⟨c, e9⟩
    · have c1 := q_eq c
      have td : t (p + 1 + a1 t p) = 45 := by omega
      have p77 : p + 1 + a1 t p < 60 := by
        have : cx A 60 (p + 1 + a1 t p) ≠ -1 := by rw [ht]; omega
        exact (cx_lt this).1
      obtain ⟨y3, ey3, e9⟩ := bo e9
      have dash1 : (((v + (1 : Int32)) + y1'.1) + (1 : Int32)).toInt = ((p + 2 + a1 t p : Nat) : Int) := by rw [add_ti dash o1 (by omega) (by omega)]; omega
      obtain ⟨g1, g2, g3, g4, g5⟩ := dig_i (K := 60) (n := 2) l2 dash1 k60 rfl (by omega) (by omega) ey3
      rw [cx1] at g2 g3
      have gq := dig_q ey3
      have ga : y3.1.toInt = (a2 t p : Int) := g2
      have AfG : AfX A y3.2 j := ⟨fun kx i h1 h2 g => by rw [g1 kx i g]; exact d1 kx i g, by rw [gq, dq]⟩
      rcases io e9 with ⟨c, e9⟩ | ⟨c, e9⟩
      · have c2 := q_eq c
        obtain rfl := Option.some.inj e9
        subst e
        refine ⟨AfG, .inr ⟨fun h => ?_, ?_⟩⟩
        · unfold aOk at h; omega
        · show ((-2 : Int32) - ((v + (1 : Int32)) + y1'.1)).toInt = _
          rw [sub_ti km2 dash (by omega) (by omega)]; unfold aBd; rw [if_neg (by omega), if_neg (by omega), if_pos tp, if_neg (by omega), if_pos td]; omega
      · have c2 := q_ne c
        obtain ⟨y4, ey4, e9⟩ := bo e9
        obtain rfl := Option.some.inj e9
        subst e
        have h147 : y3.2.1 147 3 = A.1 147 3 := by rw [g1 147 3 (by omega)]; exact d1 147 3 (by omega)
        have F := AfA AfG h147 ey4
        obtain ⟨b1, b2, b3, b4, _, _⟩ := add_a (j := j) (by rw [h147]; exact hj) j32 ey4
        refine ⟨F, .inl ⟨by unfold aOk; omega, ?_, b4, ?_⟩⟩
        · show ((((v + (1 : Int32)) + y1'.1) + (1 : Int32)) + y3.1).toInt = _
          rw [add_ti dash1 ga (by omega) (by omega)]; unfold aNx; rw [if_neg (by omega), if_neg (by omega), if_pos tp]; omega
        · refine ⟨by rw [b1]; omega, fun _ => ?_, fun _ => ?_⟩
          · rw [b2, d3]; unfold aV1; rw [if_neg (by omega)]
          · rw [b3, g3]; rfl
    · have c1 := q_ne c
      obtain rfl := Option.some.inj e9
      subst e
      refine ⟨AfD, .inr ⟨fun h => ?_, ?_⟩⟩
      · unfold aOk at h; omega
      · show ((-1 : Int32) - ((v + (1 : Int32)) + y1'.1)).toInt = _
        rw [sub_ti om dash (by omega) (by omega)]; unfold aBd; rw [if_neg (by omega), if_neg (by omega), if_pos tp, if_neg (by omega), if_neg (by omega)]
  have n5 := q_ne c
  obtain rfl := Option.some.inj e
  refine ⟨AfR, .inr ⟨fun h => ?_, ?_⟩⟩
  · unfold aOk at h; omega
  · show ((-1 : Int32) - v).toInt = _
    rw [sub_ti om hp (by omega) (by omega)]; unfold aBd; rw [if_neg (by omega), if_neg (by omega), if_neg (by omega)]
end
section
/-! acts of an evening: the reference's reader -/
def AfR (A x : Mem) (j : Nat) : Prop := (∀ kx i, ¬ (kx = 175 ∧ 3 * j ≤ i ∧ i < 3 * j + 3) → ¬ (kx = 162 ∧ (i = 17 ∨ i = 18)) → x.1 kx i = A.1 kx i) ∧ x.2 = A.2
theorem AfR_t {A B C : Mem} {j : Nat} (h : AfR A B j) (g : AfR B C j) : AfR A C j := ⟨fun kx i a b => (g.1 kx i a b).trans (h.1 kx i a b), g.2.trans h.2⟩
theorem AfR_s {A B : Mem} {j i : Nat} {v : Int32} (hi : 3 * j ≤ i ∧ i < 3 * j + 3) (e : B = s_i A 175 i v) : AfR A B j := ⟨fun kx k a b => by rw [e, si_ne (by omega)], by rw [e, si_2]⟩
theorem AfR_17 {A B : Mem} {j : Nat} {v : Int32} (e : B = s_i A 162 17 v) : AfR A B j := ⟨fun kx k a b => by rw [e, si_ne (by omega)], by rw [e, si_2]⟩
theorem AfR_f {A B : Mem} {j : Nat} (h : (∀ kx i, ¬ (kx = 162 ∧ (i = 17 ∨ i = 18)) → B.1 kx i = A.1 kx i) ∧ B.2 = A.2) : AfR A B j := ⟨fun kx i _ b => h.1 kx i b, h.2⟩
theorem Rd_a {t : Nat → Int} {A B : Mem} {j : Nat} (h : Rd t A) (f : AfR A B j) : Rd t B := Rd_f h (by rw [f.2]) (f.1 162 15 (by omega) (by omega)) (f.1 162 16 (by omega) (by omega)) (fun i => f.1 167 i (by omega) (by omega)) (fun i => f.1 172 i (by omega) (by omega))
def AoR (t : Nat → Int) (p j : Nat) (x : Mem) : Prop := (aOk t p ∧ (x.1 162 18).toInt = -1 ∧ (x.1 162 17).toInt = (aNx t p : Int) ∧ AcX t p (x.1 175 (3 * j)).toInt (x.1 175 (3 * j + 1)).toInt (x.1 175 (3 * j + 2)).toInt) ∨ (¬ aOk t p ∧ (x.1 162 18).toInt = (aBd t p : Int))
theorem act_r {t : Nat → Int} {A : Mem} (hA : Rd t A) {v1 : Int32} {p j : Nat} (h1 : v1.toInt = ((3 * j : Nat) : Int)) (j32 : j ≤ 70) (hp : (A.1 162 17).toInt = (p : Int)) (p80 : p ≤ 80) (hw : (A.1 162 18).toInt = -1) {x} (e : f_Mod_readAct v1 A = some x) : AfR A x j ∧ AoR t p j x := by
  have z0 := o0
  have ym := om
  have k102 : (102 : Int32).toInt = 102 := rfl
  have k109 : (109 : Int32).toInt = 109 := rfl
  have k110 : (110 : Int32).toInt = 110 := rfl
  have k112 : (112 : Int32).toInt = 112 := rfl
  have k120 : (120 : Int32).toInt = 120 := rfl
  have k97 : (97 : Int32).toInt = 97 := rfl
  have k104 : (104 : Int32).toInt = 104 := rfl
  have k45 : (45 : Int32).toInt = 45 := rfl
  have a1l : a1 t p ≤ 2 := dgn_le _ 2 (p + 1)
  have a2l : a2 t p ≤ 2 := dgn_le _ 2 _
  have i1 : (v1 + (1 : Int32)).toInt = ((3 * j + 1 : Nat) : Int) := add_ti h1 o1 (by omega) (by omega)
  have i2 : (v1 + (2 : Int32)).toInt = ((3 * j + 2 : Nat) : Int) := add_ti h1 o2 (by omega) (by omega)
  -- the last piece: a letter
  have s110 : ∀ (v2 : Int32) (B : Mem), v2 ≠ 110 → j_Mod_readAct_110 v1 v2 B = some x → x = B := by
    intro v2 B hv e
    unfold j_Mod_readAct_110 at e
    rw [if_neg hv] at e
    exact (Option.some.inj e).symm
  have s85 : ∀ (v2 : Int32) (B : Mem), v2 ≠ 110 → v2 ≠ 112 → j_Mod_readAct_85 v1 v2 B = some x → x = B := by
    intro v2 B hv hv2 e
    unfold j_Mod_readAct_85 at e
    rw [if_neg hv2] at e
    exact s110 v2 B hv e
  -- the head of an act
  have s43 : ∀ (v2 : Int32) (B : Mem), AfR A B j → (B.1 162 17).toInt = (p : Int) → ((v2.toInt = t p ∧ (t p = 109 ∨ t p = 110 ∨ t p = 112 ∨ t p = 120 ∨ t p = 102) ∧ (B.1 162 18).toInt = -1) ∨ ((¬ aOk t p ∧ aBd t p = p ∧ v2 ≠ 109 ∧ v2 ≠ 110 ∧ v2 ≠ 112) ∧ (B.1 162 18).toInt = (p : Int))) → j_Mod_readAct_43 v1 v2 B = some x → AfR A x j ∧ AoR t p j x := by
    intro v2 B fB hat hcase e
    unfold j_Mod_readAct_43 at e
    obtain ⟨M2, m2, e⟩ := mo e
    obtain ⟨_, e⟩ := io_n e
    obtain ⟨M3, m3, e⟩ := mo e
    rw [q_nat h1] at m3
    have f3 : AfR A M3 j := AfR_t fB (AfR_t (AfR_17 m2) (AfR_s (by omega) m3))
    have w3 : M3.1 162 18 = B.1 162 18 := by rw [m3, si_ne (by omega), m2, si_ne (by omega)]
    have c3 : M3.1 175 (3 * j) = v2 := by rw [m3, si_eq]
    rcases hcase with ⟨hv, hk, hw3⟩ | ⟨⟨n1, n2, n3, n4, n5⟩, hw3⟩
    rotate_left
    · rw [if_neg n3, if_neg n5] at e
      have := s85 v2 M3 n4 n5 e
      subst this
      exact ⟨f3, .inr ⟨n1, by rw [w3, n2]; exact hw3⟩⟩
    have p79 : p < 80 := (Rd_rng hA p).2.2 (by omega)
    have r3 : Rd t M3 := Rd_a hA f3
    have a3 : (M3.1 162 17).toInt = ((p + 1 : Nat) : Int) := by rw [m3, si_ne (by omega), m2, si_eq]; exact add_ti hat o1 (by omega) (by omega)
    have w3' : (M3.1 162 18).toInt = -1 := by rw [w3]; exact hw3
    have num : ∀ x4 : Int32 × Mem, f_Mod_number (2 : Int32) M3 = some x4 → ∀ M5, M5 = s_i x4.2 175 (3 * j + 1) x4.1 → AfR A M5 j ∧ M5.1 175 (3 * j) = v2 ∧ (M5.1 175 (3 * j + 1)).toInt = dgv t 2 (p + 1) 0 ∧ (M5.1 162 17).toInt = ((p + 1 + a1 t p : Nat) : Int) ∧ ((a1 t p = 0 ∧ (M5.1 162 18).toInt = ((p + 1 : Nat) : Int)) ∨ (0 < a1 t p ∧ (M5.1 162 18).toInt = -1)) := by
      intro x4 e4 M5 m5
      obtain ⟨_, n2, _, _, n5, n6⟩ := number_i (K := 2) r3 (by omega) rfl a3 (by omega) w3' e4
      have nf := number_f e4
      refine ⟨AfR_t f3 (AfR_t (AfR_f nf) (AfR_s (by omega) m5)), ?_, ?_, ?_, ?_⟩
      · rw [m5, si_ne (by omega), nf.1 175 _ (by omega)]; exact c3
      · rw [m5, si_eq]; exact n2
      · rw [m5, si_ne (by omega)]; exact n5
      · rw [m5, si_ne (by omega)]; exact n6
    rcases io e with ⟨c, e⟩ | ⟨c, e⟩
    · -- minutes
      have cc := q_eq c
      have tp : t p = 109 := by omega
      unfold j_Mod_readAct_72 at e
      obtain ⟨x4, e4, e⟩ := bo e
      obtain ⟨_, e⟩ := io_n e
      obtain ⟨M5, m5, e⟩ := mo e
      rw [q_nat i1] at m5
      obtain ⟨u1, u2, u3, u4, u5⟩ := num x4 e4 M5 m5
      have := s85 v2 M5 (fun h => by rw [h] at c; exact absurd c (by decide)) (fun h => by rw [h] at c; exact absurd c (by decide)) e
      subst this
      refine ⟨u1, ?_⟩
      rcases u5 with ⟨d0, w⟩ | ⟨d0, w⟩
      · exact .inr ⟨fun h => by unfold aOk at h; omega, by rw [w]; unfold aBd; rw [if_pos tp]⟩
      · exact .inl ⟨by unfold aOk; omega, w, by rw [u4]; unfold aNx; rw [if_pos tp], by rw [u2]; exact hv, fun _ => by rw [u3]; unfold aV1; rw [if_neg (by omega)], fun h => by omega⟩
    have c1 := q_ne c
    rcases io e with ⟨c, e⟩ | ⟨c, e⟩
    · -- a plank
      have cc := q_eq c
      have tp : t p = 112 := by omega
      have nv : v2 ≠ 110 := fun h => by rw [h] at c; exact absurd c (by decide)
      unfold j_Mod_readAct_72 at e
      obtain ⟨x4, e4, e⟩ := bo e
      obtain ⟨_, e⟩ := io_n e
      obtain ⟨M5, m5, e⟩ := mo e
      rw [q_nat i1] at m5
      obtain ⟨u1, u2, u3, u4, u5⟩ := num x4 e4 M5 m5
      unfold j_Mod_readAct_85 at e
      rw [if_pos c] at e
      obtain ⟨x15, e15, e⟩ := bo e
      obtain ⟨x16, e16, e⟩ := bo e
      obtain ⟨_, e⟩ := io_n e
      obtain ⟨M17, m17, e⟩ := mo e
      rw [q_nat i2] at m17
      rw [s110 v2 M17 nv e]
      have fN := need_f e15
      have fM := number_f e16
      have fx : AfR A M17 j := AfR_t u1 (AfR_t (AfR_f fN) (AfR_t (AfR_f fM) (AfR_s (by omega) m17)))
      refine ⟨fx, ?_⟩
      have stay : ∀ w : Int, (M5.1 162 18).toInt = w → w ≠ -1 → (M17.1 162 18).toInt = w := by
        intro w hw5 hn
        have h15 := need_n (by rw [hw5]; exact hn) e15
        subst h15
        have h16 := number_n (by rw [hw5]; exact hn) e16
        subst h16
        rw [m17, si_ne (by omega)]; exact hw5
      rcases u5 with ⟨d0, w⟩ | ⟨d0, w⟩
      · refine .inr ⟨fun h => by unfold aOk at h; omega, ?_⟩
        rw [stay _ w (by omega)]; unfold aBd; rw [if_neg (by omega), if_neg (by omega), if_pos tp, if_pos d0]
      have r5 : Rd t M5 := Rd_a hA u1
      unfold f_Mod_need at e15
      obtain ⟨y1, ey1, e15⟩ := bo e15
      have p80' : p + 1 + a1 t p ≤ 82 := by omega
      rcases passes_i r5 u4 w (by omega) (by omega) ey1 with ⟨tc, ty, ta, tw⟩ | ⟨tc, ty, te⟩
      · rw [if_neg ty] at e15
        obtain rfl := Option.some.inj e15
        rw [k45] at tc
        have p77 : p + 1 + a1 t p < 80 := (Rd_rng hA _).2.2 (by omega)
        have r15 : Rd t y1.2 := Rd_a hA (AfR_t u1 (AfR_f (passes_f ey1)))
        have a15 : (y1.2.1 162 17).toInt = ((p + 2 + a1 t p : Nat) : Int) := by rw [ta]; omega
        obtain ⟨_, n2, _, _, n5, n6⟩ := number_i (K := 2) r15 (by omega) rfl a15 (by omega) tw e16
        have w17 : M17.1 162 18 = x16.2.1 162 18 := by rw [m17, si_ne (by omega)]
        have na : dgn t 2 (p + 2 + a1 t p) = a2 t p := rfl
        rw [na] at n5 n6
        rcases n6 with ⟨d2, w2⟩ | ⟨d2, w2⟩
        · refine .inr ⟨fun h => by unfold aOk at h; omega, ?_⟩
          rw [w17, w2]; unfold aBd; rw [if_neg (by omega), if_neg (by omega), if_pos tp, if_neg (by omega), if_pos tc]
        · refine .inl ⟨by unfold aOk; omega, by rw [w17]; exact w2, ?_, ?_, fun _ => ?_, fun _ => ?_⟩
          · rw [m17, si_ne (by omega), n5]; unfold aNx; rw [if_neg (by omega), if_neg (by omega), if_pos tp]
          · rw [m17, si_ne (by omega), fM.1 175 _ (by omega), fN.1 175 _ (by omega), u2]; exact hv
          · rw [m17, si_ne (by omega), fM.1 175 _ (by omega), fN.1 175 _ (by omega), u3]; unfold aV1; rw [if_neg (by omega)]
          · rw [m17, si_eq, n2]; rfl
      · rw [if_pos ty] at e15
        obtain ⟨y2, ey2, e15⟩ := bo e15
        obtain rfl := Option.some.inj e15
        rw [te] at ey2
        rw [k45] at tc
        have w2 : (y2.1 162 18).toInt = ((p + 1 + a1 t p : Nat) : Int) := by
          rcases fault_i ey2 with ⟨h, _⟩ | ⟨_, h⟩
          · exact absurd w h
          · rw [h, si_eq]; exact u4
        have h16 := number_n (by rw [w2]; omega) e16
        refine .inr ⟨fun h => by unfold aOk at h; omega, ?_⟩
        rw [m17, si_ne (by omega), h16]
        show (y2.1 162 18).toInt = _
        rw [w2]; unfold aBd; rw [if_neg (by omega), if_neg (by omega), if_pos tp, if_neg (by omega), if_neg tc]
    have c2 := q_ne c
    unfold j_Mod_readAct_85 at e
    rw [if_neg c] at e
    unfold j_Mod_readAct_110 at e
    rcases io e with ⟨c, e⟩ | ⟨c, e⟩
    · -- a letter
      have cc := q_eq c
      have tp : t p = 110 := by omega
      obtain ⟨x6, e6, e⟩ := bo e
      obtain ⟨_, e⟩ := io_n e
      obtain ⟨M7, m7, e⟩ := mo e
      rw [q_nat i1] at m7
      have f7 : AfR A M7 j := AfR_t f3 (AfR_s (by omega) m7)
      have r7 : Rd t M7 := Rd_a hA f7
      have a7 : (M7.1 162 17).toInt = ((p + 1 : Nat) : Int) := by rw [m7, si_ne (by omega)]; exact a3
      have w7 : (M7.1 162 18).toInt = -1 := by rw [m7, si_ne (by omega)]; exact w3'
      have h6 := here_i r3 a3 e6
      obtain ⟨x8, e8, e⟩ := bo e
      have h8 := here_i r7 a7 e8
      obtain ⟨x9, e9, e⟩ := bo e
      have h9 := some_of (sp_in x8 97 104) e9
      rw [k97, k104] at h9
      rcases io e with ⟨g, e⟩ | ⟨g, e⟩
      · obtain ⟨x11, e11, e⟩ := bo e
        obtain ⟨M12, m12, e⟩ := mo e
        obtain rfl := Option.some.inj e
        have nb : ¬ (97 ≤ t (p + 1) ∧ t (p + 1) ≤ 104) := by
          rcases h9 with ⟨h, _⟩ | ⟨_, h⟩
          · rw [h] at g; exact absurd g (by decide)
          · omega
        refine ⟨AfR_t f7 (AfR_t (AfR_f (fault_f e11)) (AfR_17 m12)), .inr ⟨fun h => by unfold aOk at h; omega, ?_⟩⟩
        rcases fault_i e11 with ⟨h, _⟩ | ⟨_, h⟩
        · exact absurd w7 h
        · rw [m12, si_ne (by omega), h, si_eq, a7]; unfold aBd; rw [if_neg (by omega), if_pos tp]
      · obtain ⟨M10, m10, e⟩ := mo e
        obtain rfl := Option.some.inj e
        have ok : 97 ≤ t (p + 1) ∧ t (p + 1) ≤ 104 ∧ t (p + 1) = x6.toInt := by
          rcases h9 with ⟨_, h⟩ | ⟨h, _⟩
          · omega
          · exact absurd h g
        refine ⟨AfR_t f7 (AfR_17 m10), .inl ⟨by unfold aOk; omega, by rw [m10, si_ne (by omega)]; exact w7, ?_, ?_, fun _ => ?_, fun h => by omega⟩⟩
        · rw [m10, si_eq, add_ti a7 o1 (by omega) (by omega)]; unfold aNx; rw [if_neg (by omega), if_pos tp]; omega
        · rw [m10, si_ne (by omega), m7, si_ne (by omega), c3]; exact hv
        · rw [m10, si_ne (by omega), m7, si_eq, sub_ti rfl k97 (by omega) (by omega)]; unfold aV1; rw [if_pos tp, ok.2.2]
    · have c3' := q_ne c
      obtain rfl := Option.some.inj e
      refine ⟨f3, .inl ⟨by unfold aOk; omega, w3', ?_, by rw [c3]; exact hv, fun h => by omega, fun h => by omega⟩⟩
      rw [a3]; unfold aNx; rw [if_neg (by omega), if_neg (by omega), if_neg (by omega)]
  unfold f_Mod_readAct at e
  obtain ⟨x1, e1, e⟩ := bo e
  have good : ∀ c : Int32, x1 = c → (c.toInt = 109 ∨ c.toInt = 110 ∨ c.toInt = 112 ∨ c.toInt = 120 ∨ c.toInt = 102) → j_Mod_readAct_43 v1 x1 A = some x → AfR A x j ∧ AoR t p j x := by
    rintro c rfl hc e
    have h := here_c hA hp e1 (c := x1) (by omega) (by omega)
    have tp := h.mp rfl
    exact s43 x1 A ⟨fun _ _ _ _ => rfl, rfl⟩ hp (.inl ⟨tp.symm, by omega, hw⟩) e
  have hno : ∀ c : Int32, 0 ≤ c.toInt → c.toInt ≤ 127 → ¬ x1 = c → t p ≠ c.toInt := fun c h0 h1 h h2 => h ((here_c hA hp e1 h0 h1).mpr h2)
  rcases io e with ⟨c, e⟩ | ⟨c1, e⟩
  · exact good _ c (by omega) e
  rcases io e with ⟨c, e⟩ | ⟨c2, e⟩
  · exact good _ c (by omega) e
  rcases io e with ⟨c, e⟩ | ⟨c3, e⟩
  · exact good _ c (by omega) e
  rcases io e with ⟨c, e⟩ | ⟨c4, e⟩
  · exact good _ c (by omega) e
  rcases io e with ⟨c, e⟩ | ⟨c5, e⟩
  · exact good _ c (by omega) e
  obtain ⟨x21, e21, e⟩ := bo e
  have t1 := hno 109 (by omega) (by omega) c1
  have t2 := hno 110 (by omega) (by omega) c2
  have t3 := hno 112 (by omega) (by omega) c3
  have t4 := hno 120 (by omega) (by omega) c4
  have t5 := hno 102 (by omega) (by omega) c5
  have nok : ¬ aOk t p := fun h => by unfold aOk at h; omega
  have bd : aBd t p = p := by unfold aBd; rw [if_neg (by omega), if_neg (by omega), if_neg (by omega)]
  rcases fault_i e21 with ⟨h, _⟩ | ⟨_, h⟩
  · exact absurd hw h
  · exact s43 x1 x21 (AfR_f (fault_f e21)) (by rw [h, si_ne (by omega)]; exact hp) (.inr ⟨⟨nok, bd, c1, c2, c3⟩, by rw [h, si_eq]; exact hp⟩) e
end
section
/-! an evening's acts done, both sides -/
theorem CS_33 {X R x r r' : Mem} {n : Nat} {w : Int32} (cs : CS X R n x r) (e : r' = s_i r 162 33 w) : CS X R n x r' := by
  have f : ∀ kx i, ¬ (kx = 162 ∧ i = 33) → r'.1 kx i = r.1 kx i := fun kx i h => by rw [e, si_ne h]
  obtain ⟨⟨n8, jR, zb, zs, zv, zw⟩, hx, hr, ag⟩ := cs
  have ag2 : AgR r r' := ⟨f 162 2 (by omega), f 162 3 (by omega), f 162 4 (by omega), f 162 5 (by omega), f 162 23 (by omega), fun i => f 164 i (by omega), fun i => f 165 i (by omega), fun i => f 166 i (by omega), fun i => f 172 i (by omega)⟩
  refine ⟨⟨n8, by rw [e]; exact Jw_fld okf_162_33 jR _, ZB_a AgX_r ag2 zb, ZS_c n8 SEq_r (fun i _ => (f 163 i (by omega)).symm) zs, ZV_a n8 ag2 (fun i _ => f 163 i (by omega)) zv, ZW_a AgX_r ag2 (plk_c (fun i _ _ => f 163 i (by omega)) zv.2.1.2) zw⟩, hx, HFr_t hr ⟨f 162 27 (by omega), f 162 48 (by omega), fun i => f 173 i (by omega), fun i => f 189 i (by omega), fun i => f 190 i (by omega), fun i => f 191 i (by omega)⟩, AgR_t ag ag2⟩
theorem cel_2 {X R : Mem} {n : Nat} {v y : Int32} {x : Int32 × Mem} (zq : ZQ X R n) (hv : 0 ≤ v.toInt ∧ v.toInt ≤ 1) (ex : f_Top_celebrate v X = some x) (ey : f_Mod_canFeast v R = some y) : (x = (0, X) ∧ y = 0) ∨ (x.1 = 1 ∧ y = 1 ∧ x.2.1 45 4 = X.1 45 4 ∧ ∀ r, f_Mod_goFeast v R = some r → CS X R n x.2 r) := by
  have z0 := o0
  have z1 := o1
  unfold f_Mod_canFeast at ey
  rw [show (94 : Int32).toNatClampNeg = 94 from rfl] at ey
  obtain ⟨y2, ey2, ey⟩ := bo ey
  have h2 := some_of (sp_in v 0 1) ey2
  rw [o0, o1] at h2
  rcases h2 with ⟨h, _⟩ | ⟨_, h⟩
  rotate_left
  · exact absurd hv h
  rw [h, if_neg (by decide)] at ey
  have fx := wf_Top_celebrate v X (L := []) (sb_r _) Fx_r ex
  have f45 : x.2.1 45 4 = X.1 45 4 := (fx 45 4 (by decide +kernel) (by simp)).1
  unfold f_Top_celebrate at ex
  have fl : X.1 11 9 = R.1 163 94 := zq.2.2.2.1.2.2.2.2.2.2.2
  rw [fl] at ex
  have go : ∀ A B : Mem, A = s_i X 11 9 v → iter (lb_Top_celebrate_34 v) FU ((0 : Int32), A) = some B → some ((1 : Int32), B) = some x → some (1 : Int32) = some y → (x = (0, X) ∧ y = 0) ∨ (x.1 = 1 ∧ y = 1 ∧ x.2.1 45 4 = X.1 45 4 ∧ ∀ r, f_Mod_goFeast v R = some r → CS X R n x.2 r) := by
    intro A B hA eB e2 ey
    have e2 := Option.some.inj e2
    have ey := Option.some.inj ey
    refine .inr ⟨by rw [← e2], ey.symm, f45, fun r er => ?_⟩
    unfold f_Mod_goFeast at er
    obtain ⟨N, hN, er⟩ := mo er
    obtain ⟨K, eK, er⟩ := bo er
    have er := Option.some.inj er
    subst er
    rw [← e2]
    have f1 := flag_q zq hv hA hN
    exact CS_t f1 (loopF f1.1 hv eB eK)
  rcases io ex with ⟨g, ex⟩ | ⟨g, ex⟩
  · rw [if_pos g] at ey
    exact .inl ⟨(Option.some.inj ex).symm, (Option.some.inj ey).symm⟩
  rw [if_neg g] at ey
  rcases io ex with ⟨g0, ex⟩ | ⟨g0, ex⟩
  · rw [if_neg (by rw [g0]; decide)] at ey
    obtain ⟨a, ea, ex⟩ := bo ex
    rcases astray_2 zq ea ey with ⟨ha, hy⟩ | ⟨ha, hy⟩
    · rw [ha, if_pos rfl] at ex
      obtain ⟨A, hA, ex⟩ := mo ex
      obtain ⟨B, eB, ex⟩ := bo ex
      exact go A B hA eB ex (by rw [hy])
    · rw [ha, if_neg (by decide)] at ex
      exact .inl ⟨(Option.some.inj ex).symm, hy⟩
  · have v0 : v.toInt ≠ 0 := fun h => g0 (Int32.toInt_inj.mp h)
    have v1 : v = 1 := Int32.toInt_inj.mp (by omega)
    rw [if_pos v1] at ey
    obtain ⟨A, hA, ex⟩ := mo ex
    obtain ⟨B, eB, ex⟩ := bo ex
    exact go A B hA eB ex ey
theorem lasts_2 {X R : Mem} {n : Nat} {v : Int32} {x y : Mem} (zq : ZQ X R n) (h4 : X.1 45 4 = R.1 162 33) (ex : iter (lb_Top_lasts_10 v) FU ((0 : Int32), X) = some x) (ey : iter (lb_Mod_act_66 v) FU ((0 : Int32), R) = some y) : CS X R n x y ∧ x.1 45 4 = y.1 162 33 := by
  refine it_2 (I := fun (s t : Int32 × Mem) => s.1 = t.1 ∧ CS X R n s.2 t.2 ∧ s.2.1 45 4 = t.2.1 162 33) (Q := fun (x y : Mem) => CS X R n x y ∧ x.1 45 4 = y.1 162 33) ?_ ex ey ⟨rfl, CS_r zq, h4⟩
  rintro ⟨i, N⟩ ⟨i', T⟩ A B ⟨hi, cs, h5⟩ eA eB
  dsimp only at hi cs h5
  subst hi
  unfold lb_Top_lasts_10 at eA
  unfold lb_Mod_act_66 at eB
  dsimp only at eA eB
  rcases io eA with ⟨g, eA⟩ | ⟨g, eA⟩
  · rw [if_pos g] at eB
    obtain rfl := Option.some.inj eA
    obtain rfl := Option.some.inj eB
    exact .inr ⟨_, _, rfl, rfl, cs, h5⟩
  · rw [if_neg g] at eB
    obtain ⟨z3, ez3, eA⟩ := bo eA
    obtain rfl := Option.some.inj eA
    obtain ⟨w3, ew3, eB⟩ := bo eB
    obtain ⟨M5, m5, eB⟩ := mo eB
    obtain rfl := Option.some.inj eB
    obtain ⟨cs2, pp⟩ := pass_q cs.1 ez3 ew3
    have g33 : w3.1 162 33 = T.1 162 33 := (wf_Mod_goMinute 163 T (C := mG163) (L := []) (by decide +kernel) (oc_c (sb_r _) (by decide +kernel)) Fx_r ew3 162 33 (by decide +kernel) (by simp)).1
    refine .inl ⟨_, _, rfl, rfl, rfl, CS_33 (CS_t cs cs2) m5, ?_⟩
    show z3.1 45 4 = M5.1 162 33
    rw [m5, si_eq, pp.2.2.2.2.2.2.2.2.2.2, pp.2.2.2.2.2.2.2.1, h5, g33]
theorem lp_pos {X R r : Mem} {n : Nat} {a b : Int32} (zq : ZQ X R n) (m5 : (R.1 163 92).toInt ≤ 5) (er4 : f_Mod_layPlank a b R = some r) : 0 < (r.1 163 92).toInt := by
  unfold f_Mod_layPlank at er4
  rw [show (92 : Int32).toNatClampNeg = 92 from rfl] at er4
  obtain ⟨_, er4⟩ := io_n er4
  obtain ⟨N1, n1, er4⟩ := mo er4
  obtain ⟨_, er4⟩ := io_n er4
  obtain ⟨N2, n2, er4⟩ := mo er4
  obtain ⟨N3, n3, er4⟩ := mo er4
  obtain rfl := Option.some.inj er4
  obtain ⟨m, hm⟩ := ti_ofn zq.2.2.2.2.1.2.1.1
  have z80 : (80 : Int32).toInt = 80 := rfl
  have i1 : ((2 : Int32) * (R.1 163 92)).toInt = ((2 * m : Nat) : Int) := by rw [mul_ti o2 hm (by omega) (by omega)]; omega
  have i2 : ((80 : Int32) + ((2 : Int32) * (R.1 163 92))).toInt = ((80 + 2 * m : Nat) : Int) := by rw [add_ti z80 i1 (by omega) (by omega)]; omega
  have i3 : (((80 : Int32) + ((2 : Int32) * (R.1 163 92))) + (1 : Int32)).toInt = ((81 + 2 * m : Nat) : Int) := by rw [add_ti i2 o1 (by omega) (by omega)]; omega
  rw [q_nat i2] at n1
  rw [q_nat i3] at n2
  have r92' : N2.1 163 92 = R.1 163 92 := by rw [n2, si_ne (by omega), n1, si_ne (by omega)]
  rw [n3, si_eq, r92', add_ti hm o1 (by omega) (by omega)]
  omega
def AD (j : Nat) (X S : Mem) : Prop := ∀ i, i < j → X.1 148 i = S.1 175 (3 * i) ∧ ((X.1 148 i).toInt = 109 ∨ (X.1 148 i).toInt = 110 ∨ (X.1 148 i).toInt = 112 ∨ (X.1 148 i).toInt = 120 ∨ (X.1 148 i).toInt = 102) ∧ (((X.1 148 i).toInt = 109 ∨ (X.1 148 i).toInt = 110 ∨ (X.1 148 i).toInt = 112) → X.1 149 i = S.1 175 (3 * i + 1)) ∧ ((X.1 148 i).toInt = 112 → X.1 150 i = S.1 175 (3 * i + 2))
theorem does_2 {X R : Mem} {n d L : Nat} {v w : Int32} {x r : Int32 × Mem} (zq : ZQ X R n) (h4 : X.1 45 4 = R.1 162 33) (hv : v.toInt = (d : Int)) (d32 : d < 32) (hw : w.toInt = ((3 * d : Nat) : Int)) (ad : AD L X R) (dL : d < L) (ex : f_Top_does v X = some x) (er : f_Mod_act w R = some r) : ((x.1 = 0 ∧ r.1 = 0) ∨ (¬ x.1 = 0 ∧ ¬ r.1 = 0)) ∧ CS X R n x.2 r.2 ∧ x.2.1 45 4 = r.2.1 162 33 := by
  have z0 := o0
  have z1 := o1
  have k102 : (102 : Int32).toInt = 102 := rfl
  have k109 : (109 : Int32).toInt = 109 := rfl
  have k110 : (110 : Int32).toInt = 110 := rfl
  have k112 : (112 : Int32).toInt = 112 := rfl
  have k120 : (120 : Int32).toInt = 120 := rfl
  have k32 : (32 : Int32).toInt = 32 := rfl
  have i1 : (w + (1 : Int32)).toInt = ((3 * d + 1 : Nat) : Int) := add_ti hw o1 (by omega) (by omega)
  have i2 : (w + (2 : Int32)).toInt = ((3 * d + 2 : Nat) : Int) := add_ti hw o2 (by omega) (by omega)
  obtain ⟨e0, kinds, e1, e2⟩ := ad d dL
  unfold f_Top_does at ex
  rcases io ex with ⟨c, _⟩ | ⟨_, ex⟩
  · have := q_lt c; omega
  rcases io ex with ⟨_, ex⟩ | ⟨c, _⟩
  rotate_left
  · have := q_nl c; omega
  obtain ⟨_, ex⟩ := io_n ex
  rw [q_nat hv] at ex
  unfold f_Mod_act at er
  obtain ⟨_, er⟩ := io_n er
  obtain ⟨_, er⟩ := io_n er
  rw [q_nat hw, q_nat i1, show (93 : Int32).toNatClampNeg = 93 from rfl, show (92 : Int32).toNatClampNeg = 92 from rfl, show (94 : Int32).toNatClampNeg = 94 from rfl, ← e0] at er
  rcases io ex with ⟨c, ex⟩ | ⟨c, ex⟩
  · -- a feast
    have cc := q_eq c
    rw [if_neg (fun h => by have := q_eq h; omega), if_neg (fun h => by have := q_eq h; omega), if_neg (fun h => by have := q_eq h; omega), if_neg (fun h => by have := q_eq h; omega)] at er
    obtain ⟨x1, ex1, ex⟩ := bo ex
    obtain ⟨_, ex⟩ := io_n ex
    obtain rfl := Option.some.inj ex
    obtain ⟨y1, ey1, er⟩ := bo er
    have fl : X.1 11 9 = R.1 163 94 := zq.2.2.2.1.2.2.2.2.2.2.2
    have fb := zq.2.2.2.2.1.2.2.1
    rw [fl] at ex1
    have hb : ((1 : Int32) - (R.1 163 94)).toInt = 1 - (R.1 163 94).toInt := sub_ti o1 rfl (by omega) (by omega)
    rcases cel_2 zq (by omega) ex1 ey1 with ⟨g1, g2⟩ | ⟨g1, g2, g3, g4⟩
    · rw [g2, if_pos rfl] at er
      obtain rfl := Option.some.inj er
      rw [g1]
      exact ⟨.inl ⟨rfl, rfl⟩, CS_r zq, h4⟩
    · rw [g2, if_neg (by decide)] at er
      obtain ⟨y2, ey2, er⟩ := bo er
      obtain rfl := Option.some.inj er
      refine ⟨.inr ⟨by show ¬ x1.1 = 0; rw [g1]; decide, by show ¬ (1 : Int32) = 0; decide⟩, g4 y2 ey2, ?_⟩
      show x1.2.1 45 4 = y2.1 162 33
      rw [g3, h4]
      have fr := wf_Mod_goFeast _ R (L := []) (sb_r _) Fx_r ey2
      exact ((fr 162 33 (by decide +kernel) (by simp)).1).symm
  have n1 := q_ne c
  rcases io ex with ⟨c, ex⟩ | ⟨c, ex⟩
  · -- minutes
    have cc := q_eq c
    rw [if_pos c] at er
    obtain ⟨_, ex⟩ := io_n ex
    obtain ⟨x3, ex3, ex⟩ := bo ex
    obtain ⟨_, ex⟩ := io_n ex
    obtain rfl := Option.some.inj ex
    rw [← e1 (by omega)] at er
    unfold f_Top_lasts at ex3
    rcases io ex3 with ⟨g, ex3⟩ | ⟨g, ex3⟩
    · rw [if_pos g] at er
      obtain ⟨y7, ey7, er⟩ := bo er
      obtain rfl := Option.some.inj er
      obtain ⟨x4, ex4, ex3⟩ := bo ex3
      obtain rfl := Option.some.inj ex3
      obtain ⟨cs, h5⟩ := lasts_2 zq h4 ex4 ey7
      exact ⟨.inr ⟨by show ¬ (1 : Int32) = 0; decide, by show ¬ (1 : Int32) = 0; decide⟩, cs, h5⟩
    · rw [if_neg g] at er
      obtain rfl := Option.some.inj er
      obtain rfl := Option.some.inj ex3
      exact ⟨.inl ⟨rfl, rfl⟩, CS_r zq, h4⟩
  have n2 := q_ne c
  rw [if_neg c] at er
  rcases io ex with ⟨c, ex⟩ | ⟨c, ex⟩
  · -- the news
    have cc := q_eq c
    rw [if_pos c] at er
    obtain ⟨_, ex⟩ := io_n ex
    obtain ⟨x5, ex5, ex⟩ := bo ex
    obtain ⟨_, ex⟩ := io_n ex
    obtain rfl := Option.some.inj ex
    rw [← e1 (by omega)] at er
    obtain ⟨y10, ey10, er⟩ := bo er
    rcases give_2 zq ex5 ey10 with ⟨g1, g2, g3⟩ | ⟨g1, g2, g3⟩
    · rw [if_pos g2] at er
      obtain rfl := Option.some.inj er
      show ((x5.1 = 0 ∧ _) ∨ _) ∧ CS X R n x5.2 R ∧ x5.2.1 45 4 = R.1 162 33
      rw [g3]
      exact ⟨.inl ⟨g1, rfl⟩, CS_r zq, h4⟩
    · rw [if_neg g2] at er
      obtain ⟨M11, m11, er⟩ := mo er
      obtain rfl := Option.some.inj er
      have cs := give_q (v := X.1 149 d) zq
      rw [← g3, ← m11] at cs
      refine ⟨.inr ⟨g1, by show ¬ (1 : Int32) = 0; decide⟩, cs, ?_⟩
      show x5.2.1 45 4 = M11.1 162 33
      rw [g3, si_ne (by omega), m11, si_ne (by omega)]; exact h4
  have n3 := q_ne c
  rw [if_neg c] at er
  rcases io ex with ⟨c, ex⟩ | ⟨c, ex⟩
  · -- a plank
    have cc := q_eq c
    rw [if_pos c] at er
    obtain ⟨_, ex⟩ := io_n ex
    obtain ⟨_, ex⟩ := io_n ex
    obtain ⟨x7, ex7, ex⟩ := bo ex
    obtain ⟨_, er⟩ := io_n er
    rw [q_nat i2, ← e1 (by omega), ← e2 (by omega)] at er
    obtain ⟨y14, ey14, er⟩ := bo er
    rcases ref_2 zq ex7 ey14 with ⟨hy, h⟩ | ⟨hy, oa, ob, nb, no, m5, x8, x9, e8, e80, e9, h⟩
    · rw [if_neg (fun h => by have := q_le h; omega)] at er
      obtain rfl := Option.some.inj er
      rw [h, if_pos (Int32.lt_iff_toInt_lt.mpr (by show y14.toInt < _; omega))] at ex
      obtain rfl := Option.some.inj ex
      exact ⟨.inl ⟨rfl, rfl⟩, CS_r zq, h4⟩
    · subst hy
      rw [if_pos (by decide)] at er
      obtain ⟨_, er⟩ := io_n er
      obtain ⟨y15, ey15, er⟩ := bo er
      obtain rfl := Option.some.inj er
      have wh := awh zq.2.1
      have j15 := (some_of (fs_layPlank _ _ zq.2.1 ⟨oa.1, by have := oa.2.1; omega⟩ ⟨ob.1, by have := ob.2.1; omega⟩ m5 (KP_v zq.2.2.2.2.1) oa ob) ey15).1
      obtain ⟨cs, l⟩ := add_q zq j15 oa ob nb no m5 e8 e80 e9 ey15
      have fxl := wf_Top_lay _ _ X (L := []) (sb_r _) Fx_r ex7
      have frl := wf_Mod_layPlank _ _ R (L := []) (sb_r _) Fx_r ey15
      have hx7 : x7.2 = x9 := by rw [h]
      have c45 : x9.1 45 4 = y15.1 162 33 := by
        rw [← hx7, (fxl 45 4 (by decide +kernel) (by simp)).1, h4]
        exact ((frl 162 33 (by decide +kernel) (by simp)).1).symm
      have p9 := lp_pos zq m5 ey15
      have b := cs.1.2.2.2.2.1.2.1
      rw [h, if_neg (fun h => by
        have h1 := q_lt h
        have h2 : ((x9.1 11 6) - (1 : Int32)).toInt = (y15.1 163 92).toInt - 1 := by rw [l]; exact sub_ti rfl o1 (by omega) (by omega)
        have h1 : ((x9.1 11 6) - (1 : Int32)).toInt < (0 : Int32).toInt := h1
        omega)] at ex
      obtain rfl := Option.some.inj ex
      exact ⟨.inr ⟨by show ¬ (1 : Int32) = 0; decide, by show ¬ (1 : Int32) = 0; decide⟩, cs, c45⟩
  have n4 := q_ne c
  rw [if_neg c] at er
  have c120 : (X.1 148 d).toInt = 120 := by omega
  rw [if_pos (Int32.toInt_inj.mp (by rw [c120]; rfl))] at ex
  rw [if_pos (Int32.toInt_inj.mp (by rw [c120]; rfl))] at er
  obtain ⟨x10, ex10, ex⟩ := bo ex
  obtain ⟨_, ex⟩ := io_n ex
  obtain rfl := Option.some.inj ex
  have la : X.1 11 6 = R.1 163 92 := zq.2.2.2.1.2.2.2.1
  have lb := zq.2.2.2.2.1.2.1
  have fxl := wf_Top_lift X (L := []) (sb_r _) Fx_r ex10
  unfold f_Top_lift at ex10
  rw [la] at ex10
  rcases io ex10 with ⟨g, ex10⟩ | ⟨g, ex10⟩
  · have g1 := q_lt g
    rw [if_neg (fun h => by have := q_eq h; omega)] at er
    obtain ⟨M18, m18, er⟩ := mo er
    obtain rfl := Option.some.inj er
    obtain ⟨N1, q1, ex10⟩ := mo ex10
    obtain ⟨x2, ex2, ex10⟩ := bo ex10
    have h10 := Option.some.inj ex10
    subst h10
    rw [q1] at ex2
    have cs := lift_q zq (by omega) (sub_ti rfl o1 (by omega) (by omega)) ex2 m18 (w' := 0)
    refine ⟨.inr ⟨by show ¬ (1 : Int32) = 0; decide, by show ¬ (1 : Int32) = 0; decide⟩, cs, ?_⟩
    show x2.1 45 4 = M18.1 162 33
    rw [(fxl 45 4 (by decide +kernel) (by simp)).1, m18, si_ne (by omega)]; exact h4
  · have g1 := q_nl g
    rw [if_pos (Int32.toInt_inj.mp (by omega))] at er
    obtain rfl := Option.some.inj er
    obtain rfl := Option.some.inj ex10
    exact ⟨.inl ⟨rfl, rfl⟩, CS_r zq, h4⟩
end
section
/-! an evening: acts read, both loops -/
theorem dgn_d {t : Nat → Int} {K p i : Nat} (h : i < dgn t K p) : 48 ≤ t (p + i) ∧ t (p + i) ≤ 57 := by
  induction K generalizing p i with
  | zero => unfold dgn at h; omega
  | succ K ih =>
    unfold dgn at h
    by_cases c : 48 ≤ t p ∧ t p ≤ 57
    · rw [if_pos c] at h
      cases i with
      | zero => exact c
      | succ i =>
        have := ih (p := p + 1) (i := i) (by omega)
        rwa [show p + 1 + i = p + (i + 1) by omega] at this
    · rw [if_neg c] at h; omega
theorem aNx_60 {A : Mem} {p : Nat} (h : aOk (cx A 60) p) : aNx (cx A 60) p ≤ 60 ∧ p + 1 ≤ aNx (cx A 60) p := by
  have key : ∀ q : Nat, cx A 60 q ≠ -1 → q + 1 ≤ 60 := fun q hq => by have := (cx_lt hq).1; omega
  generalize ht : cx A 60 = t at *
  unfold aOk at h
  unfold aNx
  rcases h with h | h | ⟨h, g⟩ | ⟨h, g⟩ | ⟨h, g1, g2, g3⟩
  · rw [if_neg (by omega), if_neg (by omega), if_neg (by omega)]
    exact ⟨key p (by omega), by omega⟩
  · rw [if_neg (by omega), if_neg (by omega), if_neg (by omega)]
    exact ⟨key p (by omega), by omega⟩
  · rw [if_pos h]
    have d := dgn_d (t := t) (K := 2) (p := p + 1) (i := a1 t p - 1) (by unfold a1 at g ⊢; omega)
    have := key (p + 1 + (a1 t p - 1)) (by omega)
    omega
  · rw [if_neg (by omega), if_pos h]
    have := key (p + 1) (by omega)
    omega
  · rw [if_neg (by omega), if_neg (by omega), if_pos h]
    have d := dgn_d (t := t) (K := 2) (p := p + 2 + a1 t p) (i := a2 t p - 1) (by unfold a2 at g3 ⊢; omega)
    have := key (p + 2 + a1 t p + (a2 t p - 1)) (by omega)
    omega
def EAf (X0 R0 X S : Mem) : Prop := (∀ kx i, ¬ (kx = 148 ∨ kx = 149 ∨ kx = 150) → ¬ (kx = 147 ∧ i = 3) → ¬ (kx = 1 ∧ i = 2) → X.1 kx i = X0.1 kx i) ∧ X.2 = X0.2 ∧ (∀ kx i, kx ≠ 175 → ¬ (kx = 162 ∧ (i = 17 ∨ i = 18)) → S.1 kx i = R0.1 kx i) ∧ S.2 = R0.2
def EvI (X0 R0 : Mem) (s u : Int32 × Int32 × Mem) : Prop := ∃ j p : Nat, 2 * j ≤ p ∧ p ≤ 61 ∧ s.1.toInt = (p : Int) ∧ s.2.1.toInt = (j : Int) ∧ (s.2.2.1 147 3).toInt = (j : Int) ∧ u.1.toInt = (j : Int) ∧ ¬ u.2.1 = 0 ∧ (u.2.2.1 162 17).toInt = (p : Int) ∧ (u.2.2.1 162 18).toInt = -1 ∧ AD j s.2.2 u.2.2 ∧ EAf X0 R0 s.2.2 u.2.2
def EvQ (X0 R0 : Mem) (y : (Int32 × Mem) ⊕ ((Int32 × Mem) ⊕ ((Mem) ⊕ (Int32 × Mem)))) (z : Int32 × Mem) : Prop := match y with
  | .inl _ => False
  | .inr (.inl y) => (∃ w : Nat, w ≤ 1000 ∧ y.1.toInt = -1 - (w : Int) ∧ (z.2.1 162 18).toInt = (w : Int)) ∧ EAf X0 R0 y.2 z.2
  | .inr (.inr (.inl y)) => (∃ j q : Nat, j + 1 ≤ 31 ∧ (y.1 147 3).toInt = ((j + 1 : Nat) : Int) ∧ z.1.toInt = ((j + 1 : Nat) : Int) ∧ (z.2.1 162 17).toInt = (q : Int) ∧ (z.2.1 162 18).toInt = -1 ∧ cx X0 60 q = -1 ∧ q ≤ 60 ∧ AD (j + 1) y z.2) ∧ EAf X0 R0 y z.2
  | .inr (.inr (.inr y)) => (∃ q : Nat, q ≤ 60 ∧ y.1.toInt = (q : Int) ∧ (z.2.1 162 17).toInt = (q : Int) ∧ (z.2.1 162 18).toInt = -1 ∧ (q : Int) < (X0.1 1 1).toInt) ∧ EAf X0 R0 y.2 z.2
theorem AD_s {t : Nat → Int} {X S X' S' : Mem} {j p : Nat} (h : AD j X S) (fx : AfX X X' j) (fr : AfR S S' j) (ok : aOk t p) (ax : AcX t p (X'.1 148 j).toInt (X'.1 149 j).toInt (X'.1 150 j).toInt) (ar : AcX t p (S'.1 175 (3 * j)).toInt (S'.1 175 (3 * j + 1)).toInt (S'.1 175 (3 * j + 2)).toInt) : AD (j + 1) X' S' := by
  intro i hi
  rcases Nat.lt_or_ge i j with g | g
  · rw [fx.1 148 i (by omega) (by omega) (by omega), fx.1 149 i (by omega) (by omega) (by omega), fx.1 150 i (by omega) (by omega) (by omega), fr.1 175 _ (by omega) (by omega), fr.1 175 _ (by omega) (by omega), fr.1 175 _ (by omega) (by omega)]
    exact h i g
  · have : i = j := by omega
    subst this
    obtain ⟨x1, x2, x3⟩ := ax
    obtain ⟨r1, r2, r3⟩ := ar
    unfold aOk at ok
    refine ⟨Int32.toInt_inj.mp (x1.trans r1.symm), by rw [x1]; omega, fun h => Int32.toInt_inj.mp ?_, fun h => Int32.toInt_inj.mp ?_⟩
    · rw [x1] at h; rw [x2 h, r2 h]
    · rw [x1] at h; rw [x3 h, r3 h]
theorem eve_l {X0 R0 X1 : Mem} (hl : (X0.1 1 1).toInt ≤ 80) (rd : Rd (cx X0 60) R0) (a0 : (R0.1 162 17).toInt = 0) (w0 : (R0.1 162 18).toInt = -1) (x1 : X1 = s_i X0 147 3 (0 : Int32)) {y z} (e : iter lb_Acts_read_18 FU ((0 : Int32), (0 : Int32), X1) = some y) (d : iter lb_Mod_evening_39 FU ((0 : Int32), (1 : Int32), R0) = some z) : EvQ X0 R0 y z := by
  have k32 : (32 : Int32).toInt = 32 := rfl
  have k60 : (60 : Int32).toInt = ((60 : Nat) : Int) := rfl
  have k3 := o3
  have k59 : (59 : Int32).toInt = 59 := rfl
  have ym := om
  have z0 := o0
  have fin : ∀ (v : Int32) (S : Mem) c, lb_Mod_evening_39 (v, (0 : Int32), S) = some c → c = .inr (v, S) := by
    intro v S c h
    unfold lb_Mod_evening_39 at h
    dsimp only at h
    rw [if_pos rfl] at h
    exact (Option.some.inj h).symm
  refine it_2e (I := EvI X0 R0) (Q := EvQ X0 R0) ?_ e d ⟨0, 0, by omega, by omega, rfl, rfl, ?_, rfl, (by show ¬ (1 : Int32) = 0; decide), a0, w0, fun i hi => by omega, fun kx i _ h _ => ?_, ?_, fun _ _ _ _ => rfl, rfl⟩
  rotate_left
  · show (X1.1 147 3).toInt = _
    rw [x1, si_eq]; rfl
  · show X1.1 kx i = _
    rw [x1, si_ne h]
  · show X1.2 = _
    rw [x1, si_2]
  rintro ⟨sp, sl, X⟩ ⟨un, um, S⟩ a b ⟨j, p, pj, p61, hp, hj, hj3, hn, hm, hat, hw, ad, fa⟩ ea eb
  dsimp only at hp hj hj3 hn hm hat hw ad fa
  obtain ⟨fa1, fa2, fa3, fa4⟩ := fa
  have cxe : cx X 60 = cx X0 60 := cx_c (fa1 1 1 (by omega) (by omega) (by omega)) (fun i => fa1 2 i (by omega) (by omega) (by omega)) 60
  have rdS : Rd (cx X0 60) S := Rd_f rd (by rw [fa4]) (fa3 162 15 (by omega) (by omega)) (fa3 162 16 (by omega) (by omega)) (fun i => fa3 167 i (by omega) (by omega)) (fun i => fa3 172 i (by omega) (by omega))
  unfold lb_Acts_read_18 at ea
  dsimp only at ea
  rcases io ea with ⟨c, _⟩ | ⟨c, ea⟩
  · have := q_le c; omega
  obtain ⟨x2, e2, ea⟩ := bo ea
  have hlX : (X.1 1 1).toInt ≤ 80 := by rw [fa1 1 1 (by omega) (by omega) (by omega)]; exact hl
  have AC := act_c hlX hp (by omega) hj3 (by omega) e2
  rw [cxe] at AC
  obtain ⟨fx, AC⟩ := AC
  have fxa : ∀ kx i, ¬ (kx = 148 ∨ kx = 149 ∨ kx = 150) → ¬ (kx = 147 ∧ i = 3) → ¬ (kx = 1 ∧ i = 2) → x2.2.1 kx i = X0.1 kx i := fun kx i h1 h2 h3 => by rw [fx.1 kx i (by omega) h2 h3]; exact fa1 kx i h1 h2 h3
  have fxq : x2.2.2 = X0.2 := by rw [fx.2, fa2]
  unfold lb_Mod_evening_39 at eb
  dsimp only at eb
  rw [if_neg hm] at eb
  obtain ⟨y4, ey4, eb⟩ := bo eb
  rcases fine_i ey4 with ⟨_, h⟩ | ⟨h, _⟩
  · exact absurd hw h
  rw [h, if_neg (by decide)] at eb
  obtain ⟨y5, ey5, eb⟩ := bo eb
  obtain ⟨y6, ey6, eb⟩ := bo eb
  obtain rfl := Option.some.inj eb
  have i3 : ((3 : Int32) * un).toInt = ((3 * j : Nat) : Int) := by rw [mul_ti k3 hn (by omega) (by omega)]; omega
  obtain ⟨fr, AR⟩ := act_r rdS i3 (by omega) hat (by omega) hw ey5
  have fs3 : ∀ kx i, kx ≠ 175 → ¬ (kx = 162 ∧ (i = 17 ∨ i = 18)) → y5.1 kx i = R0.1 kx i := fun kx i h1 h2 => by rw [fr.1 kx i (by omega) h2]; exact fa3 kx i h1 h2
  have fs4 : y5.2 = R0.2 := by rw [fr.2, fa4]
  have un1 : (un + (1 : Int32)).toInt = ((j + 1 : Nat) : Int) := add_ti hn o1 (by omega) (by omega)
  rcases AC with ⟨ok, hx, hx3, ax⟩ | ⟨nok, hx⟩
  rotate_left
  · rcases AR with ⟨ok, _⟩ | ⟨_, wn⟩
    · exact absurd ok nok
    have bl : aBd (cx X0 60) p ≤ 1000 := by
      have l1 : a1 (cx X0 60) p ≤ 2 := dgn_le _ 2 _
      unfold aBd
      repeat' split
      all_goals omega
    have h6 := passes_n (by rw [wn]; omega) ey6
    subst h6
    rcases io ea with ⟨g, _⟩ | ⟨g, ea⟩
    · have := q_le g; omega
    obtain rfl := Option.some.inj ea
    refine .inr ⟨_, _, rfl, rfl, fun c hc => ?_⟩
    have := fin _ _ _ hc
    subst this
    exact ⟨_, rfl, ⟨aBd (cx X0 60) p, bl, hx, wn⟩, fxa, fxq, fs3, fs4⟩
  rcases AR with ⟨_, w5, a5, ar⟩ | ⟨nok, _⟩
  rotate_left
  · exact absurd ok nok
  have q60 := aNx_60 ok
  generalize hq : aNx (cx X0 60) p = q at *
  rcases io ea with ⟨_, ea⟩ | ⟨g, _⟩
  rotate_left
  · have := q_ng g; omega
  have adn : AD (j + 1) x2.2 y5 := AD_s ad fx fr ok ax ar
  have rd5 : Rd (cx X0 60) y5 := Rd_a rdS fr
  obtain ⟨x3, e3, ea⟩ := bo ea
  have h3' := at_i (K := 60) hx k60 (by rw [fxa 1 1 (by omega) (by omega) (by omega)]; exact hl) e3
  have cx2 : cx x2.2 60 = cx X0 60 := cx_c (fxa 1 1 (by omega) (by omega) (by omega)) (fun i => fxa 2 i (by omega) (by omega) (by omega)) 60
  rw [cx2] at h3'
  rcases passes_i rd5 a5 w5 (by omega) (by omega) ey6 with ⟨tc, ty, ta, tw⟩ | ⟨tc, ty, te⟩
  · rw [k59] at tc
    rcases io ea with ⟨g, _⟩ | ⟨g, ea⟩
    · have := q_eq g; omega
    rcases io ea with ⟨g2, ea⟩ | ⟨g2, _⟩
    rotate_left
    · have := q_ne g2; omega
    obtain rfl := Option.some.inj ea
    have pf := passes_f ey6
    refine .inl ⟨_, _, rfl, rfl, j + 1, q + 1, by omega, by omega, add_ti hx o1 (by omega) (by omega), add_ti hj o1 (by omega) (by omega), hx3, un1, ty, ta, tw, ?_, fxa, fxq, fun kx i h1 h2 => ?_, ?_⟩
    · show AD (j + 1) x2.2 y6.2
      have p175 : ∀ i, y6.2.1 175 i = y5.1 175 i := fun i => pf.1 175 i (by omega)
      unfold AD at adn ⊢
      simp only [p175]
      exact adn
    · show y6.2.1 kx i = _
      rw [pf.1 kx i h2]; exact fs3 kx i h1 h2
    · show y6.2.2 = _
      rw [pf.2, fs4]
  · rw [k59] at tc
    obtain ⟨y61, y62⟩ := y6
    dsimp only at ty te
    subst ty
    subst te
    rcases io ea with ⟨g, ea⟩ | ⟨g, ea⟩
    · have ge := q_eq g
      obtain rfl := Option.some.inj ea
      refine .inr ⟨_, _, rfl, rfl, fun c hc => ?_⟩
      have := fin _ _ _ hc
      subst this
      exact ⟨_, rfl, ⟨j, q, by omega, hx3, un1, a5, w5, by omega, by omega, adn⟩, fxa, fxq, fs3, fs4⟩
    have gn := q_ne g
    rcases io ea with ⟨g2, _⟩ | ⟨g2, ea⟩
    · have := q_eq g2; omega
    obtain rfl := Option.some.inj ea
    refine .inr ⟨_, _, rfl, rfl, fun c hc => ?_⟩
    have := fin _ _ _ hc
    subst this
    have k3 : cx X0 60 q ≠ -1 := by omega
    exact ⟨_, rfl, ⟨q, by omega, hx, a5, w5, (cx_lt k3).2⟩, fxa, fxq, fs3, fs4⟩
end
section
/-! an evening: the whole command -/
theorem it_2f {S T X Y : Type} {f : S → Option (S ⊕ X)} {g : T → Option (T ⊕ Y)} {I : S → T → Prop} {Q : X → Y → Prop} (hs : ∀ s t a b, I s t → f s = some a → g t = some b → (∃ s' t', a = .inl s' ∧ b = .inl t' ∧ I s' t') ∨ (∃ x y, a = .inr x ∧ b = .inr y ∧ Q x y) ∨ (∃ x t', a = .inr x ∧ b = .inl t' ∧ ∀ c, g t' = some c → ∃ y, c = .inr y ∧ Q x y)) {n m : Nat} {s : S} {t : T} {x : X} {y : Y} (e : iter f n s = some x) (d : iter g m t = some y) (h : I s t) : Q x y := by
  induction n generalizing s t m with
  | zero => cases e
  | succ n ih =>
    cases m with
    | zero => cases d
    | succ m =>
      simp only [iter] at e d
      cases hf : f s with
      | none => rw [hf] at e; cases e
      | some a =>
        cases hg : g t with
        | none => rw [hg] at d; cases d
        | some b =>
          rw [hf] at e
          rw [hg] at d
          rcases hs s t a b h hf hg with ⟨s', t', rfl, rfl, k⟩ | ⟨x', y', rfl, rfl, k⟩ | ⟨x', t', rfl, rfl, k⟩
          · exact ih e d k
          · obtain rfl := Option.some.inj e
            obtain rfl := Option.some.inj d
            exact k
          · obtain rfl := Option.some.inj e
            cases m with
            | zero => cases d
            | succ m =>
              simp only [iter] at d
              cases hg2 : g t' with
              | none => rw [hg2] at d; cases d
              | some c =>
                rw [hg2] at d
                obtain ⟨y', rfl, q⟩ := k c hg2
                obtain rfl := Option.some.inj d
                exact q
theorem hist_end {X R x r : Mem} {n v : Nat} (hv : v = 163 ∨ v = 174) (za : ZA X R n) (jr : J r) (zs18 : ZS (scn X 18) (R.1 v) n) (zv18 : ZV R (R.1 v) n) (e3 : f_History_add 18 X = some x) (er1 : f_Mod_remember v R = some r) : ZA x r n := by
  obtain ⟨⟨n8, jR, zb, zs, zv, zw⟩, zh, zk⟩ := za
  have zh' := zh
  obtain ⟨hx, m, m12, h1, h2, h3⟩ := zh
  have H := hist_2 n8 hv zh' zs18 zv18 e3 er1
  have B := rem_i (v := v) (by omega) h2 m12 er1
  have A := add_i hx (m := m) h1 m12 e3
  have rf1 : ∀ kx i, kx ≠ 173 → ¬ (kx = 162 ∧ i = 27) → r.1 kx i = R.1 kx i := by
    by_cases g : m < 12
    · rw [if_pos g] at B; exact B.2.2.2
    · rw [if_neg g] at B; exact B.2.2.2
  have ag1 : AgR R r := ⟨rf1 162 2 (by omega) (by omega), rf1 162 3 (by omega) (by omega), rf1 162 4 (by omega) (by omega), rf1 162 5 (by omega) (by omega), rf1 162 23 (by omega) (by omega), fun i => rf1 164 i (by omega) (by omega), fun i => rf1 165 i (by omega) (by omega), fun i => rf1 166 i (by omega) (by omega), fun i => rf1 172 i (by omega) (by omega)⟩
  have xf : (∀ kx i, ¬ (49 ≤ kx ∧ kx < 133) → ¬ (kx = 46 ∧ i = 2) → x.1 kx i = X.1 kx i) ∧ x.2.1 = X.2.1 ∧ (∀ kx i, kx ≠ 47 → x.2.2 kx i = X.2.2 kx i) := by
    by_cases g : m < 12
    · rw [if_pos g] at A; exact A.2.2.2.2
    · rw [if_neg g] at A; exact A.2.2.2.2
  have agx : AgX X x := ⟨xf.1 3 2 (by omega) (by omega), xf.1 3 3 (by omega) (by omega), fun i => xf.1 4 i (by omega) (by omega), xf.1 6 4 (by omega) (by omega), xf.1 6 5 (by omega) (by omega), fun i => xf.1 7 i (by omega) (by omega), fun i => xf.1 8 i (by omega) (by omega), xf.1 40 4 (by omega) (by omega), fun i => xf.1 41 i (by omega) (by omega), fun i => xf.1 35 i (by omega) (by omega), fun i => by rw [xf.2.1], fun i => by rw [xf.2.1]⟩
  refine ⟨⟨n8, jr, ZB_a agx ag1 zb, ZS_c n8 (scn_f (fun kx i a b => xf.1 kx i (by omega) (by omega))) (fun i _ => (rf1 163 i (by omega) (by omega)).symm) zs, ZV_a n8 ag1 (fun i _ => rf1 163 i (by omega) (by omega)) zv, ZW_a agx ag1 (plk_c (fun i _ _ => rf1 163 i (by omega) (by omega)) zv.2.1.2) zw⟩, H, ?_⟩
  refine ZK_a n8 (xf.1 46 3 (by omega) (by omega)) (fun kx i a b => xf.1 kx i (by omega) (by omega)) (fun i => xf.2.2 48 i (by omega)) ag1 (rf1 162 48 (by omega) (by omega)) (fun i => rf1 189 i (by omega) (by omega)) (fun i => rf1 190 i (by omega) (by omega)) (fun i => rf1 191 i (by omega) (by omega)) zk
theorem eve_do {X R X3 x4 : Mem} {n L : Nat} {v1 : Int32} {x9 : Int32 × Mem} {x11 M12 : Mem} {x16 : Int32 × Mem} (za : ZA X R n) (kk : KK R) (ad : AD L X R) (hv : v1.toInt = (L : Int)) (L31 : L ≤ 31) (e3 : f_Scene_copy 18 11 X = some X3) (e4 : f_Clock_reset X3 = some x4) (e9 : iter (lb_Top_evening_48 v1) FU ((0 : Int32), (0 : Int32), x4) = some x9) (r11 : f_Mod_lay 163 174 (0 : Int32) R = some x11) (m12 : M12 = s_i x11 162 33 (0 : Int32)) (r16 : iter (lb_Mod_evening_122 v1) FU ((0 : Int32), M12) = some x16) : x9.1 = x16.1 ∧ x9.2.1 45 4 = x16.2.1 162 33 ∧ ZA x9.2 x16.2 n ∧ ZS (scn x9.2 18) (x16.2.1 174) n ∧ ZV x16.2 (x16.2.1 174) n ∧ KK x16.2 := by
  have z0 := o0
  have k3 := o3
  have hz0 : (0 : Int32).toNatClampNeg = 0 := rfl
  obtain ⟨n8, jR, zb, zs, zv, zw⟩ := za.1
  obtain ⟨c1, c2, c3⟩ := copy_i (v0 := 18) (v1 := 11) (by omega) e3
  have FL := fs_lay 163 174 (0 : Int32) jR (.inl rfl) (by decide) (by decide +kernel) (by decide) (by decide) (by decide +kernel) (by decide +kernel) (by decide)
  obtain ⟨jL, l1, l2⟩ := some_of FL r11
  have l1' : ∀ i, i < 96 → x11.1 174 i = R.1 163 i := fun i hi => by
    have := l1 i hi
    rw [show (0 : Int32).toInt.toNat + i = i by rw [o0]; simp] at this
    exact this
  have l2' : ∀ kx i, kx ≠ 174 → x11.1 kx i = R.1 kx i := fun kx i h => l2 kx i (fun w => h w.1)
  have fM : ∀ kx i, kx ≠ 174 → ¬ (kx = 162 ∧ i = 33) → M12.1 kx i = R.1 kx i := fun kx i h1 h2 => by rw [m12, si_ne h2]; exact l2' kx i h1
  have jM : J M12 := by rw [m12]; exact Jw_fld okf_162_33 jL _
  have agM : AgR R M12 := ⟨fM 162 2 (by omega) (by omega), fM 162 3 (by omega) (by omega), fM 162 4 (by omega) (by omega), fM 162 5 (by omega) (by omega), fM 162 23 (by omega) (by omega), fun i => fM 164 i (by omega) (by omega), fun i => fM 165 i (by omega) (by omega), fun i => fM 166 i (by omega) (by omega), fun i => fM 172 i (by omega) (by omega)⟩
  unfold f_Clock_reset at e4
  obtain ⟨C1, d1, e4⟩ := mo e4
  obtain ⟨C2, d2, e4⟩ := mo e4
  have e4 := Option.some.inj e4
  subst e4
  have fX : ∀ kx i, ¬ (18 ≤ kx ∧ kx < 25) → kx ≠ 45 → C2.1 kx i = X.1 kx i := fun kx i h1 h2 => by rw [d2, si_ne (by omega), d1, si_ne (by omega)]; exact c2 kx i (by omega)
  have fC : ∀ kx i, kx ≠ 45 → C2.1 kx i = X3.1 kx i := fun kx i h => by rw [d2, si_ne (by omega), d1, si_ne (by omega)]
  have fX2 : C2.2 = X.2 := by rw [d2, si_2, d1, si_2, c3]
  have zaC : ZA C2 M12 n := ZA_z za jM (fun kx i h => fX kx i (by unfold CXr CX at h; omega) (by unfold CXr CX at h; omega)) (fun i => by rw [fX2]) (fun i => by rw [fX2]) (fun i => by rw [fX2]) (fun i => by rw [fX2]) (fun kx i h => fM kx i (by unfold CRr CR at h; omega) (by unfold CRr CR at h; omega))
  have zs18 : ZS (scn C2 18) (M12.1 174) n := ZS_c n8 (SEq_t c1 (scn_f (fun kx i a b => fC kx i (by omega)))) (fun i hi => by rw [m12, si_ne (by omega)]; exact (l1' i hi).symm) zs
  have zv18 : ZV M12 (M12.1 174) n := ZV_a n8 agM (fun i hi => by rw [m12, si_ne (by omega)]; exact l1' i hi) zv
  have adC : AD L C2 M12 := by
    intro i hi
    rw [fX 148 i (by omega) (by omega), fX 149 i (by omega) (by omega), fX 150 i (by omega) (by omega), fM 175 _ (by omega) (by omega), fM 175 _ (by omega) (by omega), fM 175 _ (by omega) (by omega)]
    exact ad i hi
  have kkM : KK M12 := KK_c jR ⟨⟨fM 162 2 (by omega) (by omega), fM 162 3 (by omega) (by omega), fun i => fM 164 i (by omega) (by omega)⟩, fM 162 27 (by omega) (by omega), fM 162 48 (by omega) (by omega), fun i _ _ => fM 163 i (by omega) (by omega), fun i => fM 173 i (by omega) (by omega), fun i => fM 189 i (by omega) (by omega), fun i => fM 190 i (by omega) (by omega), fun i => fM 191 i (by omega) (by omega)⟩ kk
  have h45 : C2.1 45 4 = M12.1 162 33 := by rw [d2, si_eq, m12, si_eq]
  have key : (fun (u : Int32 × Mem) (s : Int32 × Mem) => s.1 = u.1 ∧ CS C2 M12 n s.2 u.2 ∧ s.2.1 45 4 = u.2.1 162 33 ∧ (∀ i, u.2.1 174 i = M12.1 174 i) ∧ Rx M12 u.2) x16 x9 := by
    refine it_2f (I := fun (u : Int32 × Mem) (s : Int32 × Int32 × Mem) => ∃ d : Nat, d ≤ L ∧ s.1.toInt = (d : Int) ∧ s.2.1.toInt = (d : Int) ∧ u.1.toInt = (d : Int) ∧ CS C2 M12 n s.2.2 u.2 ∧ s.2.2.1 45 4 = u.2.1 162 33 ∧ (∀ i, u.2.1 174 i = M12.1 174 i) ∧ AD L s.2.2 u.2 ∧ Rx M12 u.2) (Q := fun (u : Int32 × Mem) (s : Int32 × Mem) => s.1 = u.1 ∧ CS C2 M12 n s.2 u.2 ∧ s.2.1 45 4 = u.2.1 162 33 ∧ (∀ i, u.2.1 174 i = M12.1 174 i) ∧ Rx M12 u.2) ?_ r16 e9 ⟨0, by omega, rfl, rfl, rfl, CS_r zaC.1, h45, fun _ => rfl, adC, Rx_r jM kkM⟩
    rintro ⟨ud, U⟩ ⟨sd, si, S⟩ a b ⟨d, dL, h1, h2, h3, cs, h4, h174, had, hrx⟩ ea eb
    dsimp only at h1 h2 h3 cs h4 h174 had hrx
    unfold lb_Mod_evening_122 at ea
    unfold lb_Top_evening_48 at eb
    dsimp only at ea eb
    rcases io ea with ⟨g, ea⟩ | ⟨g, ea⟩
    · have g1 := q_le g
      rw [if_pos (Int32.le_iff_toInt_le.mpr (by omega))] at eb
      obtain rfl := Option.some.inj ea
      obtain rfl := Option.some.inj eb
      exact .inr (.inl ⟨_, _, rfl, rfl, Int32.toInt_inj.mp (h1.trans h3.symm), cs, h4, h174, hrx⟩)
    have g1 := q_ng g
    rw [if_neg (fun h => by have := q_le h; omega), if_pos (Int32.toInt_inj.mp (h1.trans h2.symm))] at eb
    obtain ⟨x13, e13, ea⟩ := bo ea
    obtain ⟨x5, e5, eb⟩ := bo eb
    have i3 : ((3 : Int32) * ud).toInt = ((3 * d : Nat) : Int) := by rw [mul_ti k3 h3 (by omega) (by omega)]; omega
    obtain ⟨D1, D2, D3⟩ := does_2 cs.1 h4 h2 (by omega) i3 had (by omega) e5 e13
    have rx13 := (some_of (Rx_act hrx _ (by omega)) e13).1
    have fr := wf_Mod_act _ U (L := []) (sb_r _) Fx_r e13
    have fx := wf_Top_does _ S (L := []) (sb_r _) Fx_r e5
    have f174 : ∀ i, x13.2.1 174 i = M12.1 174 i := fun i => by rw [(fr 174 i (by rw [show sl 174 i = 174 from rfl]; decide +kernel) (by simp)).1]; exact h174 i
    have f175 : ∀ i, x13.2.1 175 i = U.1 175 i := fun i => (fr 175 i (by rw [show sl 175 i = 175 from rfl]; decide +kernel) (by simp)).1
    have f148 : ∀ i, x5.2.1 148 i = S.1 148 i := fun i => (fx 148 i (by rw [show sl 148 i = 148 from rfl]; decide +kernel) (by simp)).1
    have f149 : ∀ i, x5.2.1 149 i = S.1 149 i := fun i => (fx 149 i (by rw [show sl 149 i = 149 from rfl]; decide +kernel) (by simp)).1
    have f150 : ∀ i, x5.2.1 150 i = S.1 150 i := fun i => (fx 150 i (by rw [show sl 150 i = 150 from rfl]; decide +kernel) (by simp)).1
    have had' : AD L x5.2 x13.2 := by
      unfold AD at had ⊢
      simp only [f175, f148, f149, f150]
      exact had
    have s1 : (si + (1 : Int32)).toInt = ((d + 1 : Nat) : Int) := add_ti h2 o1 (by omega) (by omega)
    rcases D1 with ⟨w1, w2⟩ | ⟨w1, w2⟩
    · rw [if_pos w2] at ea
      rw [if_pos w1] at eb
      obtain rfl := Option.some.inj ea
      obtain rfl := Option.some.inj eb
      refine .inr (.inr ⟨_, _, rfl, rfl, fun c hc => ?_⟩)
      unfold lb_Top_evening_48 at hc
      dsimp only at hc
      have fin : c = .inr (sd, x5.2) := by
        rcases io hc with ⟨_, hc⟩ | ⟨_, hc⟩
        · exact (Option.some.inj hc).symm
        · rw [if_neg (fun h => by have := q_eq h; omega)] at hc
          exact (Option.some.inj hc).symm
      subst fin
      exact ⟨_, rfl, Int32.toInt_inj.mp (h1.trans h3.symm), CS_t cs D2, D3, f174, rx13⟩
    · rw [if_neg w2] at ea
      rw [if_neg w1] at eb
      obtain rfl := Option.some.inj ea
      obtain rfl := Option.some.inj eb
      exact .inl ⟨_, _, rfl, rfl, d + 1, by omega, add_ti h1 o1 (by omega) (by omega), s1, add_ti h3 o1 (by omega) (by omega), CS_t cs D2, D3, f174, had', rx13⟩
  obtain ⟨k1, k2, k4, k5, k6⟩ := key
  refine ⟨k1, k4, ZA_cs zaC k2, ?_, ?_, k6.2.1⟩
  · exact ZS_c n8 (scn_f (fun kx i a b => k2.2.1.1.1 kx i (.inl (by omega)))) (fun i _ => (k5 i).symm) zs18
  · exact ZV_a n8 k2.2.2.2 (fun i _ => k5 i) zv18
theorem row_x {X R x r : Mem} {n : Nat} (za : ZA X R n) (jr : J r) (fx : ∀ kx i, kx ≠ 161 → ¬ (kx = 0 ∧ i = 15) → x.1 kx i = X.1 kx i) (x2 : x.2 = X.2) (fr : ∀ kx i, kx ≠ 168 → ¬ (kx = 162 ∧ i = 12) → r.1 kx i = R.1 kx i) : ZA x r n :=
  ZA_z za jr (fun kx i h => fx kx i (by unfold CXr CX at h; omega) (by unfold CXr CX at h; omega)) (fun i => by rw [x2]) (fun i => by rw [x2]) (fun i => by rw [x2]) (fun i => by rw [x2]) (fun kx i h => fr kx i (by unfold CRr CR at h; omega) (by unfold CRr CR at h; omega))
theorem eve_row {X R : Mem} {n : Nat} {v1 v2 w1 w2 : Int32} {x r : Int32 × Mem} (za : ZA X R n) (jr : J r.2) (e2 : v2 = w2) (ex : j_Top_evening_90 v1 v2 X = some x) (er : j_Mod_evening_155 w1 w2 R = some r) : x.1 = r.1 ∧ ZA x.2 r.2 n := by
  have fin : ∀ (a b : Int32) (A B : Mem), (∀ kx i, kx ≠ 161 → ¬ (kx = 0 ∧ i = 15) → A.1 kx i = X.1 kx i) → A.2 = X.2 → (∀ kx i, kx ≠ 168 → ¬ (kx = 162 ∧ i = 12) → B.1 kx i = R.1 kx i) → j_Top_evening_105 v2 a A = some x → j_Mod_evening_171 w2 b B = some r → x.1 = r.1 ∧ ZA x.2 r.2 n := by
    intro a b A B fA qA fB ea eb
    unfold j_Top_evening_105 at ea
    obtain ⟨x11, e11, ea⟩ := bo ea
    obtain ⟨x12, e12, ea⟩ := bo ea
    obtain rfl := Option.some.inj ea
    unfold j_Mod_evening_171 at eb
    obtain ⟨y18, ey18, eb⟩ := bo eb
    obtain ⟨y19, ey19, eb⟩ := bo eb
    obtain rfl := Option.some.inj eb
    have n1 := note_i e11
    have n2 := note_i e12
    have p1 := put_i ey18
    have p2 := put_i ey19
    exact ⟨e2, row_x za jr (fun kx i h1 h2 => by show x12.1 kx i = _; rw [n2.1 kx i h1 h2, n1.1 kx i h1 h2]; exact fA kx i h1 h2) (by show x12.2 = _; rw [n2.2, n1.2, qA]) (fun kx i h1 h2 => by show y19.1 kx i = _; rw [p2 kx i h1 h2, p1 kx i h1 h2]; exact fB kx i h1 h2)⟩
  unfold j_Top_evening_90 at ex
  obtain ⟨x10, e10, ex⟩ := bo ex
  have em := empty_i e10
  unfold j_Mod_evening_155 at er
  obtain ⟨M17, m17, er⟩ := mo er
  have fA : ∀ kx i, kx ≠ 161 → ¬ (kx = 0 ∧ i = 15) → x10.1 kx i = X.1 kx i := fun kx i _ h => em.1 kx i h
  have fB : ∀ kx i, kx ≠ 168 → ¬ (kx = 162 ∧ i = 12) → M17.1 kx i = R.1 kx i := fun kx i _ h => by rw [m17, si_ne h]
  rcases io ex with ⟨_, ex⟩ | ⟨_, ex⟩ <;> rcases io er with ⟨_, er⟩ | ⟨_, er⟩
  · exact fin _ _ _ _ fA em.2 fB ex er
  · exact fin _ _ _ _ fA em.2 fB ex er
  · exact fin _ _ _ _ fA em.2 fB ex er
  · exact fin _ _ _ _ fA em.2 fB ex er
theorem evening_2 {X R : Mem} {n : Nat} {x r : Int32 × Mem} (za : ZA X R n) (kk : KK R) (tx : cx X 60 = rx R 60) (l : X.1 1 1 = R.1 162 10) (hJ : J X) (hb : ∀ p : Nat, (p : Int) < (R.1 162 10).toInt → -128 ≤ (R.1 167 p).toInt ∧ (R.1 167 p).toInt ≤ 127) (jr : J r.2) (ex : f_Top_evening X = some x) (er : f_Mod_evening R = some r) : x.1 = r.1 ∧ ZA x.2 r.2 n := by
  have l2 := Jr_162_10 za.1.2.1
  have hl : (X.1 1 1).toInt ≤ 80 := by rw [l]; exact l2.2
  have jR := za.1.2.1
  have z0 := o0
  have ym := om
  have k60 : (60 : Int32).toInt = 60 := rfl
  unfold f_Mod_evening at er
  obtain ⟨M1, m1, er⟩ := mo er
  obtain ⟨x2, e2, er⟩ := bo er
  obtain ⟨M3, m3, er⟩ := mo er
  obtain ⟨rd, b15, b17, b18, bf, bq, bq2⟩ := beg_i (K := 60) rfl l2.2 hb m1 e2 m3
  rw [← tx] at rd
  have jM3 : J M3 := by
    have j1 : J M1 := by rw [m1]; exact Jw_fld okf_162_13 jR _
    have q10 : M1.1 162 10 = R.1 162 10 := by rw [m1, si_ne (by omega)]
    have j2 := some_of (sp_begin j1 167 (M1.1 162 10) (60 : Int32) (.inl ⟨rfl, by rw [q10]; exact l2.1, by rw [q10]; exact l2.2, by omega, by omega⟩)) e2
    rw [m3]; exact Jw_162_10 j2.1.1 _ (by decide) (by decide)
  unfold f_Top_evening at ex
  obtain ⟨x1, ex1, ex⟩ := bo ex
  obtain ⟨M2, m2, ex⟩ := mo ex
  -- the end, when both go on
  have doit : ∀ (A S : Mem) (L : Nat) (v1 : Int32), EAf X M3 A S → J S → AD L A S → v1.toInt = (L : Int) → x1.1 = v1 → x1.2 = A → L ≤ 31 → (S.1 162 18).toInt = -1 → j_Mod_evening_89 v1 S = some r → x.1 = r.1 ∧ ZA x.2 r.2 n := by
    intro A S L v1 fa jS ad hv hx1 hx2 L31 hw e89
    subst hx2
    have zaS : ZA M2 S n := ZA_z za jS (fun kx i h => by
      have hh : kx ≠ 1 ∧ kx ≠ 147 ∧ kx ≠ 148 ∧ kx ≠ 149 ∧ kx ≠ 150 := by unfold CXr CX at h; omega
      rw [m2, si_ne (by omega)]; exact fa.1 kx i (by omega) (by omega) (by omega)) (fun i => by rw [m2, si_2, fa.2.1]) (fun i => by rw [m2, si_2, fa.2.1]) (fun i => by rw [m2, si_2, fa.2.1]) (fun i => by rw [m2, si_2, fa.2.1]) (fun kx i h => by rw [fa.2.2.1 kx i (by unfold CRr CR at h; omega) (by unfold CRr CR at h; omega)]; exact bf kx i (by unfold CRr CR at h; omega))
    have adM : AD L M2 S := by
      intro i hi
      rw [m2, si_ne (by omega), si_ne (by omega), si_ne (by omega)]; exact ad i hi
    rw [hx1] at ex
    rw [if_pos (Int32.le_iff_toInt_le.mpr (by omega))] at ex
    obtain ⟨X3, e3, ex⟩ := bo ex
    obtain ⟨x4, e4, ex⟩ := bo ex
    obtain ⟨x9, e9, ex⟩ := bo ex
    unfold j_Mod_evening_89 at e89
    obtain ⟨y10, ey10, e89⟩ := bo e89
    rcases fine_i ey10 with ⟨_, h⟩ | ⟨h, _⟩
    · exact absurd hw h
    rw [h, if_neg (by decide)] at e89
    obtain ⟨x11, r11, e89⟩ := bo e89
    obtain ⟨M12, m12, e89⟩ := mo e89
    obtain ⟨x16, r16, e89⟩ := bo e89
    have fS : ∀ kx i, kx ≠ 175 → ¬ (kx = 162 ∧ (i = 10 ∨ i = 13 ∨ i = 15 ∨ i = 16 ∨ i = 17 ∨ i = 18)) → S.1 kx i = R.1 kx i := fun kx i h1 h2 => by rw [fa.2.2.1 kx i h1 (by omega)]; exact bf kx i h2
    have kkS : KK S := KK_c jR ⟨⟨fS 162 2 (by omega) (by omega), fS 162 3 (by omega) (by omega), fun i => fS 164 i (by omega) (by omega)⟩, fS 162 27 (by omega) (by omega), fS 162 48 (by omega) (by omega), fun i _ _ => fS 163 i (by omega) (by omega), fun i => fS 173 i (by omega) (by omega), fun i => fS 189 i (by omega) (by omega), fun i => fS 190 i (by omega) (by omega), fun i => fS 191 i (by omega) (by omega)⟩ kk
    obtain ⟨D1, D2, D3, D4, D5, D6⟩ := eve_do zaS kkS adM hv L31 e3 e4 e9 r11 m12 r16
    unfold j_Top_evening_75 at ex
    unfold j_Mod_evening_143 at e89
    rw [D1] at ex
    rcases io ex with ⟨g, ex⟩ | ⟨g, ex⟩
    · rw [if_pos g] at e89
      exact eve_row D3 jr rfl ex e89
    · rw [if_neg g] at e89
      obtain ⟨x14, e14, ex⟩ := bo ex
      obtain ⟨y21, ey21, e89⟩ := bo e89
      have jy : J y21 := (some_of (fs_remember 174 D3.1.2.1 D6 (.inr (.inl rfl)) (KP_v D5)) ey21).1
      exact eve_row (hist_end (.inr rfl) D3 jy D4 D5 e14 ey21) jr rfl ex e89
  -- both refuse
  have refuse : ∀ (A S : Mem) (w : Nat), EAf X M3 A S → J S → x1.1.toInt = -1 - (w : Int) → w ≤ 1000 → x1.2 = A → (S.1 162 18).toInt = (w : Int) → (∀ v1, j_Mod_evening_89 v1 S = some r → x.1 = r.1 ∧ ZA x.2 r.2 n) := by
    intro A S w fa jS hx1 w1000 hx2 hw v1 e89
    subst hx2
    rw [if_neg (fun h => by have := q_le h; omega)] at ex
    obtain rfl := Option.some.inj ex
    unfold j_Mod_evening_89 at e89
    obtain ⟨y10, ey10, e89⟩ := bo e89
    rcases fine_i ey10 with ⟨h, _⟩ | ⟨_, h⟩
    rotate_left
    · omega
    rw [h, if_pos rfl] at e89
    obtain rfl := Option.some.inj e89
    refine ⟨Int32.toInt_inj.mp ?_, ?_⟩
    · show x1.1.toInt = ((-1 : Int32) - (S.1 162 18)).toInt
      rw [hx1, sub_ti om hw (by omega) (by omega)]
    · show ZA M2 S n
      exact ZA_z za jS (fun kx i h => by
        have hh : kx ≠ 1 ∧ kx ≠ 147 ∧ kx ≠ 148 ∧ kx ≠ 149 ∧ kx ≠ 150 := by unfold CXr CX at h; omega
        rw [m2, si_ne (by omega)]; exact fa.1 kx i (by omega) (by omega) (by omega)) (fun i => by rw [m2, si_2, fa.2.1]) (fun i => by rw [m2, si_2, fa.2.1]) (fun i => by rw [m2, si_2, fa.2.1]) (fun i => by rw [m2, si_2, fa.2.1]) (fun kx i h => by rw [fa.2.2.1 kx i (by unfold CRr CR at h; omega) (by unfold CRr CR at h; omega)]; exact bf kx i (by unfold CRr CR at h; omega))
  unfold f_Acts_read at ex1
  obtain ⟨X1, x1e, ex1⟩ := mo ex1
  have x111 : X1.1 1 1 = X.1 1 1 := by rw [x1e, si_ne (by omega)]
  rcases io er with ⟨g15, er⟩ | ⟨g15, er⟩
  · have g1 := q_le g15
    rw [b15, ← l] at g1
    have len0 : X.1 1 1 = 0 := Int32.toInt_inj.mp (by have := (Jr_1_1 hJ).1; omega)
    rw [x111, if_pos len0] at ex1
    obtain rfl := Option.some.inj ex1
    obtain ⟨y9, ey9, er⟩ := bo er
    have h9 : y9 = (0, M3) := by
      refine it_r (I := fun s : Int32 × Int32 × Mem => s = (0, 0, M3)) (Q := fun y : Int32 × Mem => y = (0, M3)) ?_ ey9 rfl
      rintro s q rfl e
      unfold lb_Mod_evening_39 at e
      dsimp only at e
      rw [if_pos rfl] at e
      obtain rfl := Option.some.inj e
      rfl
    subst h9
    unfold j_Mod_evening_70 at er
    dsimp only at er
    rw [if_pos (Int32.le_iff_toInt_le.mpr (by rw [b15, ← l, b17]; omega))] at er
    exact doit X1 M3 0 0 ⟨fun kx i _ h2 _ => by rw [x1e, si_ne h2], by rw [x1e, si_2], fun _ _ _ _ => rfl, rfl⟩ jM3 (fun i hi => by omega) rfl rfl rfl (by omega) b18 er
  have g1 := q_ng g15
  rw [b15, ← l] at g1
  rw [x111, if_neg (fun h => by rw [h] at g1; omega)] at ex1
  obtain ⟨y, ey, ex1⟩ := bo ex1
  obtain ⟨z, ez, er⟩ := bo er
  have Q := eve_l hl rd b17 b18 x1e ey ez
  have jz : J z.2 := by
    have piM : PI M3 := by
      refine ⟨jM3, fun _ => ?_⟩
      show (M3.1 162 17).toInt ≤ (M3.1 162 15).toInt
      rw [b17, b15]; exact l2.1
    exact (some_of (sl_evening39 piM b17 (1 : Int32)) ez).1.1
  rcases y with y | y | y | y
  · exact Q.elim
  · replace ex1 := el_l (el_r ex1)
    obtain rfl := Option.some.inj ex1
    obtain ⟨⟨w, w1000, q1, q2⟩, fa⟩ := Q
    unfold j_Mod_evening_70 at er
    rcases io er with ⟨_, er⟩ | ⟨_, er⟩
    · exact refuse y.2 z.2 w fa jz q1 w1000 rfl q2 _ er
    · obtain ⟨y24, ey24, er⟩ := bo er
      have := fault_n (by rw [q2]; omega) ey24
      rw [this] at er
      exact refuse y.2 z.2 w fa jz q1 w1000 rfl q2 _ er
  · replace ex1 := el_l (el_r (el_r ex1))
    obtain ⟨⟨j, q, j31, hj3, hz, ha, hw, tq, q60, ad⟩, fa⟩ := Q
    have y11 : y.1 1 1 = X.1 1 1 := fa.1 1 1 (by omega) (by omega) (by omega)
    have z15 : z.2.1 162 15 = X.1 1 1 := by rw [fa.2.2.1 162 15 (by omega) (by omega), b15]; exact l.symm
    unfold j_Mod_evening_70 at er
    rcases io ex1 with ⟨c, ex1⟩ | ⟨c, ex1⟩
    · have c1 := q_le c
      rw [y11] at c1
      have lp : (X.1 1 1).toInt ≤ (q : Int) := by
        by_cases g : ((q : Nat) : Int) < (X.1 1 1).toInt ∧ q < 60
        · unfold cx at tq
          rw [if_pos g] at tq
          have := (Jr_2 hJ q).1
          omega
        · omega
      rw [if_pos (Int32.le_iff_toInt_le.mpr (by rw [z15, ha]; exact lp))] at er
      obtain rfl := Option.some.inj ex1
      exact doit y z.2 (j + 1) z.1 fa jz ad hz (Int32.toInt_inj.mp (hj3.trans hz.symm)) rfl j31 hw er
    · have c1 := q_ng c
      rw [y11] at c1
      obtain rfl := Option.some.inj ex1
      rcases io er with ⟨g, _⟩ | ⟨_, er⟩
      · have := q_le g
        rw [z15, ha] at this
        omega
      obtain ⟨y24, ey24, er⟩ := bo er
      rcases fault_i ey24 with ⟨h, _⟩ | ⟨_, h⟩
      · exact absurd hw h
      have q0 : q = 60 := by
        by_cases g : q < 60
        · unfold cx at tq
          rw [if_pos ⟨by omega, g⟩] at tq
          have := (Jr_2 hJ q).1
          omega
        · omega
      have ff := fault_f ey24
      have k61 : (-61 : Int32).toInt = -61 := rfl
      refine refuse y y24 60 ⟨fa.1, fa.2.1, fun kx i h1 h2 => by rw [ff.1 kx i h2]; exact fa.2.2.1 kx i h1 h2, by rw [ff.2, fa.2.2.2]⟩ (some_of (sp_faultA jz) ey24).1.1 (by show (-61 : Int32).toInt = _; rw [k61]; rfl) (by omega) rfl (by rw [h, si_eq, ha, q0]) _ er
  · replace ex1 := el_r (el_r (el_r ex1))
    obtain rfl := Option.some.inj ex1
    obtain ⟨⟨q, q60, hy, ha, hw, hq⟩, fa⟩ := Q
    have z15 : z.2.1 162 15 = X.1 1 1 := by rw [fa.2.2.1 162 15 (by omega) (by omega), b15]; exact l.symm
    unfold j_Mod_evening_70 at er
    rcases io er with ⟨g, _⟩ | ⟨_, er⟩
    · have := q_le g
      rw [z15, ha] at this
      omega
    obtain ⟨y24, ey24, er⟩ := bo er
    rcases fault_i ey24 with ⟨h, _⟩ | ⟨_, h⟩
    · exact absurd hw h
    have ff := fault_f ey24
    exact refuse y.2 y24 q ⟨fa.1, fa.2.1, fun kx i h1 h2 => by rw [ff.1 kx i h2]; exact fa.2.2.1 kx i h1 h2, by rw [ff.2, fa.2.2.2]⟩ (some_of (sp_faultA jz) ey24).1.1 (by show ((-1 : Int32) - y.1).toInt = _; rw [sub_ti om hy (by omega) (by omega)]) (by omega) rfl (by rw [h, si_eq]; exact ha) _ er
end
section
/-! the row told last, both sides; minutes to come -/
def RR (X R : Mem) : Prop := ∃ k : Nat, k ≤ 10 ∧ (X.1 0 15).toInt = (k : Int) ∧ (R.1 162 12).toInt = (k : Int) ∧ ∀ i, i < k → X.1 161 i = R.1 168 i
theorem RR_f {X Y R S : Mem} (a : Y.1 0 15 = X.1 0 15) (b : ∀ i, Y.1 161 i = X.1 161 i) (c : S.1 162 12 = R.1 162 12) (d : ∀ i, S.1 168 i = R.1 168 i) (h : RR X R) : RR Y S := by
  obtain ⟨k, k10, h1, h2, h3⟩ := h
  exact ⟨k, k10, by rw [a]; exact h1, by rw [c]; exact h2, fun i hi => by rw [b, d]; exact h3 i hi⟩
def RRn (k : Nat) (X R : Mem) : Prop := (X.1 0 15).toInt = (k : Int) ∧ (R.1 162 12).toInt = (k : Int) ∧ ∀ i, i < k → X.1 161 i = R.1 168 i
theorem RRn_r {k : Nat} {X R : Mem} (k10 : k ≤ 10) (h : RRn k X R) : RR X R := ⟨k, k10, h⟩
theorem RR_0 {X x R r : Mem} (e : f_Top_emptyRow X = some x) (er : r = s_i R 162 12 (0 : Int32)) : RRn 0 x r := by
  unfold f_Top_emptyRow at e
  obtain ⟨M1, e1, e⟩ := mo e
  obtain rfl := Option.some.inj e
  exact ⟨by rw [e1, si_eq]; rfl, by rw [er, si_eq]; rfl, fun i hi => by omega⟩
theorem RR_n {X x R r : Mem} {v w : Int32} {k : Nat} (h : RRn k X R) (k10 : k < 10) (hv : v = w) (e : f_Top_note v X = some x) (er : f_Mod_put w R = some r) : RRn (k + 1) x r := by
  subst hv
  have z0 := o0
  have z10 : (10 : Int32).toInt = 10 := rfl
  obtain ⟨h1, h2, h3⟩ := h
  unfold f_Top_note at e
  rcases io e with ⟨c, _⟩ | ⟨_, e⟩
  · have := q_lt c; omega
  rcases io e with ⟨c, _⟩ | ⟨_, e⟩
  · have := q_le c; omega
  obtain ⟨_, e⟩ := io_n e
  obtain ⟨M1, m1, e⟩ := mo e
  obtain ⟨M2, m2, e⟩ := mo e
  obtain rfl := Option.some.inj e
  unfold f_Mod_put at er
  obtain ⟨_, er⟩ := io_n er
  obtain ⟨N1, n1, er⟩ := mo er
  obtain ⟨N2, n2, er⟩ := mo er
  obtain rfl := Option.some.inj er
  rw [q_nat h1] at m1
  rw [q_nat h2] at n1
  refine ⟨?_, ?_, fun i hi => ?_⟩
  · rw [m2, si_eq, m1, si_ne (by omega)]; exact add_ti h1 o1 (by omega) (by omega)
  · rw [n2, si_eq, n1, si_ne (by omega)]; exact add_ti h2 o1 (by omega) (by omega)
  · have eX : M2.1 161 i = (s_i X 161 k v).1 161 i := by rw [m2, si_ne (by omega), m1]
    have eR : N2.1 168 i = (s_i R 168 k v).1 168 i := by rw [n2, si_ne (by omega), n1]
    rw [eX, eR]
    rcases Nat.lt_or_ge i k with g | g
    · rw [si_ne (by omega), si_ne (by omega)]; exact h3 i g
    · have : i = k := by omega
      subst this
      rw [si_eq, si_eq]
/-- the town as it will be: the spare scene and the row that goes ahead -/
def ZT (X R : Mem) (n : Nat) : Prop := n ≤ 8 ∧ J R ∧ ZB X R n ∧ ZS (scn X 25) (R.1 176) n ∧ ZV R (R.1 176) n ∧ ZW X R 176
def mG176 : Nat := 6120724063703626647367292593586058256162792417800388184993935573123072
def mP25 : Nat := 71098737063784989085461767434649766220228279869903869167057116519632229632726926570288747756118151681540096
def FQ2 (X R x r : Mem) : Prop := Fz X x ∧ (∀ kx i, CRr kx i → r.1 kx i = R.1 kx i) ∧ (x.1 0 15 = X.1 0 15 ∧ ∀ i, x.1 161 i = X.1 161 i) ∧ (r.1 162 12 = R.1 162 12 ∧ ∀ i, r.1 168 i = R.1 168 i)
theorem FQ2_r {X R : Mem} : FQ2 X R X R := ⟨Fz_r, fun _ _ _ => rfl, ⟨rfl, fun _ => rfl⟩, rfl, fun _ => rfl⟩
theorem Fz_t {A B C : Mem} (h : Fz A B) (g : Fz B C) : Fz A C := ⟨fun kx i w => (g.1 kx i w).trans (h.1 kx i w), fun i => (g.2.1 i).trans (h.2.1 i), fun i => (g.2.2.1 i).trans (h.2.2.1 i), fun i => (g.2.2.2.1 i).trans (h.2.2.2.1 i), fun i => (g.2.2.2.2 i).trans (h.2.2.2.2 i)⟩
theorem FQ2_t {X R x r y s : Mem} (h : FQ2 X R x r) (g : FQ2 x r y s) : FQ2 X R y s := ⟨Fz_t h.1 g.1, fun kx i w => (g.2.1 kx i w).trans (h.2.1 kx i w), ⟨g.2.2.1.1.trans h.2.2.1.1, fun i => (g.2.2.1.2 i).trans (h.2.2.1.2 i)⟩, g.2.2.2.1.trans h.2.2.2.1, fun i => (g.2.2.2.2 i).trans (h.2.2.2.2 i)⟩
theorem FQ2_RR {X R x r : Mem} (h : FQ2 X R x r) (k : RR X R) : RR x r := RR_f h.2.2.1.1 h.2.2.1.2 h.2.2.2.1 h.2.2.2.2 k
theorem FQ2_ZA {X R x r : Mem} {n : Nat} (h : FQ2 X R x r) (jr : J r) (za : ZA X R n) : ZA x r n := ZA_z za jr h.1.1 h.1.2.1 h.1.2.2.1 h.1.2.2.2.1 h.1.2.2.2.2 h.2.1
theorem pass_t {X R x r : Mem} {n : Nat} (zt : ZT X R n) (ex : f_Clock_pass 25 32 X = some x) (er : f_Mod_goMinute 176 R = some r) : ZT x r n ∧ PP X R 25 176 n x r ∧ FQ2 X R x r := by
  obtain ⟨n8, jR, zb, zs, zv, zw⟩ := zt
  have P := pass_2 (.inr rfl) (.inr (.inr rfl)) jR n8 zb zs zv zw ex er
  have fx : Fx mP25 [] X x := wf_Clock_pass 25 32 X (by decide +kernel) (oc_c (sb_r _) (by decide +kernel)) (oc_c (sb_r _) (by decide +kernel)) (oc_c (sb_r _) (by decide +kernel)) (oc_c (sb_r _) (by decide +kernel)) Fx_r ex
  have fr : Fx mG176 [] R r := wf_Mod_goMinute 176 R (by decide +kernel) (oc_c (sb_r _) (by decide +kernel)) Fx_r er
  have P' := P
  obtain ⟨p1, p2, p3, p4, p5, p6, p7, p8, p9, p10, p11⟩ := P
  exact ⟨⟨n8, p1, ZB_a p2 p3 zb, p4, p5, ZW_a p2 p3 (plk_c p9 zv.2.1.2) zw⟩, P', cx_f (by decide +kernel) fx, cr_f (by decide +kernel) fr, ⟨(fx 0 15 (by decide +kernel) (by simp)).1, fun i => (fx 161 i (by rw [show sl 161 i = 161 from rfl]; decide +kernel) (by simp)).1⟩, (fr 162 12 (by decide +kernel) (by simp)).1, fun i => (fr 168 i (by rw [show sl 168 i = 168 from rfl]; decide +kernel) (by simp)).1⟩
theorem lay_t {R R1 : Mem} (jR : J R) (er : f_Mod_lay 163 176 (0 : Int32) R = some R1) : J R1 ∧ (∀ i, i < 96 → R1.1 176 i = R.1 163 i) ∧ (∀ kx i, kx ≠ 176 → R1.1 kx i = R.1 kx i) := by
  have FL := fs_lay 163 176 (0 : Int32) jR (.inl rfl) (by decide) (by decide +kernel) (by decide) (by decide) (by decide +kernel) (by decide +kernel) (by decide)
  obtain ⟨jL, l1, l2⟩ := some_of FL er
  refine ⟨jL, fun i hi => ?_, fun kx i h => l2 kx i (fun w => h w.1)⟩
  have := l1 i hi
  rw [show (0 : Int32).toInt.toNat + i = i by rw [o0]; simp] at this
  exact this
theorem begin_t {X R X1 R1 : Mem} {n : Nat} (zq : ZQ X R n) (e : f_Scene_copy 25 11 X = some X1) (er : f_Mod_lay 163 176 (0 : Int32) R = some R1) : ZT X1 R1 n ∧ FQ2 X R X1 R1 := by
  obtain ⟨zq1, agx, zs1⟩ := copy_q (.inr rfl) zq e
  obtain ⟨c1, c2, c3⟩ := copy_i (v0 := 25) (v1 := 11) (by omega) e
  obtain ⟨n8, jR, zb, zs, zv, zw⟩ := zq
  obtain ⟨j1, l1, l2⟩ := lay_t jR er
  have agr : AgR R R1 := ⟨l2 162 2 (by omega), l2 162 3 (by omega), l2 162 4 (by omega), l2 162 5 (by omega), l2 162 23 (by omega), fun i => l2 164 i (by omega), fun i => l2 165 i (by omega), fun i => l2 166 i (by omega), fun i => l2 172 i (by omega)⟩
  refine ⟨⟨n8, j1, ZB_a agx agr zb, ZS_c n8 SEq_r (fun i hi => (l1 i hi).symm) zs1, ZV_a n8 agr (fun i hi => l1 i hi) zv, ZW_a agx agr (plk_c (fun i _ _ => l1 i (by omega)) zv.2.1.2) zw⟩, ⟨fun kx i h => c2 kx i (by unfold CXr CX at h; omega), fun i => by rw [c3], fun i => by rw [c3], fun i => by rw [c3], fun i => by rw [c3]⟩, fun kx i h => l2 kx i (by unfold CRr CR at h; omega), ⟨c2 0 15 (by omega), fun i => c2 161 i (by omega)⟩, l2 162 12 (by omega), fun i => l2 168 i (by omega)⟩
/-- where one is, as it will be -/
theorem whr_t {X R : Mem} {n p : Nat} (zt : ZT X R n) (hp : p < n) : (∀ x, f_Mod_cellOf (R.1 176 p) = some x → x = X.1 26 p) ∧ (0 ≤ (X.1 26 p).toInt ∧ (X.1 26 p).toInt ≤ 35 ∧ (X.1 26 p).toInt < xw R * xh R) := by
  obtain ⟨n8, jR, zb, zs, zv, zw⟩ := zt
  obtain ⟨s1, s2, s3, s4, s5, _⟩ := zs.1 p hp
  have v1 := (zv.1 p hp).1
  have e0 : scn X 25 0 p = X.1 26 p := rfl
  have e1 : scn X 25 1 p = X.1 27 p := rfl
  rw [e0, e1] at s1
  rw [e0] at s2 s3
  rw [e1] at s4 s5
  obtain ⟨_, _, on⟩ := v1
  have md : (R.1 176 p).toInt % 36 = (X.1 26 p).toInt := by omega
  refine ⟨fun x hx => Int32.toInt_inj.mp (by rw [(place_i (v := R.1 176 p) (by omega) (by omega)).1 hx, md]), s2, s3, ?_⟩
  have := on.2.1
  rw [md] at this
  exact this
theorem ZA_M1 {X R M1 : Mem} {n : Nat} (za : ZA X R n) (m1 : M1 = s_i R 162 13 (0 : Int32)) : ZA X M1 n ∧ FQ2 X R X M1 := by
  have f : ∀ kx i, ¬ (kx = 162 ∧ i = 13) → M1.1 kx i = R.1 kx i := fun kx i h => by rw [m1, si_ne h]
  refine ⟨ZA_13 (by rw [m1]; exact Jw_fld okf_162_13 za.1.2.1 _) (fun kx i h _ _ => f kx i (by omega)) za, Fz_r, fun kx i h => f kx i (by unfold CRr CR at h; omega), ⟨rfl, fun _ => rfl⟩, f 162 12 (by omega), fun i => f 168 i (by omega)⟩
/-! met -/
theorem two_i {X R : Mem} {n : Nat} {a b x y : Int32} (zc : ZC X R n) (n8 : n ≤ 8) (ex : f_Top_areTwo a b X = some x) (ey : f_Mod_areTwo a b R = some y) : (x = 0 ∧ y = 0) ∨ (x = 1 ∧ y = 1 ∧ ∃ p q : Nat, a.toInt = (p : Int) ∧ b.toInt = (q : Int) ∧ p < n ∧ q < n ∧ p ≠ q) := by
  unfold f_Top_areTwo at ex
  unfold f_Mod_areTwo at ey
  obtain ⟨x1, ex1, ex⟩ := bo ex
  obtain ⟨y1, ey1, ey⟩ := bo ey
  have h1 := crowd_has (n := n) (by rw [zc.2.1]; exact zc.1) n8 ex1
  have g1 := isOne_i zc.1 n8 ey1
  rcases h1 with ⟨a1, b1⟩ | ⟨a1, b1⟩
  rotate_left
  · rcases g1 with ⟨_, c⟩ | ⟨c, _⟩
    · exact absurd c b1
    rw [a1, if_pos rfl] at ex
    rw [c, if_pos rfl] at ey
    exact .inl ⟨(Option.some.inj ex).symm, (Option.some.inj ey).symm⟩
  rcases g1 with ⟨c1, _⟩ | ⟨_, c⟩
  rotate_left
  · exact absurd b1 c
  rw [a1, if_neg (by decide)] at ex
  rw [c1, if_neg (by decide)] at ey
  obtain ⟨x2, ex2, ex⟩ := bo ex
  obtain ⟨y2, ey2, ey⟩ := bo ey
  have h2 := crowd_has (n := n) (by rw [zc.2.1]; exact zc.1) n8 ex2
  have g2 := isOne_i zc.1 n8 ey2
  rcases h2 with ⟨a2, b2⟩ | ⟨a2, b2⟩
  rotate_left
  · rcases g2 with ⟨_, c⟩ | ⟨c, _⟩
    · exact absurd c b2
    rw [a2, if_pos rfl] at ex
    rw [c, if_pos rfl] at ey
    exact .inl ⟨(Option.some.inj ex).symm, (Option.some.inj ey).symm⟩
  rcases g2 with ⟨c2, _⟩ | ⟨_, c⟩
  rotate_left
  · exact absurd b2 c
  rw [a2, if_neg (by decide)] at ex
  rw [c2, if_neg (by decide)] at ey
  rcases io ex with ⟨g, ex⟩ | ⟨g, ex⟩
  · rw [if_pos g] at ey
    exact .inl ⟨(Option.some.inj ex).symm, (Option.some.inj ey).symm⟩
  · rw [if_neg g] at ey
    obtain ⟨p, hp⟩ := ti_ofn b1.1
    obtain ⟨q, hq⟩ := ti_ofn b2.1
    exact .inr ⟨(Option.some.inj ex).symm, (Option.some.inj ey).symm, p, q, hp, hq, by omega, by omega, fun h => by
      have := q_ne g
      omega⟩
theorem met_q {X R : Mem} {n : Nat} {a b : Int32} {x : Int32} {r : Int32 × Mem} (za : ZA X R n) (ex : f_Top_met a b X = some x) (er : f_Mod_met a b R = some r) : x = r.1 ∧ (RR X R → RR X r.2) := by
  have n8 := za.1.1
  unfold f_Mod_met at er
  obtain ⟨M1, m1, er⟩ := mo er
  obtain ⟨zaM, fq⟩ := ZA_M1 za m1
  unfold f_Top_met at ex
  obtain ⟨x1, ex1, ex⟩ := bo ex
  obtain ⟨y2, ey2, er⟩ := bo er
  have zs := zaM.1.2.2.2.1
  rcases two_i zaM.1.2.2.1.2.1 n8 ex1 ey2 with ⟨h1, h2⟩ | ⟨h1, h2, p, q, hp, hq, pn, qn, pq⟩
  · rw [h1, if_pos rfl] at ex
    rw [h2, if_pos rfl] at er
    obtain rfl := Option.some.inj ex
    obtain rfl := Option.some.inj er
    exact ⟨rfl, FQ2_RR fq⟩
  · rw [h1, if_neg (by decide)] at ex
    rw [h2, if_neg (by decide)] at er
    obtain ⟨x2, ex2, ex⟩ := bo ex
    obtain rfl := Option.some.inj ex
    obtain ⟨_, er⟩ := io_n er
    obtain rfl := Option.some.inj er
    refine ⟨?_, FQ2_RR fq⟩
    unfold f_Scene_meetingsOfTwo at ex2
    obtain ⟨_, ex2⟩ := io_n ex2
    obtain ⟨_, ex2⟩ := io_n ex2
    obtain ⟨_, ex2⟩ := io_n ex2
    obtain rfl := Option.some.inj ex2
    have k8 : (8 : Int32).toInt = 8 := rfl
    have k16 : (16 : Int32).toInt = 16 := rfl
    have i1 : (a * (8 : Int32) + b).toInt = ((8 * p + q : Nat) : Int) := by rw [add_ti (mul_ti hp k8 (by omega) (by omega)) hq (by omega) (by omega)]; omega
    have i2 : (b * (8 : Int32) + a).toInt = ((8 * q + p : Nat) : Int) := by rw [add_ti (mul_ti hq k8 (by omega) (by omega)) hp (by omega) (by omega)]; omega
    have i3 : ((16 : Int32) + (8 : Int32) * a + b).toInt = ((16 + 8 * p + q : Nat) : Int) := by rw [add_ti (add_ti k16 (mul_ti k8 hp (by omega) (by omega)) (by omega) (by omega)) hq (by omega) (by omega)]; omega
    have r3 : rf 11 3 = 15 := by decide +kernel
    rw [q_nat i1, q_nat i2, r3]
    show _ = M1.1 163 ((16 : Int32) + (8 : Int32) * a + b).toNatClampNeg
    rw [q_nat i3]
    exact (zs.2.1 p q pn qn).symm
/-! ahead -/
theorem mins_t {X R : Mem} {n : Nat} {v : Int32} {x : Mem} {y : Int32 × Mem} (zt : ZT X R n) (h4 : X.1 45 4 = 0) (ex : iter (lb_Top_ahead_32 v) FU ((0 : Int32), X) = some x) (ey : iter (lb_Mod_ahead_33 v) FU ((0 : Int32), (0 : Int32), R) = some y) : ZT x y.2 n ∧ FQ2 X R x y.2 ∧ y.1 = x.1 45 4 := by
  refine it_2 (I := fun (s : Int32 × Mem) (t : Int32 × Int32 × Mem) => s.1 = t.2.1 ∧ ZT s.2 t.2.2 n ∧ FQ2 X R s.2 t.2.2 ∧ t.1 = s.2.1 45 4) (Q := fun (x : Mem) (y : Int32 × Mem) => ZT x y.2 n ∧ FQ2 X R x y.2 ∧ y.1 = x.1 45 4) ?_ ex ey ⟨rfl, zt, FQ2_r, h4.symm⟩
  rintro ⟨i, N⟩ ⟨m, i', T⟩ A B ⟨hi, z, fq, h5⟩ eA eB
  dsimp only at hi z fq h5
  subst hi
  unfold lb_Top_ahead_32 at eA
  unfold lb_Mod_ahead_33 at eB
  dsimp only at eA eB
  rcases io eA with ⟨g, eA⟩ | ⟨g, eA⟩
  · rw [if_pos g] at eB
    obtain rfl := Option.some.inj eA
    obtain rfl := Option.some.inj eB
    exact .inr ⟨_, _, rfl, rfl, z, fq, h5⟩
  · rw [if_neg g] at eB
    obtain ⟨z3, ez3, eA⟩ := bo eA
    obtain rfl := Option.some.inj eA
    obtain ⟨w3, ew3, eB⟩ := bo eB
    obtain rfl := Option.some.inj eB
    obtain ⟨zt2, pp, fq2⟩ := pass_t z ez3 ew3
    refine .inl ⟨_, _, rfl, rfl, rfl, zt2, FQ2_t fq fq2, ?_⟩
    show m + w3.1 162 31 = z3.1 45 4
    rw [pp.2.2.2.2.2.2.2.2.2.2, ← pp.2.2.2.2.2.2.2.1, h5]
theorem FQ_note {X R x r : Mem} {v w : Int32} (e : f_Top_note v X = some x) (er : f_Mod_put w R = some r) : Fz X x ∧ (∀ kx i, CRr kx i → r.1 kx i = R.1 kx i) := by
  have n1 := note_i e
  have p1 := put_i er
  exact ⟨⟨fun kx i h => n1.1 kx i (by unfold CXr CX at h; omega) (by unfold CXr CX at h; omega), fun i => by rw [n1.2], fun i => by rw [n1.2], fun i => by rw [n1.2], fun i => by rw [n1.2]⟩, fun kx i h => p1 kx i (by unfold CRr CR at h; omega) (by unfold CRr CR at h; omega)⟩
theorem ahead_q {X R : Mem} {n : Nat} {v : Int32} {x r : Int32 × Mem} (za : ZA X R n) (ex : f_Top_ahead v X = some x) (er : f_Mod_ahead v R = some r) : x.1 = r.1 ∧ (RR X R → RR x.2 r.2) := by
  have n8 := za.1.1
  have z0 := o0
  have z60 : (60 : Int32).toInt = 60 := rfl
  unfold f_Mod_ahead at er
  obtain ⟨M1, m1, er⟩ := mo er
  obtain ⟨zaM, fqM⟩ := ZA_M1 za m1
  obtain ⟨y2, ey2, er⟩ := bo er
  have h2 := some_of (sp_in v 0 60) ey2
  rw [o0, z60] at h2
  unfold f_Top_ahead at ex
  have out : ¬ (0 ≤ v.toInt ∧ v.toInt ≤ 60) → some ((-1 : Int32), X) = some x → x.1 = r.1 ∧ (RR X R → RR x.2 r.2) := by
    intro hn e
    rcases h2 with ⟨_, h⟩ | ⟨h, _⟩
    · exact absurd h hn
    rw [h, if_pos rfl] at er
    obtain rfl := Option.some.inj e
    obtain rfl := Option.some.inj er
    exact ⟨rfl, FQ2_RR fqM⟩
  rcases io ex with ⟨c, ex⟩ | ⟨c, ex⟩
  · exact out (by have := q_lt c; omega) ex
  have c1 := q_nl c
  rcases io ex with ⟨c, ex⟩ | ⟨c, ex⟩
  rotate_left
  · exact out (by have := q_ng c; omega) ex
  have c2 := q_le c
  rcases h2 with ⟨h, _⟩ | ⟨_, h⟩
  rotate_left
  · exact absurd ⟨by omega, by omega⟩ h
  rw [h, if_neg (by decide)] at er
  obtain ⟨X1, e1, ex⟩ := bo ex
  obtain ⟨X2, e2, ex⟩ := bo ex
  obtain ⟨x5, e5, ex⟩ := bo ex
  obtain ⟨x6, e6, ex⟩ := bo ex
  obtain ⟨x9, e9, ex⟩ := bo ex
  obtain rfl := Option.some.inj ex
  obtain ⟨R3, r3, er⟩ := bo er
  obtain ⟨y6, r6, er⟩ := bo er
  obtain ⟨M7, m7, er⟩ := mo er
  obtain ⟨y11, r11, er⟩ := bo er
  obtain rfl := Option.some.inj er
  obtain ⟨zt1, fq1⟩ := begin_t zaM.1 e1 r3
  unfold f_Clock_reset at e2
  obtain ⟨C1, d1, e2⟩ := mo e2
  obtain ⟨C2, d2, e2⟩ := mo e2
  have e2 := Option.some.inj e2
  subst e2
  have fC : ∀ kx i, kx ≠ 45 → C2.1 kx i = X1.1 kx i := fun kx i h => by rw [d2, si_ne (by omega), d1, si_ne (by omega)]
  have fC2 : C2.2 = X1.2 := by rw [d2, si_2, d1, si_2]
  have agC : AgX X1 C2 := ⟨fC 3 2 (by omega), fC 3 3 (by omega), fun q => fC 4 q (by omega), fC 6 4 (by omega), fC 6 5 (by omega), fun q => fC 7 q (by omega), fun q => fC 8 q (by omega), fC 40 4 (by omega), fun q => fC 41 q (by omega), fun q => fC 35 q (by omega), fun q => by rw [fC2], fun q => by rw [fC2]⟩
  have ztC : ZT C2 R3 n := by
    obtain ⟨_, j0, zb, zs, zv, zw⟩ := zt1
    exact ⟨n8, j0, ZB_a agC AgR_r zb, ZS_c n8 (scn_f (fun kx i a b => fC kx i (by omega))) (fun _ _ => rfl) zs, zv, ZW_a agC AgR_r (fun _ _ => Iff.rfl) zw⟩
  obtain ⟨zt5, fq5, h45⟩ := mins_t ztC (by rw [d2, si_eq]) e5 r6
  have em := empty_i e6
  have R0 := RR_0 e6 m7
  have f7 : ∀ kx i, ¬ (kx = 162 ∧ i = 12) → M7.1 kx i = y6.2.1 kx i := fun kx i h => by rw [m7, si_ne h]
  have key : x9.1 45 4 = x6.1 45 4 ∧ RRn n x9 y11 := by
    refine it_2 (I := fun (s t : Int32 × Mem) => ∃ p : Nat, p ≤ n ∧ s.1.toInt = (p : Int) ∧ t.1 = s.1 ∧ RRn p s.2 t.2 ∧ (∀ kx i, kx ≠ 161 → ¬ (kx = 0 ∧ i = 15) → s.2.1 kx i = x6.1 kx i) ∧ (∀ kx i, kx ≠ 168 → ¬ (kx = 162 ∧ i = 12) → t.2.1 kx i = M7.1 kx i)) (Q := fun (x y : Mem) => x.1 45 4 = x6.1 45 4 ∧ RRn n x y) ?_ e9 r11 ⟨0, by omega, rfl, rfl, R0, fun _ _ _ _ => rfl, fun _ _ _ _ => rfl⟩
    rintro ⟨i, N⟩ ⟨i', T⟩ A B ⟨p, pn, hp, hi, rr, fN, fT⟩ eA eB
    dsimp only at hp hi rr fN fT
    subst hi
    unfold lb_Top_ahead_76 at eA
    unfold lb_Mod_ahead_66 at eB
    dsimp only at eA eB
    have n64 : N.1 6 4 = T.1 162 4 := by
      rw [fN 6 4 (by omega) (by omega), em.1 6 4 (by omega), fT 162 4 (by omega) (by omega), f7 162 4 (by omega)]
      exact zt5.2.2.1.2.1.2.1
    have nn : (T.1 162 4).toInt = (n : Int) := by rw [fT 162 4 (by omega) (by omega), f7 162 4 (by omega)]; exact zt5.2.2.1.2.1.1
    rw [n64] at eA
    rcases io eA with ⟨g, eA⟩ | ⟨g, eA⟩
    · rw [if_pos g] at eB
      have := q_le g
      have : p = n := by omega
      subst this
      obtain rfl := Option.some.inj eA
      obtain rfl := Option.some.inj eB
      exact .inr ⟨_, _, rfl, rfl, fN 45 4 (by omega) (by omega), rr⟩
    · rw [if_neg g] at eB
      have g1 := q_ng g
      obtain ⟨_, eA⟩ := io_n eA
      obtain ⟨x7, e7, eA⟩ := bo eA
      obtain rfl := Option.some.inj eA
      obtain ⟨_, eB⟩ := io_n eB
      obtain ⟨y8, ey8, eB⟩ := bo eB
      obtain ⟨y9, ey9, eB⟩ := bo eB
      obtain rfl := Option.some.inj eB
      rw [q_nat hp] at e7 ey8
      rw [fT 176 p (by omega) (by omega), f7 176 p (by omega)] at ey8
      have w := (whr_t zt5 (show p < n by omega)).1 y8 ey8
      have nA := note_i e7
      have nB := put_i ey9
      exact .inl ⟨_, _, rfl, rfl, p + 1, by omega, add_ti hp o1 (by omega) (by omega), rfl, RR_n rr (by omega) (by rw [w, fN 26 p (by omega) (by omega), em.1 26 p (by omega)]) e7 ey9, fun kx i h1 h2 => by show x7.1 kx i = _; rw [nA.1 kx i h1 h2]; exact fN kx i h1 h2, fun kx i h1 h2 => by show y9.1 kx i = _; rw [nB kx i h1 h2]; exact fT kx i h1 h2⟩
  refine ⟨?_, fun _ => RRn_r (by omega) key.2⟩
  show x9.1 45 4 = y6.1
  rw [key.1, em.1 45 4 (by omega), h45]
end
