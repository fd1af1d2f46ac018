/-! people go: one of them, then all -/
def mGr : Nat := 2 ^ 214 ||| (2 ^ 215 ||| (2 ^ 216 ||| (2 ^ 217 ||| (2 ^ 218 ||| (2 ^ 224 ||| 2 ^ 225)))))
def gm (v1 : Nat) (v : Int32) (M : Mem) : Option ((Int32 × Mem) ⊕ ((Mem))) :=
  if inb v (ln v1) = true then
  if inb ((8 : Int32) + v) (ln v1) = true then
  if inb (((9 : Int32) * v) + (M.1 v1 ((8 : Int32) + v).toNatClampNeg)) 72 = true then
  Option.bind (f_Mod_go v1 (M.1 v1 v.toNatClampNeg) (M.1 165 (((9 : Int32) * v) + (M.1 v1 ((8 : Int32) + v).toNatClampNeg)).toNatClampNeg) M) fun x4 =>
  if x4 = (-1 : Int32) then
  j_Mod_goMinute_85_12 v1 v M
  else
  if inb v (ln v1) = true then
  if x4 = (M.1 v1 v.toNatClampNeg) then
  j_Mod_goMinute_85_12 v1 v M
  else
  if inb v (ln v1) = true then
  mem_ (s_i M v1 v.toNatClampNeg x4) fun M6 =>
  mem_ (s_i M6 162 29 ((M6.1 162 29) ||| ((1 : Int32) <<< (v &&& 31)))) fun M7 =>
  j_Mod_goMinute_85_12 v1 v M7
  else none
  else none
  else none
  else none
  else none
theorem plk_c {R S : Mem} {a a' : Nat} (h : ∀ i, 80 ≤ i → i < 93 → S.1 a' i = R.1 a i) (h6 : (R.1 a 92).toInt ≤ 6) (c d : Int) : plk S a' c d ↔ plk R a c d := by
  unfold plk plkA
  rw [h 92 (by omega) (by omega)]
  constructor
  · rintro ⟨j, hj, q⟩
    rw [h (80 + 2 * j) (by omega) (by omega), h (81 + 2 * j) (by omega) (by omega)] at q
    exact ⟨j, hj, q⟩
  · rintro ⟨j, hj, q⟩
    refine ⟨j, hj, ?_⟩
    rw [h (80 + 2 * j) (by omega) (by omega), h (81 + 2 * j) (by omega) (by omega)]
    exact q
theorem scn_e {X Y : Mem} {k : Nat} (h : ∀ j i, j < 10 → scn X k j i = scn Y k j i) : SEq (scn X k) (scn Y k) := ⟨fun i _ => h 0 i (by omega), fun i _ => h 1 i (by omega), fun i _ => h 2 i (by omega), fun i _ => h 3 i (by omega), fun i _ => h 4 i (by omega), fun i _ => h 5 i (by omega), h 6 0 (by omega), h 7 0 (by omega), h 8 0 (by omega), h 9 0 (by omega)⟩
theorem placeC {X : Mem} {v w x : Int32} {p n l q : Nat} (hm : (X.1 6 4).toInt = (n : Int)) (n8 : n ≤ 8) (hp : v.toInt = (p : Int)) (pn : p < n) (hl : (X.1 8 p).toInt = (l : Int)) (l9 : l ≤ 9) (hq : w.toInt = (q : Int)) (ql : q < l) (e : f_Crowd_placeBehind v w X = some x) : x.toInt = if q + 1 < l then ((q + 1 : Nat) : Int) else 0 := by
  have z0 := o0
  have z8 : (8 : Int32).toInt = 8 := rfl
  unfold f_Crowd_placeBehind f_Crowd_has at e
  obtain ⟨x1, e1, e⟩ := bo e
  have x10 : ¬ x1 = 0 := by
    rcases io e1 with ⟨c, e1⟩ | ⟨c, e1⟩
    · have := q_lt c; omega
    rcases io e1 with ⟨c, e1⟩ | ⟨c, e1⟩
    · have := q_le c; omega
    rcases io e1 with ⟨c, e1⟩ | ⟨c, e1⟩
    · have := q_le c; omega
    obtain rfl := Option.some.inj e1
    decide
  rw [if_neg x10] at e
  obtain ⟨_, e⟩ := io_n e
  have w1 : (w + (1 : Int32)).toInt = ((q + 1 : Nat) : Int) := add_ti hq o1 (by omega) (by omega)
  rw [q_nat hp] at e
  rcases io e with ⟨c, e⟩ | ⟨c, e⟩
  · have := q_le c
    obtain rfl := Option.some.inj e
    rw [if_neg (by omega)]; rfl
  · have := q_ng c
    obtain rfl := Option.some.inj e
    rw [if_pos (by omega)]; exact w1
theorem stepC {X : Mem} {v w x : Int32} {p n l q : Nat} (hm : (X.1 6 4).toInt = (n : Int)) (n8 : n ≤ 8) (hp : v.toInt = (p : Int)) (pn : p < n) (hl : (X.1 8 p).toInt = (l : Int)) (l9 : l ≤ 9) (hq : w.toInt = (q : Int)) (ql : q < l) (e : f_Crowd_stepAt v w X = some x) : x = X.1 7 (9 * p + q) := by
  have z0 := o0
  have z8 : (8 : Int32).toInt = 8 := rfl
  have z9 : (9 : Int32).toInt = 9 := rfl
  unfold f_Crowd_stepAt f_Crowd_has at e
  obtain ⟨x1, e1, e⟩ := bo e
  have x10 : ¬ x1 = 0 := by
    rcases io e1 with ⟨c, e1⟩ | ⟨c, e1⟩
    · have := q_lt c; omega
    rcases io e1 with ⟨c, e1⟩ | ⟨c, e1⟩
    · have := q_le c; omega
    rcases io e1 with ⟨c, e1⟩ | ⟨c, e1⟩
    · have := q_le c; omega
    obtain rfl := Option.some.inj e1
    decide
  rw [if_neg x10] at e
  rcases io e with ⟨c, e⟩ | ⟨c, e⟩
  · have := q_lt c; omega
  obtain ⟨_, e⟩ := io_n e
  rw [q_nat hp] at e
  rcases io e with ⟨c, e⟩ | ⟨c, e⟩
  · have := q_le c; omega
  rcases io e with ⟨c, e⟩ | ⟨c, e⟩
  · obtain ⟨_, e⟩ := io_n e
    obtain rfl := Option.some.inj e
    have m1 : (v * (9 : Int32)).toInt = (p : Int) * 9 := mul_ti hp z9 (by omega) (by omega)
    have m2 : (v * (9 : Int32) + w).toInt = ((9 * p + q : Nat) : Int) := by rw [add_ti m1 hq (by omega) (by omega)]; omega
    rw [q_nat m2]
  · have := q_nl c; omega
/-- where the class puts one who goes -/
def MvC (X : Mem) (k p : Nat) (v to np : Int32) (x : Mem) : Prop := ∃ Y, (((to = -1 ∨ to = X.1 (k + 1) p) ∧ Y = X) ∨ (¬ to = -1 ∧ ¬ to = X.1 (k + 1) p ∧ Y = s_i (s_i X (k + 1) p to) 45 0 ((X.1 45 0) ||| ((1 : Int32) <<< (v &&& 31))))) ∧ x = s_i Y (k + 3) p np
theorem move_c {X x : Mem} {k p n l q : Nat} {v : Int32} (hk : isK k) (hm : (X.1 6 4).toInt = (n : Int)) (n8 : n ≤ 8) (hp : v.toInt = (p : Int)) (pn : p < n) (hl : (X.1 8 p).toInt = (l : Int)) (l9 : l ≤ 9) (hq : (X.1 (k + 3) p).toInt = (q : Int)) (ql : q < l) (e : f_Clock_move v k 32 X = some x) : ∃ to np, f_Nets_toward 32 (X.1 (k + 2) p) (X.1 (k + 1) p) (X.1 7 (9 * p + q)) X = some to ∧ np.toInt = (if q + 1 < l then ((q + 1 : Nat) : Int) else 0) ∧ MvC X k p v to np x := by
  have kk : k = 11 ∨ k = 25 := hk
  have r0 : rf k 0 = k + 1 := scn_rf (isK_kd hk) (by omega)
  have r1 : rf k 1 = k + 2 := scn_rf (isK_kd hk) (by omega)
  have r2 : rf k 2 = k + 3 := scn_rf (isK_kd hk) (by omega)
  unfold f_Clock_move at e
  obtain ⟨_, e⟩ := io_n e
  obtain ⟨_, e⟩ := io_n e
  obtain ⟨_, e⟩ := io_n e
  rw [r0, r1, r2, q_nat hp] at e
  obtain ⟨x1, e1, e⟩ := bo e
  obtain ⟨_, e⟩ := io_n e
  obtain ⟨_, e⟩ := io_n e
  obtain ⟨x2, e2, e⟩ := bo e
  rw [stepC hm n8 hp pn hl l9 hq ql e1] at e2
  have last : ∀ Y : Mem, Y.1 6 4 = X.1 6 4 → Y.1 8 p = X.1 8 p → Y.1 (k + 3) p = X.1 (k + 3) p → j_Clock_move_71 v k Y = some x → ∃ np, np.toInt = (if q + 1 < l then ((q + 1 : Nat) : Int) else 0) ∧ x = s_i Y (k + 3) p np := by
    intro Y y1 y2 y3 e
    unfold j_Clock_move_71 at e
    obtain ⟨_, e⟩ := io_n e
    rw [r2, q_nat hp] at e
    obtain ⟨x3, e3, e⟩ := bo e
    obtain ⟨_, e⟩ := io_n e
    obtain ⟨M4, e4, e⟩ := mo e
    obtain rfl := Option.some.inj e
    exact ⟨x3, placeC (by rw [y1]; exact hm) n8 hp pn (by rw [y2]; exact hl) l9 (by rw [y3]; exact hq) ql e3, e4⟩
  rcases io e with ⟨c, e⟩ | ⟨c, e⟩
  · obtain ⟨np, a, b⟩ := last X rfl rfl rfl e
    exact ⟨x2, np, e2, a, X, .inl ⟨.inl c, rfl⟩, b⟩
  obtain ⟨_, e⟩ := io_n e
  rcases io e with ⟨c2, e⟩ | ⟨c2, e⟩
  · obtain ⟨np, a, b⟩ := last X rfl rfl rfl e
    exact ⟨x2, np, e2, a, X, .inl ⟨.inr c2, rfl⟩, b⟩
  obtain ⟨_, e⟩ := io_n e
  obtain ⟨M5, e5, e⟩ := mo e
  obtain ⟨M6, e6, e⟩ := mo e
  obtain ⟨np, a, b⟩ := last M6 (by rw [e6, si_ne (by omega), e5, si_ne (by omega)]) (by rw [e6, si_ne (by omega), e5, si_ne (by omega)]) (by rw [e6, si_ne (by omega), e5, si_ne (by omega)]) e
  refine ⟨x2, np, e2, a, M6, .inr ⟨c, c2, ?_⟩, b⟩
  rw [e6, e5, si_ne (by omega)]
def MvR (R : Mem) (a p : Nat) (v y np : Int32) (S : Mem) : Prop := ∃ Y, (((y = -1 ∨ y = R.1 a p) ∧ Y = R) ∨ (¬ y = -1 ∧ ¬ y = R.1 a p ∧ Y = s_i (s_i R a p y) 162 29 ((R.1 162 29) ||| ((1 : Int32) <<< (v &&& 31))))) ∧ S = s_i Y a (8 + p) np
theorem move_r {R : Mem} {a p l q : Nat} {v : Int32} {r} (ha : St a) (hp : v.toInt = (p : Int)) (p8 : p < 8) (hl : (R.1 166 p).toInt = (l : Int)) (l9 : l ≤ 9) (hq : (R.1 a (8 + p)).toInt = (q : Int)) (ql : q < l) (e : gm a v R = some r) : ∃ y np S, f_Mod_go a (R.1 a p) (R.1 165 (9 * p + q)) R = some y ∧ np.toInt = (if q + 1 < l then ((q + 1 : Nat) : Int) else 0) ∧ MvR R a p v y np S ∧ r = .inl (v + (1 : Int32), S) := by
  have a162 : a ≠ 162 ∧ a ≠ 166 ∧ a ≠ 165 := St_162 ha
  have z8 : (8 : Int32).toInt = 8 := rfl
  have z9 : (9 : Int32).toInt = 9 := rfl
  have e8 : ((8 : Int32) + v).toInt = ((8 + p : Nat) : Int) := by rw [add_ti z8 hp (by omega) (by omega)]; omega
  have m1 : ((9 : Int32) * v).toInt = 9 * (p : Int) := mul_ti z9 hp (by omega) (by omega)
  have m2 : (((9 : Int32) * v) + (R.1 a (8 + p))).toInt = ((9 * p + q : Nat) : Int) := by rw [add_ti m1 hq (by omega) (by omega)]; omega
  unfold gm at e
  obtain ⟨_, e⟩ := io_n e
  obtain ⟨_, e⟩ := io_n e
  obtain ⟨_, e⟩ := io_n e
  rw [q_nat e8, q_nat hp, q_nat m2] at e
  obtain ⟨x4, e4, e⟩ := bo e
  have last : ∀ Y : Mem, Y.1 166 p = R.1 166 p → Y.1 a (8 + p) = R.1 a (8 + p) → j_Mod_goMinute_85_12 a v Y = some r → ∃ np S, np.toInt = (if q + 1 < l then ((q + 1 : Nat) : Int) else 0) ∧ S = s_i Y a (8 + p) np ∧ r = .inl (v + (1 : Int32), S) := by
    intro Y y1 y2 e
    unfold j_Mod_goMinute_85_12 at e
    obtain ⟨_, e⟩ := io_n e
    obtain ⟨_, e⟩ := io_n e
    obtain ⟨_, e⟩ := io_m e
    obtain ⟨_, e⟩ := io_n e
    rw [q_nat e8, q_nat hp] at e
    obtain ⟨M5, e5, e⟩ := mo e
    obtain rfl := Option.some.inj e
    refine ⟨_, M5, ?_, e5, rfl⟩
    have w1 : ((Y.1 a (8 + p)) + (1 : Int32)).toInt = ((q + 1 : Nat) : Int) := by rw [y2]; exact add_ti hq o1 (by omega) (by omega)
    have hl' : (Y.1 166 p).toInt = (l : Int) := by rw [y1]; exact hl
    rw [rem_ti w1 hl' (by omega) (by omega)]
    by_cases g : q + 1 < l
    · rw [if_pos g]; exact Int.emod_eq_of_lt (by omega) (by omega)
    · have : ((q + 1 : Nat) : Int) = (l : Int) := by omega
      rw [if_neg g, this, Int.emod_self]
  rcases io e with ⟨c, e⟩ | ⟨c, e⟩
  · obtain ⟨np, S, b1, b2, b3⟩ := last R rfl rfl e
    exact ⟨x4, np, S, e4, b1, ⟨R, .inl ⟨.inl c, rfl⟩, b2⟩, b3⟩
  obtain ⟨_, e⟩ := io_n e
  rcases io e with ⟨c2, e⟩ | ⟨c2, e⟩
  · obtain ⟨np, S, b1, b2, b3⟩ := last R rfl rfl e
    exact ⟨x4, np, S, e4, b1, ⟨R, .inl ⟨.inr c2, rfl⟩, b2⟩, b3⟩
  obtain ⟨_, e⟩ := io_n e
  obtain ⟨M6, e6, e⟩ := mo e
  obtain ⟨M7, e7, e⟩ := mo e
  obtain ⟨np, S, b1, b2, b3⟩ := last M7 (by rw [e7, si_ne (by omega), e6, si_ne (by omega)]) (by rw [e7, si_ne (by omega), e6, si_ne (by omega)]) e
  refine ⟨x4, np, S, e4, b1, ⟨M7, .inr ⟨c, c2, ?_⟩, b2⟩, b3⟩
  rw [e7, e6, si_ne (by omega)]
def PQ (X R : Mem) (k a n : Nat) (x S : Mem) : Prop := J S ∧ AgX X x ∧ AgR R S ∧ ZS (scn x k) (S.1 a) n ∧ ZV S (S.1 a) n ∧ x.1 45 0 = S.1 162 29 ∧ (∀ i, 80 ≤ i → S.1 a i = R.1 a i) ∧ x.1 45 3 = X.1 45 3 ∧ x.1 45 4 = X.1 45 4
theorem person_2 {X R x : Mem} {k a n p : Nat} {v : Int32} {r} (hk : isK k) (ha : St a) (jR : J R) (n8 : n ≤ 8) (zb : ZB X R n) (zs : ZS (scn X k) (R.1 a) n) (zv : ZV R (R.1 a) n) (zw : ZW X R a) (st : X.1 45 0 = R.1 162 29) (hp : v.toInt = (p : Int)) (pn : p < n) (ex : f_Clock_move v k 32 X = some x) (er : gm a v R = some r) : ∃ S, r = .inl (v + (1 : Int32), S) ∧ PQ X R k a n x S := by
  have kk : k = 11 ∨ k = 25 := hk
  have aa : a = 163 ∨ a = 174 ∨ a = 176 := ha
  obtain ⟨zg, ⟨c1, c2, c3, c4, c5, c6⟩, zl⟩ := zb
  obtain ⟨s1, s2, s3, s4, s5, s6, s7, s8⟩ := zs
  obtain ⟨v1, v2, v3, v4⟩ := zv
  obtain ⟨p1, p2, p3, p4, p5, p6⟩ := s1 p pn
  obtain ⟨q1, q2, q3, q4⟩ := v1 p pn
  have e0 : ∀ M : Mem, ∀ i, scn M k 0 i = M.1 (k + 1) i := fun _ _ => rfl
  have e1 : ∀ M : Mem, ∀ i, scn M k 1 i = M.1 (k + 2) i := fun _ _ => rfl
  have e2 : ∀ M : Mem, ∀ i, scn M k 2 i = M.1 (k + 3) i := fun _ _ => rfl
  rw [e0, e1] at p1
  rw [e0] at p2 p3
  rw [e1] at p4 p5
  rw [e2] at p6
  obtain ⟨l, hl⟩ := ti_ofn (v := R.1 166 p) (by have := (c4 p pn).2; omega)
  obtain ⟨q, hq⟩ := ti_ofn (v := R.1 a (8 + p)) q3
  have l9 := (c4 p pn).2
  obtain ⟨to, np, t1, t2, mx⟩ := move_c hk (by rw [c2]; exact c1) n8 hp pn (by rw [(c4 p pn).1]; exact hl) (by omega) (by rw [← p6]; exact hq) (by omega) ex
  obtain ⟨y, np', S, u1, u2, mr, hr⟩ := move_r ha hp (by omega) hl (by omega) hq (by omega) er
  have nn : np = np' := Int32.toInt_inj.mp (by rw [t2, u2])
  subst nn
  have cs := c5 p q pn (by omega)
  rw [cs.1] at t1
  obtain ⟨lv, hlv⟩ := ti_ofn p4
  obtain ⟨cv, hcv⟩ := ti_ofn p2
  obtain ⟨sv, hsv⟩ := ti_ofn cs.2.1
  have T := tow_2 jR ha ⟨v1, v2, v3, v4⟩ zw hlv hcv hsv (pv := R.1 a p) (by rw [p1]; omega) (by omega) (by omega) (by omega) q1 t1 u1
  refine ⟨S, hr, ?_⟩
  obtain ⟨Y, hY, hx⟩ := mx
  obtain ⟨Z, hZ, hS⟩ := mr
  have npb : 0 ≤ np.toInt ∧ np.toInt < (R.1 166 p).toInt := by rw [t2]; split <;> omega
  have l8 : (R.1 166 p).toInt ≤ 9 := l9.2
  -- did both step?
  have both : (Y = X ∧ Z = R) ∨ (0 ≤ to.toInt ∧ to.toInt < 36 ∧ y.toInt = (X.1 (k + 2) p).toInt * 36 + to.toInt ∧ onP R y.toInt ∧ Y = s_i (s_i X (k + 1) p to) 45 0 ((X.1 45 0) ||| ((1 : Int32) <<< (v &&& 31))) ∧ Z = s_i (s_i R a p y) 162 29 ((R.1 162 29) ||| ((1 : Int32) <<< (v &&& 31)))) := by
    have e_1 := om
    rcases T with ⟨T1, T2⟩ | ⟨T1, T2, T3, T4⟩
    · have to1 : to = -1 := Int32.toInt_inj.mp (by rw [T1, om])
      have y1 : y = -1 := Int32.toInt_inj.mp (by rw [T2, om])
      left
      refine ⟨?_, ?_⟩
      · rcases hY with h | h
        · exact h.2
        · exact absurd to1 h.1
      · rcases hZ with h | h
        · exact h.2
        · exact absurd y1 h.1
    · have nt : ¬ to = -1 := fun h => by rw [h, om] at T1; omega
      have ny : ¬ y = -1 := fun h => by rw [h, om] at T3; omega
      have iff1 : to = X.1 (k + 1) p ↔ y = R.1 a p := by
        constructor
        · intro h; refine Int32.toInt_inj.mp ?_; rw [T3, p1, h]; omega
        · intro h; refine Int32.toInt_inj.mp ?_; rw [h, p1] at T3; omega
      rcases hY with ⟨h, hy⟩ | ⟨_, h, hy⟩
      · left
        refine ⟨hy, ?_⟩
        rcases hZ with h2 | h2
        · exact h2.2
        · rcases h with h | h
          · exact absurd h nt
          · exact absurd (iff1.mp h) h2.2.1
      · right
        refine ⟨T1, T2, by omega, T4, hy, ?_⟩
        rcases hZ with ⟨h2, _⟩ | h2
        · rcases h2 with h2 | h2
          · exact absurd h2 ny
          · exact absurd (iff1.mpr h2) h
        · exact h2.2.2
  have p8 : p < 8 := by omega
  have jS : J S := by
    have jZ : J Z := by
      rcases both with ⟨_, h⟩ | ⟨_, _, h1, h2, _, h⟩
      · rw [h]; exact jR
      · have jz : J (s_i R a p y) := by
          have := Jws0 jR ha (i := v) (by omega) (by omega) y h2.1 h2.2.1
          rw [q_nat hp] at this; exact this
        rw [h]; exact Jw_fld okf_162_29 jz _
    have z8 : (8 : Int32).toInt = 8 := rfl
    have e8 : ((8 : Int32) + v).toInt = ((8 + p : Nat) : Int) := by rw [add_ti z8 hp (by omega) (by omega)]; omega
    have := Jws8 jZ ha (i := (8 : Int32) + v) (by omega) (by omega) np npb.1 (by omega)
    rw [q_nat e8] at this
    rw [hS]; exact this
  have xf : ∀ kx i, ¬ (kx = k + 1 ∧ i = p) → ¬ (kx = k + 3 ∧ i = p) → ¬ (kx = 45 ∧ i = 0) → x.1 kx i = X.1 kx i := by
    intro kx i h1 h2 h3
    rw [hx, si_ne h2]
    rcases both with ⟨h, _⟩ | ⟨_, _, _, _, h, _⟩
    · rw [h]
    · rw [h, si_ne h3, si_ne h1]
  have x2 : x.2 = X.2 := by
    rw [hx]; show Y.2 = _
    rcases both with ⟨h, _⟩ | ⟨_, _, _, _, h, _⟩
    · rw [h]
    · rw [h]; rfl
  have Sf : ∀ kx i, ¬ (kx = a ∧ (i = p ∨ i = 8 + p)) → ¬ (kx = 162 ∧ i = 29) → S.1 kx i = R.1 kx i := by
    intro kx i h1 h3
    rw [hS, si_ne (by omega)]
    rcases both with ⟨_, h⟩ | ⟨_, _, _, _, _, h⟩
    · rw [h]
    · rw [h, si_ne h3, si_ne (by omega)]
  have agx : AgX X x := ⟨xf 3 2 (by omega) (by omega) (by omega), xf 3 3 (by omega) (by omega) (by omega), fun i => xf 4 i (by omega) (by omega) (by omega), xf 6 4 (by omega) (by omega) (by omega), xf 6 5 (by omega) (by omega) (by omega), fun i => xf 7 i (by omega) (by omega) (by omega), fun i => xf 8 i (by omega) (by omega) (by omega), xf 40 4 (by omega) (by omega) (by omega), fun i => xf 41 i (by omega) (by omega) (by omega), fun i => xf 35 i (by omega) (by omega) (by omega), fun i => by rw [x2], fun i => by rw [x2]⟩
  have agr : AgR R S := ⟨Sf 162 2 (by omega) (by omega), Sf 162 3 (by omega) (by omega), Sf 162 4 (by omega) (by omega), Sf 162 5 (by omega) (by omega), Sf 162 23 (by omega) (by omega), fun i => Sf 164 i (by omega) (by omega), fun i => Sf 165 i (by omega) (by omega), fun i => Sf 166 i (by omega) (by omega), fun i => Sf 172 i (by omega) (by omega)⟩
  -- the one who went
  have Sp : S.1 a (8 + p) = np := by rw [hS, si_eq]
  have xp3 : x.1 (k + 3) p = np := by rw [hx, si_eq]
  have one : (S.1 a p).toInt = (x.1 (k + 1) p).toInt + 36 * (x.1 (k + 2) p).toInt ∧ 0 ≤ (x.1 (k + 1) p).toInt ∧ (x.1 (k + 1) p).toInt ≤ 35 ∧ onP R (S.1 a p).toInt ∧ (S.1 a p).toInt / 36 = (R.1 a p).toInt / 36 := by
    have x2p : x.1 (k + 2) p = X.1 (k + 2) p := xf _ _ (by omega) (by omega) (by omega)
    rw [x2p]
    rcases both with ⟨h1, h2⟩ | ⟨h1, h2, h3, h4, h5, h6⟩
    · have a1 : x.1 (k + 1) p = X.1 (k + 1) p := by rw [hx, si_ne (by omega), h1]
      have a2 : S.1 a p = R.1 a p := by rw [hS, si_ne (by omega), h2]
      rw [a1, a2]
      exact ⟨p1, p2, p3, q1, rfl⟩
    · have a1 : x.1 (k + 1) p = to := by rw [hx, si_ne (by omega), h5, si_ne (by omega), si_eq]
      have a2 : S.1 a p = y := by rw [hS, si_ne (by omega), h6, si_ne (by omega), si_eq]
      rw [a1, a2]
      exact ⟨by omega, by omega, by omega, h4, by omega⟩
  refine ⟨jS, agx, agr, ⟨fun b hb => ?_, fun b c hb hc => ?_, fun b c hb hc hh => ?_, ?_, fun j hj hl => ?_, ?_, ?_, ?_⟩, ⟨fun b hb => ?_, ?_, ?_, fun j hj => ?_⟩, ?_, fun i hi => Sf a i (by omega) (by omega), xf 45 3 (by omega) (by omega) (by omega), xf 45 4 (by omega) (by omega) (by omega)⟩
  · by_cases g : b = p
    · subst g
      rw [e0, e1, e2, Sp, xp3, xf (k + 2) b (by omega) (by omega) (by omega)]
      have o := one
      rw [xf (k + 2) b (by omega) (by omega) (by omega)] at o
      exact ⟨o.1, o.2.1, o.2.2.1, p4, p5, rfl⟩
    · rw [e0, e1, e2, Sf a b (by omega) (by omega), Sf a (8 + b) (by omega) (by omega), xf (k + 1) b (by omega) (by omega) (by omega), xf (k + 2) b (by omega) (by omega) (by omega), xf (k + 3) b (by omega) (by omega) (by omega)]
      exact s1 b hb
  · show S.1 a _ = x.1 (k + 1 + 3) _ + x.1 (k + 1 + 3) _
    rw [Sf a _ (by omega) (by omega), xf _ _ (by omega) (by omega) (by omega), xf _ _ (by omega) (by omega) (by omega)]
    exact s2 b c hb hc
  · show x.1 (k + 1 + 3) _ = 0
    rw [xf _ _ (by omega) (by omega) (by omega)]; exact s3 b c hb hc hh
  · show x.1 k 6 = S.1 a 92
    rw [xf _ _ (by omega) (by omega) (by omega), Sf a _ (by omega) (by omega)]; exact s4
  · rw [Sf a 92 (by omega) (by omega)] at hl
    show x.1 (k + 1 + 4) j = S.1 a _ ∧ x.1 (k + 1 + 5) j = S.1 a _
    rw [xf _ _ (by omega) (by omega) (by omega), xf _ _ (by omega) (by omega) (by omega), Sf a _ (by omega) (by omega), Sf a _ (by omega) (by omega)]
    exact s5 j hj hl
  · show x.1 k 7 = S.1 a 95
    rw [xf _ _ (by omega) (by omega) (by omega), Sf a _ (by omega) (by omega)]; exact s6
  · show x.1 k 8 = S.1 a 93
    rw [xf _ _ (by omega) (by omega) (by omega), Sf a _ (by omega) (by omega)]; exact s7
  · show x.1 k 9 = S.1 a 94
    rw [xf _ _ (by omega) (by omega) (by omega), Sf a _ (by omega) (by omega)]; exact s8
  · have onS : ∀ z, onP R z → onP S z := fun z h => ⟨h.1, h.2.1, (onN_a agr).mpr h.2.2⟩
    rw [agr.2.2.2.1, agr.2.2.2.2.2.2.2.1 b]
    by_cases g : b = p
    · subst g
      rw [Sp]
      exact ⟨onS _ one.2.2.2.1, fun h => by have := q2 h; have := one.2.2.2.2; omega, npb.1, npb.2⟩
    · rw [Sf a b (by omega) (by omega), Sf a (8 + b) (by omega) (by omega)]
      exact ⟨onS _ (v1 b hb).1, (v1 b hb).2⟩
  · rw [Sf a 92 (by omega) (by omega)]; exact v2
  · rw [Sf a 94 (by omega) (by omega)]; exact v3
  · rw [Sf a 92 (by omega) (by omega)] at hj
    have w : xw S = xw R := congrArg Int32.toInt agr.1
    have hh : xh S = xh R := congrArg Int32.toInt agr.2.1
    rw [Sf a _ (by omega) (by omega), Sf a _ (by omega) (by omega), w, hh]
    obtain ⟨b1, b2, s, b3, b4, b5⟩ := v4 j hj
    exact ⟨(onN_a agr).mpr b1, (onN_a agr).mpr b2, s, b3, b4, fun h => b5 ((onN_a agr).mp h)⟩
  · rw [hx, si_ne (by omega), hS, si_ne (by omega)]
    rcases both with ⟨h1, h2⟩ | ⟨_, _, _, _, h5, h6⟩
    · rw [h1, h2]; exact st
    · rw [h5, h6, si_eq, si_eq, st]
