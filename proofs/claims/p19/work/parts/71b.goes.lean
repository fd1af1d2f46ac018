/-! who goes on: both sides -/
def rlx (R : Mem) (p : Nat) : Int := if (p : Int) < (R.1 162 23).toInt ∧ p < 40 then (R.1 172 p).toInt % 256 else -1
def ZL (X R : Mem) : Prop := ((R.1 162 23).toInt = 0 ∧ (X.1 40 4).toInt = 0) ∨ (0 < (R.1 162 23).toInt ∧ (R.1 162 23).toInt ≤ 40 ∧ (∀ p : Nat, (p : Int) < (R.1 162 23).toInt → -128 ≤ (R.1 172 p).toInt ∧ (R.1 172 p).toInt ≤ 127) ∧ ∃ S, Rch (rlx R) S0 S ∧ rdS (rlx R) S = none ∧ S.2.2.2.2 = true ∧ S.2.2.1 = 0 ∧ (X.1 40 4).toInt = ((stl 0 S.2.1.1 S.2.1.2).1.length : Int) ∧ (stl 0 S.2.1.1 S.2.1.2).1.length ≤ 40 ∧ stk (X.1 41) (stl 0 S.2.1.1 S.2.1.2).1)
def RV (st : List Int32) (N : Mem) : Prop := (N.1 40 7).toInt = (st.length : Int) ∧ stk (N.1 44) st
def mGo : Nat := 2 ^ 44 ||| 2 ^ 337
theorem mGo_k {k i : Nat} (h1 : k ≠ 44) (h2 : ¬ (k = 40 ∧ i = 7)) (h3 : k < 193) (h4 : i < 12 ∨ (k ≠ 162 ∧ k ≠ 1 ∧ k ≠ 0 ∧ k ≠ 3 ∧ k ≠ 46 ∧ k ≠ 6 ∧ k ≠ 40 ∧ k ≠ 45 ∧ k ≠ 147 ∧ k ≠ 151)) : Nat.testBit mGo (sl k i) = false := by
  unfold mGo
  have s : ¬ 44 = sl k i ∧ ¬ 337 = sl k i := by
    unfold sl
    repeat' split
    all_goals omega
  rw [Nat.testBit_or, tb2, tb2, decide_eq_false s.1, decide_eq_false s.2]; rfl
theorem push_i {st : List Int32} {v : Int32} {M r : Mem} (h : RV st M) (lt : st.length < 40) (e : f_Law_push v M = some r) : RV (v :: st) r := by
  have z0 := o0
  have z40 : (40 : Int32).toInt = 40 := rfl
  obtain ⟨h1, h2⟩ := h
  unfold f_Law_push at e
  rcases io e with ⟨c, e⟩ | ⟨c, e⟩
  · have := q_lt c; omega
  rcases io e with ⟨c, e⟩ | ⟨c, e⟩
  · have := q_le c; omega
  obtain ⟨_, e⟩ := io_n e
  obtain ⟨M1, e1, e⟩ := mo e
  obtain ⟨M2, e2, e⟩ := mo e
  obtain rfl := Option.some.inj e
  have a5 : (M1.1 40 7).toInt = (st.length : Int) := by rw [e1, si_ne (by omega)]; exact h1
  refine ⟨?_, ?_, stk_c h2 (fun i hi => ?_)⟩
  · rw [e2, si_eq, add_ti a5 o1 (by omega) (by omega)]; simp
  · rw [e2, si_ne (by omega), e1, q_nat h1, si_eq]
  · rw [e2, si_ne (by omega), e1, q_nat h1, si_ne (by omega)]
theorem pop_i {st : List Int32} {M : Mem} {r : Int32 × Mem} (h : RV st M) (le : st.length ≤ 40) (e : f_Law_pop M = some r) : r.1 = (pp st).1 ∧ RV (pp st).2 r.2 := by
  have z0 := o0
  have z1 := o1
  have z40 : (40 : Int32).toInt = 40 := rfl
  obtain ⟨h1, h2⟩ := h
  unfold f_Law_pop at e
  cases st with
  | nil =>
    rcases io e with ⟨c, e⟩ | ⟨c, e⟩
    · obtain rfl := Option.some.inj e
      exact ⟨rfl, h1, trivial⟩
    · have := q_nl c
      simp at h1
      omega
  | cons s w =>
    have h1 : (M.1 40 7).toInt = ((w.length + 1 : Nat) : Int) := h1
    have le : w.length + 1 ≤ 40 := le
    rcases io e with ⟨c, e⟩ | ⟨c, e⟩
    · have := q_lt c; omega
    rcases io e with ⟨c, e⟩ | ⟨c, e⟩
    · obtain ⟨M1, e1, e⟩ := mo e
      obtain ⟨_, e⟩ := io_n e
      obtain rfl := Option.some.inj e
      have m7 : (M1.1 40 7).toInt = (w.length : Int) := by rw [e1, si_eq, sub_ti h1 o1 (by omega) (by omega)]; omega
      refine ⟨?_, m7, stk_c h2.2 (fun i _ => by show M1.1 44 i = _; rw [e1, si_ne (by omega)])⟩
      show M1.1 44 (M1.1 40 7).toNatClampNeg = s
      rw [q_nat m7, e1, si_ne (by omega)]; exact h2.1
    · have := q_ng c; omega
theorem jn_i {l s r x : Int32} (e : f_Law_joined l s r = some x) : x = jn l s r := by
  unfold f_Law_joined at e
  unfold jn
  rcases io e with ⟨c, e⟩ | ⟨c, e⟩
  · rw [if_pos c]; exact (Option.some.inj e).symm
  rw [if_neg c]
  rcases io e with ⟨c, e⟩ | ⟨c, e⟩
  · rw [if_pos c]; exact (Option.some.inj e).symm
  rw [if_neg c]
  rcases io e with ⟨c, e⟩ | ⟨c, e⟩
  · rw [if_pos c]; exact (Option.some.inj e).symm
  rw [if_neg c]
  rcases io e with ⟨c, e⟩ | ⟨c, e⟩
  · rw [if_pos c]
    rcases io e with ⟨c, e⟩ | ⟨c, e⟩
    · rw [if_pos c]; exact (Option.some.inj e).symm
    · rw [if_neg c]
      obtain ⟨_, e⟩ := io_m e
      exact (Option.some.inj e).symm
  rw [if_neg c]
  rcases io e with ⟨c, e⟩ | ⟨c, e⟩
  · rw [if_pos c]
    rcases io e with ⟨c, e⟩ | ⟨c, e⟩
    · rw [if_pos c]; exact (Option.some.inj e).symm
    · rw [if_neg c]; exact (Option.some.inj e).symm
  rw [if_neg c]
  rcases io e with ⟨c, e⟩ | ⟨c, e⟩
  · rw [if_pos c]
    rcases io e with ⟨c, e⟩ | ⟨c, e⟩
    · rw [if_pos c]; exact (Option.some.inj e).symm
    · rw [if_neg c]; exact (Option.some.inj e).symm
  rw [if_neg c]
  rcases io e with ⟨c, e⟩ | ⟨c, e⟩
  · rw [if_pos c]
    rcases io e with ⟨c, e⟩ | ⟨c, e⟩
    · rw [if_pos c]; exact (Option.some.inj e).symm
    · rw [if_neg c]; exact (Option.some.inj e).symm
  rw [if_neg c]
  exact (Option.some.inj e).symm
theorem pp_l (st : List Int32) : (pp st).2.length ≤ st.length ∧ (0 < st.length → (pp st).2.length < st.length) := by
  cases st with
  | nil => exact ⟨Nat.le_refl _, fun h => by simp at h⟩
  | cons s w => exact ⟨by show w.length ≤ w.length + 1; omega, fun _ => by show w.length < w.length + 1; omega⟩
theorem opx_l (env : Int32 → Int32) (c : Int32) (st : List Int32) : (opx env c st).length ≤ st.length + 1 := by
  unfold opx
  have a := (pp_l st).1
  have b := (pp_l (pp st).2).1
  repeat' split
  all_goals simp only [List.length_cons]
  all_goals omega
theorem rv_l (env : Int32 → Int32) (v : List Int32) : (rv env v []).length ≤ v.length := by
  induction v with
  | nil => exact Nat.le_refl _
  | cons c v ih =>
    have := opx_l env c (rv env v [])
    show (opx env c (rv env v [])).length ≤ v.length + 1
    omega
theorem work_i {st : List Int32} {s : Int32} {M r : Mem} (h : RV st M) (lt : st.length < 40) (e : f_Law_work s M = some r) : RV (if s = 256 then -(pp st).1 :: (pp st).2 else jn (pp (pp st).2).1 s (pp st).1 :: (pp (pp st).2).2) r := by
  unfold f_Law_work at e
  obtain ⟨x1, e1, e⟩ := bo e
  obtain ⟨a1, a2⟩ := pop_i h (by omega) e1
  have l1 := (pp_l st).1
  have l2 := (pp_l (pp st).2).1
  rcases io e with ⟨c, e⟩ | ⟨c, e⟩
  · rw [if_pos c]
    obtain ⟨x5, e5, e⟩ := bo e
    obtain rfl := Option.some.inj e
    rw [a1] at e5
    exact push_i a2 (by omega) e5
  · rw [if_neg c]
    obtain ⟨x2, e2, e⟩ := bo e
    obtain ⟨x3, e3, e⟩ := bo e
    obtain ⟨x4, e4, e⟩ := bo e
    obtain rfl := Option.some.inj e
    obtain ⟨b1, b2⟩ := pop_i a2 (by omega) e2
    rw [jn_i e3, a1, b1] at e4
    exact push_i b2 (by omega) e4
theorem stk_app {f : Nat → Int32} {u v : List Int32} (h : stk f (u ++ v)) : stk f v := by
  induction u with
  | nil => exact h
  | cons s u ih => exact ih h.2
def isK (k : Nat) : Prop := k = 11 ∨ k = 25
theorem isK_kd {k : Nat} (h : isK k) : kd k = 10 + 7 := by rcases h with rfl | rfl <;> decide +kernel
/-- what both sides share while people go -/
def ZM (X R : Mem) (k a n : Nat) : Prop := ZG X R ∧ ZC X R n ∧ ZS (scn X k) (R.1 a) n ∧ ZV R (R.1 a) n ∧ ZL X R
theorem ZG_X {X Y R : Mem} (h : ZG X R) (a : Y.1 3 2 = X.1 3 2) (b : Y.1 3 3 = X.1 3 3) (c : ∀ i, Y.1 4 i = X.1 4 i) : ZG Y R := by
  unfold ZG at *
  rw [a, b]
  exact ⟨h.1, h.2.1, fun i hi => by rw [c]; exact h.2.2.1 i hi, h.2.2.2⟩
theorem goes_l {X R : Mem} {k a n p : Nat} {v : Int32} {o : List Int32} (hk : isK k) (jR : J R) (z : ZG X R) (zc : ZC X R n) (n8 : n ≤ 8) (zs : ZS (scn X k) (R.1 a) n) (gb : ∀ q, q < n → onP R (R.1 a q).toInt) (hp : v.toInt = (p : Int)) (pn : p < n) (ho : (X.1 40 4).toInt = (o.length : Int)) (o40 : o.length ≤ 40) (hs : stk (X.1 41) o) (h7 : (X.1 40 7).toInt = 0) {x} (e : iter (lb_Law_goes_28 v k) FU ((0 : Int32), X) = some x) : Fx mGo [] X x ∧ RV (rv (ltr (xw R) (R.1 164) (R.1 162 5) n (R.1 a) p) o []) x := by
  refine it_r (I := fun s : Int32 × Mem => Fx mGo [] X s.2 ∧ ∃ (u w : List Int32), o = u ++ w ∧ s.1.toInt = (w.length : Int) ∧ RV (rv (ltr (xw R) (R.1 164) (R.1 162 5) n (R.1 a) p) w []) s.2) (Q := fun x : Mem => Fx mGo [] X x ∧ RV (rv (ltr (xw R) (R.1 164) (R.1 162 5) n (R.1 a) p) o []) x) ?_ e ⟨Fx_r, o, [], by simp, rfl, h7, trivial⟩
  rintro ⟨iv, N⟩ r ⟨fx, u, w, how, hi, hv⟩ e
  have fr := wl_Law_goes_28 v k _ (by decide +kernel) fx e
  dsimp only at fx hi hv
  have z40 : (40 : Int32).toInt = 40 := rfl
  have fN : ∀ {kk i : Nat}, (kk ≠ 44 ∧ ¬ (kk = 40 ∧ i = 7) ∧ kk < 193 ∧ (i < 12 ∨ (kk ≠ 162 ∧ kk ≠ 1 ∧ kk ≠ 0 ∧ kk ≠ 3 ∧ kk ≠ 46 ∧ kk ≠ 6 ∧ kk ≠ 40 ∧ kk ≠ 45 ∧ kk ≠ 147 ∧ kk ≠ 151))) → N.1 kk i = X.1 kk i := fun h => (fx _ _ (mGo_k h.1 h.2.1 h.2.2.1 h.2.2.2) (by simp)).1
  have kk : k = 11 ∨ k = 25 := hk
  have lo : o.length = u.length + w.length := by rw [how, List.length_append]
  have wl : w.length ≤ o.length := by omega
  have rl := rv_l (ltr (xw R) (R.1 164) (R.1 162 5) n (R.1 a) p) w
  unfold lb_Law_goes_28 at e
  dsimp only at e
  rw [fN (by omega)] at e
  have done : w.length = o.length → o = w := by
    intro h
    have : u = [] := List.length_eq_zero_iff.mp (by omega)
    rw [how, this]; rfl
  rcases io e with ⟨c, e⟩ | ⟨c, e⟩
  · have := q_le c
    obtain rfl := Option.some.inj e
    refine ⟨fr, ?_⟩
    rw [done (by omega)]; exact hv
  have c1 := q_ng c
  rcases io e with ⟨c, e⟩ | ⟨c, e⟩
  · have := q_le c; omega
  have c2 := q_ng c
  obtain ⟨_, e⟩ := io_n e
  -- the next part
  have hu : u ≠ [] := by
    intro hu0
    rw [hu0, List.length_nil] at lo
    omega
  obtain ⟨u', c', hu'⟩ : ∃ u' c', u = u' ++ [c'] := ⟨u.dropLast, u.getLast hu, (List.dropLast_concat_getLast hu).symm⟩
  have how2 : o = u' ++ (c' :: w) := by rw [how, hu']; simp
  have hc' : X.1 41 w.length = c' := (stk_app (how2 ▸ hs : stk (X.1 41) (u' ++ (c' :: w)))).1
  rw [q_nat hi, fN (kk := 41) (i := w.length) (by omega), hc'] at e
  have i1 : (iv + (1 : Int32)).toInt = ((c' :: w).length : Int) := by
    show _ = ((w.length + 1 : Nat) : Int)
    exact add_ti hi o1 (by omega) (by omega)
  have step : ∀ x5 : Mem, RV (opx (ltr (xw R) (R.1 164) (R.1 162 5) n (R.1 a) p) c' (rv (ltr (xw R) (R.1 164) (R.1 162 5) n (R.1 a) p) w [])) x5 → some (Sum.inl ((iv + (1 : Int32)), x5)) = some r → Sum.elim (fun s : Int32 × Mem => Fx mGo [] X s.2 ∧ ∃ (u w : List Int32), o = u ++ w ∧ s.1.toInt = (w.length : Int) ∧ RV (rv (ltr (xw R) (R.1 164) (R.1 162 5) n (R.1 a) p) w []) s.2) (fun x : Mem => Fx mGo [] X x ∧ RV (rv (ltr (xw R) (R.1 164) (R.1 162 5) n (R.1 a) p) o []) x) r := by
    intro x5 h5 e
    obtain rfl := Option.some.inj e
    exact ⟨fr, u', c' :: w, how2, i1, h5⟩
  unfold opx at step
  rcases io e with ⟨cn, e⟩ | ⟨cn, e⟩
  · rw [if_pos cn] at step
    obtain ⟨x2, e2, e⟩ := bo e
    rcases qual_i e2 with ⟨q1, q2⟩ | ⟨q1, q2⟩
    · rw [if_pos q1] at step
      rw [q2, if_neg (by decide)] at e
      obtain ⟨x4, e4, e⟩ := bo e
      obtain ⟨x5, e5, e⟩ := bo e
      have zN : ZG N R := ZG_X z (fN (by omega)) (fN (by omega)) (fun i => fN (by omega))
      have zcN : ZC N R n := by
        obtain ⟨a1, a2, a3, a4, a5, a6⟩ := zc
        exact ⟨a1, by rw [fN (by omega)]; exact a2, by rw [fN (by omega)]; exact a3, fun q hq => by rw [fN (by omega)]; exact a4 q hq, fun q i hq hh => by rw [fN (by omega)]; exact a5 q i hq hh, a6⟩
      have zsN : ZS (scn N k) (R.1 a) n := by
        refine ZS_c n8 ?_ (fun _ _ => rfl) zs
        have f : ∀ j i, j < 10 → scn X k j i = scn N k j i := by
          intro j i hj
          unfold scn
          by_cases g : j < 6
          · rw [if_pos g, if_pos g, fN (by omega)]
          · rw [if_neg g, if_neg g, fN (by omega)]
        exact ⟨fun i _ => f 0 i (by omega), fun i _ => f 1 i (by omega), fun i _ => f 2 i (by omega), fun i _ => f 3 i (by omega), fun i _ => f 4 i (by omega), fun i _ => f 5 i (by omega), f 6 0 (by omega), f 7 0 (by omega), f 8 0 (by omega), f 9 0 (by omega)⟩
      have qv := qual_v zN jR zcN n8 (isK_kd hk) zsN gb hp pn q1 e4
      rw [qv] at e5
      exact step x5 (push_i hv (by omega) e5) e
    · rw [if_neg (by rw [q1]; decide)] at step
      rw [q2, if_pos rfl] at e
      obtain ⟨x3, e3, e⟩ := bo e
      have wk := work_i hv (by omega) e3
      refine step x3 ?_ e
      by_cases g : -c' = 256
      · rw [if_pos g] at wk ⊢; exact wk
      · rw [if_neg g] at wk ⊢; exact wk
  · rw [if_neg cn] at step
    obtain ⟨x7, e7, e⟩ := bo e
    exact step x7 (push_i hv (by omega) e7) e
theorem goes_2 {X R : Mem} {k a n p : Nat} {v : Int32} {x r : Int32 × Mem} (hk : isK k) (ha : St a) (jR : J R) (n8 : n ≤ 8) (zm : ZM X R k a n) (hp : v.toInt = (p : Int)) (pn : p < n) (ex : f_Law_goes v k X = some x) (er : f_Mod_goes a v R = some r) : (x.1 = 0 ↔ r.1 = 0) := by
  obtain ⟨z, zc, zs, zv, zl⟩ := zm
  have r1 : rf k 1 = k + 2 := scn_rf (isK_kd hk) (by omega)
  have k25 : k ≤ 25 := by rcases hk with rfl | rfl <;> omega
  obtain ⟨s1, s2, s3, s4, s5, s6, s7, s8⟩ := zs
  obtain ⟨v1, v2, v3, v4⟩ := zv
  obtain ⟨p1, p2, p3, p4, p5, p6⟩ := s1 p pn
  have fest : X.1 k 9 = R.1 a 94 := s8
  have lev : scn X k 1 p = X.1 (k + 2) p := rfl
  have cl0 : scn X k 0 p = X.1 (k + 1) p := rfl
  rw [lev] at p1 p4 p5
  rw [cl0] at p1 p2 p3
  have gb : ∀ q, q < n → onP R (R.1 a q).toInt := fun q hq => (v1 q hq).1
  -- the class
  have cls : (X.1 k 9 = 1 ∧ X.1 (k + 2) p = 1 ∧ x.1 = 0) ∨ (¬ (X.1 k 9 = 1 ∧ X.1 (k + 2) p = 1) ∧ ∃ (N : Mem), (∀ kk i, ¬ (kk = 40 ∧ i = 7) → N.1 kk i = X.1 kk i) ∧ (N.1 40 7).toInt = 0 ∧ ∃ y, iter (lb_Law_goes_28 v k) FU ((0 : Int32), N) = some y ∧ j_Law_goes_107 y = some x) := by
    unfold f_Law_goes at ex
    obtain ⟨_, ex⟩ := io_n ex
    rw [r1] at ex
    rcases io ex with ⟨c, e⟩ | ⟨c, e⟩
    · obtain ⟨_, e⟩ := io_n e
      rw [q_nat hp] at e
      rcases io e with ⟨c2, e⟩ | ⟨c2, e⟩
      · obtain rfl := Option.some.inj e
        exact .inl ⟨c, c2, rfl⟩
      · obtain ⟨N, en, e⟩ := mo e
        obtain ⟨y, ey, e⟩ := bo e
        exact .inr ⟨fun h => c2 h.2, N, fun kk i h => by rw [en, si_ne h], by rw [en, si_eq]; rfl, y, ey, e⟩
    · obtain ⟨N, en, e⟩ := mo e
      obtain ⟨y, ey, e⟩ := bo e
      exact .inr ⟨fun h => c h.1, N, fun kk i h => by rw [en, si_ne h], by rw [en, si_eq]; rfl, y, ey, e⟩
  -- the reference
  have ref : (R.1 a 94 = 1 ∧ bt (R.1 162 5) p = true ∧ (R.1 a p).toInt / 36 = 1 ∧ r.1 = 0) ∨ (¬ (R.1 a 94 = 1 ∧ bt (R.1 162 5) p = true ∧ (R.1 a p).toInt / 36 = 1) ∧ j_Mod_goes_31 a v R = some r) := by
    unfold f_Mod_goes at er
    obtain ⟨_, er⟩ := io_n er
    obtain ⟨_, er⟩ := io_n er
    rw [show (94 : Int32).toNatClampNeg = 94 from rfl] at er
    rcases io er with ⟨c, e⟩ | ⟨c, e⟩
    · obtain ⟨x7, e7, e⟩ := bo e
      have h7 := hasR hp (by omega) e7
      rcases io e with ⟨c7, e⟩ | ⟨c7, e⟩
      · exact .inr ⟨fun h => by rw [h7.mp c7] at h; exact absurd h.2.1 (by decide), e⟩
      · obtain ⟨_, e⟩ := io_n e
        obtain ⟨x8, e8, e⟩ := bo e
        rw [q_nat hp] at e8
        have l8 := (place_i (by omega) (by omega)).2 e8
        rcases io e with ⟨c8, e⟩ | ⟨c8, e⟩
        · obtain rfl := Option.some.inj e
          refine .inl ⟨c, ?_, by rw [← l8, c8]; rfl, rfl⟩
          cases hb : bt (R.1 162 5) p with
          | true => rfl
          | false => exact absurd (h7.mpr hb) c7
        · exact .inr ⟨fun h => c8 (Int32.toInt_inj.mp (by rw [l8, h.2.2]; rfl)), e⟩
    · exact .inr ⟨fun h => c h.1, e⟩
  have same : (X.1 k 9 = 1 ∧ X.1 (k + 2) p = 1) ↔ (R.1 a 94 = 1 ∧ bt (R.1 162 5) p = true ∧ (R.1 a p).toInt / 36 = 1) := by
    rw [fest]
    constructor
    · rintro ⟨h1, h2⟩
      have h2 : (X.1 (k + 2) p).toInt = 1 := by rw [h2]; rfl
      refine ⟨h1, ?_, by omega⟩
      cases hb : bt (R.1 162 5) p with
      | true => rfl
      | false => have := (v1 p pn).2.1 hb; omega
    · rintro ⟨h1, _, h3⟩
      exact ⟨h1, Int32.toInt_inj.mp (show (X.1 (k + 2) p).toInt = 1 by omega)⟩
  rcases cls with ⟨a1, a2, a3⟩ | ⟨an, N, fN, n7, y, ey, e⟩
  · rcases ref with ⟨_, _, _, b4⟩ | ⟨bn, _⟩
    · rw [a3, b4]
    · exact absurd (same.mp ⟨a1, a2⟩) bn
  · rcases ref with ⟨b1, b2, b3, _⟩ | ⟨_, eR⟩
    · exact absurd (same.mpr ⟨b1, b2, b3⟩) an
    have zN : ZG N R := ZG_X z (fN _ _ (by omega)) (fN _ _ (by omega)) (fun i => fN _ _ (by omega))
    have zcN : ZC N R n := by
      obtain ⟨a1, a2, a3, a4, a5, a6⟩ := zc
      exact ⟨a1, by rw [fN _ _ (by omega)]; exact a2, by rw [fN _ _ (by omega)]; exact a3, fun q hq => by rw [fN _ _ (by omega)]; exact a4 q hq, fun q i hq hh => by rw [fN _ _ (by omega)]; exact a5 q i hq hh, a6⟩
    have zsN : ZS (scn N k) (R.1 a) n := by
      refine ZS_c n8 ?_ (fun _ _ => rfl) ⟨s1, s2, s3, s4, s5, s6, s7, s8⟩
      have f : ∀ j i, j < 10 → scn X k j i = scn N k j i := by
        intro j i hj
        unfold scn
        by_cases g : j < 6
        · rw [if_pos g, if_pos g, fN _ _ (by omega)]
        · rw [if_neg g, if_neg g, fN _ _ (by omega)]
      exact ⟨fun i _ => f 0 i (by omega), fun i _ => f 1 i (by omega), fun i _ => f 2 i (by omega), fun i _ => f 3 i (by omega), fun i _ => f 4 i (by omega), fun i _ => f 5 i (by omega), f 6 0 (by omega), f 7 0 (by omega), f 8 0 (by omega), f 9 0 (by omega)⟩
    have h44 : N.1 40 4 = X.1 40 4 := fN _ _ (by omega)
    have gen : ∀ o : List Int32, (X.1 40 4).toInt = (o.length : Int) → o.length ≤ 40 → stk (X.1 41) o → (x.1 = 0 ↔ (o ≠ [] ∧ (pp (rv (ltr (xw R) (R.1 164) (R.1 162 5) n (R.1 a) p) o [])).1 = 0)) := by
      intro o ho o40 hs
      obtain ⟨fy, hy⟩ := goes_l hk jR zN zcN n8 zsN gb hp pn (o := o) (by rw [h44]; exact ho) o40 (stk_c hs (fun i _ => fN _ _ (by omega))) n7 ey
      have y4 : y.1 40 4 = X.1 40 4 := by rw [(fy 40 4 (by decide +kernel) (by simp)).1]; exact h44
      have rl := rv_l (ltr (xw R) (R.1 164) (R.1 162 5) n (R.1 a) p) o
      unfold j_Law_goes_107 at e
      rw [y4] at e
      rcases io e with ⟨c, e⟩ | ⟨c, e⟩
      · have := q_eq c
        rw [o0] at this
        obtain rfl := Option.some.inj e
        have : o = [] := List.length_eq_zero_iff.mp (by omega)
        subst this
        exact ⟨fun h => (by cases h), fun h => absurd rfl h.1⟩
      · have c1 := q_ne c
        rw [o0] at c1
        have ne : o ≠ [] := by rintro rfl; simp at ho; omega
        obtain ⟨x12, e12, e⟩ := bo e
        obtain ⟨g1, _⟩ := pop_i hy (by omega) e12
        rcases io e with ⟨c2, e⟩ | ⟨c2, e⟩
        · obtain rfl := Option.some.inj e
          exact ⟨fun _ => ⟨ne, by rw [← g1]; exact c2⟩, fun _ => rfl⟩
        · obtain rfl := Option.some.inj e
          exact ⟨fun h => (by cases h), fun h => absurd (g1.trans h.2) c2⟩
    unfold j_Mod_goes_31 at eR
    rcases zl with ⟨l1, l2⟩ | ⟨l1, l40, lb, S, l2, l3, l4, l5, l6, l7, l8⟩
    · rcases io eR with ⟨c, e2⟩ | ⟨c, e2⟩
      · obtain rfl := Option.some.inj e2
        have := gen [] l2 (by simp) trivial
        rw [this]
        exact ⟨fun h => absurd rfl h.1, fun h => (by cases h)⟩
      · exact absurd (Int32.toInt_inj.mp l1) c
    · rcases io eR with ⟨c, e2⟩ | ⟨c, e2⟩
      · have := q_eq c; rw [o0] at this; omega
      obtain ⟨x1, e1, e2a⟩ := bo e2
      obtain ⟨M2, m2, e2b⟩ := mo e2a
      obtain ⟨M3, m3, e2c⟩ := mo e2b
      obtain ⟨x4, e4, e2d⟩ := bo e2c
      unfold f_Mod_begin at e1
      obtain ⟨_, e1⟩ := io_n e1
      obtain ⟨N1, n1, e1⟩ := mo e1
      obtain ⟨N2, n2, e1⟩ := mo e1
      obtain ⟨N3, n3, e1⟩ := mo e1
      obtain ⟨N4, n4, e1⟩ := mo e1
      obtain ⟨N5, n5, e1⟩ := mo e1
      have e1 := Option.some.inj e1
      subst e1
      have q1 : N1.1 = R.1 := by rw [n1]; rfl
      have q2 : M2.1 = N5.1 := by rw [m2]; rfl
      have hf : ∀ kk i, ¬ (kk = 162 ∧ (i = 15 ∨ i = 16 ∨ i = 17 ∨ i = 18 ∨ i = 25)) → M3.1 kk i = R.1 kk i := by
        intro kk i h
        rw [m3, si_ne (by omega), q2, n5, si_ne (by omega), n4, si_ne (by omega), n3, si_ne (by omega), n2, si_ne (by omega), q1]
      have b15 : M3.1 162 15 = R.1 162 23 := by
        rw [m3, si_ne (by omega), q2, n5, si_ne (by omega), n4, si_ne (by omega), n3, si_ne (by omega), n2, si_eq]
      have b16 : (M3.1 162 16).toInt = 40 := by
        rw [m3, si_ne (by omega), q2, n5, si_ne (by omega), n4, si_ne (by omega), n3, si_eq]; rfl
      have b17 : (M3.1 162 17).toInt = 0 := by
        rw [m3, si_ne (by omega), q2, n5, si_ne (by omega), n4, si_eq]; rfl
      have b18 : (M3.1 162 18).toInt = -1 := by
        rw [m3, si_ne (by omega), q2, n5, si_eq]; rfl
      have b25 : M3.1 162 25 = v := by rw [m3, si_eq]
      have b24 : M3.2.2 162 24 = some a := by rw [m3]; show M2.2.2 162 24 = _; rw [m2]; simp [s_q]
      have b14 : M3.2.2 162 14 = some 172 := by
        rw [m3]; show M2.2.2 162 14 = _
        rw [m2]; simp only [s_q]
        rw [if_neg (by omega)]
        rw [n5]; show N4.2.2 162 14 = _
        rw [n4]; show N3.2.2 162 14 = _
        rw [n3]; show N2.2.2 162 14 = _
        rw [n2]; show N1.2.2 162 14 = _
        rw [n1]; simp [s_q]
      have hB : Rd (rlx R) M3 := by
        refine ⟨172, b14, .inr rfl, by rw [b15]; omega, fun q => ?_⟩
        rw [b15, b16, hf 172 q (by omega)]
        refine ⟨?_, fun h _ => lb q h⟩
        unfold rlx
        by_cases g : (q : Int) < (R.1 162 23).toInt ∧ q < 40
        · rw [if_pos g, if_pos (by omega)]
        · rw [if_neg g, if_neg (by omega)]
      have a176 : a ≤ 176 ∧ 163 ≤ a := by rcases ha with rfl | rfl | rfl <;> omega
      have hE : HE (ltr (xw R) (R.1 164) (R.1 162 5) n (R.1 a) p) M3 := by
        intro rc s N r _ fx e
        unfold j_Mod_thing_142 at e
        obtain ⟨M5, e5, e⟩ := mo e
        have fM : ∀ kk i, kk < 193 → ¬ (kk = 162 ∧ (i = 15 ∨ i = 16 ∨ i = 17 ∨ i = 18 ∨ i = 25)) → M5.1 kk i = R.1 kk i := by
          intro kk i hkk h
          have tb : Nat.testBit mEx (sl kk i) = false := by
            have sn : ¬ 217 = sl kk i ∧ ¬ 218 = sl kk i := by
              unfold sl
              repeat' split
              all_goals omega
            unfold mEx
            rw [Nat.testBit_or, tb2, tb2, decide_eq_false sn.1, decide_eq_false sn.2]; rfl
          rw [e5, si_ne (by omega), (fx kk i tb (by simp)).1]; exact hf kk i h
        have h24 : M5.2.2 162 24 = some a := by
          rw [e5]; show N.2.2 162 24 = _
          rw [(fx 162 24 (by decide +kernel) (by simp)).2.2]; exact b24
        have h25 : M5.1 162 25 = v := by
          rw [e5, si_ne (by omega), (fx 162 25 (by decide +kernel) (by simp)).1]; exact b25
        rw [h24] at e
        rw [if_neg (by simp)] at e
        obtain ⟨a6, ea6, e⟩ := bo e
        obtain rfl := Option.some.inj ea6
        obtain ⟨_, e⟩ := io_n e
        obtain ⟨x7, e7, e⟩ := bo e
        obtain rfl := Option.some.inj e
        rw [h25] at e7
        have w1 : M5.1 162 2 = R.1 162 2 := fM 162 2 (by omega) (by omega)
        have L := letter_i (n := n) (by show 1 ≤ (M5.1 162 2).toInt ∧ (M5.1 162 2).toInt ≤ 6; rw [w1]; exact aw jR) (by rw [fM a p (by omega) (by omega)]; omega) (by rw [fM 162 4 (by omega) (by omega)]; exact zc.1) n8 hp (by omega) e7
        rw [show xw M5 = xw R from congrArg Int32.toInt w1, show M5.1 164 = R.1 164 from funext (fun i => fM 164 i (by omega) (by omega)), fM 162 5 (by omega) (by omega), show M5.1 a = R.1 a from funext (fun i => fM a i (by omega) (by omega))] at L
        exact L
      have pre : Pre (rlx R) 0 S0 M3 0 := ⟨hB, b18, b17, rfl, rfl, (by show 0 ≤ 4; omega), (by show 0 ≤ 80; omega), fun _ => trivial, fun _ => rfl⟩
      obtain ⟨f4, g⟩ := expr_i hE hB 100 0 0 M3 x4 S0 (by omega) Fx_r pre e4
      have val : ∀ st, rv (ltr (xw R) (R.1 164) (R.1 162 5) n (R.1 a) p) (stl 0 S.2.1.1 S.2.1.2).1 st = x4.1 :: st := by
        rcases g with ⟨S', h, kf⟩ | ⟨S', k1, k2, k3, _, _⟩
        · have rg := Rd_rng (Rd_fx okE f4 hB) S'.1
          have st' := fol_st ⟨rg.1, rg.2.1⟩ h.2.2.2.1 h.2.2.2.2.1 kf
          have eS := Rch_u l2 h.2.2.1 l3 st'
          subst eS
          obtain ⟨rc1, q1', q2'⟩ := h.2.2.2.2.2.2.2
          have : stl 0 S.2.1.1 S.2.1.2 = (rc1, []) := by
            rw [← stl_stl (show 0 ≤ 2 by omega) S.2.1.1, q1', stl_stl (show 0 ≤ 2 by omega)]
            show stl 0 (rc1 ++ []) [] = _
            simp [stl]
          rw [this]; exact q2'
        · have eS := Rch_u l2 k1 l3 k2
          subst eS
          exact absurd ⟨l4, l5⟩ k3
      have := gen _ l6 l7 l8
      rw [val []] at this
      have ne : (stl 0 S.2.1.1 S.2.1.2).1 ≠ [] := by
        intro h
        have := val []
        rw [h] at this
        cases this
      rw [this]
      rcases io e2d with ⟨c2, e2⟩ | ⟨c2, e2⟩
      · obtain rfl := Option.some.inj e2
        exact ⟨fun _ => rfl, fun _ => ⟨ne, c2⟩⟩
      · obtain rfl := Option.some.inj e2
        exact ⟨fun h => absurd h.2 c2, fun h => (by cases h)⟩
