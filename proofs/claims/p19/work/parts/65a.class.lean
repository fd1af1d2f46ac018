/-! the class follows the machine -/
def stk (f : Nat → Int32) : List Int32 → Prop
  | [] => True
  | s :: w => f w.length = s ∧ stk f w
theorem stk_c {f g : Nat → Int32} {l : List Int32} (h : stk f l) (e : ∀ i, i < l.length → g i = f i) : stk g l := by
  induction l with
  | nil => trivial
  | cons s w ih => exact ⟨(e w.length (by simp)).trans h.1, ih h.2 (fun i hi => e i (by simp; omega))⟩
def RO5 (o : List Int32) (M : Mem) : Prop := (M.1 40 5).toInt = (o.length : Int) ∧ stk (M.1 42) o
def RW6 (w : List Int32) (M : Mem) : Prop := (M.1 40 6).toInt = (w.length : Int) ∧ stk (M.1 43) w
theorem RO5_c {o : List Int32} {M N : Mem} (h : RO5 o M) (a : N.1 40 5 = M.1 40 5) (b : ∀ i, N.1 42 i = M.1 42 i) : RO5 o N := ⟨by rw [a]; exact h.1, stk_c h.2 (fun i _ => b i)⟩
theorem RW6_c {w : List Int32} {M N : Mem} (h : RW6 w M) (a : N.1 40 6 = M.1 40 6) (b : ∀ i, N.1 43 i = M.1 43 i) : RW6 w N := ⟨by rw [a]; exact h.1, stk_c h.2 (fun i _ => b i)⟩
theorem rank_i {v x : Int32} (e : f_Law_rankOf v = some x) : x.toInt = (rk v : Int) := by
  unfold f_Law_rankOf at e
  unfold rk
  rcases io e with ⟨c, e⟩ | ⟨c, e⟩
  · obtain rfl := Option.some.inj e; rw [if_pos c]; rfl
  rw [if_neg c]
  rcases io e with ⟨c, e⟩ | ⟨c, e⟩
  · obtain rfl := Option.some.inj e; rw [if_pos c]; rfl
  rw [if_neg c]
  rcases io e with ⟨c, e⟩ | ⟨c, e⟩
  · obtain rfl := Option.some.inj e; rw [if_pos c]; rfl
  rw [if_neg c]
  rcases io e with ⟨c, e⟩ | ⟨c, e⟩
  · obtain rfl := Option.some.inj e; rw [if_pos c]; rfl
  rw [if_neg c]
  rcases io e with ⟨c, e⟩ | ⟨c, e⟩
  · obtain rfl := Option.some.inj e; rw [if_pos c]; rfl
  rw [if_neg c]
  rcases io e with ⟨c, e⟩ | ⟨c, e⟩
  · obtain rfl := Option.some.inj e; rw [if_pos c]; rfl
  rw [if_neg c]
  rcases io e with ⟨c, e⟩ | ⟨c, e⟩
  · obtain rfl := Option.some.inj e; rw [if_pos c]; rfl
  rw [if_neg c]
  rcases io e with ⟨c, e⟩ | ⟨c, e⟩
  · obtain rfl := Option.some.inj e; rw [if_pos c]; rfl
  rw [if_neg c]
  obtain rfl := Option.some.inj e; rfl
theorem qual_i {v x : Int32} (e : f_Law_isQuality v = some x) : (isq v = true ∧ x = 1) ∨ (isq v = false ∧ x = 0) := by
  unfold f_Law_isQuality at e
  rcases io e with ⟨c, e⟩ | ⟨c1, e⟩
  · obtain rfl := Option.some.inj e; subst c; exact .inl ⟨by decide, rfl⟩
  rcases io e with ⟨c, e⟩ | ⟨c2, e⟩
  · obtain rfl := Option.some.inj e; subst c; exact .inl ⟨by decide, rfl⟩
  rcases io e with ⟨c, e⟩ | ⟨c3, e⟩
  · obtain rfl := Option.some.inj e; subst c; exact .inl ⟨by decide, rfl⟩
  rcases io e with ⟨c, e⟩ | ⟨c4, e⟩
  · obtain rfl := Option.some.inj e; subst c; exact .inl ⟨by decide, rfl⟩
  rcases io e with ⟨c, e⟩ | ⟨c5, e⟩
  · obtain rfl := Option.some.inj e; subst c; exact .inl ⟨by decide, rfl⟩
  rcases io e with ⟨c, e⟩ | ⟨c6, e⟩
  · obtain rfl := Option.some.inj e; subst c; exact .inl ⟨by decide, rfl⟩
  rcases io e with ⟨c, e⟩ | ⟨c7, e⟩
  · obtain rfl := Option.some.inj e; subst c; exact .inl ⟨by decide, rfl⟩
  rcases io e with ⟨c, e⟩ | ⟨c8, e⟩
  · obtain rfl := Option.some.inj e; subst c; exact .inl ⟨by decide, rfl⟩
  obtain rfl := Option.some.inj e
  refine .inr ⟨?_, rfl⟩
  simp only [isq, Bool.or_eq_false_iff, beq_eq_false_iff_ne]
  exact ⟨⟨⟨⟨⟨⟨⟨c1, c2⟩, c3⟩, c4⟩, c5⟩, c6⟩, c7⟩, c8⟩
theorem emit_i {o : List Int32} {v : Int32} {M r : Mem} (h : RO5 o M) (lt : o.length < 40) (e : f_Law_emit v M = some r) : RO5 (v :: o) r ∧ ∀ k i, ¬ (k = 40 ∧ i = 5) → k ≠ 42 → r.1 k i = M.1 k i := by
  have z0 := o0
  have z40 : (40 : Int32).toInt = 40 := rfl
  obtain ⟨h1, h2⟩ := h
  unfold f_Law_emit at e
  rcases io e with ⟨c, e⟩ | ⟨c, e⟩
  · have := q_lt c; omega
  rcases io e with ⟨c, e⟩ | ⟨c, e⟩
  · have := q_le c; omega
  obtain ⟨_, e⟩ := io_n e
  obtain ⟨M1, e1, e⟩ := mo e
  obtain ⟨M2, e2, e⟩ := mo e
  obtain rfl := Option.some.inj e
  have a5 : (M1.1 40 5).toInt = (o.length : Int) := by rw [e1, si_ne (by omega)]; exact h1
  refine ⟨⟨?_, ?_, stk_c h2 (fun i hi => ?_)⟩, fun k i n1 n2 => ?_⟩
  · rw [e2, si_eq, add_ti a5 o1 (by omega) (by omega)]; simp
  · rw [e2, si_ne (by omega), e1, q_nat h1, si_eq]
  · rw [e2, si_ne (by omega), e1, q_nat h1, si_ne (by omega)]
  · rw [e2, si_ne n1, e1, si_ne (fun h => n2 h.1)]
theorem hold_i {w : List Int32} {v : Int32} {M r : Mem} (h : RW6 w M) (lt : w.length < 40) (e : f_Law_hold v M = some r) : RW6 (v :: w) r ∧ ∀ k i, ¬ (k = 40 ∧ i = 6) → k ≠ 43 → r.1 k i = M.1 k i := by
  have z0 := o0
  have z40 : (40 : Int32).toInt = 40 := rfl
  obtain ⟨h1, h2⟩ := h
  unfold f_Law_hold at e
  rcases io e with ⟨c, e⟩ | ⟨c, e⟩
  · have := q_lt c; omega
  rcases io e with ⟨c, e⟩ | ⟨c, e⟩
  · have := q_le c; omega
  obtain ⟨_, e⟩ := io_n e
  obtain ⟨M1, e1, e⟩ := mo e
  obtain ⟨M2, e2, e⟩ := mo e
  obtain rfl := Option.some.inj e
  have a5 : (M1.1 40 6).toInt = (w.length : Int) := by rw [e1, si_ne (by omega)]; exact h1
  refine ⟨⟨?_, ?_, stk_c h2 (fun i hi => ?_)⟩, fun k i n1 n2 => ?_⟩
  · rw [e2, si_eq, add_ti a5 o1 (by omega) (by omega)]; simp
  · rw [e2, si_ne (by omega), e1, q_nat h1, si_eq]
  · rw [e2, si_ne (by omega), e1, q_nat h1, si_ne (by omega)]
  · rw [e2, si_ne n1, e1, si_ne (fun h => n2 h.1)]
def FSt (M N : Mem) : Prop := ∀ k i, ¬ (k = 40 ∧ (i = 5 ∨ i = 6)) → k ≠ 42 → k ≠ 43 → N.1 k i = M.1 k i
theorem settle_i {v : Int32} {K : Nat} (hv : v.toInt = (K : Int)) {o w : List Int32} {M r : Mem} (ho : RO5 o M) (hw : RW6 w M) (le : o.length + w.length ≤ 40) (e : f_Law_settle v M = some r) : RO5 (stl K o w).1 r ∧ RW6 (stl K o w).2 r ∧ FSt M r := by
  unfold f_Law_settle at e
  obtain ⟨y, ey, e⟩ := bo e
  have key : Sum.elim (fun x => RO5 (stl K o w).1 x ∧ RW6 (stl K o w).2 x ∧ FSt M x) (fun x => RO5 (stl K o w).1 x ∧ RW6 (stl K o w).2 x ∧ FSt M x) y := by
    refine it_r (I := fun s : Int32 × Mem => FSt M s.2 ∧ ∃ (o' w' : List Int32) (j : Nat), RO5 o' s.2 ∧ RW6 w' s.2 ∧ stl K o' w' = stl K o w ∧ o'.length + w'.length ≤ 40 ∧ s.1.toInt = (j : Int) ∧ j + w'.length = w.length) (Q := Sum.elim (fun x => RO5 (stl K o w).1 x ∧ RW6 (stl K o w).2 x ∧ FSt M x) (fun x => RO5 (stl K o w).1 x ∧ RW6 (stl K o w).2 x ∧ FSt M x)) ?_ ey ⟨fun _ _ _ _ _ => rfl, o, w, 0, ho, hw, rfl, le, rfl, by omega⟩
    rintro ⟨c0, N⟩ r ⟨fs, o', w', j, ho', hw', hs, le', hj, hjw⟩ e
    dsimp only at fs ho' hw' hj
    have z0 := o0
    have z1 := o1
    have z40 : (40 : Int32).toInt = 40 := rfl
    have stop : (stl K o' w' = (o', w')) → RO5 (stl K o w).1 N ∧ RW6 (stl K o w).2 N ∧ FSt M N := by
      intro h
      rw [h] at hs
      rw [← hs]
      exact ⟨ho', hw', fs⟩
    unfold lb_Law_settle_2 at e
    dsimp only at e
    rcases io e with ⟨c, e⟩ | ⟨c, e⟩
    · have := q_le c
      obtain rfl := Option.some.inj e
      have : w' = [] := List.length_eq_zero_iff.mp (by omega)
      subst this
      exact stop rfl
    have c1 := q_ng c
    rcases io e with ⟨c, e⟩ | ⟨c, e⟩
    · have := q_lt c
      obtain rfl := Option.some.inj e
      have : w' = [] := List.length_eq_zero_iff.mp (by have := hw'.1; omega)
      subst this
      exact stop rfl
    have c2 := q_nl c
    rcases io e with ⟨c, e⟩ | ⟨c, e⟩
    · have := q_lt c
      have := hw'.1
      omega
    obtain ⟨_, e⟩ := io_n e
    cases w' with
    | nil => have := hw'.1; simp at this; omega
    | cons s w2 =>
      have l6 : (N.1 40 6).toInt = ((w2.length + 1 : Nat) : Int) := hw'.1
      have le3 : o'.length + (w2.length + 1) ≤ 40 := le'
      have s6 : ((N.1 40 6) - (1 : Int32)).toInt = (w2.length : Int) := by rw [sub_ti l6 o1 (by omega) (by omega)]; omega
      have top : N.1 43 ((N.1 40 6) - (1 : Int32)).toNatClampNeg = s := by rw [q_nat s6]; exact hw'.2.1
      rw [top] at e
      rcases io e with ⟨c, e⟩ | ⟨c4, e⟩
      · obtain rfl := Option.some.inj e
        exact stop (by rw [stl, if_pos (.inl c)])
      obtain ⟨_, e⟩ := io_n e
      obtain ⟨x1, e1, e⟩ := bo e
      have hr := rank_i e1
      rcases io e with ⟨c, e⟩ | ⟨c, e⟩
      · have c5 := q_le c
        obtain ⟨M2, e2, e⟩ := mo e
        obtain ⟨_, e⟩ := io_n e
        obtain ⟨x3, e3, e⟩ := bo e
        obtain rfl := Option.some.inj e
        have m6 : (M2.1 40 6).toInt = (w2.length : Int) := by rw [e2, si_eq]; exact s6
        have m43 : ∀ i, M2.1 43 i = N.1 43 i := fun i => by rw [e2, si_ne (by omega)]
        have ms : M2.1 43 (M2.1 40 6).toNatClampNeg = s := by rw [q_nat m6, m43]; exact hw'.2.1
        rw [ms] at e3
        have mo5 : RO5 o' M2 := RO5_c ho' (by rw [e2, si_ne (by omega)]) (fun i => by rw [e2, si_ne (by omega)])
        have le2 : o'.length + (w2.length + 1) ≤ 40 := le'
        obtain ⟨ho3, fr3⟩ := emit_i mo5 (by omega) e3
        have hw3 : RW6 w2 x3 := ⟨by rw [fr3 40 6 (by omega) (by omega)]; exact m6, stk_c hw'.2.2 (fun i _ => by rw [fr3 43 i (by omega) (by omega), m43])⟩
        have hjw2 : j + (w2.length + 1) = w.length := hjw
        refine ⟨fun k i n1 n2 n3 => ?_, -s :: o', w2, j + 1, ho3, hw3, ?_, ?_, add_ti hj o1 (by omega) (by omega), by omega⟩
        · show x3.1 k i = _
          rw [fr3 k i (by omega) n2, e2, si_ne (by omega)]; exact fs k i n1 n2 n3
        · rw [← hs, show stl K o' (s :: w2) = stl K (-s :: o') w2 by rw [stl, if_neg (by rintro (h | h); exact c4 h; omega)]]
        · show o'.length + 1 + w2.length ≤ 40
          omega
      · have c5 := q_ng c
        obtain rfl := Option.some.inj e
        exact stop (by rw [stl, if_pos (.inr (by omega))])
  rcases y with y | y
  · replace e := el_l e
    obtain rfl := Option.some.inj e
    exact key
  · replace e := el_r e
    obtain rfl := Option.some.inj e
    exact key
/-- the machine's state as the class holds it -/
def RepL (S : MS) (M : Mem) : Prop := RO5 S.2.1.1 M ∧ RW6 S.2.1.2 M ∧ (M.1 40 8).toInt = (S.2.2.1 : Int) ∧ (∀ d, d ≤ 4 → bt (M.1 40 9) d = S.2.2.2.1 d) ∧ M.1 40 10 = if S.2.2.2.2 = true then 1 else 0
def WfL (S : MS) : Prop := S.2.1.1.length + S.2.1.2.length ≤ S.1 ∧ S.2.1.2.count 40 = S.2.2.1 ∧ (∀ s, s ∈ S.2.1.2 → s = 40 ∨ 2 ≤ rk s) ∧ S.2.2.1 ≤ 4
def FT (M N : Mem) : Prop := N.1 1 1 = M.1 1 1 ∧ ∀ i, N.1 2 i = M.1 2 i
theorem hold_40 {w : List Int32} (h : tp 1 w) (hc : 0 < w.count 40) (ha : ∀ s, s ∈ w → s = 40 ∨ 2 ≤ rk s) : ∃ w2, w = 40 :: w2 := by
  cases w with
  | nil => simp at hc
  | cons s w2 =>
    rcases h with h | h
    · exact ⟨w2, by rw [h]⟩
    · rcases ha s (List.mem_cons_self) with g | g
      · exact ⟨w2, by rw [g]⟩
      · omega
theorem behind_i {t : Nat → Int} {S : MS} {v : Int32} {M : Mem} {x : Int32 × Mem} (h : RepL S M) (wf : WfL S) (p40 : S.1 < 40) (hb : S.2.2.2.2 = true) (hv : v.toInt = t S.1) (r255 : -1 ≤ t S.1 ∧ t S.1 ≤ 255) (e : f_Law_readBehind v M = some x) : (x.1 = 0 ∧ rdB t S.1 S.2.1 S.2.2.1 S.2.2.2.1 = none ∧ x.2 = M) ∨ (x.1 = 1 ∧ ∃ S', rdB t S.1 S.2.1 S.2.2.1 S.2.2.2.1 = some S' ∧ S'.1 = S.1 + 1 ∧ RepL S' x.2 ∧ WfL S' ∧ FT M x.2) := by
  obtain ⟨ho, hw, h8, h9, h10⟩ := h
  obtain ⟨w1, w2, w3, w4⟩ := wf
  have z0 := o0
  have z2 := o2
  have z41 : (41 : Int32).toInt = 41 := rfl
  have sgv : sg t S.1 = v := sg_eq hv.symm
  unfold f_Law_readBehind at e
  have op : ¬ (t S.1 = 41 ∧ 0 < S.2.2.1) → j_Law_readBehind_40 v M = some x → (x.1 = 0 ∧ rdB t S.1 S.2.1 S.2.2.1 S.2.2.2.1 = none ∧ x.2 = M) ∨ (x.1 = 1 ∧ ∃ S', rdB t S.1 S.2.1 S.2.2.1 S.2.2.2.1 = some S' ∧ S'.1 = S.1 + 1 ∧ RepL S' x.2 ∧ WfL S' ∧ FT M x.2) := by
    intro n41 e
    unfold j_Law_readBehind_40 at e
    obtain ⟨x1, e1, e⟩ := bo e
    have hr := rank_i e1
    unfold rdB
    rw [if_neg n41, sgv]
    have bit := bt_shr (x := M.1 40 9) h8 (by omega)
    rw [h9 _ w4] at bit
    have go : rk v ≠ 0 → (rk v = 2 → S.2.2.2.1 S.2.2.1 = false) → j_Law_readBehind_70 v x1 M = some x → x.1 = 1 ∧ ∃ S', (if rk v = 0 ∨ (rk v = 2 ∧ S.2.2.2.1 S.2.2.1 = true) then none else some (S.1 + 1, ((stl (rk v) S.2.1.1 S.2.1.2).1, v :: (stl (rk v) S.2.1.1 S.2.1.2).2), S.2.2.1, (if rk v = 2 then up S.2.2.2.1 S.2.2.1 true else S.2.2.2.1), false)) = some S' ∧ S'.1 = S.1 + 1 ∧ RepL S' x.2 ∧ WfL S' ∧ FT M x.2 := by
      intro r0 r2 e
      rw [if_neg (by rintro (h | ⟨h, g⟩); exact r0 h; rw [r2 h] at g; cases g)]
      have e2 : ∃ M5, j_Law_readBehind_90 v x1 M5 = some x ∧ (∀ k i, ¬ (k = 40 ∧ i = 9) → M5.1 k i = M.1 k i) ∧ ∀ d, d ≤ 4 → bt (M5.1 40 9) d = (if rk v = 2 then up S.2.2.2.1 S.2.2.1 true else S.2.2.2.1) d := by
        unfold j_Law_readBehind_70 at e
        rcases io e with ⟨c, e⟩ | ⟨c, e⟩
        · have := q_eq c
          obtain ⟨M5, e5, e⟩ := mo e
          refine ⟨M5, e, fun k i n => by rw [e5, si_ne n], fun d hd => ?_⟩
          rw [e5, si_eq, bt_b1 _ h8 (by omega), h9 d hd, if_pos (by omega)]
          unfold up
          by_cases c : d = S.2.2.1
          · rw [if_pos c, decide_eq_true c, Bool.or_true]
          · rw [if_neg c, decide_eq_false c, Bool.or_false]
        · have := q_ne c
          exact ⟨M, e, fun _ _ _ => rfl, fun d hd => by rw [h9 d hd, if_neg (by omega)]⟩
      obtain ⟨M5, e, f5, b5⟩ := e2
      unfold j_Law_readBehind_90 at e
      obtain ⟨x2, e2, e⟩ := bo e
      obtain ⟨x3, e3, e⟩ := bo e
      obtain ⟨M4, e4, e⟩ := mo e
      obtain rfl := Option.some.inj e
      obtain ⟨s1, s2, s3⟩ := settle_i hr (RO5_c ho (f5 40 5 (by omega)) (fun i => f5 42 i (by omega))) (RW6_c hw (f5 40 6 (by omega)) (fun i => f5 43 i (by omega))) (by omega) e2
      have sl := stl_len (rk v) S.2.1.1 S.2.1.2
      obtain ⟨k1, k2⟩ := hold_i (v := v) s2 (by omega) e3
      refine ⟨rfl, _, rfl, rfl, ⟨?_, ?_, ?_, ?_, ?_⟩, ⟨?_, ?_, ?_, w4⟩, ?_, fun i => ?_⟩
      · exact RO5_c s1 (by show M4.1 40 5 = _; rw [e4, si_ne (by omega), k2 40 5 (by omega) (by omega)]) (fun i => by show M4.1 42 i = _; rw [e4, si_ne (by omega), k2 42 i (by omega) (by omega)])
      · exact RW6_c k1 (by show M4.1 40 6 = _; rw [e4, si_ne (by omega)]) (fun i => by show M4.1 43 i = _; rw [e4, si_ne (by omega)])
      · show (M4.1 40 8).toInt = _
        rw [e4, si_ne (by omega), k2 40 8 (by omega) (by omega), s3 40 8 (by omega) (by omega) (by omega), f5 40 8 (by omega)]; exact h8
      · intro d hd
        show bt (M4.1 40 9) d = _
        rw [e4, si_ne (by omega), k2 40 9 (by omega) (by omega), s3 40 9 (by omega) (by omega) (by omega)]; exact b5 d hd
      · show M4.1 40 10 = _
        rw [e4, si_eq]; rfl
      · show (stl (rk v) S.2.1.1 S.2.1.2).1.length + (v :: (stl (rk v) S.2.1.1 S.2.1.2).2).length ≤ S.1 + 1
        rw [List.length_cons]; omega
      · show (v :: (stl (rk v) S.2.1.1 S.2.1.2).2).count 40 = _
        rw [List.count_cons_of_ne (by rintro rfl; exact r0 (by decide)), stl_cnt]; exact w2
      · intro s hs
        rcases List.mem_cons.mp hs with h | h
        · subst h
          right
          have : rk s ≠ 1 := by unfold rk; repeat' split
                                all_goals omega
          omega
        · exact stl_all _ _ _ w3 s h
      · show M4.1 1 1 = _
        rw [e4, si_ne (by omega), k2 1 1 (by omega) (by omega), s3 1 1 (by omega) (by omega) (by omega), f5 1 1 (by omega)]
      · show M4.1 2 i = _
        rw [e4, si_ne (by omega), k2 2 i (by omega) (by omega), s3 2 i (by omega) (by omega) (by omega), f5 2 i (by omega)]
    rcases io e with ⟨c, e⟩ | ⟨c, e⟩
    · have := q_eq c
      obtain rfl := Option.some.inj e
      exact .inl ⟨rfl, by rw [if_pos (.inl (by omega))], rfl⟩
    have c1 := q_ne c
    rcases io e with ⟨c, e⟩ | ⟨c, e⟩
    · have c2 := q_eq c
      rw [bit] at e
      cases hc : S.2.2.2.1 S.2.2.1 with
      | true =>
        rw [hc, if_pos rfl, if_neg (by decide)] at e
        obtain rfl := Option.some.inj e
        exact .inl ⟨rfl, by rw [if_pos (.inr ⟨by omega, rfl⟩)], rfl⟩
      | false =>
        rw [hc, if_neg (show ¬ (false = true) by decide), if_pos rfl] at e
        rw [hc] at go
        exact .inr (go (by omega) (fun _ => rfl) e)
    · have c2 := q_ne c
      exact .inr (go (by omega) (fun h => by omega) e)
  rcases io e with ⟨c, e⟩ | ⟨c, e⟩
  · have c1 := q_eq c
    rcases io e with ⟨c, e⟩ | ⟨c, e⟩
    · have := q_le c
      exact op (by omega) e
    · have c2 := q_ng c
      obtain ⟨x10, e10, e⟩ := bo e
      obtain ⟨M11, e11, e⟩ := mo e
      obtain ⟨M12, e12, e⟩ := mo e
      obtain rfl := Option.some.inj e
      obtain ⟨s1, s2, s3⟩ := settle_i (K := 1) o1 ho hw (by omega) e10
      have sl := stl_len 1 S.2.1.1 S.2.1.2
      obtain ⟨w5, hw5⟩ := hold_40 (stl_tp 1 S.2.1.1 S.2.1.2) (by rw [stl_cnt, w2]; omega) (stl_all _ _ _ w3)
      have l5 : (stl 1 S.2.1.1 S.2.1.2).2.length = w5.length + 1 := by rw [hw5]; rfl
      refine .inr ⟨rfl, _, by unfold rdB; rw [if_pos ⟨by omega, by omega⟩], rfl, ⟨?_, ?_, ?_, fun d hd => ?_, ?_⟩, ⟨?_, ?_, fun s hs => ?_, ?_⟩, ?_, fun i => ?_⟩
      · exact RO5_c s1 (by show M12.1 40 5 = _; rw [e12, si_ne (by omega), e11, si_ne (by omega)]) (fun i => by show M12.1 42 i = _; rw [e12, si_ne (by omega), e11, si_ne (by omega)])
      · rw [hw5] at s2 ⊢
        have l6 : (x10.1 40 6).toInt = ((w5.length + 1 : Nat) : Int) := s2.1
        refine ⟨?_, stk_c s2.2.2 (fun i _ => ?_)⟩
        · show (M12.1 40 6).toInt = (w5.length : Int)
          rw [e12, si_ne (by omega), e11, si_eq, sub_ti l6 o1 (by omega) (by omega)]; omega
        · show M12.1 43 i = _
          rw [e12, si_ne (by omega), e11, si_ne (by omega)]
      · show (M12.1 40 8).toInt = ((S.2.2.1 - 1 : Nat) : Int)
        have m8 : (M11.1 40 8).toInt = (S.2.2.1 : Int) := by rw [e11, si_ne (by omega), s3 40 8 (by omega) (by omega) (by omega)]; exact h8
        rw [e12, si_eq, sub_ti m8 o1 (by omega) (by omega)]; omega
      · show bt (M12.1 40 9) d = _
        rw [e12, si_ne (by omega), e11, si_ne (by omega), s3 40 9 (by omega) (by omega) (by omega)]; exact h9 d hd
      · show M12.1 40 10 = _
        rw [e12, si_ne (by omega), e11, si_ne (by omega), s3 40 10 (by omega) (by omega) (by omega), h10, hb]
      · show (stl 1 S.2.1.1 S.2.1.2).1.length + (stl 1 S.2.1.1 S.2.1.2).2.tail.length ≤ S.1 + 1
        rw [List.length_tail]; omega
      · show (stl 1 S.2.1.1 S.2.1.2).2.tail.count 40 = S.2.2.1 - 1
        have k := stl_cnt 1 S.2.1.1 S.2.1.2
        rw [hw5] at k ⊢
        rw [List.count_cons_self, w2] at k
        show w5.count 40 = _
        omega
      · exact stl_all 1 S.2.1.1 S.2.1.2 w3 s (List.mem_of_mem_tail hs)
      · show S.2.2.1 - 1 ≤ 4; omega
      · show M12.1 1 1 = _
        rw [e12, si_ne (by omega), e11, si_ne (by omega), s3 1 1 (by omega) (by omega) (by omega)]
      · show M12.1 2 i = _
        rw [e12, si_ne (by omega), e11, si_ne (by omega), s3 2 i (by omega) (by omega) (by omega)]
  · have := q_ne c
    exact op (by omega) e
