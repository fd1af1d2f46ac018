/-! the class reads a rule -/
theorem thing_c {t : Nat → Int} {S : MS} {v2 v3 : Int32} {M : Mem} {x : Int32 × Mem} (hJ : J M) (ht : t = cx M 40) (h : RepL S M) (wf : WfL S) (p40 : S.1 < 40) (hb : S.2.2.2.2 = false) (h2 : v2.toInt = (S.1 : Int)) (hv : v3.toInt = t S.1) (n1 : t S.1 ≠ -1) (e : f_Law_readThing v2 v3 M = some x) : (x.1 = 0 ∧ rdT t S.1 S.2.1 S.2.2.1 S.2.2.2.1 = none ∧ FT M x.2 ∧ RepL S x.2) ∨ (∃ S', rdT t S.1 S.2.1 S.2.2.1 S.2.2.2.1 = some S' ∧ x.1.toInt = (S'.1 : Int) - (S.1 : Int) ∧ S.1 < S'.1 ∧ S'.1 ≤ 40 ∧ RepL S' x.2 ∧ WfL S' ∧ FT M x.2) := by
  obtain ⟨ho, hw, h8, h9, h10⟩ := h
  obtain ⟨w1, w2, w3, w4⟩ := wf
  have z0 := o0
  have z4 := o4
  have z45 : (45 : Int32).toInt = 45 := rfl
  have z40 : (40 : Int32).toInt = 40 := rfl
  have rg := cx_b hJ 40 S.1
  rw [← ht] at rg
  have sgv : sg t S.1 = v3 := sg_eq hv.symm
  have l80 := (Jr_1_1 hJ).2
  have rest : t S.1 ≠ 45 → ¬ (t S.1 = 40 ∧ S.2.2.1 < 4) → j_Law_readThing_63 v2 v3 M = some x → (x.1 = 0 ∧ rdT t S.1 S.2.1 S.2.2.1 S.2.2.2.1 = none ∧ FT M x.2 ∧ RepL S x.2) ∨ (∃ S', rdT t S.1 S.2.1 S.2.2.1 S.2.2.2.1 = some S' ∧ x.1.toInt = (S'.1 : Int) - (S.1 : Int) ∧ S.1 < S'.1 ∧ S'.1 ≤ 40 ∧ RepL S' x.2 ∧ WfL S' ∧ FT M x.2) := by
    intro n45 n40 e
    unfold j_Law_readThing_63 at e
    obtain ⟨x1, e1, e⟩ := bo e
    obtain ⟨f1, d1, d2, d3, d4⟩ := dig_i (K := 40) (n := 3) l80 h2 z40 o3 (by omega) (by omega) e1
    rw [← ht] at d1 d2
    have ho1 : RO5 S.2.1.1 x1.2 := RO5_c ho (f1 40 5 (by omega)) (fun i => f1 42 i (by omega))
    have hw1 : RW6 S.2.1.2 x1.2 := RW6_c hw (f1 40 6 (by omega)) (fun i => f1 43 i (by omega))
    unfold rdT
    rw [if_neg n45, if_neg n40]
    rcases io e with ⟨c, e⟩ | ⟨c, e⟩
    · have c1 := q_le c
      have d0 : dgn t 3 S.1 = 0 := by omega
      rw [if_neg (by omega), sgv]
      obtain ⟨x2, e2, e⟩ := bo e
      rcases qual_i e2 with ⟨q1, q2⟩ | ⟨q1, q2⟩
      · rw [if_pos q1]
        rw [q2, if_neg (by decide)] at e
        obtain ⟨x3, e3, e⟩ := bo e
        obtain ⟨M4, e4, e⟩ := mo e
        obtain rfl := Option.some.inj e
        obtain ⟨k1, k2⟩ := emit_i ho1 (by omega) e3
        refine .inr ⟨_, rfl, (by show (1 : Int) = ((S.1 + 1 : Nat) : Int) - (S.1 : Int); omega), Nat.lt_succ_self _, (by show S.1 + 1 ≤ 40; omega), ⟨?_, ?_, ?_, fun d hd => ?_, ?_⟩, ⟨?_, w2, w3, w4⟩, ?_, fun i => ?_⟩
        · exact RO5_c k1 (by show M4.1 40 5 = _; rw [e4, si_ne (by omega)]) (fun i => by show M4.1 42 i = _; rw [e4, si_ne (by omega)])
        · exact RW6_c hw1 (by show M4.1 40 6 = _; rw [e4, si_ne (by omega), k2 40 6 (by omega) (by omega)]) (fun i => by show M4.1 43 i = _; rw [e4, si_ne (by omega), k2 43 i (by omega) (by omega)])
        · show (M4.1 40 8).toInt = _
          rw [e4, si_ne (by omega), k2 40 8 (by omega) (by omega), f1 40 8 (by omega)]; exact h8
        · show bt (M4.1 40 9) d = _
          rw [e4, si_ne (by omega), k2 40 9 (by omega) (by omega), f1 40 9 (by omega)]; exact h9 d hd
        · show M4.1 40 10 = _
          rw [e4, si_eq]; rfl
        · show (-v3 :: S.2.1.1).length + S.2.1.2.length ≤ S.1 + 1
          rw [List.length_cons]; omega
        · show M4.1 1 1 = _
          rw [e4, si_ne (by omega), k2 1 1 (by omega) (by omega), f1 1 1 (by omega)]
        · show M4.1 2 i = _
          rw [e4, si_ne (by omega), k2 2 i (by omega) (by omega), f1 2 i (by omega)]
      · rw [if_neg (by rw [q1]; decide)]
        rw [q2, if_pos rfl] at e
        obtain rfl := Option.some.inj e
        refine .inl ⟨rfl, rfl, ⟨f1 1 1 (by omega), fun i => f1 2 i (by omega)⟩, ho1, hw1, ?_, fun d hd => ?_, ?_⟩
        · show (x1.2.1 40 8).toInt = _
          rw [f1 40 8 (by omega)]; exact h8
        · show bt (x1.2.1 40 9) d = _
          rw [f1 40 9 (by omega)]; exact h9 d hd
        · show x1.2.1 40 10 = _
          rw [f1 40 10 (by omega)]; exact h10
    · have c1 := q_ng c
      have dp : 0 < dgn t 3 S.1 := by omega
      rw [if_pos dp]
      obtain ⟨x6, e6, e⟩ := bo e
      obtain ⟨M7, e7, e⟩ := mo e
      obtain rfl := Option.some.inj e
      obtain ⟨k1, k2⟩ := emit_i ho1 (by omega) e6
      rw [ofi d2]
      have lim : S.1 + dgn t 3 S.1 ≤ 40 := by
        have gen : ∀ (k p : Nat), p ≤ 40 → p + dgn t k p ≤ 40 := by
          intro k
          induction k with
          | zero => intro p hp; exact hp
          | succ k ih =>
            intro p hp
            by_cases c : 48 ≤ t p ∧ t p ≤ 57
            · have g := cx_b hJ 40 p
              rw [← ht] at g
              have := (g.2.2 (by omega)).2
              rw [show dgn t (k + 1) p = dgn t k (p + 1) + 1 by rw [dgn, if_pos c]]
              have := ih (p + 1) (by omega)
              omega
            · rw [show dgn t (k + 1) p = 0 by rw [dgn, if_neg c]]; omega
        exact gen 3 S.1 (by omega)
      refine .inr ⟨_, rfl, (by show x1.1.toInt = ((S.1 + dgn t 3 S.1 : Nat) : Int) - (S.1 : Int); omega), (by show S.1 < S.1 + dgn t 3 S.1; omega), lim, ⟨?_, ?_, ?_, fun d hd => ?_, ?_⟩, ⟨?_, w2, w3, w4⟩, ?_, fun i => ?_⟩
      · exact RO5_c k1 (by show M7.1 40 5 = _; rw [e7, si_ne (by omega)]) (fun i => by show M7.1 42 i = _; rw [e7, si_ne (by omega)])
      · exact RW6_c hw1 (by show M7.1 40 6 = _; rw [e7, si_ne (by omega), k2 40 6 (by omega) (by omega)]) (fun i => by show M7.1 43 i = _; rw [e7, si_ne (by omega), k2 43 i (by omega) (by omega)])
      · show (M7.1 40 8).toInt = _
        rw [e7, si_ne (by omega), k2 40 8 (by omega) (by omega), f1 40 8 (by omega)]; exact h8
      · show bt (M7.1 40 9) d = _
        rw [e7, si_ne (by omega), k2 40 9 (by omega) (by omega), f1 40 9 (by omega)]; exact h9 d hd
      · show M7.1 40 10 = _
        rw [e7, si_eq]; rfl
      · show (x1.2.1 1 2 :: S.2.1.1).length + S.2.1.2.length ≤ S.1 + dgn t 3 S.1
        rw [List.length_cons]; omega
      · show M7.1 1 1 = _
        rw [e7, si_ne (by omega), k2 1 1 (by omega) (by omega), f1 1 1 (by omega)]
      · show M7.1 2 i = _
        rw [e7, si_ne (by omega), k2 2 i (by omega) (by omega), f1 2 i (by omega)]
  unfold f_Law_readThing at e
  rcases io e with ⟨c, e⟩ | ⟨c, e⟩
  · have c1 := q_eq c
    obtain ⟨x14, e14, e⟩ := bo e
    obtain rfl := Option.some.inj e
    obtain ⟨k1, k2⟩ := hold_i (v := 256) hw (by omega) e14
    refine .inr ⟨(S.1 + 1, (S.2.1.1, 256 :: S.2.1.2), S.2.2.1, S.2.2.2.1, false), by unfold rdT; rw [if_pos (by omega)], (by show (1 : Int) = ((S.1 + 1 : Nat) : Int) - (S.1 : Int); omega), Nat.lt_succ_self _, (by show S.1 + 1 ≤ 40; omega), ⟨?_, k1, ?_, fun d hd => ?_, ?_⟩, ⟨?_, ?_, fun s hs => ?_, w4⟩, ?_, fun i => ?_⟩
    · exact RO5_c ho (k2 40 5 (by omega) (by omega)) (fun i => k2 42 i (by omega) (by omega))
    · show (x14.1 40 8).toInt = _
      rw [k2 40 8 (by omega) (by omega)]; exact h8
    · show bt (x14.1 40 9) d = _
      rw [k2 40 9 (by omega) (by omega)]; exact h9 d hd
    · show x14.1 40 10 = _
      rw [k2 40 10 (by omega) (by omega), h10, hb]
    · show S.2.1.1.length + (256 :: S.2.1.2).length ≤ S.1 + 1
      rw [List.length_cons]; omega
    · show (256 :: S.2.1.2).count 40 = _
      rw [List.count_cons_of_ne (by decide)]; exact w2
    · rcases List.mem_cons.mp hs with h | h
      · right; rw [h]; decide
      · exact w3 s h
    · exact k2 1 1 (by omega) (by omega)
    · exact k2 2 i (by omega) (by omega)
  have c1 := q_ne c
  rcases io e with ⟨c, e⟩ | ⟨c, e⟩
  · have c2 := q_eq c
    rcases io e with ⟨c, e⟩ | ⟨c, e⟩
    · have := q_le c
      exact rest (by omega) (by omega) e
    · have c3 := q_ng c
      obtain ⟨M9, e9, e⟩ := mo e
      obtain ⟨M10, e10, e⟩ := mo e
      obtain ⟨x11, e11, e⟩ := bo e
      obtain rfl := Option.some.inj e
      have m8 : (M9.1 40 8).toInt = ((S.2.2.1 + 1 : Nat) : Int) := by rw [e9, si_eq]; exact add_ti h8 o1 (by omega) (by omega)
      have f10 : ∀ k i, ¬ (k = 40 ∧ (i = 8 ∨ i = 9)) → M10.1 k i = M.1 k i := fun k i n => by rw [e10, si_ne (by omega), e9, si_ne (by omega)]
      obtain ⟨k1, k2⟩ := hold_i (v := v3) (RW6_c hw (f10 40 6 (by omega)) (fun i => f10 43 i (by omega))) (by omega) e11
      have v40 : v3 = 40 := Int32.toInt_inj.mp c2
      subst v40
      refine .inr ⟨(S.1 + 1, (S.2.1.1, 40 :: S.2.1.2), S.2.2.1 + 1, up S.2.2.2.1 (S.2.2.1 + 1) false, false), by unfold rdT; rw [if_neg (by omega), if_pos ⟨by omega, by omega⟩], (by show (1 : Int) = ((S.1 + 1 : Nat) : Int) - (S.1 : Int); omega), Nat.lt_succ_self _, (by show S.1 + 1 ≤ 40; omega), ⟨?_, k1, ?_, fun d hd => ?_, ?_⟩, ⟨?_, ?_, fun s hs => ?_, (by show S.2.2.1 + 1 ≤ 4; omega)⟩, ?_, fun i => ?_⟩
      · exact RO5_c ho (by show x11.1 40 5 = _; rw [k2 40 5 (by omega) (by omega), f10 40 5 (by omega)]) (fun i => by show x11.1 42 i = _; rw [k2 42 i (by omega) (by omega), f10 42 i (by omega)])
      · show (x11.1 40 8).toInt = _
        rw [k2 40 8 (by omega) (by omega), e10, si_ne (by omega)]; exact m8
      · show bt (x11.1 40 9) d = up S.2.2.2.1 (S.2.2.1 + 1) false d
        rw [k2 40 9 (by omega) (by omega), e10, si_eq, bt_b0 _ m8 (by omega) (by omega), e9, si_ne (by omega), h9 d hd]
        unfold up
        by_cases g : d = S.2.2.1 + 1
        · rw [if_pos g, decide_eq_true g]; simp
        · rw [if_neg g, decide_eq_false g]; simp
      · show x11.1 40 10 = _
        rw [k2 40 10 (by omega) (by omega), f10 40 10 (by omega), h10, hb]
      · show S.2.1.1.length + (40 :: S.2.1.2).length ≤ S.1 + 1
        rw [List.length_cons]; omega
      · show (40 :: S.2.1.2).count 40 = S.2.2.1 + 1
        rw [List.count_cons_self, w2]
      · rcases List.mem_cons.mp hs with h | h
        · left; exact h
        · exact w3 s h
      · show x11.1 1 1 = _
        rw [k2 1 1 (by omega) (by omega), f10 1 1 (by omega)]
      · show x11.1 2 i = _
        rw [k2 2 i (by omega) (by omega), f10 2 i (by omega)]
  · have c2 := q_ne c
    exact rest (by omega) (by omega) e
def S0 : MS := (0, ([], []), 0, fun _ => false, false)
/-- where the class stops -/
def StopC (A : Mem) (S : MS) (v : Int32) (N : Mem) : Prop := Rch (cx A 40) S0 S ∧ rdS (cx A 40) S = none ∧ RepL S N ∧ WfL S ∧ S.1 ≤ 40 ∧ v.toInt = (S.1 : Int) ∧ FT A N
theorem read_l {A : Mem} (hJ : J A) (hl : 0 < (A.1 1 1).toInt) (h0 : RepL S0 A) {x} (e : iter lb_Law_read_29 FU ((0 : Int32), (0 : Int32), A) = some x) : Sum.elim (fun _ => False) (Sum.elim (fun r : Int32 × Mem => ∃ S, StopC A S r.1 r.2 ∧ cx A 40 S.1 = -1) (fun r : Int32 × Mem => ∃ S, StopC A S r.1 r.2 ∧ cx A 40 S.1 ≠ -1)) x := by
  refine it_r (I := fun s : Int32 × Int32 × Mem => J s.2.2 ∧ FT A s.2.2 ∧ ∃ S, Rch (cx A 40) S0 S ∧ RepL S s.2.2 ∧ WfL S ∧ S.1 ≤ 40 ∧ s.1.toInt = (S.1 : Int) ∧ 0 ≤ s.2.1.toInt ∧ s.2.1.toInt ≤ (S.1 : Int)) (Q := Sum.elim (fun _ => False) (Sum.elim (fun r : Int32 × Mem => ∃ S, StopC A S r.1 r.2 ∧ cx A 40 S.1 = -1) (fun r : Int32 × Mem => ∃ S, StopC A S r.1 r.2 ∧ cx A 40 S.1 ≠ -1))) ?_ e ⟨hJ, ⟨rfl, fun _ => rfl⟩, S0, Rch_r, h0, ⟨Nat.le_refl _, rfl, (fun s hs => by cases hs), (by show 0 ≤ 4; omega)⟩, (by show 0 ≤ 40; omega), rfl, (by show (0 : Int) ≤ (0 : Int32).toInt; decide), (by show (0 : Int32).toInt ≤ ((0 : Nat) : Int); decide)⟩
  rintro ⟨p, i, N⟩ r ⟨jN, ft, S, hS, rep, wf, l40, hp, hi0, hi⟩ e
  dsimp only at jN ft rep hp hi0 hi
  have z40 : (40 : Int32).toInt = 40 := rfl
  have z0 := o0
  have cxe : cx N 40 = cx A 40 := cx_c ft.1 ft.2 40
  unfold lb_Law_read_29 at e
  dsimp only at e
  rcases io e with ⟨c, e⟩ | ⟨c, e⟩
  · have := q_lt c; omega
  rcases io e with ⟨c, e⟩ | ⟨c, e⟩
  · have := q_le c
    rw [ft.1] at this
    omega
  obtain ⟨x6, e6, e⟩ := bo e
  have h6 := at_i hp z40 (Jr_1_1 jN).2 e6
  rw [cxe] at h6
  have rg := cx_b hJ 40 S.1
  rcases io e with ⟨c, e⟩ | ⟨c, e⟩
  · obtain rfl := Option.some.inj e
    have := q_eq c
    rw [om] at this
    exact ⟨S, ⟨hS, by unfold rdS; rw [if_pos (by omega)], rep, wf, l40, hp, ft⟩, by omega⟩
  have c1 := q_ne c
  rw [om] at c1
  have n1 : cx A 40 S.1 ≠ -1 := by omega
  have p40 := (rg.2.2 n1).2
  have nx : ∀ (x7 : Int32 × Mem), J x7.2 → FT N x7.2 → ((x7.1 = 0 ∧ rdS (cx A 40) S = none ∧ RepL S x7.2) ∨ (∃ S', rdS (cx A 40) S = some S' ∧ x7.1.toInt = (S'.1 : Int) - (S.1 : Int) ∧ S.1 < S'.1 ∧ S'.1 ≤ 40 ∧ RepL S' x7.2 ∧ WfL S')) → j_Law_read_108_29 p i x7.1 x7.2 = some r → Sum.elim (fun s : Int32 × Int32 × Mem => J s.2.2 ∧ FT A s.2.2 ∧ ∃ S, Rch (cx A 40) S0 S ∧ RepL S s.2.2 ∧ WfL S ∧ S.1 ≤ 40 ∧ s.1.toInt = (S.1 : Int) ∧ 0 ≤ s.2.1.toInt ∧ s.2.1.toInt ≤ (S.1 : Int)) (Sum.elim (fun _ => False) (Sum.elim (fun r : Int32 × Mem => ∃ S, StopC A S r.1 r.2 ∧ cx A 40 S.1 = -1) (fun r : Int32 × Mem => ∃ S, StopC A S r.1 r.2 ∧ cx A 40 S.1 ≠ -1))) r := by
    intro x7 j7 f7 h7 e
    have ft7 : FT A x7.2 := ⟨f7.1.trans ft.1, fun k => (f7.2 k).trans (ft.2 k)⟩
    unfold j_Law_read_108_29 at e
    rcases io e with ⟨c, e⟩ | ⟨c, e⟩
    · obtain rfl := Option.some.inj e
      rcases h7 with ⟨_, a, b⟩ | ⟨S', _, a, b, _⟩
      · exact ⟨S, ⟨hS, a, b, wf, l40, hp, ft7⟩, n1⟩
      · rw [c, o0] at a; omega
    · obtain rfl := Option.some.inj e
      rcases h7 with ⟨a, _⟩ | ⟨S', a, b, c7, d, f, g⟩
      · exact absurd a c
      · refine ⟨j7, ft7, S', Rch_t hS (Rch_s a Rch_r), f, g, d, ?_, ?_, ?_⟩
        · show (p + x7.1).toInt = _
          rw [add_ti hp b (by omega) (by omega)]; omega
        · show 0 ≤ (i + (1 : Int32)).toInt
          rw [add_ti rfl o1 (by omega) (by omega)]; omega
        · show (i + (1 : Int32)).toInt ≤ _
          rw [add_ti rfl o1 (by omega) (by omega)]; omega
  obtain ⟨ho, hw, h8, h9, h10⟩ := rep
  rcases io e with ⟨c, e⟩ | ⟨c, e⟩
  · have hb : S.2.2.2.2 = false := by
      cases hh : S.2.2.2.2 with
      | false => rfl
      | true => rw [h10, hh, if_pos rfl] at c; cases c
    obtain ⟨x7, e7, e⟩ := bo e
    obtain ⟨r7, er7, j7, _⟩ := sf_Law_readThing p x6 N jN
    rw [e7] at er7
    obtain rfl := Option.some.inj er7
    have k := thing_c (t := cx A 40) jN cxe.symm ⟨ho, hw, h8, h9, h10⟩ wf p40 hb hp h6 n1 e7
    have rs : rdS (cx A 40) S = rdT (cx A 40) S.1 S.2.1 S.2.2.1 S.2.2.2.1 := by unfold rdS; rw [if_neg n1, if_neg (by rw [hb]; decide)]
    rcases k with ⟨a, b, c, d⟩ | ⟨S', a, b, c, d, f, g, h⟩
    · exact nx x7 j7 c (.inl ⟨a, rs.trans b, d⟩) e
    · exact nx x7 j7 h (.inr ⟨S', rs.trans a, b, c, d, f, g⟩) e
  · have hb : S.2.2.2.2 = true := by
      cases hh : S.2.2.2.2 with
      | true => rfl
      | false => rw [h10, hh, if_neg (by decide)] at c; exact absurd rfl c
    obtain ⟨x7, e7, e⟩ := bo e
    obtain ⟨r7, er7, j7, _⟩ := sf_Law_readBehind x6 N jN
    rw [e7] at er7
    obtain rfl := Option.some.inj er7
    have k := behind_i (t := cx A 40) ⟨ho, hw, h8, h9, h10⟩ wf p40 hb h6 ⟨rg.1, rg.2.1⟩ e7
    have rs : rdS (cx A 40) S = rdB (cx A 40) S.1 S.2.1 S.2.2.1 S.2.2.2.1 := by unfold rdS; rw [if_neg n1, if_pos hb]
    rcases k with ⟨a, b, c⟩ | ⟨a, S', b, c, d, f, g⟩
    · exact nx x7 j7 (by rw [c]; exact ⟨rfl, fun _ => rfl⟩) (.inl ⟨a, rs.trans b, by rw [c]; exact ⟨ho, hw, h8, h9, h10⟩⟩) e
    · exact nx x7 j7 g (.inr ⟨S', rs.trans b, by rw [a, o1, c]; omega, by omega, by omega, d, f⟩) e
