/-! the rule, told to both -/
theorem nb_i {b : Int32} (h : -128 ≤ b.toInt ∧ b.toInt ≤ 127) : vp_nar .byte b = b := by
  rw [narb]
  refine Int32.toInt_inj.mp ?_
  rw [Int8.toInt_toInt32, Int32.toInt_toInt8]
  have h1 := @Int.le_bmod b.toInt (2 ^ 8) (by decide)
  have h2 := @Int.bmod_lt b.toInt (2 ^ 8) (by decide)
  have h3 : (b.toInt.bmod (2 ^ 8)) % ((2 ^ 8 : Nat) : Int) = b.toInt % ((2 ^ 8 : Nat) : Int) := Int.bmod_emod
  omega
theorem wf_c {A : Mem} (hJ : J A) (hl : 0 < (A.1 1 1).toInt) {x} (e : f_Top_rule A = some x) {S : MS} (r1 : Rch (cx A 40) S0 S) (r2 : rdS (cx A 40) S = none) : WfL S := by
  unfold f_Top_rule at e
  obtain ⟨x1, e1, _⟩ := bo e
  unfold f_Law_read at e1
  obtain ⟨N1, n1, e1⟩ := mo e1
  obtain ⟨N2, n2, e1⟩ := mo e1
  obtain ⟨N3, n3, e1⟩ := mo e1
  obtain ⟨N4, n4, e1⟩ := mo e1
  obtain ⟨N5, n5, e1⟩ := mo e1
  have j1 : J N1 := by rw [n1]; exact Jw_any ok_40 hJ 5 _
  have j2 : J N2 := by rw [n2]; exact Jw_any ok_40 j1 6 _
  have j3 : J N3 := by rw [n3]; exact Jw_any ok_40 j2 8 _
  have j4 : J N4 := by rw [n4]; exact Jw_any ok_40 j3 9 _
  have j5 : J N5 := by rw [n5]; exact Jw_any ok_40 j4 10 _
  have f5 : ∀ k i, ¬ (k = 40 ∧ (i = 5 ∨ i = 6 ∨ i = 8 ∨ i = 9 ∨ i = 10)) → N5.1 k i = A.1 k i := fun k i n => by
    rw [n5, si_ne (by omega), n4, si_ne (by omega), n3, si_ne (by omega), n2, si_ne (by omega), n1, si_ne (by omega)]
  have rep : RepL S0 N5 := by
    refine ⟨⟨?_, trivial⟩, ⟨?_, trivial⟩, ?_, fun d _ => ?_, ?_⟩
    · rw [n5, si_ne (by omega), n4, si_ne (by omega), n3, si_ne (by omega), n2, si_ne (by omega), n1, si_eq]; rfl
    · rw [n5, si_ne (by omega), n4, si_ne (by omega), n3, si_ne (by omega), n2, si_eq]; rfl
    · rw [n5, si_ne (by omega), n4, si_ne (by omega), n3, si_eq]; rfl
    · rw [n5, si_ne (by omega), n4, si_eq]; exact bt_0 d
    · rw [n5, si_eq]; rfl
  have l11 : N5.1 1 1 = A.1 1 1 := f5 1 1 (by omega)
  have cxe : cx N5 40 = cx A 40 := cx_c l11 (fun i => f5 2 i (by omega)) 40
  obtain ⟨y, ey, e1⟩ := bo e1
  have q := read_l j5 (by rw [l11]; exact hl) rep ey
  rcases y with y | y | y
  · exact q.elim
  · obtain ⟨S', ⟨k1, k2, k3, k4, k5, k6, k7⟩, tm⟩ := q
    rw [cxe] at k1 k2
    rw [Rch_u r1 k1 r2 k2]; exact k4
  · obtain ⟨S', ⟨k1, k2, k3, k4, k5, k6, k7⟩, tm⟩ := q
    rw [cxe] at k1 k2
    rw [Rch_u r1 k1 r2 k2]; exact k4
theorem zl_rule {X R : Mem} {x r : Int32 × Mem} (hJ : J X) (tx : cx X 40 = rx R 40) (l : X.1 1 1 = R.1 162 10) (hl : 0 ≤ (R.1 162 10).toInt ∧ (R.1 162 10).toInt ≤ 80) (hb : ∀ p : Nat, (p : Int) < (R.1 162 10).toInt → -128 ≤ (R.1 167 p).toInt ∧ (R.1 167 p).toInt ≤ 127) (zl : ZL X R) (ex : f_Top_rule X = some x) (er : f_Mod_rule R = some r) : x.1 = r.1 ∧ ZL x.2 r.2 := by
  have c := rule_c hJ ex
  have d := rule_r hl hb er
  rw [← tx, ← l] at d
  rcases c with ⟨c1, c2, c3⟩ | ⟨c1, S, c2, c3, c4, c5⟩
  · rcases d with ⟨_, d2, d3⟩ | ⟨d1, _⟩
    · exact ⟨by rw [c2, d2], .inl ⟨d3, c3⟩⟩
    · omega
  · rcases d with ⟨d1, _⟩ | ⟨_, S', d2, d3, d4⟩
    · omega
    · have e := Rch_u c2 d2 c3 d3
      subst e
      have end_ : (X.1 1 1).toInt ≤ (S.1 : Int) → cx X 40 S.1 = -1 := by
        intro h; unfold cx; rw [if_neg (by omega)]
      rcases c5 with ⟨⟨a1, a2, a3, a4⟩, b1, b2, b3⟩ | ⟨a, b, b2, b3⟩ <;> rcases d4 with ⟨e1, e2, e3, e4, e5, e6⟩ | ⟨e1, e2, e3, e4⟩
      · refine ⟨by rw [b1, e4], .inr ?_⟩
        have rl : rlx r.2 = cx X 40 := by
          rw [tx]
          funext p
          unfold rlx rx
          rw [e5, l]
          by_cases g : (p : Int) < (R.1 162 10).toInt ∧ p < 40
          · rw [if_pos g, if_pos g, e6 p (by rw [l]; exact g.1), nb_i (hb p g.1)]
          · rw [if_neg g, if_neg g]
        have wf := wf_c hJ c1 ex c2 c3
        have sl := stl_len 0 S.2.1.1 S.2.1.2
        have w1 := wf.1
        refine ⟨by rw [e5]; exact c1, by rw [e5]; exact a2, fun p hp => ?_, S, by rw [rl]; exact c2, by rw [rl]; exact c3, a3, a4, b2, by omega, b3⟩
        rw [e5] at hp
        rw [e6 p hp, nb_i (hb p (by rw [← l]; exact hp))]
        exact hb p (by rw [← l]; exact hp)
      · exfalso
        rcases e1 with e1 | e1
        · have : 0 ≤ cx X 40 S.1 := by
            unfold cx
            rw [if_pos (by omega)]
            exact (hJ.1 2 S.1).1
          omega
        · exact e1 ⟨a3, a4⟩
      · exact absurd ⟨end_ e1, by omega, e2, e3⟩ a
      · refine ⟨Int32.toInt_inj.mp (b.trans e2.symm), ?_⟩
        have rl : rlx r.2 = rlx R := by funext p; unfold rlx; rw [e3, e4]
        unfold ZL at zl ⊢
        rw [rl, e3, b2]
        rcases zl with l | ⟨l1, l40, l2, Sx, l3, l4, l5, l6, l7, l8, l9⟩
        · exact .inl l
        · exact .inr ⟨l1, l40, fun p hp => by rw [e4]; exact l2 p hp, Sx, l3, l4, l5, l6, l7, l8, stk_c l9 (fun i _ => b3 i)⟩
