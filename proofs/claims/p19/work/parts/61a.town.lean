/-! the class reads a town -/
def ct (M : Mem) (p : Nat) : Int := if (p : Int) < (M.1 1 1).toInt then (M.1 2 p).toInt else -1
theorem ct_at {M : Mem} {v x : Int32} {p : Nat} (hv : v.toInt = (p : Int)) (hl : (M.1 1 1).toInt ≤ 80) (e : f_Signs_at v (80 : Int32) M = some x) : x.toInt = ct M p := by
  unfold f_Signs_at at e
  have z0 : (0 : Int32).toInt = 0 := rfl
  have z8 : (80 : Int32).toInt = 80 := rfl
  have z1 : (-1 : Int32).toInt = -1 := rfl
  unfold ct
  rcases io e with ⟨c, e⟩ | ⟨c, e⟩
  · have := q_lt c; omega
  rcases io e with ⟨c, e⟩ | ⟨c, e⟩
  · obtain rfl := Option.some.inj e
    have := q_le c
    rw [if_neg (by omega)]; exact z1
  have c1 := q_ng c
  rcases io e with ⟨c, e⟩ | ⟨c, e⟩
  · have := q_le c; omega
  rcases io e with ⟨c, e⟩ | ⟨c, e⟩
  · obtain ⟨_, e⟩ := io_n e
    obtain rfl := Option.some.inj e
    rw [if_pos (by omega), q_nat hv]
  · have := q_nl c; omega
theorem tk_c {v x : Int32} (e : f_Ground_kindOf v = some x) : x.toInt = tk v.toInt := by
  unfold f_Ground_kindOf at e
  unfold tk
  rcases io e with ⟨c, e⟩ | ⟨c, e⟩
  · obtain rfl := Option.some.inj e; subst c; rfl
  have c1 := q_ne c
  rcases io e with ⟨c, e⟩ | ⟨c, e⟩
  · obtain rfl := Option.some.inj e; subst c; rfl
  have c2 := q_ne c
  rcases io e with ⟨c, e⟩ | ⟨c, e⟩
  · obtain rfl := Option.some.inj e; subst c; rfl
  have c3 := q_ne c
  rcases io e with ⟨c, e⟩ | ⟨c, e⟩
  · obtain rfl := Option.some.inj e; subst c; rfl
  have c4 := q_ne c
  obtain rfl := Option.some.inj e
  have e1 : (35 : Int32).toInt = 35 := rfl
  have e2 : (46 : Int32).toInt = 46 := rfl
  have e3 : (104 : Int32).toInt = 104 := rfl
  have e4 : (115 : Int32).toInt = 115 := rfl
  rw [if_neg (by omega), if_neg (by omega), if_neg (by omega), if_neg (by omega)]; rfl
def UI (A : Mem) (p : Nat) (v2 v3 v4 v5 : Int32) (N : Mem) : Prop := tup (ct A) p ∧ tkd (ct A) (N.1 5) p ∧ v2.toInt = ((trun (ct A) p).1 : Int) ∧ v3.toInt = ((trun (ct A) p).2.1 : Int) ∧ v4.toInt = ((trun (ct A) p).2.2.1 : Int) ∧ v5.toInt = ((trun (ct A) p).2.2.2 : Int)
def UQ (A : Mem) : (Mem ⊕ ((Int32 × Mem) ⊕ (Int32 × Int32 × Mem))) → Prop := Sum.elim (fun _ => False) (Sum.elim (fun r => ∃ p : Nat, r.1.toInt = (p : Int) ∧ tup (ct A) p ∧ ¬ tok (ct A p) (trun (ct A) p)) (fun r => ∃ p : Nat, tup (ct A) p ∧ tok (ct A p) (trun (ct A) p) ∧ ct A p = -1 ∧ r.1.toInt = ((trun (ct A) p).1 : Int) ∧ r.2.1.toInt = ((trun (ct A) p).2.1 : Int) ∧ tkd (ct A) (r.2.2.1 5) p))
theorem ct_len {A : Mem} {p : Nat} (h : tup (ct A) p) (hl : (A.1 1 1).toInt ≤ 80) : p ≤ 80 := by
  rcases Nat.lt_or_ge 80 p with c | c
  · exfalso
    apply (h 80 c).2
    unfold ct
    rw [if_neg (by omega)]
  · exact c
theorem rd_j {A N : Mem} {p : Nat} {v2 v3 v4 v5 v6 v7 w0 : Int32} {r} (hp : v6.toInt = (p : Int)) (lp : p ≤ 80) (ti : UI A p v2 v3 v4 v5 N) (hx : v7.toInt = ct A p) (he : (w0 = 1 ∧ (ct A p = 47 ∨ ct A p = -1)) ∨ (w0 = 0 ∧ ¬ (ct A p = 47 ∨ ct A p = -1))) (e : j_Ground_read_49_14 v2 v3 v4 v5 v6 v7 w0 N = some r) : Sum.elim (fun s : Int32 × Int32 × Int32 × Int32 × Int32 × Mem => ∃ p : Nat, s.2.2.2.2.1.toInt = (p : Int) ∧ UI A p s.1 s.2.1 s.2.2.1 s.2.2.2.1 s.2.2.2.2.2) (UQ A) r := by
  obtain ⟨up, kdd, h2, h3, h4, h5⟩ := ti
  have zm : (-1 : Int32).toInt = -1 := rfl
  have z0 : (0 : Int32).toInt = 0 := rfl
  have z1 : (1 : Int32).toInt = 1 := rfl
  have z6 : (6 : Int32).toInt = 6 := rfl
  have z36 : (36 : Int32).toInt = 36 := rfl
  obtain ⟨b1, b2, b3, b4, b5, b6⟩ := trun_b up
  have bad : ¬ tok (ct A p) (trun (ct A) p) → ∀ {r : ((Int32 × Int32 × Int32 × Int32 × Int32 × Mem) ⊕ ((Mem) ⊕ (Int32 × Mem) ⊕ (Int32 × Int32 × Mem)))}, some (.inr (Sum.inr (Sum.inl (v6, N)))) = some r → Sum.elim (fun s : Int32 × Int32 × Int32 × Int32 × Int32 × Mem => ∃ p : Nat, s.2.2.2.2.1.toInt = (p : Int) ∧ UI A p s.1 s.2.1 s.2.2.1 s.2.2.2.1 s.2.2.2.2.2) (UQ A) r := by
    intro nt r e
    obtain rfl := Option.some.inj e
    exact ⟨p, hp, up, nt⟩
  unfold j_Ground_read_49_14 at e
  rcases io e with ⟨c, e⟩ | ⟨c, e⟩
  · have := q_le c
    exact bad (fun k => by have := k.1; omega) e
  have l6 := q_ng c
  -- the least length of a line
  have e2 : ∃ w1 : Int32, w1.toInt = ((if (trun (ct A) p).2.2.1 = 0 then 1 else (trun (ct A) p).2.2.2 : Nat) : Int) ∧ j_Ground_read_74_14 v2 v3 v4 v5 v6 v7 w0 w1 v3 w0 v7 N = some r := by
    rcases io e with ⟨c, e⟩ | ⟨c, e⟩
    · have := q_eq c
      exact ⟨1, by rw [if_pos (by omega)]; rfl, e⟩
    · have := q_ne c
      exact ⟨v5, by rw [if_neg (by omega)]; exact h5, e⟩
  clear e
  obtain ⟨w1, hw1, e⟩ := e2
  unfold j_Ground_read_74_14 at e
  obtain ⟨x2, e_x2, e⟩ := bo e
  unfold f_Ground_fits at e_x2
  -- fits = tok
  have fit : (x2 = 0 → ¬ tok (ct A p) (trun (ct A) p)) ∧ (¬ x2 = 0 → tok (ct A p) (trun (ct A) p)) := by
    rcases io e_x2 with ⟨c, e⟩ | ⟨c, e⟩
    · have nd : ¬ (ct A p = 47 ∨ ct A p = -1) := by
        rcases he with ⟨a, _⟩ | ⟨_, b⟩
        · rw [a] at c; cases c
        · exact b
      obtain ⟨x3, e3, e⟩ := bo e
      have hk := tk_c e3
      rw [hx] at hk
      rcases io e with ⟨c, e⟩ | ⟨c, e⟩
      · obtain rfl := Option.some.inj e
        refine ⟨fun _ k => (k.2.2 nd).1 (by rw [← hk, c]; rfl), fun h => absurd rfl h⟩
      have c3 := q_ne c
      rcases io e with ⟨c, e⟩ | ⟨c, e⟩
      · obtain rfl := Option.some.inj e
        have := q_le c
        exact ⟨fun _ k => by have := (k.2.2 nd).2; omega, fun h => absurd rfl h⟩
      · obtain rfl := Option.some.inj e
        have := q_ng c
        exact ⟨fun h => (by cases h), fun _ => ⟨by omega, fun h => absurd h nd, fun _ => ⟨by omega, by omega⟩⟩⟩
    · have nd : ct A p = 47 ∨ ct A p = -1 := by
        rcases he with ⟨_, b⟩ | ⟨a, _⟩
        · exact b
        · exact absurd a c
      rcases io e with ⟨c, e⟩ | ⟨c, e⟩
      · obtain rfl := Option.some.inj e
        have := q_lt c
        exact ⟨fun _ k => by have := k.2.1 nd; omega, fun h => absurd rfl h⟩
      · obtain rfl := Option.some.inj e
        have := q_nl c
        exact ⟨fun h => (by cases h), fun _ => ⟨by omega, fun _ => by omega, fun h => absurd nd h⟩⟩
  rcases io e with ⟨c, e⟩ | ⟨c, e⟩
  · exact bad (fit.1 c) e
  have ok := fit.2 c
  clear fit bad e_x2 hw1
  have hp1 : (v6 + (1 : Int32)).toInt = ((p + 1 : Nat) : Int) := add_ti hp rfl (by omega) (by omega)
  rcases io e with ⟨c, e⟩ | ⟨c, e⟩
  · have nd : ¬ (ct A p = 47 ∨ ct A p = -1) := by
      rcases he with ⟨a, _⟩ | ⟨_, b⟩
      · rw [a] at c; cases c
      · exact b
    have run1 : trun (ct A) (p + 1) = ((trun (ct A) p).1 + 1, (trun (ct A) p).2.1 + 1, (trun (ct A) p).2.2.1, (trun (ct A) p).2.2.2) := by
      simp only [trun, tst, if_neg nd]
    have l36 : (trun (ct A) p).1 < 36 := by
      have k := (ok.2.2 nd).2
      have k6 := ok.1
      rcases Nat.eq_zero_or_pos (trun (ct A) p).2.2.1 with y | y
      · have := (b5 y).2; omega
      · have := (b6 y).1
        have m : (trun (ct A) p).2.2.1 * (trun (ct A) p).2.2.2 ≤ 5 * 6 := Nat.mul_le_mul (by omega) b3
        omega
    rcases io e with ⟨c, e⟩ | ⟨c, e⟩
    · have := q_le c; omega
    obtain ⟨x4, e_x4, e⟩ := bo e
    obtain ⟨_, e⟩ := io_n e
    obtain ⟨M5, e_M5, e⟩ := mo e
    unfold j_Ground_read_126_14 at e
    have nm1 : ct A p ≠ -1 := fun h => nd (.inr h)
    rcases io e with ⟨c, e⟩ | ⟨c, e⟩
    · have := q_eq c; omega
    obtain rfl := Option.some.inj e
    refine ⟨p + 1, hp1, tup_s up ok nm1, ?_, ?_, ?_, ?_, ?_⟩
    · intro q hq q47
      dsimp only
      rw [e_M5, q_nat h2]
      rcases Nat.lt_or_ge q p with g | g
      · have m := (tcells_lt up g q47)
        rw [si_ne (by omega)]
        exact kdd q g q47
      · have : q = p := by omega
        subst this
        rw [si_eq, tk_c e_x4, hx]
    · rw [run1]; exact add_ti h2 rfl (by omega) (by omega)
    · rw [run1]; exact add_ti h3 rfl (by omega) (by omega)
    · rw [run1]; exact h4
    · rw [run1]; exact h5
  · have nd : ct A p = 47 ∨ ct A p = -1 := by
      rcases he with ⟨_, b⟩ | ⟨a, _⟩
      · exact b
      · exact absurd a c
    have run1 : trun (ct A) (p + 1) = ((trun (ct A) p).1, 0, (trun (ct A) p).2.2.1 + 1, (trun (ct A) p).2.1) := by
      simp only [trun, tst, if_pos nd]
    unfold j_Ground_read_126_14 at e
    rcases io e with ⟨c, e⟩ | ⟨c, e⟩
    · have k := q_eq c
      obtain rfl := Option.some.inj e
      exact ⟨p, up, ok, by omega, h2, h3, kdd⟩
    · have k := q_ne c
      obtain rfl := Option.some.inj e
      refine ⟨p + 1, hp1, tup_s up ok (by omega), ?_, ?_, ?_, ?_, ?_⟩
      · intro q hq q47
        rcases Nat.lt_or_ge q p with g | g
        · exact kdd q g q47
        · have : q = p := by omega
          subst this
          exfalso; rcases nd with h | h <;> omega
      · rw [run1]; exact h2
      · rw [run1]; rfl
      · rw [run1]; exact add_ti h4 rfl (by omega) (by omega)
      · rw [run1]; exact h3
theorem rd_c (A : Mem) (hl : (A.1 1 1).toInt ≤ 80) {x} (e : iter lb_Ground_read_14 FU ((0 : Int32), (0 : Int32), (0 : Int32), (6 : Int32), (0 : Int32), A) = some x) : UQ A x := by
  refine it_r (I := fun s : Int32 × Int32 × Int32 × Int32 × Int32 × Mem => Fx 32 [] A s.2.2.2.2.2 ∧ ∃ p : Nat, s.2.2.2.2.1.toInt = (p : Int) ∧ UI A p s.1 s.2.1 s.2.2.1 s.2.2.2.1 s.2.2.2.2.2) (Q := UQ A) ?_ e ⟨Fx_r, 0, rfl, (fun q hq => absurd hq (by omega)), (fun q hq => absurd hq (by omega)), rfl, rfl, rfl, rfl⟩
  rintro ⟨v2, v3, v4, v5, v6, N⟩ r ⟨fx, p, hp, up, kdd, h2, h3, h4, h5⟩ e
  have fr := wl_Ground_read_14 _ (sb_r _) fx e
  dsimp only at *
  unfold lb_Ground_read_14 at e
  dsimp only at e
  have zm : (-1 : Int32).toInt = -1 := rfl
  have z0 : (0 : Int32).toInt = 0 := rfl
  have z1 : (1 : Int32).toInt = 1 := rfl
  have z6 : (6 : Int32).toInt = 6 := rfl
  have z36 : (36 : Int32).toInt = 36 := rfl
  have z47 : (47 : Int32).toInt = 47 := rfl
  have z80 : (80 : Int32).toInt = 80 := rfl
  have lp := ct_len up hl
  rcases io e with ⟨c, e⟩ | ⟨c, e⟩
  · have := q_lt c; omega
  have hN11 : N.1 1 1 = A.1 1 1 := (fx 1 1 (by decide +kernel) (by simp)).1
  have hN2 : ∀ i, N.1 2 i = A.1 2 i := fun i => (fx 2 i (by rw [show sl 2 i = 2 from rfl]; decide +kernel) (by simp)).1
  obtain ⟨x1, e_x1, e⟩ := bo e
  have hx : x1.toInt = ct A p := by
    rw [ct_at hp (by rw [hN11]; exact hl) e_x1]
    unfold ct; rw [hN11, hN2]
  have key : Sum.elim (fun s : Int32 × Int32 × Int32 × Int32 × Int32 × Mem => ∃ p : Nat, s.2.2.2.2.1.toInt = (p : Int) ∧ UI A p s.1 s.2.1 s.2.2.1 s.2.2.2.1 s.2.2.2.2.2) (UQ A) r := by
    rcases io e with ⟨c, e⟩ | ⟨c, e⟩
    · exact rd_j hp lp ⟨up, kdd, h2, h3, h4, h5⟩ hx (.inl ⟨rfl, .inl (by rw [← hx, c]; rfl)⟩) e
    have k := q_ne c
    rcases io e with ⟨c, e⟩ | ⟨c, e⟩
    · exact rd_j hp lp ⟨up, kdd, h2, h3, h4, h5⟩ hx (.inl ⟨rfl, .inr (by rw [← hx, c]; rfl)⟩) e
    have k2 := q_ne c
    exact rd_j hp lp ⟨up, kdd, h2, h3, h4, h5⟩ hx (.inr ⟨rfl, by omega⟩) e
  cases r with
  | inl s => exact ⟨fr, key⟩
  | inr x => exact key
