section
/-! numbers -/
theorem q_eq {a b : Int32} (h : a = b) : a.toInt = b.toInt := congrArg _ h
theorem q_ne {a b : Int32} (h : ¬ a = b) : a.toInt ≠ b.toInt := fun e => h (Int32.toInt_inj.mp e)
theorem q_lt {a b : Int32} (h : a < b) : a.toInt < b.toInt := Int32.lt_iff_toInt_lt.mp h
theorem q_nl {a b : Int32} (h : ¬ a < b) : b.toInt ≤ a.toInt := by have := mt Int32.lt_iff_toInt_lt.mpr h; omega
theorem q_le {a b : Int32} (h : a ≤ b) : a.toInt ≤ b.toInt := Int32.le_iff_toInt_le.mp h
theorem q_ng {a b : Int32} (h : ¬ a ≤ b) : b.toInt < a.toInt := by have := mt Int32.le_iff_toInt_le.mpr h; omega
theorem q_in {a : Int32} {n : Nat} (h : inb a n = true) : 0 ≤ a.toInt ∧ a.toInt < n := by
  simp only [inb, Bool.not_eq_true', Bool.or_eq_false_iff, decide_eq_false_iff_not] at h
  have h1 := q_nl h.1
  have h2 := h.2
  have z : (0 : Int32).toInt = 0 := rfl
  have e : a.toNatClampNeg = a.toInt.toNat := rfl
  omega
theorem q_nat {a : Int32} {n : Nat} (h : a.toInt = (n : Int)) : a.toNatClampNeg = n := by
  have e : a.toNatClampNeg = a.toInt.toNat := rfl
  omega
/-! the text on both sides -/
def TX (M : Mem) : Prop := ∀ i : Nat, (i : Int) < (M.1 162 10).toInt → (M.1 2 i).toInt = (M.1 167 i).toInt % 256
/-! a town's signs: what is read after so many -/
def tk (c : Int) : Int := if c = 35 then 0 else if c = 46 then 1 else if c = 104 then 2 else if c = 115 then 3 else -1
abbrev TS := Nat × Nat × Nat × Nat
def tok (c : Int) (s : TS) : Prop := s.2.2.1 < 6 ∧ ((c = 47 ∨ c = -1) → (if s.2.2.1 = 0 then 1 else s.2.2.2) ≤ s.2.1) ∧ (¬ (c = 47 ∨ c = -1) → tk c ≠ -1 ∧ s.2.1 < s.2.2.2)
def tst (c : Int) (s : TS) : TS := if c = 47 ∨ c = -1 then (s.1, 0, s.2.2.1 + 1, s.2.1) else (s.1 + 1, s.2.1 + 1, s.2.2.1, s.2.2.2)
def trun (t : Nat → Int) : Nat → TS
  | 0 => (0, 0, 0, 6)
  | p + 1 => tst (t p) (trun t p)
/-- all before p is well, and nothing before p is the end -/
def tup (t : Nat → Int) (p : Nat) : Prop := ∀ q, q < p → tok (t q) (trun t q) ∧ t q ≠ -1
def tkd (t : Nat → Int) (f : Nat → Int32) (p : Nat) : Prop := ∀ q, q < p → t q ≠ 47 → (f (trun t q).1).toInt = tk (t q)
theorem tup_s {t : Nat → Int} {p : Nat} (h : tup t p) (a : tok (t p) (trun t p)) (b : t p ≠ -1) : tup t (p + 1) := by
  intro q hq
  rcases Nat.lt_or_ge q p with c | c
  · exact h q c
  · have : q = p := by omega
    subst this; exact ⟨a, b⟩
theorem tup_u {t : Nat → Int} {p q : Nat} (hp : tup t p) (hq : tup t q) (np : ¬ tok (t p) (trun t p)) (nq : ¬ tok (t q) (trun t q)) : p = q := by
  rcases Nat.lt_trichotomy p q with c | c | c
  · exact absurd (hq p c).1 np
  · exact c
  · exact absurd (hp q c).1 nq
/-- every cell was read -/
theorem tcells {t : Nat → Int} {p : Nat} (h : tup t p) : ∀ i, i < (trun t p).1 → ∃ q, q < p ∧ t q ≠ 47 ∧ (trun t q).1 = i := by
  induction p with
  | zero => intro i hi; simp [trun] at hi
  | succ p ih =>
    intro i hi
    have hp : tup t p := fun q hq => h q (by omega)
    have h0 := (h p (by omega)).2
    simp only [trun, tst] at hi
    by_cases c : t p = 47 ∨ t p = -1
    · rw [if_pos c] at hi
      obtain ⟨q, a, b, d⟩ := ih hp i hi
      exact ⟨q, by omega, b, d⟩
    · rw [if_neg c] at hi
      rcases Nat.lt_or_ge i (trun t p).1 with g | g
      · obtain ⟨q, a, b, d⟩ := ih hp i g
        exact ⟨q, by omega, b, d⟩
      · have g2 : i < (trun t p).1 + 1 := hi
        exact ⟨p, by omega, fun e => c (.inl e), by omega⟩
theorem tkd_u {t : Nat → Int} {f g : Nat → Int32} {p : Nat} (h : tup t p) (hf : tkd t f p) (hg : tkd t g p) : ∀ i, i < (trun t p).1 → f i = g i := by
  intro i hi
  obtain ⟨q, a, b, d⟩ := tcells h i hi
  have e1 := hf q a b
  have e2 := hg q a b
  rw [d] at e1 e2
  exact Int32.toInt_inj.mp (by rw [e1, e2])
theorem trun_b {t : Nat → Int} {p : Nat} (h : tup t p) : (trun t p).2.1 ≤ 6 ∧ (trun t p).2.2.1 ≤ 6 ∧ (trun t p).2.2.2 ≤ 6 ∧ (trun t p).2.1 ≤ (trun t p).2.2.2 ∧ ((trun t p).2.2.1 = 0 → (trun t p).2.2.2 = 6 ∧ (trun t p).1 = (trun t p).2.1) ∧ (0 < (trun t p).2.2.1 → (trun t p).1 = (trun t p).2.2.1 * (trun t p).2.2.2 + (trun t p).2.1 ∧ 0 < (trun t p).2.2.2) := by
  induction p with
  | zero => simp [trun]
  | succ p ih =>
    have hp : tup t p := fun q hq => h q (by omega)
    obtain ⟨b1, b2, b3, b4, b5, b6⟩ := ih hp
    obtain ⟨⟨k1, k2, k3⟩, k4⟩ := h p (by omega)
    simp only [trun, tst]
    generalize trun t p = s at *
    obtain ⟨c, l, y, w⟩ := s
    dsimp only at *
    by_cases e : t p = 47 ∨ t p = -1
    · rw [if_pos e]
      dsimp only
      have k2 := k2 e
      by_cases y0 : y = 0
      · subst y0
        rw [if_pos rfl] at k2
        have := b5 rfl
        refine ⟨by omega, by omega, by omega, by omega, fun h => by omega, fun _ => ⟨?_, by omega⟩⟩
        rw [this.2]; simp
      · rw [if_neg y0] at k2
        have hb := b6 (by omega)
        have el : l = w := by omega
        subst el
        refine ⟨by omega, by omega, by omega, by omega, fun h => by omega, fun _ => ⟨?_, by omega⟩⟩
        rw [hb.1, Nat.add_mul]; omega
    · rw [if_neg e]
      dsimp only
      have k3 := k3 e
      refine ⟨by omega, by omega, by omega, by omega, fun h => ⟨(b5 h).1, by have := (b5 h).2; omega⟩, fun h => ⟨by have := (b6 h).1; omega, (b6 h).2⟩⟩
theorem tcells_m {t : Nat → Int} {q p : Nat} (h : q ≤ p) : (trun t q).1 ≤ (trun t p).1 := by
  induction p with
  | zero => have : q = 0 := by omega
            subst this; exact Nat.le_refl _
  | succ p ih =>
    rcases Nat.lt_or_ge p q with c | c
    · have : q = p + 1 := by omega
      subst this; exact Nat.le_refl _
    · have k := ih c
      simp only [trun, tst]
      by_cases e : t p = 47 ∨ t p = -1
      · rw [if_pos e]; exact k
      · rw [if_neg e]; show (trun t q).1 ≤ (trun t p).1 + 1; omega
theorem tcells_lt {t : Nat → Int} {q p : Nat} (up : tup t p) (g : q < p) (n : t q ≠ 47) : (trun t q).1 < (trun t p).1 := by
  have k : (trun t (q + 1)).1 ≤ (trun t p).1 := tcells_m (by omega)
  have m := (up q g).2
  have e : (trun t (q + 1)).1 = (trun t q).1 + 1 := by simp only [trun, tst, if_neg (show ¬ (t q = 47 ∨ t q = -1) by omega)]
  omega
end
section
/-! the class reads a town -/
def ct (M : Mem) (p : Nat) : Int := if (p : Int) < (M.1 1 1).toInt then (M.1 2 p).toInt else -1
theorem ct_at {M : Mem} {v x : Int32} {p : Nat} (hv : v.toInt = (p : Int)) (hl : (M.1 1 1).toInt ≤ 80) (e : f_Signs_at v (80 : Int32) M = some x) : x.toInt = ct M p := by
  unfold f_Signs_at at e
  have z0 : (0 : Int32).toInt = 0 := rfl
  have z8 : (80 : Int32).toInt = 80 := rfl
  have z1 : (-1 : Int32).toInt = -1 := rfl
  unfold ct
  rcases io e with ⟨c, e⟩ | ⟨c, e⟩
  · have := q_lt c; omega
  rcases io e with ⟨c, e⟩ | ⟨c, e⟩
  · obtain rfl := Option.some.inj e
    have := q_le c
    rw [if_neg (by omega)]; exact z1
  have c1 := q_ng c
  rcases io e with ⟨c, e⟩ | ⟨c, e⟩
  · have := q_le c; omega
  rcases io e with ⟨c, e⟩ | ⟨c, e⟩
  · obtain ⟨_, e⟩ := io_n e
    obtain rfl := Option.some.inj e
    rw [if_pos (by omega), q_nat hv]
  · have := q_nl c; omega
theorem tk_c {v x : Int32} (e : f_Ground_kindOf v = some x) : x.toInt = tk v.toInt := by
  unfold f_Ground_kindOf at e
  unfold tk
  rcases io e with ⟨c, e⟩ | ⟨c, e⟩
  · obtain rfl := Option.some.inj e; subst c; rfl
  have c1 := q_ne c
  rcases io e with ⟨c, e⟩ | ⟨c, e⟩
  · obtain rfl := Option.some.inj e; subst c; rfl
  have c2 := q_ne c
  rcases io e with ⟨c, e⟩ | ⟨c, e⟩
  · obtain rfl := Option.some.inj e; subst c; rfl
  have c3 := q_ne c
  rcases io e with ⟨c, e⟩ | ⟨c, e⟩
  · obtain rfl := Option.some.inj e; subst c; rfl
  have c4 := q_ne c
  obtain rfl := Option.some.inj e
  have e1 : (35 : Int32).toInt = 35 := rfl
  have e2 : (46 : Int32).toInt = 46 := rfl
  have e3 : (104 : Int32).toInt = 104 := rfl
  have e4 : (115 : Int32).toInt = 115 := rfl
  rw [if_neg (by omega), if_neg (by omega), if_neg (by omega), if_neg (by omega)]; rfl
def UI (A : Mem) (p : Nat) (v2 v3 v4 v5 : Int32) (N : Mem) : Prop := tup (ct A) p ∧ tkd (ct A) (N.1 5) p ∧ v2.toInt = ((trun (ct A) p).1 : Int) ∧ v3.toInt = ((trun (ct A) p).2.1 : Int) ∧ v4.toInt = ((trun (ct A) p).2.2.1 : Int) ∧ v5.toInt = ((trun (ct A) p).2.2.2 : Int)
def UQ (A : Mem) : (Mem ⊕ ((Int32 × Mem) ⊕ (Int32 × Int32 × Mem))) → Prop := Sum.elim (fun _ => False) (Sum.elim (fun r => ∃ p : Nat, r.1.toInt = (p : Int) ∧ tup (ct A) p ∧ ¬ tok (ct A p) (trun (ct A) p)) (fun r => ∃ p : Nat, tup (ct A) p ∧ tok (ct A p) (trun (ct A) p) ∧ ct A p = -1 ∧ r.1.toInt = ((trun (ct A) p).1 : Int) ∧ r.2.1.toInt = ((trun (ct A) p).2.1 : Int) ∧ tkd (ct A) (r.2.2.1 5) p))
theorem ct_len {A : Mem} {p : Nat} (h : tup (ct A) p) (hl : (A.1 1 1).toInt ≤ 80) : p ≤ 80 := by
  rcases Nat.lt_or_ge 80 p with c | c
  · exfalso
    apply (h 80 c).2
    unfold ct
    rw [if_neg (by omega)]
  · exact c
theorem rd_j {A N : Mem} {p : Nat} {v2 v3 v4 v5 v6 v7 w0 : Int32} {r} (hp : v6.toInt = (p : Int)) (lp : p ≤ 80) (ti : UI A p v2 v3 v4 v5 N) (hx : v7.toInt = ct A p) (he : (w0 = 1 ∧ (ct A p = 47 ∨ ct A p = -1)) ∨ (w0 = 0 ∧ ¬ (ct A p = 47 ∨ ct A p = -1))) (e : j_Ground_read_49_14 v2 v3 v4 v5 v6 v7 w0 N = some r) : Sum.elim (fun s : Int32 × Int32 × Int32 × Int32 × Int32 × Mem => ∃ p : Nat, s.2.2.2.2.1.toInt = (p : Int) ∧ UI A p s.1 s.2.1 s.2.2.1 s.2.2.2.1 s.2.2.2.2.2) (UQ A) r := by
  obtain ⟨up, kdd, h2, h3, h4, h5⟩ := ti
  have zm : (-1 : Int32).toInt = -1 := rfl
  have z0 : (0 : Int32).toInt = 0 := rfl
  have z1 : (1 : Int32).toInt = 1 := rfl
  have z6 : (6 : Int32).toInt = 6 := rfl
  have z36 : (36 : Int32).toInt = 36 := rfl
  obtain ⟨b1, b2, b3, b4, b5, b6⟩ := trun_b up
  have bad : ¬ tok (ct A p) (trun (ct A) p) → ∀ {r : ((Int32 × Int32 × Int32 × Int32 × Int32 × Mem) ⊕ ((Mem) ⊕ (Int32 × Mem) ⊕ (Int32 × Int32 × Mem)))}, some (.inr (Sum.inr (Sum.inl (v6, N)))) = some r → Sum.elim (fun s : Int32 × Int32 × Int32 × Int32 × Int32 × Mem => ∃ p : Nat, s.2.2.2.2.1.toInt = (p : Int) ∧ UI A p s.1 s.2.1 s.2.2.1 s.2.2.2.1 s.2.2.2.2.2) (UQ A) r := by
    intro nt r e
    obtain rfl := Option.some.inj e
    exact ⟨p, hp, up, nt⟩
  unfold j_Ground_read_49_14 at e
  rcases io e with ⟨c, e⟩ | ⟨c, e⟩
  · have := q_le c
    exact bad (fun k => by have := k.1; omega) e
  have l6 := q_ng c
  -- the least length of a line
  have e2 : ∃ w1 : Int32, w1.toInt = ((if (trun (ct A) p).2.2.1 = 0 then 1 else (trun (ct A) p).2.2.2 : Nat) : Int) ∧ j_Ground_read_74_14 v2 v3 v4 v5 v6 v7 w0 w1 v3 w0 v7 N = some r := by
    rcases io e with ⟨c, e⟩ | ⟨c, e⟩
    · have := q_eq c
      exact ⟨1, by rw [if_pos (by omega)]; rfl, e⟩
    · have := q_ne c
      exact ⟨v5, by rw [if_neg (by omega)]; exact h5, e⟩
  clear e
  obtain ⟨w1, hw1, e⟩ := e2
  unfold j_Ground_read_74_14 at e
  obtain ⟨x2, e_x2, e⟩ := bo e
  unfold f_Ground_fits at e_x2
  -- fits = tok
  have fit : (x2 = 0 → ¬ tok (ct A p) (trun (ct A) p)) ∧ (¬ x2 = 0 → tok (ct A p) (trun (ct A) p)) := by
    rcases io e_x2 with ⟨c, e⟩ | ⟨c, e⟩
    · have nd : ¬ (ct A p = 47 ∨ ct A p = -1) := by
        rcases he with ⟨a, _⟩ | ⟨_, b⟩
        · rw [a] at c; cases c
        · exact b
      obtain ⟨x3, e3, e⟩ := bo e
      have hk := tk_c e3
      rw [hx] at hk
      rcases io e with ⟨c, e⟩ | ⟨c, e⟩
      · obtain rfl := Option.some.inj e
        refine ⟨fun _ k => (k.2.2 nd).1 (by rw [← hk, c]; rfl), fun h => absurd rfl h⟩
      have c3 := q_ne c
      rcases io e with ⟨c, e⟩ | ⟨c, e⟩
      · obtain rfl := Option.some.inj e
        have := q_le c
        exact ⟨fun _ k => by have := (k.2.2 nd).2; omega, fun h => absurd rfl h⟩
      · obtain rfl := Option.some.inj e
        have := q_ng c
        exact ⟨fun h => (by cases h), fun _ => ⟨by omega, fun h => absurd h nd, fun _ => ⟨by omega, by omega⟩⟩⟩
    · have nd : ct A p = 47 ∨ ct A p = -1 := by
        rcases he with ⟨_, b⟩ | ⟨a, _⟩
        · exact b
        · exact absurd a c
      rcases io e with ⟨c, e⟩ | ⟨c, e⟩
      · obtain rfl := Option.some.inj e
        have := q_lt c
        exact ⟨fun _ k => by have := k.2.1 nd; omega, fun h => absurd rfl h⟩
      · obtain rfl := Option.some.inj e
        have := q_nl c
        exact ⟨fun h => (by cases h), fun _ => ⟨by omega, fun _ => by omega, fun h => absurd nd h⟩⟩
  rcases io e with ⟨c, e⟩ | ⟨c, e⟩
  · exact bad (fit.1 c) e
  have ok := fit.2 c
  clear fit bad e_x2 hw1
  have hp1 : (v6 + (1 : Int32)).toInt = ((p + 1 : Nat) : Int) := add_ti hp rfl (by omega) (by omega)
  rcases io e with ⟨c, e⟩ | ⟨c, e⟩
  · have nd : ¬ (ct A p = 47 ∨ ct A p = -1) := by
      rcases he with ⟨a, _⟩ | ⟨_, b⟩
      · rw [a] at c; cases c
      · exact b
    have run1 : trun (ct A) (p + 1) = ((trun (ct A) p).1 + 1, (trun (ct A) p).2.1 + 1, (trun (ct A) p).2.2.1, (trun (ct A) p).2.2.2) := by
      simp only [trun, tst, if_neg nd]
    have l36 : (trun (ct A) p).1 < 36 := by
      have k := (ok.2.2 nd).2
      have k6 := ok.1
      rcases Nat.eq_zero_or_pos (trun (ct A) p).2.2.1 with y | y
      · have := (b5 y).2; omega
      · have := (b6 y).1
        have m : (trun (ct A) p).2.2.1 * (trun (ct A) p).2.2.2 ≤ 5 * 6 := Nat.mul_le_mul (by omega) b3
        omega
    rcases io e with ⟨c, e⟩ | ⟨c, e⟩
    · have := q_le c; omega
    obtain ⟨x4, e_x4, e⟩ := bo e
    obtain ⟨_, e⟩ := io_n e
    obtain ⟨M5, e_M5, e⟩ := mo e
    unfold j_Ground_read_126_14 at e
    have nm1 : ct A p ≠ -1 := fun h => nd (.inr h)
    rcases io e with ⟨c, e⟩ | ⟨c, e⟩
    · have := q_eq c; omega
    obtain rfl := Option.some.inj e
    refine ⟨p + 1, hp1, tup_s up ok nm1, ?_, ?_, ?_, ?_, ?_⟩
    · intro q hq q47
      dsimp only
      rw [e_M5, q_nat h2]
      rcases Nat.lt_or_ge q p with g | g
      · have m := (tcells_lt up g q47)
        rw [si_ne (by omega)]
        exact kdd q g q47
      · have : q = p := by omega
        subst this
        rw [si_eq, tk_c e_x4, hx]
    · rw [run1]; exact add_ti h2 rfl (by omega) (by omega)
    · rw [run1]; exact add_ti h3 rfl (by omega) (by omega)
    · rw [run1]; exact h4
    · rw [run1]; exact h5
  · have nd : ct A p = 47 ∨ ct A p = -1 := by
      rcases he with ⟨_, b⟩ | ⟨a, _⟩
      · exact b
      · exact absurd a c
    have run1 : trun (ct A) (p + 1) = ((trun (ct A) p).1, 0, (trun (ct A) p).2.2.1 + 1, (trun (ct A) p).2.1) := by
      simp only [trun, tst, if_pos nd]
    unfold j_Ground_read_126_14 at e
    rcases io e with ⟨c, e⟩ | ⟨c, e⟩
    · have k := q_eq c
      obtain rfl := Option.some.inj e
      exact ⟨p, up, ok, by omega, h2, h3, kdd⟩
    · have k := q_ne c
      obtain rfl := Option.some.inj e
      refine ⟨p + 1, hp1, tup_s up ok (by omega), ?_, ?_, ?_, ?_, ?_⟩
      · intro q hq q47
        rcases Nat.lt_or_ge q p with g | g
        · exact kdd q g q47
        · have : q = p := by omega
          subst this
          exfalso; rcases nd with h | h <;> omega
      · rw [run1]; exact h2
      · rw [run1]; rfl
      · rw [run1]; exact add_ti h4 rfl (by omega) (by omega)
      · rw [run1]; exact h3
theorem rd_c (A : Mem) (hl : (A.1 1 1).toInt ≤ 80) {x} (e : iter lb_Ground_read_14 FU ((0 : Int32), (0 : Int32), (0 : Int32), (6 : Int32), (0 : Int32), A) = some x) : UQ A x := by
  refine it_r (I := fun s : Int32 × Int32 × Int32 × Int32 × Int32 × Mem => Fx 32 [] A s.2.2.2.2.2 ∧ ∃ p : Nat, s.2.2.2.2.1.toInt = (p : Int) ∧ UI A p s.1 s.2.1 s.2.2.1 s.2.2.2.1 s.2.2.2.2.2) (Q := UQ A) ?_ e ⟨Fx_r, 0, rfl, (fun q hq => absurd hq (by omega)), (fun q hq => absurd hq (by omega)), rfl, rfl, rfl, rfl⟩
  rintro ⟨v2, v3, v4, v5, v6, N⟩ r ⟨fx, p, hp, up, kdd, h2, h3, h4, h5⟩ e
  have fr := wl_Ground_read_14 _ (sb_r _) fx e
  dsimp only at *
  unfold lb_Ground_read_14 at e
  dsimp only at e
  have zm : (-1 : Int32).toInt = -1 := rfl
  have z0 : (0 : Int32).toInt = 0 := rfl
  have z1 : (1 : Int32).toInt = 1 := rfl
  have z6 : (6 : Int32).toInt = 6 := rfl
  have z36 : (36 : Int32).toInt = 36 := rfl
  have z47 : (47 : Int32).toInt = 47 := rfl
  have z80 : (80 : Int32).toInt = 80 := rfl
  have lp := ct_len up hl
  rcases io e with ⟨c, e⟩ | ⟨c, e⟩
  · have := q_lt c; omega
  have hN11 : N.1 1 1 = A.1 1 1 := (fx 1 1 (by decide +kernel) (by simp)).1
  have hN2 : ∀ i, N.1 2 i = A.1 2 i := fun i => (fx 2 i (by rw [show sl 2 i = 2 from rfl]; decide +kernel) (by simp)).1
  obtain ⟨x1, e_x1, e⟩ := bo e
  have hx : x1.toInt = ct A p := by
    rw [ct_at hp (by rw [hN11]; exact hl) e_x1]
    unfold ct; rw [hN11, hN2]
  have key : Sum.elim (fun s : Int32 × Int32 × Int32 × Int32 × Int32 × Mem => ∃ p : Nat, s.2.2.2.2.1.toInt = (p : Int) ∧ UI A p s.1 s.2.1 s.2.2.1 s.2.2.2.1 s.2.2.2.2.2) (UQ A) r := by
    rcases io e with ⟨c, e⟩ | ⟨c, e⟩
    · exact rd_j hp lp ⟨up, kdd, h2, h3, h4, h5⟩ hx (.inl ⟨rfl, .inl (by rw [← hx, c]; rfl)⟩) e
    have k := q_ne c
    rcases io e with ⟨c, e⟩ | ⟨c, e⟩
    · exact rd_j hp lp ⟨up, kdd, h2, h3, h4, h5⟩ hx (.inl ⟨rfl, .inr (by rw [← hx, c]; rfl)⟩) e
    have k2 := q_ne c
    exact rd_j hp lp ⟨up, kdd, h2, h3, h4, h5⟩ hx (.inr ⟨rfl, by omega⟩) e
  cases r with
  | inl s => exact ⟨fr, key⟩
  | inr x => exact key
end
section
/-! the class becomes a town -/
theorem bec_c (A : Mem) (v2 : Int32) {x} (e : iter (lb_Ground_become_12 v2) FU ((0 : Int32), A) = some x) : Fx 16 [] A x ∧ ∀ i : Nat, i < 36 → x.1 4 i = if (i : Int) < v2.toInt then A.1 5 i else 0 := by
  refine it_r (I := fun s : Int32 × Mem => Fx 16 [] A s.2 ∧ ∃ p : Nat, s.1.toInt = (p : Int) ∧ p ≤ 36 ∧ ∀ i : Nat, i < p → s.2.1 4 i = if (i : Int) < v2.toInt then A.1 5 i else 0) (Q := fun x => Fx 16 [] A x ∧ ∀ i : Nat, i < 36 → x.1 4 i = if (i : Int) < v2.toInt then A.1 5 i else 0) ?_ e ⟨Fx_r, 0, rfl, by omega, fun i hi => absurd hi (by omega)⟩
  rintro ⟨k, N⟩ r ⟨fx, p, hp, lp, hk⟩ e
  have fr := wl_Ground_become_12 v2 _ (sb_r _) fx e
  have h5 : ∀ i, N.1 5 i = A.1 5 i := fun i => (fx 5 i (by rw [show sl 5 i = 5 from rfl]; decide +kernel) (by simp)).1
  unfold lb_Ground_become_12 at e
  dsimp only at e hp hk
  have z36 : (36 : Int32).toInt = 36 := rfl
  have z1 : (1 : Int32).toInt = 1 := rfl
  rcases io e with ⟨c, e⟩ | ⟨c, e⟩
  · have := q_le c
    obtain rfl := Option.some.inj e
    exact ⟨fr, fun i hi => hk i (by omega)⟩
  have c1 := q_ng c
  have hp1 : (k + (1 : Int32)).toInt = ((p + 1 : Nat) : Int) := add_ti hp rfl (by omega) (by omega)
  rcases io e with ⟨c, e⟩ | ⟨c, e⟩
  · have c2 := q_le c
    obtain ⟨_, e⟩ := io_n e
    obtain ⟨M3, e3, e⟩ := mo e
    obtain rfl := Option.some.inj e
    refine ⟨fr, p + 1, hp1, by omega, fun i hi => ?_⟩
    dsimp only
    rw [e3, q_nat hp]
    rcases Nat.lt_or_ge i p with g | g
    · rw [si_ne (by omega)]; exact hk i g
    · have : i = p := by omega
      subst this
      rw [si_eq, if_neg (by omega)]
  · have c2 := q_ng c
    obtain ⟨_, e⟩ := io_n e
    obtain ⟨_, e⟩ := io_n e
    obtain ⟨M3, e3, e⟩ := mo e
    obtain rfl := Option.some.inj e
    refine ⟨fr, p + 1, hp1, by omega, fun i hi => ?_⟩
    dsimp only
    rw [e3, q_nat hp]
    rcases Nat.lt_or_ge i p with g | g
    · rw [si_ne (by omega)]; exact hk i g
    · have : i = p := by omega
      subst this
      rw [si_eq, if_pos (by omega), h5]
def mTc : Nat := 102552408822280882119989108556757675939772817516740699982105814069308213474882238282547821889517568
/-- what town() does to the class: refused at p, or the town that was read -/
def CT (A : Mem) (x : Int32 × Mem) : Prop :=
  (∃ p : Nat, tup (ct A) p ∧ ¬ tok (ct A p) (trun (ct A) p) ∧ x.1.toInt = -1 - (p : Int) ∧ x.2.1 3 2 = A.1 3 2 ∧ x.2.1 3 3 = A.1 3 3 ∧ (∀ i, x.2.1 4 i = A.1 4 i) ∧ x.2.1 0 16 = A.1 0 16) ∨
  (∃ p : Nat, tup (ct A) p ∧ tok (ct A p) (trun (ct A) p) ∧ ct A p = -1 ∧ x.1.toInt = ((trun (ct A) p).1 : Int) ∧ (x.2.1 3 2).toInt = ((trun (ct A) p).2.1 : Int) ∧ (x.2.1 3 3).toInt = ((trun (ct A) p).1 : Int) ∧ (∃ f, tkd (ct A) f p ∧ ∀ i : Nat, i < 36 → x.2.1 4 i = if i < (trun (ct A) p).1 then f i else 0) ∧ (x.2.1 0 16).toInt = -1)
theorem town_c {A : Mem} (hl : (A.1 1 1).toInt ≤ 80) {x} (e : f_Top_town A = some x) : CT A x := by
  unfold f_Top_town at e
  obtain ⟨x1, e1, e⟩ := bo e
  obtain ⟨M2, e2, e⟩ := mo e
  unfold f_Ground_read at e1
  obtain ⟨y, ey, e1⟩ := bo e1
  have q := rd_c A hl ey
  have fr := it_r (I := fun s : Int32 × Int32 × Int32 × Int32 × Int32 × Mem => Fx 32 [] A s.2.2.2.2.2) (Q := Sum.elim (fun r : Mem => Fx 32 [] A r) (Sum.elim (fun r : Int32 × Mem => Fx 32 [] A r.2) (fun r : Int32 × Int32 × Mem => Fx 32 [] A r.2.2))) (fun s r hs er => wl_Ground_read_14 s (sb_r _) hs er) ey Fx_r
  rcases y with y | y | y
  · exact q.elim
  · replace e1 := el_l (el_r e1)
    obtain rfl := Option.some.inj e1
    obtain ⟨p, hp, up, nt⟩ := q
    have lp := ct_len up hl
    have fr : Fx 32 [] A y.2 := fr
    have am : ((-1 : Int32) - y.1).toInt = -1 - (p : Int) := sub_ti rfl hp (by omega) (by omega)
    dsimp only at e
    rcases io e with ⟨c, e⟩ | ⟨c, e⟩
    · have := q_le c
      have z0 : (0 : Int32).toInt = 0 := rfl
      omega
    obtain rfl := Option.some.inj e
    refine .inl ⟨p, up, nt, am, ?_, ?_, fun i => ?_, ?_⟩
    · dsimp only; rw [e2, si_ne (by omega)]; exact (fr 3 2 (by decide +kernel) (by simp)).1
    · dsimp only; rw [e2, si_ne (by omega)]; exact (fr 3 3 (by decide +kernel) (by simp)).1
    · dsimp only; rw [e2, si_ne (by omega)]; exact (fr 4 i (by rw [show sl 4 i = 4 from rfl]; decide +kernel) (by simp)).1
    · dsimp only; rw [e2, si_ne (by omega)]; exact (fr 0 16 (by decide +kernel) (by simp)).1
  · replace e1 := el_r (el_r e1)
    obtain ⟨p, up, ok, tm, h1, h2, hk⟩ := q
    obtain ⟨x18, e18, e1⟩ := bo e1
    obtain rfl := Option.some.inj e1
    unfold f_Ground_become at e18
    obtain ⟨N1, n1, e18⟩ := mo e18
    obtain ⟨N2, n2, e18⟩ := mo e18
    obtain ⟨x7, e7, e18⟩ := bo e18
    obtain rfl := Option.some.inj e18
    obtain ⟨g, hk4⟩ := bec_c N2 y.1 e7
    dsimp only at e e2
    have a3 : M2.1 3 2 = y.2.1 := by
      rw [e2, si_ne (by omega), (g 3 2 (by decide +kernel) (by simp)).1, n2, si_ne (by omega), n1, si_eq]
    have a4 : M2.1 3 3 = y.1 := by
      rw [e2, si_ne (by omega), (g 3 3 (by decide +kernel) (by simp)).1, n2, si_eq]
    have a5 : ∀ i : Nat, i < 36 → M2.1 4 i = if i < (trun (ct A) p).1 then y.2.2.1 5 i else 0 := by
      intro i hi
      rw [e2, si_ne (by omega), hk4 i hi, n2, si_ne (by omega), n1, si_ne (by omega)]
      by_cases c : i < (trun (ct A) p).1
      · rw [if_pos c, if_pos (by omega)]
      · rw [if_neg c, if_neg (by omega)]
    rcases io e with ⟨c, e⟩ | ⟨c, e⟩
    · obtain ⟨x3, e3, e⟩ := bo e
      obtain ⟨x4, e4, e⟩ := bo e
      obtain ⟨x5, e5, e⟩ := bo e
      obtain ⟨M6, e6, e⟩ := mo e
      obtain ⟨x8, e8, e⟩ := bo e
      obtain rfl := Option.some.inj e
      have f3 : Fx mTc [] M2 x3 := wf_Crowd_clear M2 (by decide +kernel) Fx_r e3
      have f4 : Fx mTc [] M2 x4 := wf_Scene_clear 11 x3 (by decide +kernel) (oc_c (sb_r _) (by decide +kernel)) (oc_c (sb_r _) (by decide +kernel)) (oc_c (sb_r _) (by decide +kernel)) (oc_c (sb_r _) (by decide +kernel)) (oc_c (sb_r _) (by decide +kernel)) f3 e4
      have f5 : Fx mTc [] M2 x5 := wf_History_clear x4 (by decide +kernel) f4 e5
      have f8 : Fx mTc [] M6 x8 := wf_Nets_lay 32 11 (-1 : Int32) M6 (by decide +kernel) (oc_c (sb_r _) (by decide +kernel)) (oc_c (sb_r _) (by decide +kernel)) (oc_c (sb_r _) (by decide +kernel)) Fx_r e8
      refine .inr ⟨p, up, ok, tm, h1, ?_, ?_, ⟨y.2.2.1 5, hk, fun i hi => ?_⟩, ?_⟩
      · dsimp only; rw [(f8 3 2 (by decide +kernel) (by simp)).1, e6, si_ne (by omega), (f5 3 2 (by decide +kernel) (by simp)).1, a3, h2]
      · dsimp only; rw [(f8 3 3 (by decide +kernel) (by simp)).1, e6, si_ne (by omega), (f5 3 3 (by decide +kernel) (by simp)).1, a4, h1]
      · dsimp only; rw [(f8 4 i (by rw [show sl 4 i = 4 from rfl]; decide +kernel) (by simp)).1, e6, si_ne (by omega), (f5 4 i (by rw [show sl 4 i = 4 from rfl]; decide +kernel) (by simp)).1]
        exact a5 i hi
      · dsimp only; rw [(f8 0 16 (by decide +kernel) (by simp)).1, e6, si_eq]; rfl
    · have := q_ng c
      have z0 : (0 : Int32).toInt = 0 := rfl
      omega
end
section
/-! the reference reads a town -/
def rt (B : Mem) (p : Nat) : Int := if (p : Int) < (B.1 162 15).toInt then (B.1 167 p).toInt % 256 else -1
/-- the text is begun: bytes, their number, the most -/
def RB (B : Mem) : Prop := B.2.2 162 14 = some 167 ∧ (B.1 162 15).toInt ≤ 80 ∧ (B.1 162 16).toInt = 80 ∧ ∀ p : Nat, (p : Int) < (B.1 162 15).toInt → -128 ≤ (B.1 167 p).toInt ∧ (B.1 167 p).toInt ≤ 127
def mRt : Nat := 631873750011343868476346479524316714200004923140200731363327868928
theorem rt_here {B N : Mem} (hB : RB B) (fx : Fx mRt [] B N) {p : Nat} (hp : (N.1 162 17).toInt = (p : Int)) {x : Int32} (e : f_Mod_here N = some x) : (rt B p = x.toInt ∧ -1 ≤ x.toInt ∧ x.toInt ≤ 127) ∨ (x.toInt < 0 ∧ 128 ≤ rt B p) := by
  obtain ⟨b1, b2, b3, b4⟩ := hB
  have a1 : N.2.2 162 14 = some 167 := by rw [(fx 162 14 (by decide +kernel) (by simp)).2.2]; exact b1
  have a2 : N.1 162 15 = B.1 162 15 := (fx 162 15 (by decide +kernel) (by simp)).1
  have a3 : N.1 162 16 = B.1 162 16 := (fx 162 16 (by decide +kernel) (by simp)).1
  have a4 : ∀ i, N.1 167 i = B.1 167 i := fun i => (fx 167 i (by rw [show sl 167 i = 167 from rfl]; decide +kernel) (by simp)).1
  unfold f_Mod_here at e
  unfold rt
  have zm : (-1 : Int32).toInt = -1 := rfl
  rcases io e with ⟨c, e⟩ | ⟨c, e⟩
  · have := q_le c
    obtain rfl := Option.some.inj e
    rw [a2] at this
    rw [if_neg (by omega)]
    exact .inl ⟨rfl, by omega, by omega⟩
  have c1 := q_ng c
  rw [a2] at c1
  rcases io e with ⟨c, e⟩ | ⟨c, e⟩
  · have := q_le c
    rw [a3] at this
    omega
  obtain ⟨a, ea, e⟩ := bo e
  rw [a1] at ea
  obtain rfl := Option.some.inj ea
  obtain ⟨_, e⟩ := io_n e
  obtain ⟨_, e⟩ := io_n e
  obtain rfl := Option.some.inj e
  have b := b4 p (by omega)
  rw [if_pos (by omega), q_nat hp, a4]
  omega
theorem tk_r {v x : Int32} (e : f_Mod_kindOf v = some x) : x.toInt = tk v.toInt := by
  unfold f_Mod_kindOf at e
  unfold tk
  rcases io e with ⟨c, e⟩ | ⟨c, e⟩
  · obtain rfl := Option.some.inj e; subst c; rfl
  have c1 := q_ne c
  rcases io e with ⟨c, e⟩ | ⟨c, e⟩
  · obtain rfl := Option.some.inj e; subst c; rfl
  have c2 := q_ne c
  rcases io e with ⟨c, e⟩ | ⟨c, e⟩
  · obtain rfl := Option.some.inj e; subst c; rfl
  have c3 := q_ne c
  rcases io e with ⟨c, e⟩ | ⟨c, e⟩
  · obtain rfl := Option.some.inj e; subst c; rfl
  have c4 := q_ne c
  obtain rfl := Option.some.inj e
  have e1 : (35 : Int32).toInt = 35 := rfl
  have e2 : (46 : Int32).toInt = 46 := rfl
  have e3 : (104 : Int32).toInt = 104 := rfl
  have e4 : (115 : Int32).toInt = 115 := rfl
  rw [if_neg (by omega), if_neg (by omega), if_neg (by omega), if_neg (by omega)]; rfl
theorem tk_n {c : Int} (h : c < 35 ∨ 115 < c) : tk c = -1 := by
  unfold tk
  rw [if_neg (by omega), if_neg (by omega), if_neg (by omega), if_neg (by omega)]
theorem rt_kind {B N : Mem} (hB : RB B) (fx : Fx mRt [] B N) {p : Nat} (hp : (N.1 162 17).toInt = (p : Int)) {x y : Int32} (e : f_Mod_here N = some x) (e2 : f_Mod_kindOf x = some y) : y.toInt = tk (rt B p) := by
  rw [tk_r e2]
  rcases rt_here hB fx hp e with h | h
  · rw [h.1]
  · rw [tk_n (by omega), tk_n (by omega)]
theorem fine_i {N : Mem} {x : Int32} (e : f_Mod_fine N = some x) : (x = 0 ∧ (N.1 162 18).toInt ≠ -1) ∨ (x = 1 ∧ (N.1 162 18).toInt = -1) := by
  unfold f_Mod_fine at e
  rcases io e with ⟨c, e⟩ | ⟨c, e⟩
  · obtain rfl := Option.some.inj e
    exact .inr ⟨rfl, q_eq c⟩
  · obtain rfl := Option.some.inj e
    exact .inl ⟨rfl, q_ne c⟩
theorem fault_i {N r : Mem} {v : Int32} (e : f_Mod_fault v N = some r) : ((N.1 162 18).toInt ≠ -1 ∧ r = N) ∨ ((N.1 162 18).toInt = -1 ∧ r = s_i N 162 18 v) := by
  unfold f_Mod_fault at e
  obtain ⟨x, e1, e⟩ := bo e
  rcases fine_i e1 with ⟨a, b⟩ | ⟨a, b⟩
  · rw [a, if_pos rfl] at e
    exact .inl ⟨b, (Option.some.inj e).symm⟩
  · rw [a, if_neg (by decide)] at e
    exact .inr ⟨b, (Option.some.inj e).symm⟩
def Bad (t : Nat → Int) (N : Mem) : Prop := ∃ p : Nat, (N.1 162 18).toInt = (p : Int) ∧ tup t p ∧ ¬ tok (t p) (trun t p)
theorem Bad_fault {t : Nat → Int} {N r : Mem} {v : Int32} (e : f_Mod_fault v N = some r) (h : Bad t N) : Bad t r := by
  obtain ⟨p, a, b⟩ := h
  rcases fault_i e with ⟨_, rfl⟩ | ⟨c, _⟩
  · exact ⟨p, a, b⟩
  · omega
theorem Bad_new {t : Nat → Int} {N r : Mem} {p : Nat} (hp : (N.1 162 17).toInt = (p : Int)) (e : f_Mod_fault (N.1 162 17) N = some r) (hw : (N.1 162 18).toInt = -1) (up : tup t p) (nt : ¬ tok (t p) (trun t p)) : Bad t r := by
  rcases fault_i e with ⟨c, _⟩ | ⟨_, rfl⟩
  · exact absurd hw c
  · exact ⟨p, by rw [si_eq]; exact hp, up, nt⟩
def wd (W Y : Nat) : Nat := if Y = 0 then 6 else W
def RI1 (B : Mem) (W Y n : Nat) (N : Mem) : Prop := (N.1 162 18).toInt = -1 ∧ ∃ p : Nat, (N.1 162 17).toInt = (p : Int) ∧ tup (rt B) p ∧ tkd (rt B) (N.1 169) p ∧ trun (rt B) p = (W * Y + n, n, Y, wd W Y)
theorem rt_len {B : Mem} {p : Nat} (h : tup (rt B) p) (hB : RB B) : p ≤ 80 := by
  rcases Nat.lt_or_ge 80 p with c | c
  · exfalso
    apply (h 80 c).2
    have := hB.2.1
    unfold rt
    rw [if_neg (by omega)]
  · exact c
/-- the inner loop: one line -/
theorem rd_r58 {B A : Mem} {w y : Int32} {W Y : Nat} (hB : RB B) (hw : w.toInt = (W : Int)) (hy : y.toInt = (Y : Int)) (hW : W ≤ 6) (hY : Y ≤ 6) (hY6 : Y < 6 ∨ Bad (rt B) A) (fx : Fx mRt [] B A) (h0 : RI1 B W Y 0 A ∨ Bad (rt B) A) {x} (e : iter (lb_Mod_town_58 w y) FU ((0 : Int32), A) = some x) : Fx mRt [] B x.2 ∧ ((∃ n : Nat, x.1.toInt = (n : Int) ∧ n ≤ wd W Y ∧ RI1 B W Y n x.2 ∧ Y < 6 ∧ ∀ p : Nat, (x.2.1 162 17).toInt = (p : Int) → tk (rt B p) = -1) ∨ Bad (rt B) x.2) := by
  refine it_r (I := fun s : Int32 × Mem => Fx mRt [] B s.2 ∧ ((∃ n : Nat, s.1.toInt = (n : Int) ∧ n ≤ wd W Y ∧ RI1 B W Y n s.2 ∧ Y < 6) ∨ Bad (rt B) s.2)) (Q := fun x : Int32 × Mem => Fx mRt [] B x.2 ∧ ((∃ n : Nat, x.1.toInt = (n : Int) ∧ n ≤ wd W Y ∧ RI1 B W Y n x.2 ∧ Y < 6 ∧ ∀ p : Nat, (x.2.1 162 17).toInt = (p : Int) → tk (rt B p) = -1) ∨ Bad (rt B) x.2)) ?_ e ⟨fx, ?_⟩
  · rintro ⟨k, N⟩ r ⟨fx, h⟩ e
    have fr := wl_Mod_town_58 w y _ (by decide +kernel) fx e
    dsimp only at h fx fr
    have zm : (-1 : Int32).toInt = -1 := rfl
    have z0 : (0 : Int32).toInt = 0 := rfl
    have z6 : (6 : Int32).toInt = 6 := rfl
    have z1 : (1 : Int32).toInt = 1 := rfl
    unfold lb_Mod_town_58 at e
    dsimp only at e
    obtain ⟨x5, e5, e⟩ := bo e
    rcases h with ⟨n, hn, ln, ⟨hw1, p, hp, up, kk, hr⟩, y6⟩ | bad
    · rcases fine_i e5 with ⟨a, b⟩ | ⟨a, b⟩
      · exact absurd hw1 b
      rw [a, if_neg (by decide)] at e
      obtain ⟨x6, e6, e⟩ := bo e
      obtain ⟨x7, e7, e⟩ := bo e
      have hk := rt_kind hB fx hp e6 e7
      rcases io e with ⟨c, e⟩ | ⟨c, e⟩
      · obtain rfl := Option.some.inj e
        refine ⟨fr, .inl ⟨n, hn, ln, ⟨hw1, p, hp, up, kk, hr⟩, y6, fun p' hp' => ?_⟩⟩
        have : p' = p := by
          dsimp only at hp'
          omega
        rw [this, ← hk, c]; rfl
      have kn : tk (rt B p) ≠ -1 := by
        have := q_ne c
        omega
      have hwd : ∃ w0 : Int32, w0.toInt = ((wd W Y : Nat) : Int) ∧ j_Mod_town_88_58 w y k w0 k N = some r := by
        unfold wd
        rcases io e with ⟨c, e⟩ | ⟨c, e⟩
        · have := q_eq c
          exact ⟨6, by rw [if_pos (by omega)]; rfl, e⟩
        · have := q_ne c
          exact ⟨w, by rw [if_neg (by omega)]; exact hw, e⟩
      clear e
      obtain ⟨w0, hw0, e⟩ := hwd
      have n47 : ¬ (rt B p = 47 ∨ rt B p = -1) := by
        rintro (h | h) <;> rw [h] at kn <;> exact kn (by decide)
      have t1 : (trun (rt B) p).1 = W * Y + n := by rw [hr]
      have t2 : (trun (rt B) p).2.1 = n := by rw [hr]
      have t3 : (trun (rt B) p).2.2.1 = Y := by rw [hr]
      have t4 : (trun (rt B) p).2.2.2 = wd W Y := by rw [hr]
      unfold j_Mod_town_88_58 at e
      rcases io e with ⟨c, e⟩ | ⟨c, e⟩
      · obtain ⟨x12, e12, e⟩ := bo e
        obtain rfl := Option.some.inj e
        have cc := q_eq c
        exact ⟨fr, .inr (Bad_new hp e12 hw1 up (fun ok => by have := (ok.2.2 n47).2; omega))⟩
      have cc := q_ne c
      obtain ⟨x8, e8, e⟩ := bo e
      obtain ⟨x9, e9, e⟩ := bo e
      obtain ⟨_, e⟩ := io_n e
      obtain ⟨M10, e10, e⟩ := mo e
      obtain ⟨M11, e11, e⟩ := mo e
      obtain rfl := Option.some.inj e
      have hk9 := rt_kind hB fx hp e8 e9
      have hwd6 : wd W Y ≤ 6 := by unfold wd; split <;> omega
      have ok : tok (rt B p) (trun (rt B) p) := ⟨by omega, fun h => absurd h n47, fun _ => ⟨kn, by omega⟩⟩
      have lp := rt_len up hB
      have wy : W * Y ≤ 36 := Nat.mul_le_mul hW hY
      have m1 : (w * y).toInt = ((W * Y : Nat) : Int) := by
        have := mul_ti hw hy (by have : (W : Int) * (Y : Int) = ((W * Y : Nat) : Int) := by push_cast; rfl
                                 omega) (by have : (W : Int) * (Y : Int) = ((W * Y : Nat) : Int) := by push_cast; rfl
                                            omega)
        rw [this]; push_cast; rfl
      have m2 : (w * y + k).toInt = ((W * Y + n : Nat) : Int) := add_ti m1 hn (by omega) (by omega)
      have at1 : (M11.1 162 17).toInt = ((p + 1 : Nat) : Int) := by
        have h17 : (M10.1 162 17).toInt = (p : Int) := by rw [e10, si_ne (by omega)]; exact hp
        rw [e11, si_eq]
        exact add_ti h17 rfl (by omega) (by omega)
      have run1 : trun (rt B) (p + 1) = (W * Y + (n + 1), n + 1, Y, wd W Y) := by
        simp only [trun, tst, if_neg n47, t1, t2, t3, t4]; rfl
      refine ⟨fr, .inl ⟨n + 1, add_ti hn rfl (by omega) (by omega), by omega, ⟨?_, p + 1, at1, tup_s up ok (fun h => n47 (.inr h)), ?_, run1⟩, y6⟩⟩
      · dsimp only; rw [e11, si_ne (by omega), e10, si_ne (by omega)]; exact hw1
      · intro q hq q47
        dsimp only
        rw [e11, si_ne (by omega), e10, q_nat m2]
        rcases Nat.lt_or_ge q p with g | g
        · have m := tcells_lt up g q47
          rw [si_ne (by omega)]
          exact kk q g q47
        · have : q = p := by omega
          subst this
          rw [t1, si_eq, hk9]
    · rcases fine_i e5 with ⟨a, b⟩ | ⟨a, b⟩
      · rw [a, if_pos rfl] at e
        obtain rfl := Option.some.inj e
        exact ⟨fr, .inr bad⟩
      · obtain ⟨p, h, _⟩ := bad
        omega
  · rcases hY6 with y6 | bad
    · rcases h0 with h | h
      · exact .inl ⟨0, rfl, by omega, h, y6⟩
      · exact .inr h
    · exact .inr bad
end
section
/-! the reference: lines one behind another -/
theorem pass_r {B N : Mem} (hB : RB B) (fx : Fx mRt [] B N) {p : Nat} (hp : (N.1 162 17).toInt = (p : Int)) (hw : (N.1 162 18).toInt = -1) {x : Int32 × Mem} (e : f_Mod_passes (47 : Int32) N = some x) : (rt B p = 47 ∧ x.1 = 1 ∧ x.2 = s_i N 162 17 (N.1 162 17 + (1 : Int32))) ∨ (rt B p ≠ 47 ∧ x.1 = 0 ∧ x.2 = N) := by
  unfold f_Mod_passes at e
  obtain ⟨x1, e1, e⟩ := bo e
  rcases fine_i e1 with ⟨_, b⟩ | ⟨a, _⟩
  · exact absurd hw b
  rw [a, if_neg (by decide)] at e
  obtain ⟨x2, e2, e⟩ := bo e
  have z : (47 : Int32).toInt = 47 := rfl
  have h := rt_here hB fx hp e2
  rcases io e with ⟨c, e⟩ | ⟨c, e⟩
  · have := q_eq c
    obtain ⟨M3, e3, e⟩ := mo e
    obtain rfl := Option.some.inj e
    refine .inl ⟨by omega, rfl, e3⟩
  · have := q_ne c
    obtain rfl := Option.some.inj e
    exact .inr ⟨by omega, rfl, rfl⟩
theorem pass_b {N : Mem} (hw : (N.1 162 18).toInt ≠ -1) {v : Int32} {x : Int32 × Mem} (e : f_Mod_passes v N = some x) : x.1 = 0 ∧ x.2 = N := by
  unfold f_Mod_passes at e
  obtain ⟨x1, e1, e⟩ := bo e
  rcases fine_i e1 with ⟨a, _⟩ | ⟨_, b⟩
  · rw [a, if_pos rfl] at e
    obtain rfl := Option.some.inj e
    exact ⟨rfl, rfl⟩
  · exact absurd b hw
theorem Bad_w {t : Nat → Int} {N : Mem} (h : Bad t N) : (N.1 162 18).toInt ≠ -1 := by
  obtain ⟨p, a, _⟩ := h
  omega
/-- a line has been read, and no '/' is behind it -/
def RE (B : Mem) (v1 v2 : Int32) (N : Mem) : Prop := (N.1 162 18).toInt = -1 ∧ ∃ p W Y : Nat, (N.1 162 17).toInt = (p : Int) ∧ tup (rt B) p ∧ tkd (rt B) (N.1 169) p ∧ v1.toInt = (W : Int) ∧ v2.toInt = ((Y + 1 : Nat) : Int) ∧ Y < 6 ∧ 0 < W ∧ W ≤ 6 ∧ trun (rt B) p = (W * Y + W, W, Y, if Y = 0 then 6 else W) ∧ tk (rt B p) = -1 ∧ rt B p ≠ 47
def RJ (B : Mem) (s : Int32 × Int32 × Int32 × Mem) : Prop := Fx mRt [] B s.2.2.2 ∧ (Bad (rt B) s.2.2.2 ∨ (s.2.2.1 = 0 ∧ RE B s.1 s.2.1 s.2.2.2) ∨ (¬ s.2.2.1 = 0 ∧ ∃ W Y : Nat, s.1.toInt = (W : Int) ∧ s.2.1.toInt = (Y : Int) ∧ W ≤ 6 ∧ Y ≤ 6 ∧ RI1 B W Y 0 s.2.2.2))
def RZ (B : Mem) (s : Int32 × Int32 × Mem) : Prop := Fx mRt [] B s.2.2 ∧ (Bad (rt B) s.2.2 ∨ RE B s.1 s.2.1 s.2.2)
theorem lnn_166 {B N : Mem} {v1 v2 : Int32} {W Y p : Nat} (hB : RB B) (fx : Fx mRt [] B N) (hv1 : v1.toInt = (W : Int)) (hv2 : v2.toInt = (Y : Int)) (y6 : Y < 6) (w0 : 0 < W) (w6 : W ≤ 6) (hw : (N.1 162 18).toInt = -1) (hp : (N.1 162 17).toInt = (p : Int)) (up : tup (rt B) p) (kk : tkd (rt B) (N.1 169) p) (hr : trun (rt B) p = (W * Y + W, W, Y, if Y = 0 then 6 else W)) (hk : tk (rt B p) = -1) {r} (e : j_Mod_town_166_30 v1 v2 N = some r) : Sum.elim (RJ B) (RZ B) r := by
  have fr := wj_Mod_town_166_30 v1 v2 N (by decide +kernel) fx e
  unfold j_Mod_town_166_30 at e
  obtain ⟨x, e1, e⟩ := bo e
  obtain rfl := Option.some.inj e
  have hv3 : (v2 + (1 : Int32)).toInt = ((Y + 1 : Nat) : Int) := add_ti hv2 o1 (by omega) (by omega)
  have fr : Fx mRt [] B x.2 := fr
  rcases pass_r hB fx hp hw e1 with ⟨a, b, c⟩ | ⟨a, b, c⟩
  · refine ⟨fr, .inr (.inr ⟨?_, W, Y + 1, hv1, hv3, w6, by omega, ?_, ?_⟩)⟩
    · show ¬ x.1 = 0
      rw [b]; decide
    · show (x.2.1 162 18).toInt = -1
      rw [c, si_ne (by omega)]; exact hw
    · have ok : tok (rt B p) (trun (rt B) p) := by
        rw [hr]
        refine ⟨y6, fun _ => ?_, fun h => absurd (.inl a) h⟩
        dsimp only
        split <;> omega
      have lp := rt_len up hB
      refine ⟨p + 1, ?_, tup_s up ok (by omega), ?_, ?_⟩
      · show (x.2.1 162 17).toInt = _
        rw [c, si_eq]
        exact add_ti hp o1 (by omega) (by omega)
      · intro q hq q47
        show (x.2.1 169 _).toInt = _
        rw [c, si_ne (by omega)]
        rcases Nat.lt_or_ge q p with g | g
        · exact kk q g q47
        · have : q = p := by omega
          subst this
          exact absurd a q47
      · simp only [trun, tst, if_pos (Or.inl a : rt B p = 47 ∨ rt B p = -1), hr]
        unfold wd
        rw [if_neg (by omega), Nat.mul_add, Nat.mul_one]; rfl
  · refine ⟨fr, .inr (.inl ⟨b, ?_⟩)⟩
    show RE B v1 (v2 + (1 : Int32)) x.2
    rw [c]
    exact ⟨hw, p, W, Y, hp, up, kk, hv1, hv3, y6, w0, w6, hr, hk, a⟩
theorem lnn_166b {B N : Mem} {v1 v2 : Int32} (fx : Fx mRt [] B N) (bad : Bad (rt B) N) {r} (e : j_Mod_town_166_30 v1 v2 N = some r) : Sum.elim (RJ B) (RZ B) r := by
  unfold j_Mod_town_166_30 at e
  obtain ⟨x, e1, e⟩ := bo e
  obtain rfl := Option.some.inj e
  have := pass_b (Bad_w bad) e1
  refine ⟨?_, .inl ?_⟩
  · show Fx mRt [] B x.2
    rw [this.2]; exact fx
  · show Bad (rt B) x.2
    rw [this.2]; exact bad
theorem lnn_159b {B N : Mem} {v1 v2 v4 : Int32} (fx : Fx mRt [] B N) (bad : Bad (rt B) N) {r} (e : j_Mod_town_159_30 v1 v2 v4 N = some r) : Sum.elim (RJ B) (RZ B) r := by
  unfold j_Mod_town_159_30 at e
  rcases io e with ⟨_, e⟩ | ⟨_, e⟩
  · exact lnn_166b fx bad e
  · exact lnn_166b fx bad e
theorem lnn_151b {B N : Mem} {v1 v2 v4 : Int32} (fx : Fx mRt [] B N) (bad : ∀ r, f_Mod_fault (N.1 162 17) N = some r → Bad (rt B) r) {r} (e : j_Mod_town_151_30 v1 v2 v4 N = some r) : Sum.elim (RJ B) (RZ B) r := by
  unfold j_Mod_town_151_30 at e
  obtain ⟨x, e1, e⟩ := bo e
  exact lnn_159b (wf_Mod_fault _ _ (by decide +kernel) fx e1) (bad x e1) e
/-- behind the inner loop -/
theorem lnn_136 {B N : Mem} {v1 v2 v4 : Int32} {W Y : Nat} (hB : RB B) (fx : Fx mRt [] B N) (hv1 : v1.toInt = (W : Int)) (hv2 : v2.toInt = (Y : Int)) (hW : W ≤ 6) (h : (∃ n : Nat, v4.toInt = (n : Int) ∧ n ≤ wd W Y ∧ RI1 B W Y n N ∧ Y < 6 ∧ ∀ p : Nat, (N.1 162 17).toInt = (p : Int) → tk (rt B p) = -1) ∨ Bad (rt B) N) {r} (e : j_Mod_town_136_30 v1 v2 v4 N = some r) : Sum.elim (RJ B) (RZ B) r := by
  have z0 : (0 : Int32).toInt = 0 := rfl
  rcases h with ⟨n, hn, ln, ⟨hw, p, hp, up, kk, hr⟩, y6, hk⟩ | bad
  · have hk := hk p hp
    have tb := trun_b up
    have t1 : (trun (rt B) p).1 = W * Y + n := by rw [hr]
    have t2 : (trun (rt B) p).2.1 = n := by rw [hr]
    have t3 : (trun (rt B) p).2.2.1 = Y := by rw [hr]
    have t4 : (trun (rt B) p).2.2.2 = wd W Y := by rw [hr]
    have less : (n = 0 ∨ (0 < Y ∧ n < W)) → ∀ r, f_Mod_fault (N.1 162 17) N = some r → Bad (rt B) r := by
      intro hh r e
      refine Bad_new hp e hw up (fun ok => ?_)
      by_cases c : rt B p = 47 ∨ rt B p = -1
      · have k := ok.2.1 c
        rw [t3, t4, t2] at k
        rcases Nat.eq_zero_or_pos Y with y | y
        · rw [if_pos y] at k; omega
        · rw [if_neg (by omega)] at k
          have := (tb.2.2.2.2.2 (by omega)).2
          have : wd W Y = W := by unfold wd; rw [if_neg (by omega)]
          omega
      · exact (ok.2.2 c).1 hk
    have full : ∀ {w1 : Int32}, ¬ n = 0 → w1.toInt = (n : Int) → (Y = 0 ∨ W = n) → j_Mod_town_166_30 w1 v2 N = some r → Sum.elim (RJ B) (RZ B) r := by
      intro w1 n0 hw1 hh e
      have hn6 : n ≤ 6 := by unfold wd at ln; split at ln <;> omega
      refine lnn_166 (W := n) (Y := Y) hB fx hw1 hv2 y6 (by omega) hn6 hw hp up kk ?_ hk e
      rw [hr]
      unfold wd
      rcases Nat.eq_zero_or_pos Y with y | y
      · subst y; simp
      · have : W = n := by omega
        subst this
        rfl
    unfold j_Mod_town_136_30 at e
    rcases io e with ⟨c, e⟩ | ⟨c, e⟩
    · exact lnn_151b fx (less (.inl (by have := q_eq c; omega))) e
    have n0 : ¬ n = 0 := by have := q_ne c; omega
    rcases io e with ⟨c, e⟩ | ⟨c, e⟩
    · have y0 : Y = 0 := by have := q_le c; omega
      unfold j_Mod_town_159_30 at e
      rcases io e with ⟨_, e⟩ | ⟨c, e⟩
      · exact full n0 hn (.inl y0) e
      · have := q_ne c; omega
    have y0 : 0 < Y := by have := q_ng c; omega
    have w1 : wd W Y = W := by unfold wd; rw [if_neg (by omega)]
    rcases io e with ⟨c, e⟩ | ⟨c, e⟩
    · have := q_le c
      unfold j_Mod_town_159_30 at e
      rcases io e with ⟨c, e⟩ | ⟨c, e⟩
      · have := q_eq c; omega
      · exact full n0 (by omega) (.inr (by omega)) e
    · have := q_ng c
      exact lnn_151b fx (less (.inr ⟨y0, by omega⟩)) e
  · unfold j_Mod_town_136_30 at e
    rcases io e with ⟨_, e⟩ | ⟨_, e⟩
    · exact lnn_151b fx (fun r e => Bad_fault e bad) e
    rcases io e with ⟨_, e⟩ | ⟨_, e⟩
    · exact lnn_159b fx bad e
    rcases io e with ⟨_, e⟩ | ⟨_, e⟩
    · exact lnn_159b fx bad e
    · exact lnn_151b fx (fun r e => Bad_fault e bad) e
theorem rd_r30 {B : Mem} (hB : RB B) (h17 : (B.1 162 17).toInt = 0) (h18 : (B.1 162 18).toInt = -1) {x} (e : iter lb_Mod_town_30 FU ((0 : Int32), (0 : Int32), (1 : Int32), B) = some x) : RZ B x := by
  refine it_r (I := RJ B) (Q := RZ B) ?_ e ⟨Fx_r, .inr (.inr ⟨(by show ¬ (1 : Int32) = 0; decide), 0, 0, rfl, rfl, by omega, by omega, h18, 0, h17, (fun q hq => absurd hq (by omega)), (fun q hq => absurd hq (by omega)), rfl⟩)⟩
  rintro ⟨w, y, m, N⟩ r ⟨fx, h⟩ e
  dsimp only at fx h
  unfold lb_Mod_town_30 at e
  dsimp only at e
  rcases io e with ⟨c, e⟩ | ⟨c, e⟩
  · obtain rfl := Option.some.inj e
    refine ⟨fx, ?_⟩
    rcases h with h | h | h
    · exact .inl h
    · exact .inr h.2
    · exact absurd c h.1
  obtain ⟨x4, e4, e⟩ := bo e
  rcases io e with ⟨c4, e⟩ | ⟨c4, e⟩
  · obtain rfl := Option.some.inj e
    refine ⟨fx, ?_⟩
    rcases h with h | h | h
    · exact .inl h
    · exact .inr h.2
    · obtain ⟨_, W, Y, _, _, _, _, hw, _⟩ := h
      rcases fine_i e4 with ⟨_, b⟩ | ⟨a, _⟩
      · exact absurd hw b
      · rw [a] at c4; cases c4
  rcases h with h | h | ⟨_, W, Y, hw, hy, lw, ly, hI⟩
  · rcases fine_i e4 with ⟨a, _⟩ | ⟨_, b⟩
    · exact absurd a c4
    · exact absurd b (Bad_w h)
  · exact absurd h.1 c
  have z6 : (6 : Int32).toInt = 6 := rfl
  rcases io e with ⟨c6, e⟩ | ⟨c6, e⟩
  · obtain ⟨x24, e24, e⟩ := bo e
    obtain ⟨x25, e25, e⟩ := bo e
    have y6 : Y = 6 := by have := q_eq c6; omega
    obtain ⟨hw1, p, hp, up, kk, hr⟩ := hI
    have bad : Bad (rt B) x24 := Bad_new hp e24 hw1 up (fun ok => by have := ok.1; rw [hr] at this; dsimp only at this; omega)
    have fx24 : Fx mRt [] B x24 := wf_Mod_fault _ _ (by decide +kernel) fx e24
    obtain ⟨g1, g2⟩ := rd_r58 hB hw hy lw ly (.inr bad) fx24 (.inr bad) e25
    exact lnn_136 hB g1 hw hy lw g2 e
  · obtain ⟨x17, e17, e⟩ := bo e
    have y6 : Y < 6 := by have := q_ne c6; omega
    obtain ⟨g1, g2⟩ := rd_r58 hB hw hy lw ly (.inl y6) fx (.inl hI) e17
    exact lnn_136 hB g1 hw hy lw g2 e
end
section
/-! the reference becomes a town -/
def ra (A : Mem) (p : Nat) : Int := if (p : Int) < (A.1 162 10).toInt then (A.1 167 p).toInt % 256 else -1
theorem bec_r (A : Mem) (v1 v2 : Int32) {x} (e : iter (lb_Mod_town_225 v1 v2) FU ((0 : Int32), A) = some x) : ∀ i : Nat, i < 36 → x.1 164 i = if (i : Int) < (v1 * v2).toInt then A.1 169 i else 0 := by
  refine it_r (I := fun s : Int32 × Mem => (∀ i, s.2.1 169 i = A.1 169 i) ∧ ∃ p : Nat, s.1.toInt = (p : Int) ∧ p ≤ 36 ∧ ∀ i : Nat, i < p → s.2.1 164 i = if (i : Int) < (v1 * v2).toInt then A.1 169 i else 0) (Q := fun x => ∀ i : Nat, i < 36 → x.1 164 i = if (i : Int) < (v1 * v2).toInt then A.1 169 i else 0) ?_ e ⟨fun _ => rfl, 0, rfl, by omega, fun i hi => absurd hi (by omega)⟩
  rintro ⟨k, N⟩ r ⟨h9, p, hp, lp, hk⟩ e
  unfold lb_Mod_town_225 at e
  dsimp only at e hp hk h9
  have z36 : (36 : Int32).toInt = 36 := rfl
  have z1 : (1 : Int32).toInt = 1 := rfl
  rcases io e with ⟨c, e⟩ | ⟨c, e⟩
  · have := q_le c
    obtain rfl := Option.some.inj e
    exact fun i hi => hk i (by omega)
  have c1 := q_ng c
  have hp1 : (k + (1 : Int32)).toInt = ((p + 1 : Nat) : Int) := add_ti hp o1 (by omega) (by omega)
  rcases io e with ⟨c, e⟩ | ⟨c, e⟩
  · have c2 := q_le c
    obtain ⟨_, e⟩ := io_n e
    obtain ⟨M3, e3, e⟩ := mo e
    obtain rfl := Option.some.inj e
    refine ⟨fun i => ?_, p + 1, hp1, by omega, fun i hi => ?_⟩
    · dsimp only; rw [e3, si_ne (by omega)]; exact h9 i
    dsimp only
    rw [e3, q_nat hp]
    rcases Nat.lt_or_ge i p with g | g
    · rw [si_ne (by omega)]; exact hk i g
    · have : i = p := by omega
      subst this
      rw [si_eq, if_neg (by omega)]
  · have c2 := q_ng c
    obtain ⟨_, e⟩ := io_n e
    obtain ⟨_, e⟩ := io_n e
    obtain ⟨M3, e3, e⟩ := mo e
    obtain rfl := Option.some.inj e
    refine ⟨fun i => ?_, p + 1, hp1, by omega, fun i hi => ?_⟩
    · dsimp only; rw [e3, si_ne (by omega)]; exact h9 i
    dsimp only
    rw [e3, q_nat hp]
    rcases Nat.lt_or_ge i p with g | g
    · rw [si_ne (by omega)]; exact hk i g
    · have : i = p := by omega
      subst this
      rw [si_eq, if_pos (by omega), h9]
theorem z96_r (A : Mem) (v1 v2 : Int32) {x} (e : iter (lb_Mod_town_282 v1 v2) FU ((0 : Int32), A) = some x) : ∀ i : Nat, i < 96 → x.1 163 i = 0 := by
  refine it_r (I := fun s : Int32 × Mem => ∃ p : Nat, s.1.toInt = (p : Int) ∧ p ≤ 96 ∧ ∀ i : Nat, i < p → s.2.1 163 i = 0) (Q := fun x => ∀ i : Nat, i < 96 → x.1 163 i = 0) ?_ e ⟨0, rfl, by omega, fun i hi => absurd hi (by omega)⟩
  rintro ⟨k, N⟩ r ⟨p, hp, lp, hk⟩ e
  unfold lb_Mod_town_282 at e
  dsimp only at e hp hk
  have z36 : (96 : Int32).toInt = 96 := rfl
  rcases io e with ⟨c, e⟩ | ⟨c, e⟩
  · have := q_le c
    obtain rfl := Option.some.inj e
    exact fun i hi => hk i (by omega)
  have c1 := q_ng c
  obtain ⟨_, e⟩ := io_n e
  obtain ⟨M3, e3, e⟩ := mo e
  obtain rfl := Option.some.inj e
  refine ⟨p + 1, add_ti hp o1 (by omega) (by omega), by omega, fun i hi => ?_⟩
  dsimp only
  rw [e3, q_nat hp]
  rcases Nat.lt_or_ge i p with g | g
  · rw [si_ne (by omega)]; exact hk i g
  · have : i = p := by omega
    subst this
    rw [si_eq]
theorem z2_r (A : Mem) (v1 v2 : Int32) {x} (e : iter (lb_Mod_town_311 v1 v2) FU ((0 : Int32), A) = some x) : ∀ i : Nat, i < 2 → x.1 190 i = 0 := by
  refine it_r (I := fun s : Int32 × Mem => ∃ p : Nat, s.1.toInt = (p : Int) ∧ p ≤ 2 ∧ ∀ i : Nat, i < p → s.2.1 190 i = 0) (Q := fun x => ∀ i : Nat, i < 2 → x.1 190 i = 0) ?_ e ⟨0, rfl, by omega, fun i hi => absurd hi (by omega)⟩
  rintro ⟨k, N⟩ r ⟨p, hp, lp, hk⟩ e
  unfold lb_Mod_town_311 at e
  dsimp only at e hp hk
  have z36 : (2 : Int32).toInt = 2 := rfl
  rcases io e with ⟨c, e⟩ | ⟨c, e⟩
  · have := q_le c
    obtain rfl := Option.some.inj e
    exact fun i hi => hk i (by omega)
  have c1 := q_ng c
  obtain ⟨_, e⟩ := io_n e
  obtain ⟨M3, e3, e⟩ := mo e
  obtain rfl := Option.some.inj e
  refine ⟨p + 1, add_ti hp o1 (by omega) (by omega), by omega, fun i hi => ?_⟩
  dsimp only
  rw [e3, q_nat hp, narb0]
  rcases Nat.lt_or_ge i p with g | g
  · rw [si_ne (by omega)]; exact hk i g
  · have : i = p := by omega
    subst this
    rw [si_eq]
/-- a town that was read: W wide, Y + 1 lines, kinds f -/
def RT2 (A : Mem) (x : Int32 × Mem) : Prop :=
  (∃ p : Nat, tup (ra A) p ∧ ¬ tok (ra A p) (trun (ra A) p) ∧ x.1.toInt = -1 - (p : Int) ∧ ∀ k i, k < 193 → k ≠ 169 → ¬ (k = 162 ∧ (i = 10 ∨ i = 13 ∨ i = 15 ∨ i = 16 ∨ i = 17 ∨ i = 18)) → x.2.1 k i = A.1 k i) ∨
  (∃ p W Y : Nat, tup (ra A) p ∧ tok (ra A p) (trun (ra A) p) ∧ ra A p = -1 ∧ Y < 6 ∧ 0 < W ∧ W ≤ 6 ∧ (trun (ra A) p).1 = W * Y + W ∧ (trun (ra A) p).2.1 = W ∧ x.1.toInt = ((W * Y + W : Nat) : Int) ∧ (x.2.1 162 2).toInt = (W : Int) ∧ (x.2.1 162 3).toInt = ((Y + 1 : Nat) : Int) ∧ (∃ f, tkd (ra A) f p ∧ ∀ i : Nat, i < 36 → x.2.1 164 i = if i < (trun (ra A) p).1 then f i else 0) ∧ (x.2.1 162 8).toInt = -1 ∧ x.2.1 162 4 = 0 ∧ x.2.1 162 5 = 0 ∧ (∀ i : Nat, i < 96 → x.2.1 163 i = 0) ∧ x.2.1 162 27 = 0 ∧ (∀ i : Nat, i < 2 → x.2.1 190 i = 0))
theorem tb2 (n m : Nat) : Nat.testBit (2 ^ n) m = decide (n = m) := Nat.testBit_two_pow
theorem mRt_k {k i : Nat} (h0 : k < 193) (h1 : k ≠ 169) (h2 : ¬ (k = 162 ∧ (i = 17 ∨ i = 18))) : Nat.testBit mRt (sl k i) = false := by
  have e : mRt = 2 ^ 169 ||| (2 ^ 217 ||| 2 ^ 218) := by decide +kernel
  have s : ¬ 169 = sl k i ∧ ¬ 217 = sl k i ∧ ¬ 218 = sl k i := by
    unfold sl
    repeat' split
    all_goals omega
  rw [e, Nat.testBit_or, Nat.testBit_or, tb2, tb2, tb2, decide_eq_false s.1, decide_eq_false s.2.1, decide_eq_false s.2.2]
  rfl
theorem end_r {A B N : Mem} (hB : RB B) (hAB : ra A = rt B) (hf : ∀ k i, k ≠ 169 → ¬ (k = 162 ∧ (i = 10 ∨ i = 13 ∨ i = 15 ∨ i = 16 ∨ i = 17 ∨ i = 18)) → B.1 k i = A.1 k i) {v1 v2 : Int32} (fx : Fx mRt [] B N) (h : Bad (rt B) N ∨ (RE B v1 v2 N ∧ ∀ p : Nat, (N.1 162 17).toInt = (p : Int) → rt B p = -1)) {x} (e : j_Mod_town_198 v1 v2 N = some x) : RT2 A x := by
  unfold j_Mod_town_198 at e
  obtain ⟨x30, e30, e⟩ := bo e
  unfold RT2
  rw [hAB]
  rcases h with bad | ⟨⟨hw, p, W, Y, hp, up, kk, hv1, hv2, y6, w0, w6, hr, hk, n47⟩, hend⟩
  · rcases fine_i e30 with ⟨a, _⟩ | ⟨_, b⟩
    · rw [a, if_pos rfl] at e
      obtain rfl := Option.some.inj e
      obtain ⟨p, hp, up, nt⟩ := bad
      have lp := rt_len up hB
      exact .inl ⟨p, up, nt, sub_ti om hp (by omega) (by omega), fun k i h0 h1 h2 => by
        dsimp only
        rw [(fx k i (mRt_k h0 h1 (by omega)) (by simp)).1]; exact hf k i h1 h2⟩
    · exact absurd b (Bad_w bad)
  rcases fine_i e30 with ⟨_, b⟩ | ⟨a, _⟩
  · exact absurd hw b
  rw [a, if_neg (by decide)] at e
  have hend := hend p hp
  obtain ⟨M31, e31, e⟩ := mo e
  obtain ⟨M32, e32, e⟩ := mo e
  obtain ⟨x37, e37, e⟩ := bo e
  obtain ⟨M38, e38, e⟩ := mo e
  obtain ⟨M39, e39, e⟩ := mo e
  obtain ⟨M40, e40, e⟩ := mo e
  obtain ⟨x43, e43, e⟩ := bo e
  obtain ⟨M44, e44, e⟩ := mo e
  obtain ⟨x47, e47, e⟩ := bo e
  obtain rfl := Option.some.inj e
  have wy : W * Y ≤ 6 * 5 := Nat.mul_le_mul w6 (by omega)
  have pr : (W : Int) * ((Y + 1 : Nat) : Int) = ((W * Y + W : Nat) : Int) := by push_cast; rw [Int.mul_add]; omega
  have m1 : (v1 * v2).toInt = ((W * Y + W : Nat) : Int) := by
    have := mul_ti hv1 hv2 (by rw [pr]; omega) (by rw [pr]; omega)
    rw [this, pr]
  have t1 : (trun (rt B) p).1 = W * Y + W := by rw [hr]
  have f37 := it_r (I := fun s : Int32 × Mem => Fx (2 ^ 164) [] M32 s.2) (Q := fun r : Mem => Fx (2 ^ 164) [] M32 r) (fun s r hs er => wl_Mod_town_225 v1 v2 s (by decide +kernel) hs er) e37 Fx_r
  have f43 := it_r (I := fun s : Int32 × Mem => Fx (2 ^ 163) [] M40 s.2) (Q := fun r : Mem => Fx (2 ^ 163) [] M40 r) (fun s r hs er => wl_Mod_town_282 v1 v2 s (by decide +kernel) hs er) e43 Fx_r
  have f47 := it_r (I := fun s : Int32 × Mem => Fx (2 ^ 190) [] M44 s.2) (Q := fun r : Mem => Fx (2 ^ 190) [] M44 r) (fun s r hs er => wl_Mod_town_311 v1 v2 s (by decide +kernel) hs er) e47 Fx_r
  have g : ∀ i, i ≠ 4 → i ≠ 5 → i ≠ 8 → i ≠ 27 → i < 60 → x47.1 162 i = M32.1 162 i := by
    intro i h4 h5 h8 h27 h60
    have b : ∀ n, Nat.testBit (2 ^ 164) (200 + n) = false ∧ Nat.testBit (2 ^ 163) (200 + n) = false ∧ Nat.testBit (2 ^ 190) (200 + n) = false := fun n => by rw [tb2, tb2, tb2]; exact ⟨decide_eq_false (by omega), decide_eq_false (by omega), decide_eq_false (by omega)⟩
    rw [(f47 162 i (b i).2.2 (by simp)).1, e44, si_ne (by omega), (f43 162 i (b i).2.1 (by simp)).1, e40, si_ne (by omega), e39, si_ne (by omega), e38, si_ne (by omega), (f37 162 i (b i).1 (by simp)).1]
  refine .inr ⟨p, W, Y, up, ⟨by rw [hr]; exact y6, fun _ => ?_, fun h => absurd (.inr hend) h⟩, hend, y6, w0, w6, t1, by rw [hr], m1, ?_, ?_, ⟨N.1 169, kk, fun i hi => ?_⟩, ?_, ?_, ?_, fun i hi => ?_, ?_, z2_r M44 v1 v2 e47⟩
  · rw [hr]; dsimp only; split <;> omega
  · show (x47.1 162 2).toInt = _
    rw [g 2 (by omega) (by omega) (by omega) (by omega) (by omega), e32, si_ne (by omega), e31, si_eq]; exact hv1
  · show (x47.1 162 3).toInt = _
    rw [g 3 (by omega) (by omega) (by omega) (by omega) (by omega), e32, si_eq]; exact hv2
  · show x47.1 164 i = _
    rw [(f47 164 i (by rw [show sl 164 i = 164 from rfl]; decide +kernel) (by simp)).1, e44, si_ne (by omega), (f43 164 i (by rw [show sl 164 i = 164 from rfl]; decide +kernel) (by simp)).1, e40, si_ne (by omega), e39, si_ne (by omega), e38, si_ne (by omega), bec_r M32 v1 v2 e37 i hi, e32, si_ne (by omega), e31, si_ne (by omega), m1, t1]
    by_cases c : i < W * Y + W
    · rw [if_pos c, if_pos (by omega)]
    · rw [if_neg c, if_neg (by omega)]
  · show (x47.1 162 8).toInt = _
    rw [(f47 162 8 (by decide +kernel) (by simp)).1, e44, si_ne (by omega), (f43 162 8 (by decide +kernel) (by simp)).1, e40, si_eq]; rfl
  · show x47.1 162 4 = _
    rw [(f47 162 4 (by decide +kernel) (by simp)).1, e44, si_ne (by omega), (f43 162 4 (by decide +kernel) (by simp)).1, e40, si_ne (by omega), e39, si_ne (by omega), e38, si_eq]
  · show x47.1 162 5 = _
    rw [(f47 162 5 (by decide +kernel) (by simp)).1, e44, si_ne (by omega), (f43 162 5 (by decide +kernel) (by simp)).1, e40, si_ne (by omega), e39, si_eq]
  · show x47.1 163 i = _
    rw [(f47 163 i (by rw [show sl 163 i = 163 from rfl]; decide +kernel) (by simp)).1, e44, si_ne (by omega)]
    exact z96_r M40 v1 v2 e43 i hi
  · show x47.1 162 27 = _
    rw [(f47 162 27 (by decide +kernel) (by simp)).1, e44, si_eq]
theorem town_r {A : Mem} (hl : (A.1 162 10).toInt ≤ 80) (hb : ∀ p : Nat, (p : Int) < (A.1 162 10).toInt → -128 ≤ (A.1 167 p).toInt ∧ (A.1 167 p).toInt ≤ 127) {x} (e : f_Mod_town A = some x) : RT2 A x := by
  unfold f_Mod_town at e
  obtain ⟨M1, e1, ea⟩ := mo e
  obtain ⟨x2, e2, eb⟩ := bo ea
  obtain ⟨M3, e3, ec⟩ := mo eb
  obtain ⟨x29, e29, ed⟩ := bo ec
  unfold f_Mod_begin at e2
  obtain ⟨_, e2⟩ := io_n e2
  obtain ⟨N1, n1, e2⟩ := mo e2
  obtain ⟨N2, n2, e2⟩ := mo e2
  obtain ⟨N3, n3, e2⟩ := mo e2
  obtain ⟨N4, n4, e2⟩ := mo e2
  obtain ⟨N5, n5, e2⟩ := mo e2
  have e2 := Option.some.inj e2
  subst e2
  have q1 : N1.1 = M1.1 := by rw [n1]; rfl
  have hf : ∀ k i, k ≠ 169 → ¬ (k = 162 ∧ (i = 10 ∨ i = 13 ∨ i = 15 ∨ i = 16 ∨ i = 17 ∨ i = 18)) → M3.1 k i = A.1 k i := by
    intro k i _ h
    rw [e3, si_ne (by omega), n5, si_ne (by omega), n4, si_ne (by omega), n3, si_ne (by omega), n2, si_ne (by omega), q1, e1, si_ne (by omega)]
  have b15 : M3.1 162 15 = A.1 162 10 := by
    rw [e3, si_ne (by omega), n5, si_ne (by omega), n4, si_ne (by omega), n3, si_ne (by omega), n2, si_eq, e1, si_ne (by omega)]
  have b16 : (M3.1 162 16).toInt = 80 := by
    rw [e3, si_ne (by omega), n5, si_ne (by omega), n4, si_ne (by omega), n3, si_eq]; rfl
  have b17 : (M3.1 162 17).toInt = 0 := by
    rw [e3, si_ne (by omega), n5, si_ne (by omega), n4, si_eq]; rfl
  have b18 : (M3.1 162 18).toInt = -1 := by
    rw [e3, si_ne (by omega), n5, si_eq]; rfl
  have b14 : M3.2.2 162 14 = some 167 := by
    rw [e3]; show N5.2.2 162 14 = _
    rw [n5]; show N4.2.2 162 14 = _
    rw [n4]; show N3.2.2 162 14 = _
    rw [n3]; show N2.2.2 162 14 = _
    rw [n2]; show N1.2.2 162 14 = _
    rw [n1]; simp [s_q]
  have h167 : ∀ i, M3.1 167 i = A.1 167 i := fun i => hf 167 i (by omega) (by omega)
  have hB : RB M3 := ⟨b14, by rw [b15]; exact hl, b16, fun p hp => by rw [h167]; exact hb p (by rw [← b15]; exact hp)⟩
  have hAB : ra A = rt M3 := by
    funext p
    unfold ra rt
    rw [b15, h167]
  obtain ⟨fx, hz⟩ := rd_r30 hB b17 b18 e29
  unfold j_Mod_town_179 at ed
  have c15 : x29.2.2.1 162 15 = M3.1 162 15 := (fx 162 15 (by decide +kernel) (by simp)).1
  rcases io ed with ⟨c, e⟩ | ⟨c, e⟩
  · refine end_r hB hAB hf fx ?_ e
    rcases hz with h | h
    · exact .inl h
    · refine .inr ⟨h, fun p hp => ?_⟩
      have := q_le c
      rw [c15] at this
      unfold rt
      rw [if_neg (by omega)]
  · obtain ⟨x49, e49, e⟩ := bo e
    have c1 := q_ng c
    rw [c15] at c1
    refine end_r hB hAB hf (wf_Mod_fault _ _ (by decide +kernel) fx e49) (.inl ?_) e
    rcases hz with h | ⟨hw, p, W, Y, hp, up, kk, hv1, hv2, y6, w0, w6, hr, hk, n47⟩
    · exact Bad_fault e49 h
    · refine Bad_new hp e49 hw up (fun ok => ?_)
      have r0 : 0 ≤ rt M3 p := by
        unfold rt
        rw [if_pos (by omega)]
        omega
      exact (ok.2.2 (by omega)).1 hk
end
section
/-! signs on both sides -/
theorem o3 : (3 : Int32).toInt = 3 := rfl
theorem o2 : (2 : Int32).toInt = 2 := rfl
theorem o0 : (0 : Int32).toInt = 0 := rfl
theorem ti_c (x : Int32) : x.toInt = if 2 * x.toBitVec.toNat < 4294967296 then (x.toBitVec.toNat : Int) else (x.toBitVec.toNat : Int) - 4294967296 := by
  show x.toBitVec.toInt = _
  rw [BitVec.toInt_eq_toNat_cond]
  rfl
theorem and255 (x : Int32) : (x &&& (255 : Int32)).toInt = x.toInt % 256 := by
  have e : (x &&& (255 : Int32)).toBitVec.toNat = x.toBitVec.toNat % 256 := by
    rw [Int32.toBitVec_and, BitVec.toNat_and]
    exact Nat.and_two_pow_sub_one_eq_mod _ 8
  rw [ti_c, e, ti_c x]
  have := x.toBitVec.isLt
  split <;> split <;> omega
theorem narb (x : Int32) : vp_nar .byte x = x.toInt8.toInt32 := rfl
theorem byte256 (x : Int32) : (vp_nar .byte x.toInt8.toInt32).toInt % 256 = x.toInt % 256 ∧ -128 ≤ (vp_nar .byte x.toInt8.toInt32).toInt ∧ (vp_nar .byte x.toInt8.toInt32).toInt ≤ 127 := by
  rw [narb, Int8.toInt_toInt32, Int32.toInt_toInt8, Int8.toInt_toInt32, Int32.toInt_toInt8]
  have h1 := @Int.le_bmod ((x.toInt.bmod (2 ^ 8))) (2 ^ 8) (by decide)
  have h2 := @Int.bmod_lt ((x.toInt.bmod (2 ^ 8))) (2 ^ 8) (by decide)
  refine ⟨?_, by omega, by omega⟩
  rw [show ((256 : Int)) = ((2 ^ 8 : Nat) : Int) from rfl, Int.bmod_emod, Int.bmod_emod]
def sh (j : Nat) : Int32 := ((24 : Int32) - ((8 : Int32) * Int32.ofNat j)) &&& 31
theorem sh_r : ∀ j : Fin 4, (((8 : Int32) * ((3 : Int32) - Int32.ofNat j.val)) &&& 31) = sh j.val := by decide +kernel
theorem ofn_eq {v : Int32} {j : Nat} (h : v.toInt = (j : Int)) (hj : j ≤ 2147483647) : v = Int32.ofNat j := Int32.toInt_inj.mp (by rw [h, ofn_ti hj])
theorem sg_c {v : Int32} {M : Mem} {t : Nat} (ht : (M.1 1 1).toInt = (t : Int)) (h76 : t ≤ 76) {x} (e : iter (lb_Signs_add_20 v) FU ((0 : Int32), M) = some x) : ∀ i, x.1 2 i = if t ≤ i ∧ i < t + 4 then (v >>> sh (i - t)) &&& (255 : Int32) else M.1 2 i := by
  refine it_r (I := fun s : Int32 × Mem => ∃ j : Nat, s.1.toInt = (j : Int) ∧ j ≤ 4 ∧ (s.2.1 1 1).toInt = ((t + j : Nat) : Int) ∧ ∀ i, s.2.1 2 i = if t ≤ i ∧ i < t + j then (v >>> sh (i - t)) &&& (255 : Int32) else M.1 2 i) (Q := fun x => ∀ i, x.1 2 i = if t ≤ i ∧ i < t + 4 then (v >>> sh (i - t)) &&& (255 : Int32) else M.1 2 i) ?_ e ⟨0, rfl, by omega, ht, fun i => by rw [if_neg (by omega)]⟩
  rintro ⟨k, N⟩ r ⟨j, hj, lj, hl, hk⟩ e
  unfold lb_Signs_add_20 at e
  dsimp only at e hj hl hk
  have z4 : (4 : Int32).toInt = 4 := rfl
  rcases io e with ⟨c, e⟩ | ⟨c, e⟩
  · have := q_le c
    obtain rfl := Option.some.inj e
    have : j = 4 := by omega
    subst this
    exact hk
  have c1 := q_ng c
  obtain ⟨_, e⟩ := io_n e
  obtain ⟨M1, e1, e⟩ := mo e
  obtain ⟨M2, e2, e⟩ := mo e
  obtain rfl := Option.some.inj e
  have h11 : (M1.1 1 1).toInt = ((t + j : Nat) : Int) := by rw [e1, si_ne (by omega)]; exact hl
  refine ⟨j + 1, add_ti hj o1 (by omega) (by omega), by omega, ?_, fun i => ?_⟩
  · show (M2.1 1 1).toInt = _
    rw [e2, si_eq]; exact add_ti h11 o1 (by omega) (by omega)
  · show M2.1 2 i = _
    rw [e2, si_ne (by omega), e1, q_nat hl]
    by_cases c : i = t + j
    · subst c
      rw [si_eq, if_pos (by omega), ofn_eq hj (by omega)]
      rw [show t + j - t = j by omega]; rfl
    · rw [si_ne (by omega), hk i]
      by_cases d : t ≤ i ∧ i < t + j
      · rw [if_pos d, if_pos (by omega)]
      · rw [if_neg d, if_neg (by omega)]
theorem sg_r {v : Int32} {M : Mem} {t : Nat} (ht : (M.1 162 10).toInt = (t : Int)) (h76 : t ≤ 76) {x} (e : iter (lb_Mod_sign_20 v) FU ((3 : Int32), M) = some x) : ∀ i, x.1 167 i = if t ≤ i ∧ i < t + 4 then vp_nar .byte ((v >>> sh (i - t)).toInt8.toInt32) else M.1 167 i := by
  refine it_r (I := fun s : Int32 × Mem => ∃ j : Nat, s.1 = (3 : Int32) - Int32.ofNat j ∧ j ≤ 4 ∧ (s.2.1 162 10).toInt = ((t + j : Nat) : Int) ∧ ∀ i, s.2.1 167 i = if t ≤ i ∧ i < t + j then vp_nar .byte ((v >>> sh (i - t)).toInt8.toInt32) else M.1 167 i) (Q := fun x => ∀ i, x.1 167 i = if t ≤ i ∧ i < t + 4 then vp_nar .byte ((v >>> sh (i - t)).toInt8.toInt32) else M.1 167 i) ?_ e ⟨0, rfl, by omega, ht, fun i => by rw [if_neg (by omega)]⟩
  rintro ⟨k, N⟩ r ⟨j, hj, lj, hl, hk⟩ e
  unfold lb_Mod_sign_20 at e
  dsimp only at e hj hl hk
  have z0 : (0 : Int32).toInt = 0 := rfl
  have kt : k.toInt = 3 - (j : Int) := by rw [hj]; exact sub_ti o3 (ofn_ti (by omega)) (by omega) (by omega)
  rcases io e with ⟨c, e⟩ | ⟨c, e⟩
  · have := q_lt c
    obtain rfl := Option.some.inj e
    have : j = 4 := by omega
    subst this
    exact hk
  have c1 := q_nl c
  obtain ⟨M1, e1, e⟩ := mo e
  obtain ⟨_, e⟩ := io_n e
  obtain ⟨M2, e2, e⟩ := mo e
  obtain rfl := Option.some.inj e
  refine ⟨j + 1, ?_, by omega, ?_, fun i => ?_⟩
  · show k + (-1 : Int32) = _
    refine Int32.toInt_inj.mp ?_
    rw [show ((3 : Int32) - Int32.ofNat (j + 1)).toInt = 3 - ((j + 1 : Nat) : Int) from sub_ti o3 (ofn_ti (by omega)) (by omega) (by omega)]
    rw [add_ti kt om (by omega) (by omega)]
    omega
  · show (M2.1 162 10).toInt = _
    rw [e2, si_ne (by omega), e1, si_eq]; exact add_ti hl o1 (by omega) (by omega)
  · show M2.1 167 i = _
    rw [e2, q_nat hl]
    by_cases c : i = t + j
    · subst c
      rw [si_eq, if_pos (by omega), hj, sh_r ⟨j, by omega⟩]
      rw [show t + j - t = j by omega]
    · rw [si_ne (by omega), e1, si_ne (by omega), hk i]
      by_cases d : t ≤ i ∧ i < t + j
      · rw [if_pos d, if_pos (by omega)]
      · rw [if_neg d, if_neg (by omega)]
/-- THE TEXT: both sides hold the same signs -/
def TB (M : Mem) : Prop := TX M ∧ ∀ p : Nat, (p : Int) < (M.1 162 10).toInt → -128 ≤ (M.1 167 p).toInt ∧ (M.1 167 p).toInt ≤ 127
theorem TB_le {M N : Mem} (h : TB M) (a : ∀ i, N.1 2 i = M.1 2 i) (b : ∀ i, N.1 167 i = M.1 167 i) (c : (N.1 162 10).toInt ≤ (M.1 162 10).toInt) : TB N := by
  refine ⟨fun i hi => ?_, fun i hi => ?_⟩
  · rw [a, b]; exact h.1 i (by omega)
  · rw [b]; exact h.2 i (by omega)
theorem TB_sign {n : Int} {M : Mem} {v : Int32} (h : Inv n M) (t : TB M) {x} (ex : f_Top_sign v M = some x) {r} (er : f_Mod_sign v x.2 = some r) (hg : ∀ k i, 162 ≤ k → x.2.1 k i = M.1 k i) (hg2 : ∀ k i, k < 162 → r.2.1 k i = x.2.1 k i) (hty : (M.1 162 10).toInt ≤ 76 → (r.2.1 162 10).toInt = (M.1 162 10).toInt + 4) : TB r.2 := by
  have l1 := Jr_1_1 h.1.1
  have l2 := h.2
  obtain ⟨q, hq⟩ : ∃ q : Nat, (M.1 162 10).toInt = (q : Int) := ⟨(M.1 162 10).toInt.toNat, by have := Jr_162_10 h.1.1; omega⟩
  have hq1 : (M.1 1 1).toInt = (q : Int) := by rw [l2]; exact hq
  have z76 : (76 : Int32).toInt = 76 := rfl
  have z80 : (80 : Int32).toInt = 80 := rfl
  have z0 : (0 : Int32).toInt = 0 := rfl
  have xq : (x.2.1 162 10).toInt = (q : Int) := by rw [hg 162 10 (by decide)]; exact hq
  unfold f_Top_sign at ex
  obtain ⟨x1, e1, ex⟩ := bo ex
  have hx2 : x.2 = x1.2 := by
    rcases io ex with ⟨_, ex⟩ | ⟨_, ex⟩ <;> (obtain rfl := Option.some.inj ex; rfl)
  unfold f_Mod_sign at er
  obtain ⟨N1, n1, er⟩ := mo er
  have n10 : (N1.1 162 10).toInt = (q : Int) := by rw [n1, si_ne (by omega)]; exact xq
  have n167 : ∀ i, N1.1 167 i = M.1 167 i := fun i => by rw [n1, si_ne (by omega)]; exact hg 167 i (by decide)
  have n4 : ((N1.1 162 10) + (4 : Int32)).toInt = (q : Int) + 4 := add_ti n10 o4 (by omega) (by omega)
  unfold f_Signs_add at e1
  rcases io e1 with ⟨c, e1⟩ | ⟨c, e1⟩
  · have := q_lt c; omega
  rcases io e1 with ⟨c, e1⟩ | ⟨c, e1⟩
  · have c1 := q_le c
    obtain ⟨x4, e4, e1⟩ := bo e1
    obtain rfl := Option.some.inj e1
    rcases io er with ⟨_, er⟩ | ⟨c, er⟩
    · obtain ⟨x5, e5, er⟩ := bo er
      obtain rfl := Option.some.inj er
      have sc := sg_c hq1 (by omega) e4
      have sr := sg_r n10 (by omega) e5
      have r2 : ∀ i, x5.1 2 i = x4.1 2 i := fun i => by rw [hg2 2 i (by decide), hx2]
      have typ : (x5.1 162 10).toInt = (q : Int) + 4 := by have := hty (by omega); rw [hq] at this; exact this
      refine ⟨fun i hi => ?_, fun i hi => ?_⟩
      · show (x5.1 2 i).toInt = (x5.1 167 i).toInt % 256
        rw [r2, sc, sr]
        by_cases d : q ≤ i ∧ i < q + 4
        · rw [if_pos d, if_pos d, and255, (byte256 _).1]
        · rw [if_neg d, if_neg d, n167]
          exact t.1 i (by show (i : Int) < _; have : (i : Int) < (x5.1 162 10).toInt := hi; omega)
      · show -128 ≤ (x5.1 167 i).toInt ∧ (x5.1 167 i).toInt ≤ 127
        rw [sr]
        by_cases d : q ≤ i ∧ i < q + 4
        · rw [if_pos d]; exact (byte256 _).2
        · rw [if_neg d, n167]
          exact t.2 i (by have : (i : Int) < (x5.1 162 10).toInt := hi; omega)
    · have := q_ng c; omega
  · have c1 := q_ng c
    obtain rfl := Option.some.inj e1
    rcases io er with ⟨c, er⟩ | ⟨_, er⟩
    · have := q_le c; omega
    · obtain rfl := Option.some.inj er
      refine TB_le t (fun i => ?_) n167 ?_
      · show N1.1 2 i = _
        rw [n1, si_ne (by omega), hx2]
      · show (N1.1 162 10).toInt ≤ _
        omega
end
section
/-! what both sides share: text, size, fire -/
def RL (M : Mem) : Prop := TB M ∧ (M.1 3 3).toInt = (M.1 162 2).toInt * (M.1 162 3).toInt ∧ M.1 0 16 = M.1 162 8
def IV (n : Int) (M : Mem) : Prop := Inv n M ∧ RL M
def mK : Nat := 2582249878086908589655919171986588271770508998758684169467428085721308561626854759412570509258083594120000965339917582331
theorem RL_keep {M x r : Mem} (h : RL M) (fx : Fx mK [] M x) (fr : Fx mK [] x r) (c : (r.1 162 10).toInt ≤ (M.1 162 10).toInt) : RL r := by
  have f : ∀ k i, Nat.testBit mK (sl k i) = false → r.1 k i = M.1 k i := fun k i b => (fr k i b (by simp)).1.trans (fx k i b (by simp)).1
  refine ⟨TB_le h.1 (fun i => f 2 i (by rw [show sl 2 i = 2 from rfl]; decide +kernel)) (fun i => f 167 i (by rw [show sl 167 i = 167 from rfl]; decide +kernel)) c, ?_, ?_⟩
  · rw [f 3 3 (by decide +kernel), f 162 2 (by decide +kernel), f 162 3 (by decide +kernel)]; exact h.2.1
  · rw [f 0 16 (by decide +kernel), f 162 8 (by decide +kernel)]; exact h.2.2
theorem ct_ra {M N : Mem} (t : TX M) (l : M.1 1 1 = M.1 162 10) (g : ∀ k i, 162 ≤ k → N.1 k i = M.1 k i) : ct M = ra N := by
  funext p
  unfold ct ra
  rw [l, g 162 10 (by decide), g 167 p (by decide)]
  by_cases c : (p : Int) < (M.1 162 10).toInt
  · rw [if_pos c, if_pos c]; exact t p c
  · rw [if_neg c, if_neg c]
theorem tup_e {t : Nat → Int} {p q : Nat} (hp : tup t p) (hq : tup t q) (ep : t p = -1) (eq : t q = -1) : p = q := by
  rcases Nat.lt_trichotomy p q with c | c | c
  · exact absurd ep (hq p c).2
  · exact c
  · exact absurd eq (hp q c).2
theorem tup_m {t : Nat → Int} {p q : Nat} (hp : tup t p) (hq : tup t q) (np : ¬ tok (t p) (trun t p)) (oq : tok (t q) (trun t q)) (eq : t q = -1) : False := by
  rcases Nat.lt_trichotomy p q with c | c | c
  · exact np (hq p c).1
  · subst c; exact np oq
  · exact (hp q c).2 eq
theorem tw_town {n : Int} {M : Mem} (h : IV n M) : ∃ x, f_Top_town M = some x ∧ ∃ r, f_Mod_town x.2 = some r ∧ x.1 = r.1 ∧ IV (n + 1) r.2 := by
  obtain ⟨x, ex, q1, q2, q3, q4, q5⟩ := sf_Top_town M h.1.1.1
  obtain ⟨r, er, o⟩ := mr_town (RI_Gc h.1.1 q1 q2)
  have g : ∀ k i, 162 ≤ k → x.2.1 k i = M.1 k i := fun k i w => q2 k i (.inl w)
  have l1 := Jr_1_1 h.1.1.1
  have l2 := Jr_162_10 h.1.1.1
  have c := town_c l1.2 ex
  have d := town_r (A := x.2) (by rw [g 162 10 (by decide)]; exact l2.2) (fun p hp => by rw [g 167 p (by decide)]; rw [g 162 10 (by decide)] at hp; exact h.2.1.2 p hp) er
  rw [show CT M x = CT M x from rfl] at c
  unfold CT at c
  unfold RT2 at d
  rw [← ct_ra h.2.1.1 h.1.2 g] at d
  have f : ∀ k i, k < 162 → r.2.1 k i = x.2.1 k i := o.2.1
  have z10 : r.2.1 162 10 = 0 := o.2.2
  have tb : TB r.2 := ⟨fun i hi => by rw [z10] at hi; have : (0 : Int32).toInt = 0 := rfl; omega, fun i hi => by rw [z10] at hi; have : (0 : Int32).toInt = 0 := rfl; omega⟩
  refine ⟨x, ex, r, er, ?_⟩
  rcases c with ⟨p, up, nt, a, c1, c2, c3, c4⟩ | ⟨p, up, ok, tm, a, c1, c2, ⟨fc, k1, k2⟩, c4⟩
  · rcases d with ⟨p', up', nt', a', d1⟩ | ⟨p', W, Y, up', ok', tm', _⟩
    · have e := tup_u up up' nt nt'
      subst e
      refine ⟨Int32.toInt_inj.mp (a.trans a'.symm), fin1 q5 o, tb, ?_, ?_⟩
      · rw [f 3 3 (by decide), c2, d1 162 2 (by decide) (by decide) (by decide), d1 162 3 (by decide) (by decide) (by decide), g 162 2 (by decide), g 162 3 (by decide)]; exact h.2.2.1
      · rw [f 0 16 (by decide), c4, d1 162 8 (by decide) (by decide) (by decide), g 162 8 (by decide)]; exact h.2.2.2
    · exact (tup_m up up' nt ok' tm').elim
  · rcases d with ⟨p', up', nt', _⟩ | ⟨p', W, Y, up', ok', tm', y6, w0, w6, t1, t2, a', d1, d2, ⟨fr, k3, k4⟩, d3, _⟩
    · exact (tup_m up' up nt' ok tm).elim
    · have e := tup_e up up' tm tm'
      subst e
      refine ⟨Int32.toInt_inj.mp (a.trans (by rw [a', t1])), fin1 q5 o, tb, ?_, ?_⟩
      · rw [f 3 3 (by decide), c2, d1, d2, t1]; push_cast; rw [Int.mul_add]; omega
      · rw [f 0 16 (by decide)]; exact Int32.toInt_inj.mp (c4.trans d3.symm)
theorem has_i {v : Int32} {M : Mem} {x : Int32} (h36 : (M.1 3 3).toInt ≤ 36) (e : f_Ground_has v M = some x) : (x = 1 ∧ 0 ≤ v.toInt ∧ v.toInt < (M.1 3 3).toInt) ∨ (x = 0 ∧ ¬ (0 ≤ v.toInt ∧ v.toInt < (M.1 3 3).toInt)) := by
  have z0 : (0 : Int32).toInt = 0 := rfl
  have z36 : (36 : Int32).toInt = 36 := rfl
  unfold f_Ground_has at e
  rcases io e with ⟨c, e⟩ | ⟨c, e⟩
  · obtain rfl := Option.some.inj e; have := q_lt c; exact .inr ⟨rfl, by omega⟩
  have c1 := q_nl c
  rcases io e with ⟨c, e⟩ | ⟨c, e⟩
  · obtain rfl := Option.some.inj e; have := q_le c; exact .inr ⟨rfl, by omega⟩
  have c2 := q_ng c
  rcases io e with ⟨c, e⟩ | ⟨c, e⟩
  · have := q_le c; omega
  · obtain rfl := Option.some.inj e; exact .inl ⟨rfl, by omega, c2⟩
theorem wh_b {M : Mem} (h : J M) : 1 ≤ (M.1 162 2).toInt * (M.1 162 3).toInt ∧ (M.1 162 2).toInt * (M.1 162 3).toInt ≤ 36 := by
  have a := Jr_162_2 h
  have b := Jr_162_3 h
  have l := Int.mul_le_mul a.2 b.2 (by omega) (by omega)
  have u := Int.mul_le_mul a.1 b.1 (by omega) (by omega)
  omega
theorem cells_i {M : Mem} (h : J M) : ((M.1 162 2) * (M.1 162 3)).toInt = (M.1 162 2).toInt * (M.1 162 3).toInt := by
  have := wh_b h
  exact mul_ti rfl rfl (by omega) (by omega)
theorem isCell_i {v : Int32} {M : Mem} {x : Int32} (h : J M) (e : f_Mod_isCell v M = some x) : (x = 1 ∧ 0 ≤ v.toInt ∧ v.toInt < (M.1 162 2).toInt * (M.1 162 3).toInt) ∨ (x = 0 ∧ ¬ (0 ≤ v.toInt ∧ v.toInt < (M.1 162 2).toInt * (M.1 162 3).toInt)) := by
  unfold f_Mod_isCell f_Mod_cells at e
  obtain ⟨x1, e1, e⟩ := bo e
  obtain rfl := Option.some.inj e1
  obtain ⟨x2, e2, e⟩ := bo e
  obtain ⟨_, e⟩ := io_n e
  obtain rfl := Option.some.inj e
  obtain ⟨r, er, h2⟩ := sp_in v 0 (((M.1 162 2) * (M.1 162 3)) - (1 : Int32))
  rw [er] at e2
  obtain rfl := Option.some.inj e2
  have b := wh_b h
  have ec := cells_i h
  have es : (((M.1 162 2) * (M.1 162 3)) - (1 : Int32)).toInt = (M.1 162 2).toInt * (M.1 162 3).toInt - 1 := sub_ti ec rfl (by omega) (by omega)
  have z0 : (0 : Int32).toInt = 0 := rfl
  rcases h2 with ⟨a, b, c⟩ | ⟨a, b⟩
  · exact .inl ⟨a, by omega, by omega⟩
  · exact .inr ⟨a, by omega⟩
theorem tw_fire {n : Int} {M : Mem} (h : IV n M) (v : Int32) : ∃ x, f_Top_fire v M = some x ∧ ∃ r, f_Mod_fire v x.2 = some r ∧ x.1 = r.1 ∧ IV (n + 1) r.2 := by
  obtain ⟨x, ex, q1, q2⟩ := sf_Top_fire v M h.1.1.1
  obtain ⟨r, er, o⟩ := mr_fire (RI_Gc h.1.1 q1 q2) v
  have g : ∀ k i, 162 ≤ k → x.2.1 k i = M.1 k i := fun k i w => q2 k i (.inl w)
  have f : ∀ k i, k < 162 → r.2.1 k i = x.2.1 k i := o.2.1
  have iv : Inv (n + 1) r.2 := fin0 h.1 q2 o
  have hs := h.2.2.1
  have c : (x.1 = (-2 : Int32) ∧ x.2 = M ∧ ¬ v = -1 ∧ ¬ (0 ≤ v.toInt ∧ v.toInt < (M.1 3 3).toInt)) ∨ (x.1 = M.1 0 16 ∧ x.2 = s_i M 0 16 v ∧ (v = -1 ∨ (0 ≤ v.toInt ∧ v.toInt < (M.1 3 3).toInt))) := by
    unfold f_Top_fire j_Top_fire_19 at ex
    rcases io ex with ⟨c, e⟩ | ⟨c, e⟩
    · obtain ⟨M1, e1, e⟩ := mo e
      obtain rfl := Option.some.inj e
      exact .inr ⟨rfl, e1, .inl c⟩
    · obtain ⟨x2, e2, e⟩ := bo e
      rcases has_i (Jr_3_3 h.1.1.1).2 e2 with ⟨a, b⟩ | ⟨a, b⟩
      · rw [a, if_neg (by decide)] at e
        obtain ⟨M1, e1, e⟩ := mo e
        obtain rfl := Option.some.inj e
        exact .inr ⟨rfl, e1, .inr b⟩
      · rw [a, if_pos rfl] at e
        obtain rfl := Option.some.inj e
        exact .inl ⟨rfl, rfl, c, b⟩
  have d : (r.1 = (-2 : Int32) ∧ r.2 = s_i x.2 162 13 0 ∧ ¬ v = -1 ∧ ¬ (0 ≤ v.toInt ∧ v.toInt < (M.1 3 3).toInt)) ∨ (r.1 = M.1 162 8 ∧ r.2 = s_i (s_i x.2 162 13 0) 162 8 v ∧ (v = -1 ∨ (0 ≤ v.toInt ∧ v.toInt < (M.1 3 3).toInt))) := by
    unfold f_Mod_fire j_Mod_fire_21 at er
    obtain ⟨N1, n1, e⟩ := mo er
    have n8 : N1.1 162 8 = M.1 162 8 := by rw [n1, si_ne (by omega)]; exact g 162 8 (by decide)
    have j1 : J N1 := by rw [n1]; exact Jw_fld okf_162_13 q1 _
    have n2 : (N1.1 162 2).toInt * (N1.1 162 3).toInt = (M.1 3 3).toInt := by
      rw [n1, si_ne (by omega), si_ne (by omega), g 162 2 (by decide), g 162 3 (by decide)]; exact hs.symm
    rcases io e with ⟨c, e⟩ | ⟨c, e⟩
    · obtain ⟨M1, e1, e⟩ := mo e
      obtain rfl := Option.some.inj e
      exact .inr ⟨n8, by rw [e1, n1], .inl c⟩
    · obtain ⟨x2, e2, e⟩ := bo e
      have := isCell_i j1 e2
      rw [n2] at this
      rcases this with ⟨a, b⟩ | ⟨a, b⟩
      · rw [a, if_neg (by decide)] at e
        obtain ⟨M1, e1, e⟩ := mo e
        obtain rfl := Option.some.inj e
        exact .inr ⟨n8, by rw [e1, n1], .inr b⟩
      · rw [a, if_pos rfl] at e
        obtain rfl := Option.some.inj e
        exact .inl ⟨rfl, n1, c, b⟩
  refine ⟨x, ex, r, er, ?_⟩
  rcases c with ⟨a1, a2, a3, a4⟩ | ⟨a1, a2, a3⟩ <;> rcases d with ⟨b1, b2, b3, b4⟩ | ⟨b1, b2, b3⟩
  · refine ⟨a1.trans b1.symm, iv, TB_le h.2.1 (fun i => ?_) (fun i => ?_) ?_, ?_, ?_⟩
    · rw [b2, si_ne (by omega), a2]
    · rw [b2, si_ne (by omega), a2]
    · rw [b2, si_ne (by omega), a2]; exact Int.le_refl _
    · rw [b2, si_ne (by omega), si_ne (by omega), si_ne (by omega), a2]; exact hs
    · rw [b2, si_ne (by omega), si_ne (by omega), a2]; exact h.2.2.2
  · exact absurd b3 (fun h => h.elim a3 a4)
  · exact absurd a3 (fun h => h.elim b3 b4)
  · refine ⟨a1.trans (h.2.2.2.trans b1.symm), iv, TB_le h.2.1 (fun i => ?_) (fun i => ?_) ?_, ?_, ?_⟩
    · rw [b2, si_ne (by omega), si_ne (by omega), a2, si_ne (by omega)]
    · rw [b2, si_ne (by omega), si_ne (by omega), a2, si_ne (by omega)]
    · rw [b2, si_ne (by omega), si_ne (by omega), a2, si_ne (by omega)]; exact Int.le_refl _
    · rw [b2, si_ne (by omega), si_ne (by omega), a2, si_ne (by omega), si_ne (by omega), si_ne (by omega), si_ne (by omega), si_ne (by omega), si_ne (by omega), si_ne (by omega)]; exact hs
    · rw [b2, si_ne (by omega), si_ne (by omega), a2, si_eq, si_eq]
theorem tw_sign {n : Int} {M : Mem} (h : IV n M) (v : Int32) : ∃ x, f_Top_sign v M = some x ∧ ∃ r, f_Mod_sign v x.2 = some r ∧ x.1 = r.1 ∧ IV (n + 1) r.2 := by
  obtain ⟨x, ex, r, er, eq, iv⟩ := two_sign h.1 v
  obtain ⟨x', ex', a1, a2, a3⟩ := ct_sign h.1.1.1 v
  rw [ex] at ex'
  obtain rfl := Option.some.inj ex'
  obtain ⟨r', er', b1, b2, b3⟩ := mr_sign (RI_ge h.1.1 a1 a2) v
  rw [er] at er'
  obtain rfl := Option.some.inj er'
  have e10 : x.2.1 162 10 = M.1 162 10 := a2 162 10 (by decide)
  refine ⟨x, ex, r, er, eq, iv, TB_sign h.1 h.2.1 ex er a2 b2 (fun hc => ?_), ?_, ?_⟩
  · rw [e10] at b3
    rcases b3 with b3 | b3
    · exact b3.2.1
    · omega
  · have fx := wf_Top_sign v M (C := mK ||| (2 ^ 2 ||| 2 ^ 167)) (L := []) (by decide +kernel) Fx_r ex
    have fr := wf_Mod_sign v x.2 (C := mK ||| (2 ^ 2 ||| 2 ^ 167)) (L := []) (by decide +kernel) Fx_r er
    have f : ∀ k i, Nat.testBit (mK ||| (2 ^ 2 ||| 2 ^ 167)) (sl k i) = false → r.2.1 k i = M.1 k i := fun k i b => (fr k i b (by simp)).1.trans (fx k i b (by simp)).1
    rw [f 3 3 (by decide +kernel), f 162 2 (by decide +kernel), f 162 3 (by decide +kernel)]; exact h.2.2.1
  · have fx := wf_Top_sign v M (C := mK ||| (2 ^ 2 ||| 2 ^ 167)) (L := []) (by decide +kernel) Fx_r ex
    have fr := wf_Mod_sign v x.2 (C := mK ||| (2 ^ 2 ||| 2 ^ 167)) (L := []) (by decide +kernel) Fx_r er
    have f : ∀ k i, Nat.testBit (mK ||| (2 ^ 2 ||| 2 ^ 167)) (sl k i) = false → r.2.1 k i = M.1 k i := fun k i b => (fr k i b (by simp)).1.trans (fx k i b (by simp)).1
    rw [f 0 16 (by decide +kernel), f 162 8 (by decide +kernel)]; exact h.2.2.2
theorem tw_end {n : Int} {M : Mem} (h : IV n M) (v : Int32) : ∃ x, f_Top_end v M = some x ∧ ∃ r, f_Mod_end v x.2 = some r ∧ x.1 = r.1 ∧ IV (n + 1) r.2 := by
  obtain ⟨x, ex, r, er, eq, iv⟩ := two_end h.1 v
  obtain ⟨x', ex', a1, a2, a3⟩ := ct_end h.1.1.1 v
  rw [ex] at ex'
  obtain rfl := Option.some.inj ex'
  obtain ⟨r', er', b1, b2, b3⟩ := mr_end (RI_ge h.1.1 a1 a2) v
  rw [er] at er'
  obtain rfl := Option.some.inj er'
  have e10 : x.2.1 162 10 = M.1 162 10 := a2 162 10 (by decide)
  refine ⟨x, ex, r, er, eq, iv, RL_keep h.2 (wf_Top_end v M (by decide +kernel) Fx_r ex) (wf_Mod_end v x.2 (by decide +kernel) Fx_r er) ?_⟩
  rw [e10] at b3
  rcases b3 with ⟨b3, b4, _⟩ | ⟨_, b4, _⟩
  · rw [b4]; exact b3.2
  · rw [b4]; exact Int.le_refl _
theorem IV_0 (h : Inv 0 M0) : IV 0 M0 := by
  have z : (M0.1 162 10).toInt = 0 := by decide +kernel
  exact ⟨h, ⟨fun i hi => by omega, fun i hi => by omega⟩, by decide +kernel, by decide +kernel⟩
end
section
/-! keep -/
theorem vt_keep {v : Int32} {M : Mem} {x : Int32 × Mem} (e : f_Top_keep v M = some x) : x.1 = if 0 ≤ v.toInt ∧ v.toInt ≤ 1 then 1 else 0 := by
  unfold f_Top_keep at e
  obtain ⟨y, e1, e2⟩ := Option.bind_eq_some_iff.mp e
  have ey : y.1 = x.1 := by
    by_cases c : y.1 = 0 ∨ y.1 = 1
    · rw [if_pos c] at e2; exact congrArg (fun z => z.1) (Option.some.inj e2)
    · rw [if_neg c] at e2; cases e2
  rw [← ey]
  unfold f_History_store at e1
  by_cases c0 : kd 11 = 10 + 7
  · rw [if_pos c0] at e1
    by_cases c1 : v < 0
    · rw [if_pos c1] at e1
      have c1' := Int32.lt_iff_toInt_lt.mp c1; have z0 : (0 : Int32).toInt = 0 := rfl
      rw [if_neg (by omega), ← Option.some.inj e1]
    · rw [if_neg c1] at e1
      have c1' := mt Int32.lt_iff_toInt_lt.mpr c1; have z0 : (0 : Int32).toInt = 0 := rfl
      by_cases c2 : v < (2 : Int32)
      · rw [if_pos c2] at e1
        have c2' := Int32.lt_iff_toInt_lt.mp c2; have z2 : (2 : Int32).toInt = 2 := rfl
        rw [if_pos (by omega)]
        by_cases c3 : inb v 2 = true
        · rw [if_pos c3] at e1
          obtain ⟨z, _, e3⟩ := Option.bind_eq_some_iff.mp e1
          by_cases c4 : kd z = 10 + 7
          · rw [if_pos c4] at e3
            obtain ⟨w, _, e4⟩ := Option.bind_eq_some_iff.mp e3
            exact (congrArg (fun z => z.1) (Option.some.inj e4)).symm
          · rw [if_neg c4] at e3; cases e3
        · rw [if_neg c3] at e1; cases e1
      · rw [if_neg c2] at e1
        have c2' := mt Int32.lt_iff_toInt_lt.mpr c2; have z2 : (2 : Int32).toInt = 2 := rfl
        rw [if_neg (by omega), ← Option.some.inj e1]
  · rw [if_neg c0] at e1; cases e1
theorem vm_in (a b c : Int32) : f_Mod_in a b c = some (if b.toInt ≤ a.toInt ∧ a.toInt ≤ c.toInt then 1 else 0) := by
  unfold f_Mod_in
  by_cases c1 : a < b
  · rw [if_pos c1]; have := Int32.lt_iff_toInt_lt.mp c1; rw [if_neg (by omega)]
  · rw [if_neg c1]; have := mt Int32.lt_iff_toInt_lt.mpr c1
    by_cases c2 : c < a
    · rw [if_pos c2]; have := Int32.lt_iff_toInt_lt.mp c2; rw [if_neg (by omega)]
    · rw [if_neg c2]; have := mt Int32.lt_iff_toInt_lt.mpr c2; rw [if_pos (by omega)]
theorem vm_keep {v : Int32} {M : Mem} {x : Int32 × Mem} (e : f_Mod_keep v M = some x) : x.1 = if 0 ≤ v.toInt ∧ v.toInt ≤ 1 then 1 else 0 := by
  unfold f_Mod_keep mem_ at e
  rw [vm_in] at e
  replace e : (if (if 0 ≤ v.toInt ∧ v.toInt ≤ 1 then (1 : Int32) else 0) = 0 then _ else _) = some x := e
  by_cases c : 0 ≤ v.toInt ∧ v.toInt ≤ 1
  · rw [if_pos c, if_neg (by decide)] at e
    rw [if_pos c]
    by_cases c3 : inb v 2 = true
    · rw [if_pos c3] at e
      replace e : (if inb v 2 = true then _ else _) = some x := e
      rw [if_pos c3] at e
      obtain ⟨w, _, e4⟩ := Option.bind_eq_some_iff.mp e
      exact (congrArg (fun z : Int32 × Mem => z.1) (Option.some.inj e4)).symm
    · rw [if_neg c3] at e; cases e
  · rw [if_neg c, if_pos rfl] at e
    rw [if_neg c, ← Option.some.inj e]
theorem tw_keep {n : Int} {M : Mem} (h : IV n M) (v : Int32) : ∃ x, f_Top_keep v M = some x ∧ ∃ r, f_Mod_keep v x.2 = some r ∧ x.1 = r.1 ∧ IV (n + 1) r.2 := by
  obtain ⟨x, ex, q⟩ := sf_Top_keep v M h.1.1.1
  obtain ⟨r, er, o⟩ := mr_keep (RI_Gc h.1.1 q.1 q.2.1) v
  refine ⟨x, ex, r, er, (vt_keep ex).trans (vm_keep er).symm, fin0 h.1 q.2.1 o, RL_keep h.2 (wf_Top_keep v M (by decide +kernel) Fx_r ex) (wf_Mod_keep v x.2 (by decide +kernel) Fx_r er) ?_⟩
  rw [o.2.2, q.2.1 162 10 (.inl (by decide))]; exact Int.le_refl _
end
section
/-! THE RULE: a machine that both sides follow -/
def rk (s : Int32) : Nat := if s = 42 then 4 else if s = 47 then 4 else if s = 43 then 3 else if s = 45 then 3 else if s = 60 then 2 else if s = 61 then 2 else if s = 62 then 2 else if s = 256 then 5 else 0
def isq (s : Int32) : Bool := s == 105 || s == 107 || s == 109 || s == 110 || s == 115 || s == 119 || s == 120 || s == 121
/-- what waits and binds at least so tightly comes out (both rows: the newest first) -/
def stl (k : Nat) : List Int32 → List Int32 → List Int32 × List Int32
  | o, [] => (o, [])
  | o, s :: w => if s = 40 ∨ rk s < k then (o, s :: w) else stl k (-s :: o) w
def tp (k : Nat) : List Int32 → Prop
  | [] => True
  | s :: _ => s = 40 ∨ rk s < k
theorem stl_id {k : Nat} {o w : List Int32} (h : tp k w) : stl k o w = (o, w) := by
  cases w with
  | nil => rfl
  | cons s w => unfold stl; rw [if_pos (show s = 40 ∨ rk s < k from h)]
theorem stl_tp (k : Nat) (o w : List Int32) : tp k (stl k o w).2 := by
  induction w generalizing o with
  | nil => trivial
  | cons s w ih =>
    unfold stl
    by_cases c : s = 40 ∨ rk s < k
    · rw [if_pos c]; exact c
    · rw [if_neg c]; exact ih _
theorem stl_stl {j k : Nat} (h : j ≤ k) (o w : List Int32) : stl j (stl k o w).1 (stl k o w).2 = stl j o w := by
  induction w generalizing o with
  | nil => rfl
  | cons s w ih =>
    by_cases c : s = 40 ∨ rk s < k
    · rw [show stl k o (s :: w) = (o, s :: w) by rw [stl, if_pos c]]
    · rw [show stl k o (s :: w) = stl k (-s :: o) w by rw [stl, if_neg c], ih, show stl j o (s :: w) = stl j (-s :: o) w by rw [stl, if_neg (fun h => c (h.elim .inl (fun g => .inr (by omega))))]]
theorem stl_len (k : Nat) (o w : List Int32) : (stl k o w).1.length + (stl k o w).2.length = o.length + w.length ∧ (stl k o w).2.length ≤ w.length := by
  induction w generalizing o with
  | nil => exact ⟨rfl, Nat.le_refl _⟩
  | cons s w ih =>
    unfold stl
    by_cases c : s = 40 ∨ rk s < k
    · rw [if_pos c]; exact ⟨rfl, Nat.le_refl _⟩
    · rw [if_neg c]
      have := ih (-s :: o)
      simp only [List.length_cons] at this ⊢
      omega
theorem stl_cnt (k : Nat) (o w : List Int32) : (stl k o w).2.count 40 = w.count 40 := by
  induction w generalizing o with
  | nil => rfl
  | cons s w ih =>
    unfold stl
    by_cases c : s = 40 ∨ rk s < k
    · rw [if_pos c]
    · rw [if_neg c, ih, List.count_cons_of_ne (by intro h; exact c (.inl h))]
theorem stl_all {P : Int32 → Prop} (k : Nat) (o w : List Int32) (h : ∀ s, s ∈ w → P s) : ∀ s, s ∈ (stl k o w).2 → P s := by
  induction w generalizing o with
  | nil => exact h
  | cons s w ih =>
    unfold stl
    by_cases c : s = 40 ∨ rk s < k
    · rw [if_pos c]; exact h
    · rw [if_neg c]; exact ih _ (fun x hx => h x (List.mem_cons_of_mem _ hx))
/-- digits from a place on -/
def dgn (t : Nat → Int) : Nat → Nat → Nat
  | 0, _ => 0
  | k + 1, p => if 48 ≤ t p ∧ t p ≤ 57 then dgn t k (p + 1) + 1 else 0
def dgv (t : Nat → Int) : Nat → Nat → Int → Int
  | 0, _, v => v
  | k + 1, p, v => if 48 ≤ t p ∧ t p ≤ 57 then dgv t k (p + 1) (10 * v + t p - 48) else v
abbrev MS := Nat × (List Int32 × List Int32) × Nat × (Nat → Bool) × Bool
def up (f : Nat → Bool) (d : Nat) (b : Bool) (i : Nat) : Bool := if i = d then b else f i
def sg (t : Nat → Int) (p : Nat) : Int32 := Int32.ofInt (t p)
def rdT (t : Nat → Int) (p : Nat) (z : List Int32 × List Int32) (d : Nat) (c : Nat → Bool) : Option MS :=
  if t p = 45 then some (p + 1, (z.1, 256 :: z.2), d, c, false)
  else if t p = 40 ∧ d < 4 then some (p + 1, (z.1, 40 :: z.2), d + 1, up c (d + 1) false, false)
  else if 0 < dgn t 3 p then some (p + dgn t 3 p, (Int32.ofInt (dgv t 3 p 0) :: z.1, z.2), d, c, true)
  else if isq (sg t p) = true then some (p + 1, (-(sg t p) :: z.1, z.2), d, c, true)
  else none
def rdB (t : Nat → Int) (p : Nat) (z : List Int32 × List Int32) (d : Nat) (c : Nat → Bool) : Option MS :=
  if t p = 41 ∧ 0 < d then some (p + 1, ((stl 1 z.1 z.2).1, (stl 1 z.1 z.2).2.tail), d - 1, c, true)
  else if rk (sg t p) = 0 ∨ (rk (sg t p) = 2 ∧ c d = true) then none
  else some (p + 1, ((stl (rk (sg t p)) z.1 z.2).1, sg t p :: (stl (rk (sg t p)) z.1 z.2).2), d, (if rk (sg t p) = 2 then up c d true else c), false)
def rdS (t : Nat → Int) (S : MS) : Option MS :=
  if t S.1 = -1 then none else if S.2.2.2.2 = true then rdB t S.1 S.2.1 S.2.2.1 S.2.2.2.1 else rdT t S.1 S.2.1 S.2.2.1 S.2.2.2.1
def rit (t : Nat → Int) : Nat → MS → Option MS
  | 0, S => some S
  | k + 1, S => Option.bind (rdS t S) (rit t k)
def Rch (t : Nat → Int) (S S' : MS) : Prop := ∃ k, rit t k S = some S'
theorem Rch_r {t : Nat → Int} {S : MS} : Rch t S S := ⟨0, rfl⟩
theorem Rch_s {t : Nat → Int} {S S1 S' : MS} (h : rdS t S = some S1) (g : Rch t S1 S') : Rch t S S' := by
  obtain ⟨k, g⟩ := g
  exact ⟨k + 1, by unfold rit; rw [h]; exact g⟩
theorem Rch_t {t : Nat → Int} {S S1 S' : MS} (h : Rch t S S1) (g : Rch t S1 S') : Rch t S S' := by
  obtain ⟨k, h⟩ := h
  induction k generalizing S with
  | zero => obtain rfl := Option.some.inj h; exact g
  | succ k ih =>
    unfold rit at h
    obtain ⟨S2, e, h⟩ := bo h
    exact Rch_s e (ih h)
/-- where it can't go on is one place -/
theorem Rch_u {t : Nat → Int} {S A B : MS} (h : Rch t S A) (g : Rch t S B) (ha : rdS t A = none) (hb : rdS t B = none) : A = B := by
  obtain ⟨k, h⟩ := h
  induction k generalizing S with
  | zero =>
    obtain rfl := Option.some.inj h
    obtain ⟨m, g⟩ := g
    cases m with
    | zero => exact Option.some.inj g
    | succ m => unfold rit at g; rw [ha] at g; cases g
  | succ k ih =>
    unfold rit at h
    obtain ⟨S2, e, h⟩ := bo h
    obtain ⟨m, g⟩ := g
    cases m with
    | zero => obtain rfl := Option.some.inj g; rw [hb] at e; cases e
    | succ m =>
      unfold rit at g
      rw [e] at g
      exact ih ⟨m, g⟩ h
/-- what a part does to the values -/
def pp (st : List Int32) : Int32 × List Int32 := match st with
  | [] => (0, [])
  | x :: s => (x, s)
def jn (l s r : Int32) : Int32 := if s = 42 then l * r else if s = 43 then l + r else if s = 45 then l - r else if s = 47 then (if r = 0 then 0 else l / r) else if s = 60 then (if r ≤ l then 0 else 1) else if s = 61 then (if l = r then 1 else 0) else if s = 62 then (if l ≤ r then 0 else 1) else 0
def opx (env : Int32 → Int32) (c : Int32) (st : List Int32) : List Int32 :=
  if c < 0 then
    if isq (-c) = true then env (-c) :: st
    else if -c = 256 then -(pp st).1 :: (pp st).2
    else jn (pp (pp st).2).1 (-c) (pp st).1 :: (pp (pp st).2).2
  else c :: st
def rv (env : Int32 → Int32) : List Int32 → List Int32 → List Int32
  | [], st => st
  | c :: r, st => opx env c (rv env r st)
theorem rv_app (env : Int32 → Int32) (a b st : List Int32) : rv env (a ++ b) st = rv env a (rv env b st) := by
  induction a with
  | nil => rfl
  | cons c a ih => show opx env c (rv env (a ++ b) st) = _; rw [ih]; rfl
end
section
/-! the reference's reader -/
def okC (C : Nat) : Bool := !C.testBit 214 && !C.testBit 215 && !C.testBit 216 && !C.testBit 167 && !C.testBit 172
def Rd (t : Nat → Int) (N : Mem) : Prop := ∃ b, N.2.2 162 14 = some b ∧ (b = 167 ∨ b = 172) ∧ (N.1 162 15).toInt ≤ 80 ∧ ∀ p : Nat, t p = (if (p : Int) < (N.1 162 15).toInt ∧ (p : Int) < (N.1 162 16).toInt then (N.1 b p).toInt % 256 else -1) ∧ ((p : Int) < (N.1 162 15).toInt → (p : Int) < (N.1 162 16).toInt → -128 ≤ (N.1 b p).toInt ∧ (N.1 b p).toInt ≤ 127)
theorem Rd_fx {C : Nat} {B N : Mem} {t : Nat → Int} (hC : okC C = true) (fx : Fx C [] B N) (h : Rd t B) : Rd t N := by
  simp only [okC, Bool.and_eq_true, Bool.not_eq_true'] at hC
  obtain ⟨⟨⟨⟨c1, c2⟩, c3⟩, c4⟩, c5⟩ := hC
  obtain ⟨b, h1, h2, h3, h4⟩ := h
  have f14 := (fx 162 14 c1 (by simp)).2.2
  have f15 := (fx 162 15 c2 (by simp)).1
  have f16 := (fx 162 16 c3 (by simp)).1
  have fb : ∀ p, N.1 b p = B.1 b p := by
    intro p
    rcases h2 with rfl | rfl
    · exact (fx 167 p c4 (by simp)).1
    · exact (fx 172 p c5 (by simp)).1
  refine ⟨b, by rw [f14]; exact h1, h2, by rw [f15]; exact h3, fun p => ?_⟩
  rw [f15, f16, fb]; exact h4 p
theorem Rd_rng {t : Nat → Int} {N : Mem} (h : Rd t N) (p : Nat) : -1 ≤ t p ∧ t p ≤ 255 ∧ (t p ≠ -1 → p < 80) := by
  obtain ⟨b, h1, h2, h3, h4⟩ := h
  have := (h4 p).1
  split at this <;> omega
theorem here_i {t : Nat → Int} {N : Mem} (h : Rd t N) {p : Nat} (hp : (N.1 162 17).toInt = (p : Int)) {x : Int32} (e : f_Mod_here N = some x) : (t p = x.toInt ∧ -1 ≤ x.toInt ∧ x.toInt ≤ 127) ∨ (x.toInt < 0 ∧ 128 ≤ t p) := by
  obtain ⟨b, h1, h2, h3, h4⟩ := h
  obtain ⟨h4, h5⟩ := h4 p
  unfold f_Mod_here at e
  have zm : (-1 : Int32).toInt = -1 := rfl
  rcases io e with ⟨c, e⟩ | ⟨c, e⟩
  · have := q_le c
    obtain rfl := Option.some.inj e
    rw [if_neg (by omega)] at h4
    exact .inl ⟨h4, by omega, by omega⟩
  have c1 := q_ng c
  rcases io e with ⟨c, e⟩ | ⟨c, e⟩
  · have := q_le c
    obtain rfl := Option.some.inj e
    rw [if_neg (by omega)] at h4
    exact .inl ⟨h4, by omega, by omega⟩
  have c2 := q_ng c
  obtain ⟨a, ea, e⟩ := bo e
  rw [h1] at ea
  obtain rfl := Option.some.inj ea
  obtain ⟨_, e⟩ := io_n e
  obtain ⟨_, e⟩ := io_n e
  obtain rfl := Option.some.inj e
  rw [if_pos (by omega)] at h4
  have h5 := h5 (by omega) (by omega)
  rw [q_nat hp]
  omega
theorem here_c {t : Nat → Int} {N : Mem} (h : Rd t N) {p : Nat} (hp : (N.1 162 17).toInt = (p : Int)) {x c : Int32} (e : f_Mod_here N = some x) (c0 : 0 ≤ c.toInt) (c1 : c.toInt ≤ 127) : x = c ↔ t p = c.toInt := by
  have k := here_i h hp e
  constructor
  · intro h; subst h; omega
  · intro h; exact Int32.toInt_inj.mp (by omega)
theorem passes_i {t : Nat → Int} {N : Mem} (h : Rd t N) {p : Nat} (hp : (N.1 162 17).toInt = (p : Int)) (hw : (N.1 162 18).toInt = -1) {c : Int32} (c0 : 0 ≤ c.toInt) (c1 : c.toInt ≤ 127) {x : Int32 × Mem} (e : f_Mod_passes c N = some x) : (t p = c.toInt ∧ ¬ x.1 = 0 ∧ (x.2.1 162 17).toInt = ((p + 1 : Nat) : Int) ∧ (x.2.1 162 18).toInt = -1) ∨ (t p ≠ c.toInt ∧ x.1 = 0 ∧ x.2 = N) := by
  unfold f_Mod_passes at e
  obtain ⟨x1, e1, e⟩ := bo e
  rcases fine_i e1 with ⟨_, b⟩ | ⟨a, _⟩
  · exact absurd hw b
  rw [a, if_neg (by decide)] at e
  obtain ⟨x2, e2, e⟩ := bo e
  have k := here_c h hp e2 c0 c1
  rcases io e with ⟨c, e⟩ | ⟨c, e⟩
  · obtain ⟨M3, e3, e⟩ := mo e
    obtain rfl := Option.some.inj e
    have tp := k.mp c
    have := (Rd_rng h p).2.2 (by omega)
    refine .inl ⟨tp, (by show ¬ (1 : Int32) = 0; decide), ?_, ?_⟩
    · show (M3.1 162 17).toInt = _
      rw [e3, si_eq]; exact add_ti hp o1 (by omega) (by omega)
    · show (M3.1 162 18).toInt = _
      rw [e3, si_ne (by omega)]; exact hw
  · obtain rfl := Option.some.inj e
    exact .inr ⟨fun h => c (k.mpr h), rfl, rfl⟩
theorem number_l {t : Nat → Int} {A : Mem} {K : Nat} {v1 v2 : Int32} {p : Nat} (hA : Rd t A) (k3 : K ≤ 3) (h1 : v1.toInt = (K : Int)) (h2 : v2.toInt = (p : Int)) (hp : (A.1 162 17).toInt = (p : Int)) (p80 : p ≤ 80) {x} (e : iter (lb_Mod_number_16 v1 v2) FU ((0 : Int32), A) = some x) : Fx (2 ^ 217) [] A x.2 ∧ x.1.toInt = dgv t K p 0 ∧ (x.2.1 162 17).toInt = ((p + dgn t K p : Nat) : Int) ∧ 0 ≤ x.1.toInt ∧ x.1.toInt < 1000 := by
  refine it_r (I := fun s : Int32 × Mem => Fx (2 ^ 217) [] A s.2 ∧ ∃ j : Nat, j ≤ K ∧ (s.2.1 162 17).toInt = ((p + j : Nat) : Int) ∧ dgv t K p 0 = dgv t (K - j) (p + j) s.1.toInt ∧ dgn t K p = j + dgn t (K - j) (p + j) ∧ 0 ≤ s.1.toInt ∧ s.1.toInt < (10 : Int) ^ j) (Q := fun x : Int32 × Mem => Fx (2 ^ 217) [] A x.2 ∧ x.1.toInt = dgv t K p 0 ∧ (x.2.1 162 17).toInt = ((p + dgn t K p : Nat) : Int) ∧ 0 ≤ x.1.toInt ∧ x.1.toInt < 1000) ?_ e ⟨Fx_r, 0, by omega, hp, rfl, by simp, (by show (0 : Int) ≤ (0 : Int32).toInt; decide), (by show (0 : Int32).toInt < 1; decide)⟩
  rintro ⟨v, N⟩ r ⟨fx, j, lj, ha, hv, hn, v0, v9⟩ e
  have fr := wl_Mod_number_16 v1 v2 _ (by decide +kernel) fx e
  have hN := Rd_fx (by decide +kernel) fx hA
  dsimp only at ha hv hn v0 v9 fr
  have z48 : (48 : Int32).toInt = 48 := rfl
  have z57 : (57 : Int32).toInt = 57 := rfl
  have z10 : (10 : Int32).toInt = 10 := rfl
  have pw : (10 : Int) ^ j ≤ 1000 ∧ (j < K → (10 : Int) ^ j ≤ 100 ∧ (10 : Int) ^ (j + 1) = 10 * (10 : Int) ^ j) := by
    have : j = 0 ∨ j = 1 ∨ j = 2 ∨ j = 3 := by omega
    rcases this with rfl | rfl | rfl | rfl
    · exact ⟨by decide, fun _ => by decide⟩
    · exact ⟨by decide, fun _ => by decide⟩
    · exact ⟨by decide, fun _ => by decide⟩
    · exact ⟨by decide, fun h => by omega⟩
  have lim : (v2 + v1).toInt = ((p + K : Nat) : Int) := add_ti h2 h1 (by omega) (by omega)
  have stop : dgn t (K - j) (p + j) = 0 → dgv t (K - j) (p + j) v.toInt = v.toInt → Fx (2 ^ 217) [] A N → Fx (2 ^ 217) [] A N ∧ v.toInt = dgv t K p 0 ∧ (N.1 162 17).toInt = ((p + dgn t K p : Nat) : Int) ∧ 0 ≤ v.toInt ∧ v.toInt < 1000 := by
    intro a b f
    exact ⟨f, by rw [hv, b], by rw [ha, hn, a]; omega, v0, by omega⟩
  unfold lb_Mod_number_16 at e
  dsimp only at e
  rcases io e with ⟨c, e⟩ | ⟨c, e⟩
  · have := q_le c
    obtain rfl := Option.some.inj e
    have : K - j = 0 := by omega
    exact stop (by rw [this]; rfl) (by rw [this]; rfl) fr
  have c1 := q_ng c
  have kj : K - j = (K - (j + 1)) + 1 := by omega
  obtain ⟨x2, e2, e⟩ := bo e
  obtain ⟨x3, e3, e⟩ := bo e
  have k := here_i hN ha e2
  obtain ⟨r3, er3, h3⟩ := sp_in x2 48 57
  rw [er3] at e3
  obtain rfl := Option.some.inj e3
  rcases io e with ⟨c, e⟩ | ⟨c, e⟩
  · obtain rfl := Option.some.inj e
    have nd : ¬ (48 ≤ t (p + j) ∧ t (p + j) ≤ 57) := by
      rcases h3 with ⟨a, _⟩ | ⟨_, b⟩
      · rw [a] at c; cases c
      · omega
    exact stop (by rw [kj]; unfold dgn; rw [if_neg nd]) (by rw [kj]; unfold dgv; rw [if_neg nd]) fr
  · obtain ⟨x4, e4, e⟩ := bo e
    rw [e2] at e4
    obtain rfl := Option.some.inj e4
    obtain ⟨M5, e5, e⟩ := mo e
    obtain rfl := Option.some.inj e
    have dg : 48 ≤ t (p + j) ∧ t (p + j) ≤ 57 ∧ t (p + j) = x2.toInt := by
      rcases h3 with ⟨_, b⟩ | ⟨a, _⟩
      · omega
      · exact absurd a c
    obtain ⟨pw1, pw2⟩ := pw.2 (by omega)
    have m1 : ((10 : Int32) * v).toInt = 10 * v.toInt := mul_ti z10 rfl (by omega) (by omega)
    have m2 : ((10 : Int32) * v + x2).toInt = 10 * v.toInt + x2.toInt := add_ti m1 rfl (by omega) (by omega)
    have m3 : ((10 : Int32) * v + x2 - (48 : Int32)).toInt = 10 * v.toInt + x2.toInt - 48 := sub_ti m2 z48 (by omega) (by omega)
    refine ⟨fr, j + 1, by omega, ?_, ?_, ?_, ?_, ?_⟩
    · show (M5.1 162 17).toInt = _
      rw [e5, si_eq]; exact add_ti ha o1 (by omega) (by omega)
    · show _ = dgv t (K - (j + 1)) (p + (j + 1)) ((10 : Int32) * v + x2 - (48 : Int32)).toInt
      rw [hv, kj]
      rw [show dgv t (K - (j + 1) + 1) (p + j) v.toInt = dgv t (K - (j + 1)) (p + j + 1) (10 * v.toInt + t (p + j) - 48) by rw [dgv, if_pos ⟨dg.1, dg.2.1⟩], m3, dg.2.2]
      rfl
    · rw [hn, kj]
      rw [show dgn t (K - (j + 1) + 1) (p + j) = dgn t (K - (j + 1)) (p + j + 1) + 1 by rw [dgn, if_pos ⟨dg.1, dg.2.1⟩]]
      rw [show p + (j + 1) = p + j + 1 by omega]; omega
    · show 0 ≤ ((10 : Int32) * v + x2 - (48 : Int32)).toInt
      omega
    · show ((10 : Int32) * v + x2 - (48 : Int32)).toInt < (10 : Int) ^ (j + 1)
      rw [pw2]; omega
theorem number_i {t : Nat → Int} {A : Mem} {K : Nat} {v1 : Int32} {p : Nat} (hA : Rd t A) (k3 : K ≤ 3) (h1 : v1.toInt = (K : Int)) (hp : (A.1 162 17).toInt = (p : Int)) (p80 : p ≤ 80) (hw : (A.1 162 18).toInt = -1) {x} (e : f_Mod_number v1 A = some x) : Fx (2 ^ 217 ||| 2 ^ 218) [] A x.2 ∧ x.1.toInt = dgv t K p 0 ∧ 0 ≤ x.1.toInt ∧ x.1.toInt < 1000 ∧ (x.2.1 162 17).toInt = ((p + dgn t K p : Nat) : Int) ∧ ((dgn t K p = 0 ∧ (x.2.1 162 18).toInt = (p : Int)) ∨ (0 < dgn t K p ∧ (x.2.1 162 18).toInt = -1)) := by
  have fr := wf_Mod_number v1 A (C := 2 ^ 217 ||| 2 ^ 218) (L := []) (by decide +kernel) Fx_r e
  unfold f_Mod_number at e
  obtain ⟨x1, e1, e⟩ := bo e
  rcases fine_i e1 with ⟨_, b⟩ | ⟨a, _⟩
  · exact absurd hw b
  rw [a, if_neg (by decide)] at e
  obtain ⟨x8, e8, e⟩ := bo e
  obtain ⟨f8, h8, h17, v0, v9⟩ := number_l hA k3 h1 hp hp p80 e8
  have w8 : (x8.2.1 162 18).toInt = -1 := by rw [(f8 162 18 (by decide +kernel) (by simp)).1]; exact hw
  unfold j_Mod_number_66 at e
  rcases io e with ⟨c, e⟩ | ⟨c, e⟩
  · obtain ⟨x9, e9, e⟩ := bo e
    obtain rfl := Option.some.inj e
    have := q_eq c
    rcases fault_i e9 with ⟨c9, _⟩ | ⟨_, rfl⟩
    · exact absurd w8 c9
    · refine ⟨fr, h8, v0, v9, ?_, .inl ⟨by omega, ?_⟩⟩
      · dsimp only; rw [si_ne (by omega)]; exact h17
      · dsimp only; rw [si_eq, c]; exact hp
  · obtain rfl := Option.some.inj e
    have := q_ne c
    exact ⟨fr, h8, v0, v9, h17, .inr ⟨by omega, w8⟩⟩
end
section
/-! the reference follows the machine -/
def mEx : Nat := 2 ^ 217 ||| 2 ^ 218
def Fol (w : Nat) (t : Nat → Int) (S : MS) : Prop := (w ≤ 2 → t S.1 ≠ 42 ∧ t S.1 ≠ 47) ∧ (w ≤ 1 → t S.1 ≠ 43 ∧ t S.1 ≠ 45) ∧ (w = 0 → (t S.1 = 60 ∨ t S.1 = 61 ∨ t S.1 = 62) → S.2.2.2.1 S.2.2.1 = true)
def Pre (t : Nat → Int) (w : Nat) (S : MS) (N : Mem) (a : Int32) : Prop := Rd t N ∧ (N.1 162 18).toInt = -1 ∧ (N.1 162 17).toInt = (S.1 : Int) ∧ S.2.2.2.2 = false ∧ a.toInt = (S.2.2.1 : Int) ∧ S.2.2.1 ≤ 4 ∧ S.1 ≤ 80 ∧ (w < 3 → tp (w + 2) S.2.1.2) ∧ (w = 0 → S.2.2.2.1 S.2.2.1 = false)
def Ok0 (t : Nat → Int) (env : Int32 → Int32) (w : Nat) (S S' : MS) (v : Int32) (N : Mem) : Prop := (N.1 162 18).toInt = -1 ∧ (N.1 162 17).toInt = (S'.1 : Int) ∧ Rch t S S' ∧ S'.2.2.2.2 = true ∧ S'.2.2.1 = S.2.2.1 ∧ S'.1 ≤ 80 ∧ (∀ d, d ≤ S.2.2.1 → (w = 0 → d < S.2.2.1) → S'.2.2.2.1 d = S.2.2.2.1 d) ∧ ∃ rc : List Int32, stl (w + 2) S'.2.1.1 S'.2.1.2 = stl (w + 2) (rc ++ S.2.1.1) S.2.1.2 ∧ ∀ st, rv env rc st = v :: st
def Ok (t : Nat → Int) (env : Int32 → Int32) (w : Nat) (S : MS) (v : Int32) (N : Mem) : Prop := ∃ S', Ok0 t env w S S' v N ∧ Fol w t S'
def Ft (t : Nat → Int) (S : MS) (N : Mem) : Prop := ∃ S' : MS, Rch t S S' ∧ rdS t S' = none ∧ ¬ (S'.2.2.2.2 = true ∧ S'.2.2.1 = 0) ∧ S'.1 ≤ 80 ∧ (N.1 162 18).toInt = (S'.1 : Int)
def HI (t : Nat → Int) (env : Int32 → Int32) (B : Mem) (rc : Nat → Int32 → Mem → Option (Int32 × Mem)) : Prop := ∀ (w : Nat) (a : Int32) (N : Mem) (r : Int32 × Mem) (S : MS), w ≤ 3 → Fx mEx [] B N → Pre t w S N a → rc w a N = some r → Fx mEx [] B r.2 ∧ (Ok t env w S r.1 r.2 ∨ Ft t S r.2)
theorem Ft_w {t : Nat → Int} {S : MS} {N : Mem} (h : Ft t S N) : (N.1 162 18).toInt ≠ -1 := by
  obtain ⟨S', _, _, _, _, h⟩ := h
  omega
theorem Ft_t {t : Nat → Int} {S S1 : MS} {N : Mem} (g : Rch t S S1) (h : Ft t S1 N) : Ft t S N := by
  obtain ⟨S', a, b⟩ := h
  exact ⟨S', Rch_t g a, b⟩
theorem tp_m {j k : Nat} (h : j ≤ k) {w : List Int32} (g : tp j w) : tp k w := by
  cases w with
  | nil => trivial
  | cons s w => rcases g with g | g
                · exact .inl g
                · exact .inr (by omega)
theorem sg_ti {t : Nat → Int} {p : Nat} (h : -1 ≤ t p ∧ t p ≤ 255) : (sg t p).toInt = t p := by
  unfold sg
  exact Int32.toInt_ofInt_of_le (by omega) (by omega)
theorem sg_eq {t : Nat → Int} {p : Nat} {c : Int32} (h : t p = c.toInt) : sg t p = c := by
  unfold sg
  rw [h]; exact Int32.ofInt_toInt c
theorem sg_ne {t : Nat → Int} {p : Nat} (r : -1 ≤ t p ∧ t p ≤ 255) {c : Int32} (h : t p ≠ c.toInt) : sg t p ≠ c := by
  intro e
  apply h
  rw [← e, sg_ti r]
/-- no sign is the mark of negation; other signs bind nothing -/
theorem rk_0 {t : Nat → Int} {p : Nat} (r : -1 ≤ t p ∧ t p ≤ 255) (h1 : t p ≠ 42 ∧ t p ≠ 47) (h2 : t p ≠ 43 ∧ t p ≠ 45) (h3 : t p ≠ 60 ∧ t p ≠ 61 ∧ t p ≠ 62) : rk (sg t p) = 0 := by
  unfold rk
  rw [if_neg (sg_ne (c := 42) r h1.1), if_neg (sg_ne (c := 47) r h1.2), if_neg (sg_ne (c := 43) r h2.1), if_neg (sg_ne (c := 45) r h2.2), if_neg (sg_ne (c := 60) r h3.1), if_neg (sg_ne (c := 61) r h3.2.1), if_neg (sg_ne (c := 62) r h3.2.2), if_neg (sg_ne (c := 256) r (by show t p ≠ 256; omega))]
theorem isq_0 {t : Nat → Int} {p : Nat} (r : -1 ≤ t p ∧ t p ≤ 255) (h : t p ≠ 105 ∧ t p ≠ 107 ∧ t p ≠ 109 ∧ t p ≠ 110 ∧ t p ≠ 115 ∧ t p ≠ 119 ∧ t p ≠ 120 ∧ t p ≠ 121) : isq (sg t p) = false := by
  obtain ⟨h1, h2, h3, h4, h5, h6, h7, h8⟩ := h
  simp only [isq, Bool.or_eq_false_iff, beq_eq_false_iff_ne]
  exact ⟨⟨⟨⟨⟨⟨⟨sg_ne (c := 105) r h1, sg_ne (c := 107) r h2⟩, sg_ne (c := 109) r h3⟩, sg_ne (c := 110) r h4⟩, sg_ne (c := 115) r h5⟩, sg_ne (c := 119) r h6⟩, sg_ne (c := 120) r h7⟩, sg_ne (c := 121) r h8⟩
theorem bin {t : Nat → Int} {k : Nat} {S' : MS} {o w : List Int32} {op : Int32} (hop : sg t S'.1 = op) (hr : rk op = k) (k0 : k ≠ 0) (k2 : k = 2 → S'.2.2.2.1 S'.2.2.1 = false) (n1 : t S'.1 ≠ -1) (n2 : t S'.1 ≠ 41) (b : S'.2.2.2.2 = true) (hs : stl k S'.2.1.1 S'.2.1.2 = (o, w)) : rdS t S' = some (S'.1 + 1, (o, op :: w), S'.2.2.1, (if k = 2 then up S'.2.2.2.1 S'.2.2.1 true else S'.2.2.2.1), false) := by
  unfold rdS rdB
  rw [if_neg n1, if_pos b, if_neg (by omega), hop, hr, if_neg (by
    rintro (h | ⟨h, g⟩)
    · exact k0 h
    · rw [k2 h] at g; cases g), hs]
theorem bin2 {k : Nat} {o3 w3 o w rc rc2 : List Int32} {op : Int32} (hr : rk op = k) (n4 : op ≠ 40) (h : stl (k + 1) o3 w3 = stl (k + 1) (rc2 ++ (rc ++ o)) (op :: w)) : stl k o3 w3 = stl k ((-op :: (rc2 ++ rc)) ++ o) w := by
  rw [← stl_stl (Nat.le_succ k) o3 w3, h, stl_stl (Nat.le_succ k)]
  rw [show stl k (rc2 ++ (rc ++ o)) (op :: w) = stl k (-op :: (rc2 ++ (rc ++ o))) w by rw [stl, if_neg (by rw [hr]; rintro (h | h); exact n4 h; omega)]]
  simp
section EX
variable {t : Nat → Int} {env : Int32 → Int32} {B : Mem} {rc : Nat → Int32 → Mem → Option (Int32 × Mem)}
theorem not_fine {N : Mem} {x : Int32} (h : (N.1 162 18).toInt ≠ -1) (e : f_Mod_fine N = some x) : x = 0 := by
  rcases fine_i e with ⟨a, _⟩ | ⟨_, b⟩
  · exact a
  · exact absurd b h
theorem is_fine {N : Mem} {x : Int32} (h : (N.1 162 18).toInt = -1) (e : f_Mod_fine N = some x) : ¬ x = 0 := by
  rcases fine_i e with ⟨_, b⟩ | ⟨a, _⟩
  · exact absurd h b
  · rw [a]; decide
/-- products and sums: one more operation -/
def LI (t : Nat → Int) (env : Int32 → Int32) (B : Mem) (w : Nat) (S : MS) (s : Int32 × Mem) : Prop := Fx mEx [] B s.2 ∧ ((∃ S', Ok0 t env w S S' s.1 s.2 ∧ (w = 1 → Fol 2 t S')) ∨ Ft t S s.2)
theorem okE : okC mEx = true := by decide +kernel
theorem LI_step {w : Nat} {S S' : MS} {v op o : Int32} {N N1 R : Mem} {a : Int32} (hrc : HI t env B rc) (w12 : w = 1 ∨ w = 2) (hB : Rd t B) (ts : tp (w + 2) S.2.1.2) (d4 : S.2.2.1 ≤ 4) (ha : a.toInt = (S.2.2.1 : Int)) (fx : Fx mEx [] B N) (h : Ok0 t env w S S' v N) (ht : t S'.1 = op.toInt) (hr : rk op = w + 2) (n4 : op ≠ 40) (op1 : op.toInt ≠ -1) (op2 : op.toInt ≠ 41) (oc : op.toInt = 42 ∨ op.toInt = 43 ∨ op.toInt = 45 ∨ op.toInt = 47) (e1 : N1 = s_i N 162 17 ((N.1 162 17) + (1 : Int32))) (e : rc (w + 1) a N1 = some (o, R)) : Fx mEx [] B R ∧ ((∃ S'', Ok0 t env w S S'' (jn v op o) R ∧ (w = 1 → Fol 2 t S'')) ∨ Ft t S R) := by
  obtain ⟨h1, h2, h3, h4, h5, h6, h7, rc1, h8, h9⟩ := h
  rw [stl_id ts] at h8
  have p80 := (Rd_rng hB S'.1).2.2 (by omega)
  have st := bin (t := t) (S' := S') (sg_eq ht) hr (by omega) (fun h => by omega) (by omega) (by omega) h4 h8
  rw [if_neg (by omega)] at st
  have fx1 : Fx mEx [] B N1 := wi1 fx e1 (by decide +kernel)
  have pre : Pre t (w + 1) (S'.1 + 1, (rc1 ++ S.2.1.1, op :: S.2.1.2), S'.2.2.1, S'.2.2.2.1, false) N1 a := by
    refine ⟨Rd_fx okE fx1 hB, ?_, ?_, rfl, ?_, ?_, ?_, fun _ => .inr (by rw [hr]; omega), fun h => by omega⟩
    · rw [e1, si_ne (by omega)]; exact h1
    · rw [e1, si_eq]; exact add_ti h2 o1 (by omega) (by omega)
    · show a.toInt = (S'.2.2.1 : Int); rw [h5]; exact ha
    · show S'.2.2.1 ≤ 4; omega
    · show S'.1 + 1 ≤ 80; omega
  obtain ⟨fr, g⟩ := hrc (w + 1) a N1 (o, R) _ (by omega) fx1 pre e
  refine ⟨fr, ?_⟩
  rcases g with ⟨S3, ⟨k1, k2, k3, k4, k5, k6, k7, rc2, k8, k9⟩, k10⟩ | g
  · refine .inl ⟨S3, ⟨k1, k2, Rch_t h3 (Rch_s st k3), k4, k5.trans h5, k6, fun d hd _ => ?_, -op :: (rc2 ++ rc1), bin2 hr n4 k8, fun s => ?_⟩, fun hw => ?_⟩
    · rw [k7 d (by show d ≤ S'.2.2.1; omega) (fun h => by omega)]
      exact h7 d hd (fun h => by omega)
    · show opx env (-op) (rv env (rc2 ++ rc1) s) = _
      rw [rv_app, h9, k9]
      have l0 : (-op) < 0 := by
        rcases oc with h | h | h | h
        · rw [show op = 42 from Int32.toInt_inj.mp h]; decide
        · rw [show op = 43 from Int32.toInt_inj.mp h]; decide
        · rw [show op = 45 from Int32.toInt_inj.mp h]; decide
        · rw [show op = 47 from Int32.toInt_inj.mp h]; decide
      have q0 : isq (- -op) = false := by
        rcases oc with h | h | h | h
        · rw [show op = 42 from Int32.toInt_inj.mp h]; decide
        · rw [show op = 43 from Int32.toInt_inj.mp h]; decide
        · rw [show op = 45 from Int32.toInt_inj.mp h]; decide
        · rw [show op = 47 from Int32.toInt_inj.mp h]; decide
      have q1 : - -op = op := by
        rcases oc with h | h | h | h
        · rw [show op = 42 from Int32.toInt_inj.mp h]; decide
        · rw [show op = 43 from Int32.toInt_inj.mp h]; decide
        · rw [show op = 45 from Int32.toInt_inj.mp h]; decide
        · rw [show op = 47 from Int32.toInt_inj.mp h]; decide
      have q2 : ¬ op = 256 := by
        rintro rfl
        rcases oc with h | h | h | h <;> exact absurd h (by decide)
      unfold opx
      rw [if_pos l0, if_neg (by rw [q0]; decide), q1, if_neg q2]
      rfl
    · subst hw
      exact ⟨k10.1, fun h => by omega, fun h => by omega⟩
  · exact .inr (Ft_t (Rch_t h3 (Rch_s st Rch_r)) g)
theorem LI_ft {w : Nat} {S : MS} {N : Mem} {v : Int32} (fx : Fx mEx [] B N) (h : Ft t S N) : LI t env B w S (v, N) := ⟨fx, .inr h⟩
theorem prod_l (hrc : HI t env B rc) (hB : Rd t B) {S : MS} {a : Int32} (ts : tp 4 S.2.1.2) (d4 : S.2.2.1 ≤ 4) (ha : a.toInt = (S.2.2.1 : Int)) {s : Int32 × Mem} {r} (h : LI t env B 2 S s) (e : lb_Mod_product_6 rc a s = some r) : Sum.elim (LI t env B 2 S) (fun x : Int32 × Mem => Fx mEx [] B x.2 ∧ (Ok t env 2 S x.1 x.2 ∨ Ft t S x.2)) r := by
  obtain ⟨v, N⟩ := s
  obtain ⟨fx, h⟩ := h
  dsimp only at fx h
  unfold lb_Mod_product_6 at e
  dsimp only at e
  obtain ⟨x2, e2, e⟩ := bo e
  rcases h with ⟨S', h, _⟩ | h
  · have hN := Rd_fx okE fx hB
    rw [if_neg (is_fine h.1 e2)] at e
    obtain ⟨x3, e3, e⟩ := bo e
    have k42 := here_c hN h.2.1 (c := 42) e3 (by decide) (by decide)
    have k47 := here_c hN h.2.1 (c := 47) e3 (by decide) (by decide)
    have go : ∀ {op : Int32}, (op = 42 ∨ op = 47) → t S'.1 = op.toInt → j_Mod_product_31_6 rc a v N = some r → Sum.elim (LI t env B 2 S) (fun x : Int32 × Mem => Fx mEx [] B x.2 ∧ (Ok t env 2 S x.1 x.2 ∨ Ft t S x.2)) r := by
      intro op hop ht e
      unfold j_Mod_product_31_6 at e
      obtain ⟨x4, e4, e⟩ := bo e
      rw [e3] at e4
      obtain rfl := Option.some.inj e4
      have step : ∀ w0 : Int32, j_Mod_product_45_6 rc a v w0 N = some r → ((w0 = 0 ∧ op = 47) ∨ (¬ w0 = 0 ∧ op = 42)) → Sum.elim (LI t env B 2 S) (fun x : Int32 × Mem => Fx mEx [] B x.2 ∧ (Ok t env 2 S x.1 x.2 ∨ Ft t S x.2)) r := by
        intro w0 e hw0
        unfold j_Mod_product_45_6 at e
        obtain ⟨M5, e5, e⟩ := mo e
        obtain ⟨x6, e6, e⟩ := bo e
        have L := LI_step (w := 2) (op := op) (o := x6.1) (R := x6.2) hrc (.inr rfl) hB ts d4 ha fx h ht (by rcases hop with rfl | rfl <;> decide) (by rcases hop with rfl | rfl <;> decide) (by rcases hop with rfl | rfl <;> decide) (by rcases hop with rfl | rfl <;> decide) (by rcases hop with rfl | rfl <;> decide) e5 e6
        rcases io e with ⟨c, e⟩ | ⟨c, e⟩
        · have o47 : op = 47 := by
            rcases hw0 with h | h
            · exact h.2
            · exact absurd c h.1
          subst o47
          rcases io e with ⟨c6, e⟩ | ⟨c6, e⟩
          · obtain rfl := Option.some.inj e
            rw [show jn v 47 x6.1 = 0 by simp only [jn]; rw [if_neg (by decide), if_neg (by decide), if_neg (by decide), if_pos (by decide), if_pos c6]] at L
            exact L
          · obtain ⟨_, e⟩ := io_m e
            obtain rfl := Option.some.inj e
            rw [show jn v 47 x6.1 = v / x6.1 by simp only [jn]; rw [if_neg (by decide), if_neg (by decide), if_neg (by decide), if_pos (by decide), if_neg c6]] at L
            exact L
        · have o42 : op = 42 := by
            rcases hw0 with h | h
            · exact absurd h.1 c
            · exact h.2
          subst o42
          obtain rfl := Option.some.inj e
          rw [show jn v 42 x6.1 = v * x6.1 by simp only [jn]; rw [if_pos (by decide)]] at L
          exact L
      rcases io e with ⟨c, e⟩ | ⟨c, e⟩
      · refine step 1 e (.inr ⟨by decide, ?_⟩)
        exact Int32.toInt_inj.mp (ht.symm.trans (k42.mp c))
      · refine step 0 e (.inl ⟨rfl, ?_⟩)
        rcases hop with h | h
        · subst h; exact absurd (k42.mpr ht) c
        · exact h
    rcases io e with ⟨c, e⟩ | ⟨c, e⟩
    · exact go (.inl rfl) (k42.mp c) e
    obtain ⟨x9, e9, e⟩ := bo e
    rw [e3] at e9
    obtain rfl := Option.some.inj e9
    rcases io e with ⟨c2, e⟩ | ⟨c2, e⟩
    · exact go (.inr rfl) (k47.mp c2) e
    obtain rfl := Option.some.inj e
    exact ⟨fx, .inl ⟨S', h, ⟨fun _ => ⟨fun g => c (k42.mpr g), fun g => c2 (k47.mpr g)⟩, fun g => by omega, fun g => by omega⟩⟩⟩
  · rw [if_pos (not_fine (Ft_w h) e2)] at e
    obtain rfl := Option.some.inj e
    exact ⟨fx, .inr h⟩
theorem sum_l (hrc : HI t env B rc) (hB : Rd t B) {S : MS} {a : Int32} (ts : tp 3 S.2.1.2) (d4 : S.2.2.1 ≤ 4) (ha : a.toInt = (S.2.2.1 : Int)) {s : Int32 × Mem} {r} (h : LI t env B 1 S s) (e : lb_Mod_sum_6 rc a s = some r) : Sum.elim (LI t env B 1 S) (fun x : Int32 × Mem => Fx mEx [] B x.2 ∧ (Ok t env 1 S x.1 x.2 ∨ Ft t S x.2)) r := by
  obtain ⟨v, N⟩ := s
  obtain ⟨fx, h⟩ := h
  dsimp only at fx h
  unfold lb_Mod_sum_6 at e
  dsimp only at e
  obtain ⟨x2, e2, e⟩ := bo e
  rcases h with ⟨S', h, hf⟩ | h
  · have hN := Rd_fx okE fx hB
    have hf := hf rfl
    rw [if_neg (is_fine h.1 e2)] at e
    obtain ⟨x3, e3, e⟩ := bo e
    have k43 := here_c hN h.2.1 (c := 43) e3 (by decide) (by decide)
    have k45 := here_c hN h.2.1 (c := 45) e3 (by decide) (by decide)
    have go : ∀ {op : Int32}, (op = 43 ∨ op = 45) → t S'.1 = op.toInt → j_Mod_sum_31_6 rc a v N = some r → Sum.elim (LI t env B 1 S) (fun x : Int32 × Mem => Fx mEx [] B x.2 ∧ (Ok t env 1 S x.1 x.2 ∨ Ft t S x.2)) r := by
      intro op hop ht e
      unfold j_Mod_sum_31_6 at e
      obtain ⟨x4, e4, e⟩ := bo e
      rw [e3] at e4
      obtain rfl := Option.some.inj e4
      have step : ∀ w0 : Int32, j_Mod_sum_45_6 rc a v w0 N = some r → ((w0 = 0 ∧ op = 45) ∨ (¬ w0 = 0 ∧ op = 43)) → Sum.elim (LI t env B 1 S) (fun x : Int32 × Mem => Fx mEx [] B x.2 ∧ (Ok t env 1 S x.1 x.2 ∨ Ft t S x.2)) r := by
        intro w0 e hw0
        unfold j_Mod_sum_45_6 at e
        obtain ⟨M5, e5, e⟩ := mo e
        obtain ⟨x6, e6, e⟩ := bo e
        have L := LI_step (w := 1) (op := op) (o := x6.1) (R := x6.2) hrc (.inl rfl) hB ts d4 ha fx h ht (by rcases hop with rfl | rfl <;> decide) (by rcases hop with rfl | rfl <;> decide) (by rcases hop with rfl | rfl <;> decide) (by rcases hop with rfl | rfl <;> decide) (by rcases hop with rfl | rfl <;> decide) e5 e6
        rcases io e with ⟨c, e⟩ | ⟨c, e⟩
        · have o45 : op = 45 := by
            rcases hw0 with h | h
            · exact h.2
            · exact absurd c h.1
          subst o45
          obtain rfl := Option.some.inj e
          rw [show jn v 45 x6.1 = v - x6.1 by simp only [jn]; rw [if_neg (by decide), if_neg (by decide), if_pos (by decide)]] at L
          exact L
        · have o43 : op = 43 := by
            rcases hw0 with h | h
            · exact absurd h.1 c
            · exact h.2
          subst o43
          obtain rfl := Option.some.inj e
          rw [show jn v 43 x6.1 = v + x6.1 by simp only [jn]; rw [if_neg (by decide), if_pos (by decide)]] at L
          exact L
      rcases io e with ⟨c, e⟩ | ⟨c, e⟩
      · refine step 1 e (.inr ⟨by decide, ?_⟩)
        exact Int32.toInt_inj.mp (ht.symm.trans (k43.mp c))
      · refine step 0 e (.inl ⟨rfl, ?_⟩)
        rcases hop with h | h
        · subst h; exact absurd (k43.mpr ht) c
        · exact h
    rcases io e with ⟨c, e⟩ | ⟨c, e⟩
    · exact go (.inl rfl) (k43.mp c) e
    obtain ⟨x9, e9, e⟩ := bo e
    rw [e3] at e9
    obtain rfl := Option.some.inj e9
    rcases io e with ⟨c2, e⟩ | ⟨c2, e⟩
    · exact go (.inr rfl) (k45.mp c2) e
    obtain rfl := Option.some.inj e
    exact ⟨fx, .inl ⟨S', h, ⟨fun _ => hf.1 (by omega), fun _ => ⟨fun g => c (k43.mpr g), fun g => c2 (k45.mpr g)⟩, fun g => by omega⟩⟩⟩
  · rw [if_pos (not_fine (Ft_w h) e2)] at e
    obtain rfl := Option.some.inj e
    exact ⟨fx, .inr h⟩
theorem prod_i (hrc : HI t env B rc) (hB : Rd t B) {S : MS} {a : Int32} {N : Mem} {r : Int32 × Mem} (fx : Fx mEx [] B N) (pre : Pre t 2 S N a) (e : fb_Mod_product rc a N = some r) : Fx mEx [] B r.2 ∧ (Ok t env 2 S r.1 r.2 ∨ Ft t S r.2) := by
  unfold fb_Mod_product at e
  obtain ⟨x1, e1, e⟩ := bo e
  obtain ⟨x14, e14, e⟩ := bo e
  obtain rfl := Option.some.inj e
  obtain ⟨q1, q2, q3, q4, q5, q6, q7, q8, q9⟩ := pre
  obtain ⟨f1, g⟩ := hrc 3 a N x1 S (by omega) fx ⟨q1, q2, q3, q4, q5, q6, q7, fun h => by omega, fun h => by omega⟩ e1
  have q8 := q8 (by omega)
  refine it_r (I := LI t env B 2 S) (Q := fun x : Int32 × Mem => Fx mEx [] B x.2 ∧ (Ok t env 2 S x.1 x.2 ∨ Ft t S x.2)) (fun s r hs er => prod_l hrc hB q8 q6 q5 hs er) e14 ⟨f1, ?_⟩
  rcases g with ⟨S', ⟨k1, k2, k3, k4, k5, k6, k7, rc1, k8, k9⟩, _⟩ | g
  · refine .inl ⟨S', ⟨k1, k2, k3, k4, k5, k6, fun d hd _ => k7 d hd (fun h => by omega), rc1, ?_, k9⟩, fun h => by omega⟩
    rw [← stl_stl (show 4 ≤ 5 by omega) S'.2.1.1, k8, stl_stl (show 4 ≤ 5 by omega)]
  · exact .inr g
theorem sum_i (hrc : HI t env B rc) (hB : Rd t B) {S : MS} {a : Int32} {N : Mem} {r : Int32 × Mem} (fx : Fx mEx [] B N) (pre : Pre t 1 S N a) (e : fb_Mod_sum rc a N = some r) : Fx mEx [] B r.2 ∧ (Ok t env 1 S r.1 r.2 ∨ Ft t S r.2) := by
  unfold fb_Mod_sum at e
  obtain ⟨x1, e1, e⟩ := bo e
  obtain ⟨x14, e14, e⟩ := bo e
  obtain rfl := Option.some.inj e
  obtain ⟨q1, q2, q3, q4, q5, q6, q7, q8, q9⟩ := pre
  have q8 := q8 (by omega)
  obtain ⟨f1, g⟩ := hrc 2 a N x1 S (by omega) fx ⟨q1, q2, q3, q4, q5, q6, q7, fun h => tp_m (by omega) q8, fun h => by omega⟩ e1
  refine it_r (I := LI t env B 1 S) (Q := fun x : Int32 × Mem => Fx mEx [] B x.2 ∧ (Ok t env 1 S x.1 x.2 ∨ Ft t S x.2)) (fun s r hs er => sum_l hrc hB q8 q6 q5 hs er) e14 ⟨f1, ?_⟩
  rcases g with ⟨S', ⟨k1, k2, k3, k4, k5, k6, k7, rc1, k8, k9⟩, kf⟩ | g
  · refine .inl ⟨S', ⟨k1, k2, k3, k4, k5, k6, fun d hd _ => k7 d hd (fun h => by omega), rc1, ?_, k9⟩, fun _ => kf⟩
    rw [← stl_stl (show 3 ≤ 4 by omega) S'.2.1.1, k8, stl_stl (show 3 ≤ 4 by omega)]
  · exact .inr g
end EX
end
