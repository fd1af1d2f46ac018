/-! numbers -/
theorem q_eq {a b : Int32} (h : a = b) : a.toInt = b.toInt := congrArg _ h
theorem q_ne {a b : Int32} (h : ¬ a = b) : a.toInt ≠ b.toInt := fun e => h (Int32.toInt_inj.mp e)
theorem q_lt {a b : Int32} (h : a < b) : a.toInt < b.toInt := Int32.lt_iff_toInt_lt.mp h
theorem q_nl {a b : Int32} (h : ¬ a < b) : b.toInt ≤ a.toInt := by have := mt Int32.lt_iff_toInt_lt.mpr h; omega
theorem q_le {a b : Int32} (h : a ≤ b) : a.toInt ≤ b.toInt := Int32.le_iff_toInt_le.mp h
theorem q_ng {a b : Int32} (h : ¬ a ≤ b) : b.toInt < a.toInt := by have := mt Int32.le_iff_toInt_le.mpr h; omega
theorem q_in {a : Int32} {n : Nat} (h : inb a n = true) : 0 ≤ a.toInt ∧ a.toInt < n := by
  simp only [inb, Bool.not_eq_true', Bool.or_eq_false_iff, decide_eq_false_iff_not] at h
  have h1 := q_nl h.1
  have h2 := h.2
  have z : (0 : Int32).toInt = 0 := rfl
  have e : a.toNatClampNeg = a.toInt.toNat := rfl
  omega
theorem q_nat {a : Int32} {n : Nat} (h : a.toInt = (n : Int)) : a.toNatClampNeg = n := by
  have e : a.toNatClampNeg = a.toInt.toNat := rfl
  omega
/-! the text on both sides -/
def TX (M : Mem) : Prop := ∀ i : Nat, (i : Int) < (M.1 162 10).toInt → (M.1 2 i).toInt = (M.1 167 i).toInt % 256
/-! a town's signs: what is read after so many -/
def tk (c : Int) : Int := if c = 35 then 0 else if c = 46 then 1 else if c = 104 then 2 else if c = 115 then 3 else -1
abbrev TS := Nat × Nat × Nat × Nat
def tok (c : Int) (s : TS) : Prop := s.2.2.1 < 6 ∧ ((c = 47 ∨ c = -1) → (if s.2.2.1 = 0 then 1 else s.2.2.2) ≤ s.2.1) ∧ (¬ (c = 47 ∨ c = -1) → tk c ≠ -1 ∧ s.2.1 < s.2.2.2)
def tst (c : Int) (s : TS) : TS := if c = 47 ∨ c = -1 then (s.1, 0, s.2.2.1 + 1, s.2.1) else (s.1 + 1, s.2.1 + 1, s.2.2.1, s.2.2.2)
def trun (t : Nat → Int) : Nat → TS
  | 0 => (0, 0, 0, 6)
  | p + 1 => tst (t p) (trun t p)
/-- all before p is well, and nothing before p is the end -/
def tup (t : Nat → Int) (p : Nat) : Prop := ∀ q, q < p → tok (t q) (trun t q) ∧ t q ≠ -1
def tkd (t : Nat → Int) (f : Nat → Int32) (p : Nat) : Prop := ∀ q, q < p → t q ≠ 47 → (f (trun t q).1).toInt = tk (t q)
theorem tup_s {t : Nat → Int} {p : Nat} (h : tup t p) (a : tok (t p) (trun t p)) (b : t p ≠ -1) : tup t (p + 1) := by
  intro q hq
  rcases Nat.lt_or_ge q p with c | c
  · exact h q c
  · have : q = p := by omega
    subst this; exact ⟨a, b⟩
theorem tup_u {t : Nat → Int} {p q : Nat} (hp : tup t p) (hq : tup t q) (np : ¬ tok (t p) (trun t p)) (nq : ¬ tok (t q) (trun t q)) : p = q := by
  rcases Nat.lt_trichotomy p q with c | c | c
  · exact absurd (hq p c).1 np
  · exact c
  · exact absurd (hp q c).1 nq
/-- every cell was read -/
theorem tcells {t : Nat → Int} {p : Nat} (h : tup t p) : ∀ i, i < (trun t p).1 → ∃ q, q < p ∧ t q ≠ 47 ∧ (trun t q).1 = i := by
  induction p with
  | zero => intro i hi; simp [trun] at hi
  | succ p ih =>
    intro i hi
    have hp : tup t p := fun q hq => h q (by omega)
    have h0 := (h p (by omega)).2
    simp only [trun, tst] at hi
    by_cases c : t p = 47 ∨ t p = -1
    · rw [if_pos c] at hi
      obtain ⟨q, a, b, d⟩ := ih hp i hi
      exact ⟨q, by omega, b, d⟩
    · rw [if_neg c] at hi
      rcases Nat.lt_or_ge i (trun t p).1 with g | g
      · obtain ⟨q, a, b, d⟩ := ih hp i g
        exact ⟨q, by omega, b, d⟩
      · have g2 : i < (trun t p).1 + 1 := hi
        exact ⟨p, by omega, fun e => c (.inl e), by omega⟩
theorem tkd_u {t : Nat → Int} {f g : Nat → Int32} {p : Nat} (h : tup t p) (hf : tkd t f p) (hg : tkd t g p) : ∀ i, i < (trun t p).1 → f i = g i := by
  intro i hi
  obtain ⟨q, a, b, d⟩ := tcells h i hi
  have e1 := hf q a b
  have e2 := hg q a b
  rw [d] at e1 e2
  exact Int32.toInt_inj.mp (by rw [e1, e2])
theorem trun_b {t : Nat → Int} {p : Nat} (h : tup t p) : (trun t p).2.1 ≤ 6 ∧ (trun t p).2.2.1 ≤ 6 ∧ (trun t p).2.2.2 ≤ 6 ∧ (trun t p).2.1 ≤ (trun t p).2.2.2 ∧ ((trun t p).2.2.1 = 0 → (trun t p).2.2.2 = 6 ∧ (trun t p).1 = (trun t p).2.1) ∧ (0 < (trun t p).2.2.1 → (trun t p).1 = (trun t p).2.2.1 * (trun t p).2.2.2 + (trun t p).2.1 ∧ 0 < (trun t p).2.2.2) := by
  induction p with
  | zero => simp [trun]
  | succ p ih =>
    have hp : tup t p := fun q hq => h q (by omega)
    obtain ⟨b1, b2, b3, b4, b5, b6⟩ := ih hp
    obtain ⟨⟨k1, k2, k3⟩, k4⟩ := h p (by omega)
    simp only [trun, tst]
    generalize trun t p = s at *
    obtain ⟨c, l, y, w⟩ := s
    dsimp only at *
    by_cases e : t p = 47 ∨ t p = -1
    · rw [if_pos e]
      dsimp only
      have k2 := k2 e
      by_cases y0 : y = 0
      · subst y0
        rw [if_pos rfl] at k2
        have := b5 rfl
        refine ⟨by omega, by omega, by omega, by omega, fun h => by omega, fun _ => ⟨?_, by omega⟩⟩
        rw [this.2]; simp
      · rw [if_neg y0] at k2
        have hb := b6 (by omega)
        have el : l = w := by omega
        subst el
        refine ⟨by omega, by omega, by omega, by omega, fun h => by omega, fun _ => ⟨?_, by omega⟩⟩
        rw [hb.1, Nat.add_mul]; omega
    · rw [if_neg e]
      dsimp only
      have k3 := k3 e
      refine ⟨by omega, by omega, by omega, by omega, fun h => ⟨(b5 h).1, by have := (b5 h).2; omega⟩, fun h => ⟨by have := (b6 h).1; omega, (b6 h).2⟩⟩
theorem tcells_m {t : Nat → Int} {q p : Nat} (h : q ≤ p) : (trun t q).1 ≤ (trun t p).1 := by
  induction p with
  | zero => have : q = 0 := by omega
            subst this; exact Nat.le_refl _
  | succ p ih =>
    rcases Nat.lt_or_ge p q with c | c
    · have : q = p + 1 := by omega
      subst this; exact Nat.le_refl _
    · have k := ih c
      simp only [trun, tst]
      by_cases e : t p = 47 ∨ t p = -1
      · rw [if_pos e]; exact k
      · rw [if_neg e]; show (trun t q).1 ≤ (trun t p).1 + 1; omega
theorem tcells_lt {t : Nat → Int} {q p : Nat} (up : tup t p) (g : q < p) (n : t q ≠ 47) : (trun t q).1 < (trun t p).1 := by
  have k : (trun t (q + 1)).1 ≤ (trun t p).1 := tcells_m (by omega)
  have m := (up q g).2
  have e : (trun t (q + 1)).1 = (trun t q).1 + 1 := by simp only [trun, tst, if_neg (show ¬ (t q = 47 ∨ t q = -1) by omega)]
  omega
