/-! scenes are copied; what can be undone, what is kept -/
theorem cpy_eq {M : Mem} {k0 k1 n i : Nat} (h : i < n) : (s_c M k0 k1 0 0 n).1 k1 i = M.1 k0 i := by
  unfold s_c va_cpy
  simp [h]
theorem cpy_ne {M : Mem} {k0 k1 sp dp n a b : Nat} (h : a ≠ k1) : (s_c M k0 k1 sp dp n).1 a b = M.1 a b := by
  unfold s_c
  simp [h]
theorem copy_i {v0 v1 : Nat} {M r : Mem} (hne : v0 + 7 ≤ v1 ∨ v1 + 7 ≤ v0) (e : f_Scene_copy v0 v1 M = some r) : SEq (scn M v1) (scn r v0) ∧ (∀ k i, (k < v0 ∨ v0 + 7 ≤ k) → r.1 k i = M.1 k i) ∧ r.2 = M.2 := by
  unfold f_Scene_copy at e
  obtain ⟨h0, e⟩ := io_n e
  obtain ⟨h1, e⟩ := io_n e
  rw [scn_rf h0 (show 0 < 6 by omega), scn_rf h0 (show 1 < 6 by omega), scn_rf h0 (show 2 < 6 by omega), scn_rf h0 (show 3 < 6 by omega), scn_rf h0 (show 4 < 6 by omega), scn_rf h0 (show 5 < 6 by omega), scn_rf h1 (show 0 < 6 by omega), scn_rf h1 (show 1 < 6 by omega), scn_rf h1 (show 2 < 6 by omega), scn_rf h1 (show 3 < 6 by omega), scn_rf h1 (show 4 < 6 by omega), scn_rf h1 (show 5 < 6 by omega)] at e
  obtain ⟨M1, e1, e⟩ := mo e
  obtain ⟨M2, e2, e⟩ := mo e
  obtain ⟨M3, e3, e⟩ := mo e
  obtain ⟨M4, e4, e⟩ := mo e
  obtain ⟨M5, e5, e⟩ := mo e
  obtain ⟨M6, e6, e⟩ := mo e
  obtain ⟨M7, e7, e⟩ := mo e
  obtain ⟨M8, e8, e⟩ := mo e
  obtain ⟨M9, e9, e⟩ := mo e
  obtain ⟨M10, e10, e⟩ := mo e
  obtain rfl := Option.some.inj e
  have f : ∀ k i, (k < v0 ∨ v0 + 7 ≤ k) → M6.1 k i = M.1 k i := fun k i h => by
    rw [e6, cpy_ne (by omega), e5, cpy_ne (by omega), e4, cpy_ne (by omega), e3, cpy_ne (by omega), e2, cpy_ne (by omega), e1, cpy_ne (by omega)]
  have g : ∀ k i, k ≠ v0 → M10.1 k i = M6.1 k i := fun k i h => by
    rw [e10, si_ne (by omega), e9, si_ne (by omega), e8, si_ne (by omega), e7, si_ne (by omega)]
  refine ⟨⟨fun i hi => ?_, fun i hi => ?_, fun i hi => ?_, fun i hi => ?_, fun i hi => ?_, fun i hi => ?_, ?_, ?_, ?_, ?_⟩, fun k i h => ?_, ?_⟩
  · show M.1 (v1 + 1 + 0) i = M10.1 (v0 + 1 + 0) i
    rw [g _ _ (by omega), e6, cpy_ne (by omega), e5, cpy_ne (by omega), e4, cpy_ne (by omega), e3, cpy_ne (by omega), e2, cpy_ne (by omega), e1, cpy_eq hi]
  · show M.1 (v1 + 1 + 1) i = M10.1 (v0 + 1 + 1) i
    rw [g _ _ (by omega), e6, cpy_ne (by omega), e5, cpy_ne (by omega), e4, cpy_ne (by omega), e3, cpy_ne (by omega), e2, cpy_eq hi, e1, cpy_ne (by omega)]
  · show M.1 (v1 + 1 + 2) i = M10.1 (v0 + 1 + 2) i
    rw [g _ _ (by omega), e6, cpy_ne (by omega), e5, cpy_ne (by omega), e4, cpy_ne (by omega), e3, cpy_eq hi, e2, cpy_ne (by omega), e1, cpy_ne (by omega)]
  · show M.1 (v1 + 1 + 3) i = M10.1 (v0 + 1 + 3) i
    rw [g _ _ (by omega), e6, cpy_ne (by omega), e5, cpy_ne (by omega), e4, cpy_eq hi, e3, cpy_ne (by omega), e2, cpy_ne (by omega), e1, cpy_ne (by omega)]
  · show M.1 (v1 + 1 + 4) i = M10.1 (v0 + 1 + 4) i
    rw [g _ _ (by omega), e6, cpy_ne (by omega), e5, cpy_eq hi, e4, cpy_ne (by omega), e3, cpy_ne (by omega), e2, cpy_ne (by omega), e1, cpy_ne (by omega)]
  · show M.1 (v1 + 1 + 5) i = M10.1 (v0 + 1 + 5) i
    rw [g _ _ (by omega), e6, cpy_eq hi, e5, cpy_ne (by omega), e4, cpy_ne (by omega), e3, cpy_ne (by omega), e2, cpy_ne (by omega), e1, cpy_ne (by omega)]
  · show M.1 v1 6 = M10.1 v0 6
    rw [e10, si_ne (by omega), e9, si_ne (by omega), e8, si_ne (by omega), e7, si_eq, f v1 6 (by omega)]
  · show M.1 v1 7 = M10.1 v0 7
    rw [e10, si_ne (by omega), e9, si_ne (by omega), e8, si_eq, e7, si_ne (by omega), f v1 7 (by omega)]
  · show M.1 v1 8 = M10.1 v0 8
    rw [e10, si_ne (by omega), e9, si_eq, e8, si_ne (by omega), e7, si_ne (by omega), f v1 8 (by omega)]
  · show M.1 v1 9 = M10.1 v0 9
    rw [e10, si_eq, e9, si_ne (by omega), e8, si_ne (by omega), e7, si_ne (by omega), f v1 9 (by omega)]
  · rw [g k i (by omega)]; exact f k i h
  · rw [e10]; show M9.2 = _
    rw [e9]; show M8.2 = _
    rw [e8]; show M7.2 = _
    rw [e7]; show M6.2 = _
    rw [e6]; show M5.2 = _
    rw [e5]; show M4.2 = _
    rw [e4]; show M3.2 = _
    rw [e3]; show M2.2 = _
    rw [e2]; show M1.2 = _
    rw [e1]; rfl
theorem SEq_r {f : Nat → Nat → Int32} : SEq f f := ⟨fun _ _ => rfl, fun _ _ => rfl, fun _ _ => rfl, fun _ _ => rfl, fun _ _ => rfl, fun _ _ => rfl, rfl, rfl, rfl, rfl⟩
theorem SEq_t {f g h : Nat → Nat → Int32} (a : SEq f g) (b : SEq g h) : SEq f h := by
  obtain ⟨a0, a1, a2, a3, a4, a5, a6, a7, a8, a9⟩ := a
  obtain ⟨b0, b1, b2, b3, b4, b5, b6, b7, b8, b9⟩ := b
  exact ⟨fun i hi => (a0 i hi).trans (b0 i hi), fun i hi => (a1 i hi).trans (b1 i hi), fun i hi => (a2 i hi).trans (b2 i hi), fun i hi => (a3 i hi).trans (b3 i hi), fun i hi => (a4 i hi).trans (b4 i hi), fun i hi => (a5 i hi).trans (b5 i hi), a6.trans b6, a7.trans b7, a8.trans b8, a9.trans b9⟩
theorem scn_f {X Y : Mem} {k : Nat} (h : ∀ kx i, k ≤ kx → kx < k + 7 → Y.1 kx i = X.1 kx i) : SEq (scn X k) (scn Y k) := scn_e (fun j i hj => by
  unfold scn
  by_cases g : j < 6
  · rw [if_pos g, if_pos g, h _ _ (by omega) (by omega)]
  · rw [if_neg g, if_neg g, h _ _ (by omega) (by omega)])
/-- the rows of past scenes: twelve of them, in some order -/
def HX (X : Mem) : Prop := (∀ i : Nat, i < 12 → ∃ j : Nat, j < 12 ∧ X.2.2 47 i = some (49 + 7 * j)) ∧ (∀ i j : Nat, i < 12 → j < 12 → X.2.2 47 i = X.2.2 47 j → i = j)
theorem sq_eq {M : Mem} {k i : Nat} {v : Option Nat} : (s_q M k i v).2.2 k i = v := by simp [s_q]
theorem sq_ne {M : Mem} {k i a b : Nat} {v : Option Nat} (h : ¬ (a = k ∧ b = i)) : (s_q M k i v).2.2 a b = M.2.2 a b := by simp only [s_q, if_neg h]
theorem add58 {X x : Mem} {m : Nat} (hh : HX X) (hm : (X.1 46 2).toInt = (m : Int)) (m12 : m < 12) (e : j_History_add_58 18 X = some x) : (x.1 46 2).toInt = ((m + 1 : Nat) : Int) ∧ (∃ k, X.2.2 47 m = some k ∧ SEq (scn X 18) (scn x k)) ∧ (∀ u, u < 12 → u ≠ m → ∀ k, X.2.2 47 u = some k → SEq (scn X k) (scn x k)) ∧ (∀ kx i, ¬ (49 ≤ kx ∧ kx < 133) → ¬ (kx = 46 ∧ i = 2) → x.1 kx i = X.1 kx i) ∧ x.2 = X.2 := by
  unfold j_History_add_58 at e
  obtain ⟨_, e⟩ := io_n e
  rw [q_nat hm] at e
  obtain ⟨a1, ea1, e⟩ := bo e
  obtain ⟨_, e⟩ := io_n e
  obtain ⟨x2, e2, e⟩ := bo e
  obtain ⟨M3, e3, e⟩ := mo e
  obtain rfl := Option.some.inj e
  obtain ⟨j, hj, hq⟩ := hh.1 m m12
  have ja : a1 = 49 + 7 * j := Option.some.inj (ea1.symm.trans hq)
  obtain ⟨c1, c2, c3⟩ := copy_i (v0 := a1) (v1 := 18) (by omega) e2
  have f46 : x2.1 46 2 = X.1 46 2 := c2 46 2 (by omega)
  have g : ∀ kx i, ¬ (kx = 46 ∧ i = 2) → M3.1 kx i = x2.1 kx i := fun kx i h => by rw [e3, si_ne h]
  refine ⟨?_, ⟨a1, ea1, SEq_t c1 (scn_f (fun kx i h1 h2 => g kx i (by omega)))⟩, fun u hu hne k hk => ?_, fun kx i h1 h2 => ?_, ?_⟩
  · rw [e3, si_eq, f46]; exact add_ti hm o1 (by omega) (by omega)
  · obtain ⟨j', hj', hq'⟩ := hh.1 u hu
    have jk : k = 49 + 7 * j' := Option.some.inj (hk.symm.trans hq')
    have jj : j' ≠ j := by
      rintro rfl
      exact hne (hh.2 u m hu m12 (by rw [hq', hq]))
    exact scn_f (fun kx i h1 h2 => by rw [g kx i (by omega)]; exact c2 kx i (by omega))
  · rw [g kx i h2]; exact c2 kx i (by omega)
  · rw [e3]; show x2.2 = _; exact c3
/-- a scene is added to the past; sh: one was forgotten -/
def AH (X x : Mem) (sh m : Nat) : Prop := (x.1 46 2).toInt = ((m + 1 : Nat) : Int) ∧ HX x ∧ (∀ u, u < m → ∃ k, X.2.2 47 (u + sh) = some k ∧ x.2.2 47 u = some k ∧ SEq (scn X k) (scn x k)) ∧ (∃ k, x.2.2 47 m = some k ∧ SEq (scn X 18) (scn x k)) ∧ (∀ kx i, ¬ (49 ≤ kx ∧ kx < 133) → ¬ (kx = 46 ∧ i = 2) → x.1 kx i = X.1 kx i) ∧ x.2.1 = X.2.1 ∧ (∀ kx i, kx ≠ 47 → x.2.2 kx i = X.2.2 kx i)
theorem add_i {X x : Mem} {m : Nat} (hh : HX X) (hm : (X.1 46 2).toInt = (m : Int)) (m12 : m ≤ 12) (e : f_History_add 18 X = some x) : if m < 12 then AH X x 0 m else AH X x 1 11 := by
  have z12 : (12 : Int32).toInt = 12 := rfl
  unfold f_History_add at e
  obtain ⟨_, e⟩ := io_n e
  rcases io e with ⟨c, e⟩ | ⟨c, e⟩
  · have := q_lt c
    rw [if_pos (by omega)]
    obtain ⟨a1, ⟨k, a2, a3⟩, a4, a5, a6⟩ := add58 hh hm (by omega) e
    refine ⟨a1, by unfold HX; rw [a6]; exact hh, fun u hu => ?_, ⟨k, by rw [a6]; exact a2, a3⟩, a5, by rw [a6], fun kx i _ => by rw [a6]⟩
    obtain ⟨j, hj, hq⟩ := hh.1 u (by omega)
    exact ⟨_, hq, by rw [a6]; exact hq, a4 u (by omega) (by omega) _ hq⟩
  · have := q_nl c
    have m_12 : m = 12 := by omega
    subst m_12
    rw [if_neg (by omega)]
    obtain ⟨_, e⟩ := io_n e
    rw [show (0 : Int32).toNatClampNeg = 0 from rfl] at e
    obtain ⟨a4, ea4, e⟩ := bo e
    obtain ⟨_, e⟩ := io_n e
    obtain ⟨x8, e8, e⟩ := bo e
    obtain ⟨M9, e9, e⟩ := mo e
    obtain ⟨M10, e10, e⟩ := mo e
    rw [show (11 : Int32).toNatClampNeg = 11 from rfl] at e9
    have L : x8.1 = X.1 ∧ x8.2.1 = X.2.1 ∧ (∀ kx i, kx ≠ 47 → x8.2.2 kx i = X.2.2 kx i) ∧ (∀ u, u < 11 → x8.2.2 47 u = X.2.2 47 (u + 1)) := by
      refine it_r (I := fun s : Int32 × Mem => s.2.1 = X.1 ∧ s.2.2.1 = X.2.1 ∧ (∀ kx i, kx ≠ 47 → s.2.2.2 kx i = X.2.2 kx i) ∧ ∃ i : Nat, 1 ≤ i ∧ i ≤ 12 ∧ s.1.toInt = (i : Int) ∧ (∀ u, u + 1 < i → s.2.2.2 47 u = X.2.2 47 (u + 1)) ∧ (∀ u, i ≤ u + 1 → s.2.2.2 47 u = X.2.2 47 u)) (Q := fun x8 : Mem => x8.1 = X.1 ∧ x8.2.1 = X.2.1 ∧ (∀ kx i, kx ≠ 47 → x8.2.2 kx i = X.2.2 kx i) ∧ (∀ u, u < 11 → x8.2.2 47 u = X.2.2 47 (u + 1))) ?_ e8 ⟨rfl, rfl, fun _ _ _ => rfl, 1, by omega, by omega, rfl, fun u hu => absurd hu (by omega), fun _ _ => rfl⟩
      rintro ⟨v, N⟩ r ⟨n1, n2, n3, i, i1, i12, hi, n4, n5⟩ e
      dsimp only at n1 n2 n3 hi n4 n5
      unfold lb_History_add_18 at e
      dsimp only at e
      rcases io e with ⟨c, e⟩ | ⟨c, e⟩
      · have := q_le c
        obtain rfl := Option.some.inj e
        exact ⟨n1, n2, n3, fun u hu => n4 u (by omega)⟩
      have c1 := q_ng c
      obtain ⟨_, e⟩ := io_n e
      rw [q_nat hi] at e
      obtain ⟨a5, ea5, e⟩ := bo e
      obtain ⟨_, e⟩ := io_n e
      obtain ⟨_, e⟩ := io_n e
      obtain ⟨M6, e6, e⟩ := mo e
      obtain rfl := Option.some.inj e
      have im : (v - (1 : Int32)).toInt = ((i - 1 : Nat) : Int) := by rw [sub_ti hi o1 (by omega) (by omega)]; omega
      rw [q_nat im] at e6
      rw [n5 i (by omega)] at ea5
      refine ⟨?_, ?_, fun kx j h => ?_, i + 1, by omega, by omega, add_ti hi o1 (by omega) (by omega), fun u hu => ?_, fun u hu => ?_⟩
      · show M6.1 = _; rw [e6]; exact n1
      · show M6.2.1 = _; rw [e6]; exact n2
      · show M6.2.2 kx j = _; rw [e6, sq_ne (by omega)]; exact n3 kx j h
      · show M6.2.2 47 u = _
        rw [e6]
        by_cases g : u = i - 1
        · subst g
          rw [sq_eq, show i - 1 + 1 = i by omega]; exact ea5.symm
        · rw [sq_ne (by omega)]; exact n4 u (by omega)
      · show M6.2.2 47 u = _
        rw [e6, sq_ne (by omega)]; exact n5 u (by omega)
    obtain ⟨l1, l2, l3, l4⟩ := L
    have q10 : M10.1 46 2 = (11 : Int32) := by rw [e10, si_eq]
    have f10 : ∀ kx i, ¬ (kx = 46 ∧ i = 2) → M10.1 kx i = X.1 kx i := fun kx i h => by rw [e10, si_ne h]; show M9.1 kx i = _; rw [e9]; show x8.1 kx i = _; rw [l1]
    have r10 : ∀ u, u < 11 → M10.2.2 47 u = X.2.2 47 (u + 1) := fun u hu => by rw [e10]; show M9.2.2 47 u = _; rw [e9, sq_ne (by omega)]; exact l4 u hu
    have r11 : M10.2.2 47 11 = X.2.2 47 0 := by rw [e10]; show M9.2.2 47 11 = _; rw [e9, sq_eq]; exact ea4.symm
    have rk : ∀ kx i, kx ≠ 47 → M10.2.2 kx i = X.2.2 kx i := fun kx i h => by rw [e10]; show M9.2.2 kx i = _; rw [e9, sq_ne (by omega)]; exact l3 kx i h
    have hx10 : HX M10 := by
      have get : ∀ i, i < 12 → ∃ i', i' < 12 ∧ M10.2.2 47 i = X.2.2 47 i' ∧ (i < 11 → i' = i + 1) ∧ (i = 11 → i' = 0) := by
        intro i hi
        rcases Nat.lt_or_ge i 11 with g | g
        · exact ⟨i + 1, by omega, r10 i g, fun _ => rfl, fun h => by omega⟩
        · have : i = 11 := by omega
          subst this
          exact ⟨0, by omega, r11, fun h => by omega, fun _ => rfl⟩
      refine ⟨fun i hi => ?_, fun i j hi hj h => ?_⟩
      · obtain ⟨i', a, b, _⟩ := get i hi
        rw [b]; exact hh.1 i' a
      · obtain ⟨i', a, b, b1, b2⟩ := get i hi
        obtain ⟨j', c', d, d1, d2⟩ := get j hj
        rw [b, d] at h
        have := hh.2 i' j' a c' h
        omega
    obtain ⟨a1, ⟨k, a2, a3⟩, a4', a5, a6⟩ := add58 (m := 11) hx10 (by rw [q10]; rfl) (by omega) e
    have s10 : ∀ k, 49 ≤ k ∨ k = 18 → SEq (scn X k) (scn M10 k) := fun k hk => scn_f (fun kx i h1 h2 => f10 kx i (by omega))
    refine ⟨a1, by unfold HX; rw [a6]; exact hx10, fun u hu => ?_, ⟨k, by rw [a6]; exact a2, SEq_t (s10 18 (.inr rfl)) a3⟩, fun kx i h1 h2 => (a5 kx i h1 h2).trans (f10 kx i h2), ?_, fun kx i h => ?_⟩
    · obtain ⟨j, hj, hq⟩ := hh.1 (u + 1) (by omega)
      refine ⟨_, hq, by rw [a6, r10 u hu]; exact hq, SEq_t (s10 _ (.inl (by omega))) (a4' u (by omega) (by omega) _ (by rw [r10 u hu]; exact hq))⟩
    · rw [a6, e10]; show M9.2.1 = _; rw [e9]; exact l2
    · rw [a6]; exact rk kx i h
/-- the reference remembers a row -/
def RH (R r : Mem) (v sh m : Nat) : Prop := (r.1 162 27).toInt = ((m + 1 : Nat) : Int) ∧ (∀ u i, u < m → i < 96 → r.1 173 (96 * u + i) = R.1 173 (96 * (u + sh) + i)) ∧ (∀ i, i < 96 → r.1 173 (96 * m + i) = R.1 v i) ∧ (∀ kx i, kx ≠ 173 → ¬ (kx = 162 ∧ i = 27) → r.1 kx i = R.1 kx i)
theorem lay_r {R r : Mem} {v0 v1 o : Nat} {w : Int32} (hw : w.toInt = (o : Int)) (o2 : o ≤ 1100) (hne : v0 ≠ v1) (e : f_Mod_lay v0 v1 w R = some r) : (∀ i, i < 96 → r.1 v1 (o + i) = R.1 v0 i) ∧ (∀ k i, ¬ (k = v1 ∧ o ≤ i ∧ i < o + 96) → r.1 k i = R.1 k i) ∧ r.2 = R.2 := by
  unfold f_Mod_lay at e
  obtain ⟨_, e⟩ := io_n e
  obtain ⟨_, e⟩ := io_n e
  obtain ⟨x3, e3, e⟩ := bo e
  obtain rfl := Option.some.inj e
  refine it_r (I := fun s : Int32 × Mem => ∃ p : Nat, p ≤ 96 ∧ s.1.toInt = (p : Int) ∧ (∀ i, i < p → s.2.1 v1 (o + i) = R.1 v0 i) ∧ (∀ k i, ¬ (k = v1 ∧ o ≤ i ∧ i < o + 96) → s.2.1 k i = R.1 k i) ∧ s.2.2 = R.2) (Q := fun r : Mem => (∀ i, i < 96 → r.1 v1 (o + i) = R.1 v0 i) ∧ (∀ k i, ¬ (k = v1 ∧ o ≤ i ∧ i < o + 96) → r.1 k i = R.1 k i) ∧ r.2 = R.2) ?_ e3 ⟨0, by omega, rfl, fun i hi => absurd hi (by omega), fun _ _ _ => rfl, rfl⟩
  rintro ⟨k, N⟩ r ⟨p, lp, hp, h1, h2, h3⟩ e
  dsimp only at hp h1 h2 h3
  have z96 : (96 : Int32).toInt = 96 := rfl
  unfold lb_Mod_lay_2 at e
  dsimp only at e
  rcases io e with ⟨c, e⟩ | ⟨c, e⟩
  · have := q_le c
    obtain rfl := Option.some.inj e
    exact ⟨fun i hi => h1 i (by omega), h2, h3⟩
  have c1 := q_ng c
  obtain ⟨_, e⟩ := io_n e
  obtain ⟨_, e⟩ := io_n e
  obtain ⟨M1, e1, e⟩ := mo e
  obtain rfl := Option.some.inj e
  have wp : (w + k).toInt = ((o + p : Nat) : Int) := by rw [add_ti hw hp (by omega) (by omega)]; omega
  rw [q_nat wp, q_nat hp, h2 v0 p (by omega)] at e1
  refine ⟨p + 1, by omega, add_ti hp o1 (by omega) (by omega), fun i hi => ?_, fun a b h => ?_, ?_⟩
  · show M1.1 v1 (o + i) = _
    rw [e1]
    by_cases g : i = p
    · subst g; rw [si_eq]
    · rw [si_ne (by omega)]; exact h1 i (by omega)
  · show M1.1 a b = _
    rw [e1, si_ne (by omega)]; exact h2 a b h
  · show M1.2 = _
    rw [e1]; exact h3
theorem rem_i {R r : Mem} {v m : Nat} (hv : v ≠ 173 ∧ v ≠ 162) (hm : (R.1 162 27).toInt = (m : Int)) (m12 : m ≤ 12) (e : f_Mod_remember v R = some r) : if m < 12 then RH R r v 0 m else RH R r v 1 11 := by
  have z12 : (12 : Int32).toInt = 12 := rfl
  have z96 : (96 : Int32).toInt = 96 := rfl
  have last : ∀ (A : Mem) (m : Nat), (A.1 162 27).toInt = (m : Int) → m ≤ 11 → j_Mod_remember_49 v A = some r → (r.1 162 27).toInt = ((m + 1 : Nat) : Int) ∧ (∀ i, i < 96 → r.1 173 (96 * m + i) = A.1 v i) ∧ (∀ kx i, ¬ (kx = 173 ∧ 96 * m ≤ i ∧ i < 96 * m + 96) → ¬ (kx = 162 ∧ i = 27) → r.1 kx i = A.1 kx i) := by
    intro A m hm m11 e
    unfold j_Mod_remember_49 at e
    obtain ⟨x1, e1, e⟩ := bo e
    obtain ⟨M2, e2, e⟩ := mo e
    obtain rfl := Option.some.inj e
    have w : ((96 : Int32) * (A.1 162 27)).toInt = ((96 * m : Nat) : Int) := by rw [mul_ti z96 hm (by omega) (by omega)]; omega
    obtain ⟨a1, a2, _⟩ := lay_r w (by omega) hv.1 e1
    have f27 : x1.1 162 27 = A.1 162 27 := a2 162 27 (by omega)
    refine ⟨?_, fun i hi => ?_, fun kx i h1 h2 => ?_⟩
    · rw [e2, si_eq, f27]; exact add_ti hm o1 (by omega) (by omega)
    · rw [e2, si_ne (by omega)]; exact a1 i hi
    · rw [e2, si_ne h2]; exact a2 kx i h1
  unfold f_Mod_remember at e
  obtain ⟨_, e⟩ := io_n e
  rcases io e with ⟨c, e⟩ | ⟨c, e⟩
  · have := q_eq c
    have m_12 : m = 12 := by omega
    subst m_12
    rw [if_neg (by omega)]
    obtain ⟨x5, e5, e⟩ := bo e
    obtain ⟨M6, e6, e⟩ := mo e
    have L : (∀ i, i < 1056 → x5.1 173 i = R.1 173 (i + 96)) ∧ (∀ kx i, kx ≠ 173 → x5.1 kx i = R.1 kx i) := by
      refine it_r (I := fun s : Int32 × Mem => ∃ p : Nat, p ≤ 1056 ∧ s.1.toInt = (p : Int) ∧ (∀ i, i < p → s.2.1 173 i = R.1 173 (i + 96)) ∧ (∀ i, p ≤ i → s.2.1 173 i = R.1 173 i) ∧ (∀ kx i, kx ≠ 173 → s.2.1 kx i = R.1 kx i)) (Q := fun x5 : Mem => (∀ i, i < 1056 → x5.1 173 i = R.1 173 (i + 96)) ∧ (∀ kx i, kx ≠ 173 → x5.1 kx i = R.1 kx i)) ?_ e5 ⟨0, by omega, rfl, fun i hi => absurd hi (by omega), fun _ _ => rfl, fun _ _ _ => rfl⟩
      rintro ⟨k, N⟩ r ⟨p, lp, hp, h1, h2, h3⟩ e
      dsimp only at hp h1 h2 h3
      have z1056 : (1056 : Int32).toInt = 1056 := rfl
      unfold lb_Mod_remember_11 at e
      dsimp only at e
      rcases io e with ⟨c, e⟩ | ⟨c, e⟩
      · have := q_le c
        obtain rfl := Option.some.inj e
        exact ⟨fun i hi => h1 i (by omega), h3⟩
      have c1 := q_ng c
      obtain ⟨_, e⟩ := io_n e
      obtain ⟨_, e⟩ := io_n e
      obtain ⟨M3, e3, e⟩ := mo e
      obtain rfl := Option.some.inj e
      have wp : (k + (96 : Int32)).toInt = ((p + 96 : Nat) : Int) := by rw [add_ti hp z96 (by omega) (by omega)]; omega
      rw [q_nat wp, q_nat hp, h2 (p + 96) (by omega)] at e3
      refine ⟨p + 1, by omega, add_ti hp o1 (by omega) (by omega), fun i hi => ?_, fun i hi => ?_, fun a b h => ?_⟩
      · show M3.1 173 i = _
        rw [e3]
        by_cases g : i = p
        · subst g; rw [si_eq]
        · rw [si_ne (by omega)]; exact h1 i (by omega)
      · show M3.1 173 i = _
        rw [e3, si_ne (by omega)]; exact h2 i (by omega)
      · show M3.1 a b = _
        rw [e3, si_ne (by omega)]; exact h3 a b h
    obtain ⟨l1, l2⟩ := L
    have f27 : (M6.1 162 27).toInt = ((11 : Nat) : Int) := by
      have a1 : (x5.1 162 27).toInt = 12 := by rw [l2 162 27 (by omega)]; exact hm
      rw [e6, si_eq, sub_ti a1 o1 (by omega) (by omega)]; rfl
    obtain ⟨b1, b2, b3⟩ := last M6 11 f27 (by omega) e
    refine ⟨b1, fun u i hu hi => ?_, fun i hi => ?_, fun kx i h1 h2 => ?_⟩
    · rw [b3 _ _ (by omega) (by omega), e6, si_ne (by omega), l1 _ (by omega)]
      rw [show 96 * u + i + 96 = 96 * (u + 1) + i by omega]
    · rw [b2 i hi, e6, si_ne (by omega), l2 _ _ hv.1]
    · rw [b3 kx i (by omega) h2, e6, si_ne h2, l2 kx i h1]
  · have := q_ne c
    rw [if_pos (by omega)]
    obtain ⟨b1, b2, b3⟩ := last R m hm (by omega) e
    exact ⟨b1, fun u i hu hi => by rw [b3 _ _ (by omega) (by omega)]; rfl, b2, fun kx i h1 h2 => b3 kx i (by omega) h2⟩
/-- what can be undone is the same on both sides -/
def ZH (X R : Mem) (n : Nat) : Prop := HX X ∧ ∃ m : Nat, m ≤ 12 ∧ (X.1 46 2).toInt = (m : Int) ∧ (R.1 162 27).toInt = (m : Int) ∧ ∀ u, u < m → ∃ k, X.2.2 47 u = some k ∧ ZS (scn X k) (fun i => R.1 173 (96 * u + i)) n ∧ ZV R (fun i => R.1 173 (96 * u + i)) n
theorem hist_2 {X R x r : Mem} {v n : Nat} (n8 : n ≤ 8) (hv : v = 163 ∨ v = 174) (h : ZH X R n) (zs : ZS (scn X 18) (R.1 v) n) (zv : ZV R (R.1 v) n) (ex : f_History_add 18 X = some x) (er : f_Mod_remember v R = some r) : ZH x r n := by
  obtain ⟨hx, m, m12, h1, h2, h3⟩ := h
  have A := add_i hx h1 m12 ex
  have B := rem_i (by omega) h2 m12 er
  have gen : ∀ sh m', m' ≤ 11 → (∀ u, u < m' → u + sh < m) → AH X x sh m' → RH R r v sh m' → ZH x r n := by
    intro sh m' m11 hsh ⟨a1, a2, a3, ⟨k, a4, a5⟩, a6, _⟩ ⟨b1, b2, b3, b4⟩
    have agr : AgR R r := ⟨b4 162 2 (by omega) (by omega), b4 162 3 (by omega) (by omega), b4 162 4 (by omega) (by omega), b4 162 5 (by omega) (by omega), b4 162 23 (by omega) (by omega), fun i => b4 164 i (by omega) (by omega), fun i => b4 165 i (by omega) (by omega), fun i => b4 166 i (by omega) (by omega), fun i => b4 172 i (by omega) (by omega)⟩
    refine ⟨a2, m' + 1, by omega, a1, b1, fun u hu => ?_⟩
    rcases Nat.lt_or_ge u m' with g | g
    · obtain ⟨k', c1, c2, c3⟩ := a3 u g
      obtain ⟨k'', d1, d2, d3⟩ := h3 (u + sh) (hsh u g)
      have : k' = k'' := Option.some.inj (c1.symm.trans d1)
      subst this
      exact ⟨k', c2, ZS_c n8 c3 (fun i hi => (b2 u i g hi).symm) d2, ZV_a n8 agr (fun i hi => b2 u i g hi) d3⟩
    · have : u = m' := by omega
      subst this
      exact ⟨k, a4, ZS_c n8 a5 (fun i hi => (b3 i hi).symm) zs, ZV_a n8 agr (fun i hi => b3 i hi) zv⟩
  by_cases g : m < 12
  · rw [if_pos g] at A B
    exact gen 0 m (by omega) (fun u hu => by omega) A B
  · rw [if_neg g] at A B
    exact gen 1 11 (by omega) (fun u hu => by omega) A B
