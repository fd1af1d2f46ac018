/-! may a cell become another -/
theorem btw_even {w h a b : Int} (hn : btw w h a b ≠ -1) : a + b = 2 * btw w h a b := by
  unfold btw at hn ⊢
  by_cases g : ((a % w - b % w).natAbs = 2 ∧ (a / w - b / w).natAbs = 0) ∨ ((a % w - b % w).natAbs = 0 ∧ (a / w - b / w).natAbs = 2)
  · rw [if_pos g]
    have ea := Int.emod_add_mul_ediv a w
    have eb := Int.emod_add_mul_ediv b w
    rcases g with ⟨g1, g2⟩ | ⟨g1, g2⟩
    · have q : a / w = b / w := by omega
      rw [q] at ea
      omega
    · have q : a / w = b / w + 2 ∨ a / w = b / w - 2 := by omega
      rcases q with q | q
      · rw [q, Int.mul_add] at ea; omega
      · rw [q, Int.mul_sub] at ea; omega
  · rw [if_neg g] at hn; exact absurd rfl hn
/-- the planks of a row: two ends, and what lies between -/
theorem pl_v {R : Mem} {g : Nat → Int32} {n j : Nat} (jR : J R) (zv : ZV R g n) (hj : (j : Int) < (g 92).toInt) : onN R 1 (g (80 + 2 * j)).toInt ∧ onN R 1 (g (81 + 2 * j)).toInt ∧ btw (xw R) (xh R) (g (80 + 2 * j)).toInt (g (81 + 2 * j)).toInt ≠ -1 ∧ ¬ onN R 1 (btw (xw R) (xh R) (g (80 + 2 * j)).toInt (g (81 + 2 * j)).toInt) := by
  obtain ⟨h1, h2, s, s4, h3, h4⟩ := zv.2.2.2 j hj
  have bi := (bb_i (aw jR) (ah jR) h1.1 h1.2.1 (s := s) (by omega) (by rw [h3]; have := h2.1; omega)).1
  rw [h3] at bi
  refine ⟨h1, h2, ?_, by rw [bi]; exact h4⟩
  rw [bi]
  intro h
  unfold bb at h3
  rw [if_pos h] at h3
  have := h2.1
  omega
def CB (R : Mem) (n : Nat) (c k : Int32) : Prop := (bt k 0 = false → ∀ p, p < n → (R.1 163 p).toInt ≠ c.toInt) ∧ (bt k 1 = false → ∀ p, p < n → (R.1 163 p).toInt ≠ c.toInt + 36) ∧ (bt k 1 = false → ∀ j : Nat, (j : Int) < (R.1 163 92).toInt → (R.1 163 (80 + 2 * j)).toInt ≠ c.toInt ∧ (R.1 163 (81 + 2 * j)).toInt ≠ c.toInt) ∧ (bt k 1 = true → ∀ j : Nat, (j : Int) < (R.1 163 92).toInt → (R.1 163 (80 + 2 * j)).toInt + (R.1 163 (81 + 2 * j)).toInt ≠ 2 * c.toInt)
theorem under_c {X R : Mem} {n : Nat} {c x : Int32} (zq : ZQ X R n) (e : f_Scene_isUnderPlank 11 c X = some x) : (x = 1 ∧ ∃ j : Nat, (j : Int) < (R.1 163 92).toInt ∧ (R.1 163 (80 + 2 * j)).toInt + (R.1 163 (81 + 2 * j)).toInt = 2 * c.toInt) ∨ (x = 0 ∧ ∀ j : Nat, (j : Int) < (R.1 163 92).toInt → (R.1 163 (80 + 2 * j)).toInt + (R.1 163 (81 + 2 * j)).toInt ≠ 2 * c.toInt) := by
  obtain ⟨n8, jR, zb, zs, zv, zw⟩ := zq
  have z6 : (6 : Int32).toInt = 6 := rfl
  have r4 : rf 11 4 = 16 := rfl
  have r5 : rf 11 5 = 17 := rfl
  have lai : X.1 11 6 = R.1 163 92 := zs.2.2.2.1
  have hb := zv.2.1
  unfold f_Scene_isUnderPlank at e
  obtain ⟨_, e⟩ := io_n e
  obtain ⟨y, ey, e⟩ := bo e
  have Q : (y = .inr () ∧ ∃ j : Nat, (j : Int) < (R.1 163 92).toInt ∧ (R.1 163 (80 + 2 * j)).toInt + (R.1 163 (81 + 2 * j)).toInt = 2 * c.toInt) ∨ (y = .inl () ∧ ∀ j : Nat, (j : Int) < (R.1 163 92).toInt → (R.1 163 (80 + 2 * j)).toInt + (R.1 163 (81 + 2 * j)).toInt ≠ 2 * c.toInt) := by
    refine it_r (I := fun s : Int32 => ∃ p : Nat, (p : Int) ≤ (R.1 163 92).toInt ∧ s.toInt = (p : Int) ∧ ∀ j : Nat, j < p → (R.1 163 (80 + 2 * j)).toInt + (R.1 163 (81 + 2 * j)).toInt ≠ 2 * c.toInt) (Q := fun y : Unit ⊕ Unit => (y = .inr () ∧ ∃ j : Nat, (j : Int) < (R.1 163 92).toInt ∧ (R.1 163 (80 + 2 * j)).toInt + (R.1 163 (81 + 2 * j)).toInt = 2 * c.toInt) ∨ (y = .inl () ∧ ∀ j : Nat, (j : Int) < (R.1 163 92).toInt → (R.1 163 (80 + 2 * j)).toInt + (R.1 163 (81 + 2 * j)).toInt ≠ 2 * c.toInt)) ?_ ey ⟨0, by omega, rfl, fun j hj => absurd hj (by omega)⟩
    rintro s r ⟨p, lp, hp, h⟩ e
    unfold lb_Scene_isUnderPlank_2 at e
    rw [lai] at e
    rcases io e with ⟨g, e⟩ | ⟨g, e⟩
    · have := q_le g
      obtain rfl := Option.some.inj e
      exact .inr ⟨rfl, fun j hj => h j (by omega)⟩
    have g1 := q_ng g
    rcases io e with ⟨k, e⟩ | ⟨k, e⟩
    · have := q_le k; omega
    obtain ⟨_, e⟩ := io_n e
    obtain ⟨_, e⟩ := io_n e
    rw [q_nat hp, r4, r5] at e
    have s5 := zs.2.2.2.2.1 p (by omega) (by omega)
    have e4 : X.1 16 p = R.1 163 (80 + 2 * p) := s5.1
    have e5 : X.1 17 p = R.1 163 (81 + 2 * p) := s5.2
    rw [e4, e5] at e
    obtain ⟨x1, ex1, e⟩ := bo e
    obtain ⟨p1, p2, p3, p4⟩ := pl_v jR zv (j := p) (by omega)
    have B := betweenC zb.1 jR p1.1 p1.2.1 p2.1 p2.2.1 ex1
    have E := btw_even p3
    rcases io e with ⟨k, e⟩ | ⟨k, e⟩
    · obtain rfl := Option.some.inj e
      have k1 := q_eq k
      exact .inl ⟨rfl, p, by omega, by omega⟩
    · obtain rfl := Option.some.inj e
      have k1 := q_ne k
      refine ⟨p + 1, by omega, add_ti hp o1 (by omega) (by omega), fun j hj => ?_⟩
      by_cases q : j = p
      · subst q; omega
      · exact h j (by omega)
  rcases Q with ⟨rfl, h⟩ | ⟨rfl, h⟩
  · exact .inl ⟨(Option.some.inj e).symm, h⟩
  · exact .inr ⟨(Option.some.inj e).symm, h⟩
theorem under_r {R : Mem} {n : Nat} {c x : Int32} (zv : ZV R (R.1 163) n) (hc : 0 ≤ c.toInt ∧ c.toInt ≤ 35) (hw : xw R * xh R ≤ 36) (e : f_Mod_isUnder c R = some x) : (x = 1 ∧ ∃ j : Nat, (j : Int) < (R.1 163 92).toInt ∧ (R.1 163 (80 + 2 * j)).toInt + (R.1 163 (81 + 2 * j)).toInt = 2 * c.toInt) ∨ (x = 0 ∧ ∀ j : Nat, (j : Int) < (R.1 163 92).toInt → (R.1 163 (80 + 2 * j)).toInt + (R.1 163 (81 + 2 * j)).toInt ≠ 2 * c.toInt) := by
  have z80 : (80 : Int32).toInt = 80 := rfl
  have hb := zv.2.1
  unfold f_Mod_isUnder at e
  obtain ⟨y, ey, e⟩ := bo e
  have Q : (y = .inr () ∧ ∃ j : Nat, (j : Int) < (R.1 163 92).toInt ∧ (R.1 163 (80 + 2 * j)).toInt + (R.1 163 (81 + 2 * j)).toInt = 2 * c.toInt) ∨ (y = .inl () ∧ ∀ j : Nat, (j : Int) < (R.1 163 92).toInt → (R.1 163 (80 + 2 * j)).toInt + (R.1 163 (81 + 2 * j)).toInt ≠ 2 * c.toInt) := by
    refine it_r (I := fun s : Int32 => ∃ p : Nat, (p : Int) ≤ (R.1 163 92).toInt ∧ s.toInt = (p : Int) ∧ ∀ j : Nat, j < p → (R.1 163 (80 + 2 * j)).toInt + (R.1 163 (81 + 2 * j)).toInt ≠ 2 * c.toInt) (Q := fun y : Unit ⊕ Unit => (y = .inr () ∧ ∃ j : Nat, (j : Int) < (R.1 163 92).toInt ∧ (R.1 163 (80 + 2 * j)).toInt + (R.1 163 (81 + 2 * j)).toInt = 2 * c.toInt) ∨ (y = .inl () ∧ ∀ j : Nat, (j : Int) < (R.1 163 92).toInt → (R.1 163 (80 + 2 * j)).toInt + (R.1 163 (81 + 2 * j)).toInt ≠ 2 * c.toInt)) ?_ ey ⟨0, by omega, rfl, fun j hj => absurd hj (by omega)⟩
    rintro s r ⟨p, lp, hp, h⟩ e
    unfold lb_Mod_isUnder_2 at e
    rw [show (92 : Int32).toNatClampNeg = 92 from rfl] at e
    rcases io e with ⟨g, e⟩ | ⟨g, e⟩
    · have := q_le g
      obtain rfl := Option.some.inj e
      exact .inr ⟨rfl, fun j hj => h j (by omega)⟩
    have g1 := q_ng g
    have i1 : ((2 : Int32) * s).toInt = ((2 * p : Nat) : Int) := by rw [mul_ti o2 hp (by omega) (by omega)]; omega
    have i2 : ((80 : Int32) + ((2 : Int32) * s)).toInt = ((80 + 2 * p : Nat) : Int) := by rw [add_ti z80 i1 (by omega) (by omega)]; omega
    have i3 : (((80 : Int32) + ((2 : Int32) * s)) + (1 : Int32)).toInt = ((81 + 2 * p : Nat) : Int) := by rw [add_ti i2 o1 (by omega) (by omega)]; omega
    obtain ⟨_, e⟩ := io_n e
    obtain ⟨_, e⟩ := io_n e
    rw [q_nat i2, q_nat i3] at e
    obtain ⟨p1, p2, _⟩ := zv.2.2.2 p (by omega)
    have a1 := p1.1
    have a2 := p1.2.1
    have b1 := p2.1
    have b2 := p2.2.1
    have S : ((R.1 163 (80 + 2 * p)) + (R.1 163 (81 + 2 * p))).toInt = (R.1 163 (80 + 2 * p)).toInt + (R.1 163 (81 + 2 * p)).toInt := add_ti rfl rfl (by omega) (by omega)
    have D : ((2 : Int32) * c).toInt = 2 * c.toInt := mul_ti o2 rfl (by omega) (by omega)
    rcases io e with ⟨k, e⟩ | ⟨k, e⟩
    · obtain rfl := Option.some.inj e
      have k1 := q_eq k
      exact .inl ⟨rfl, p, by omega, by omega⟩
    · obtain rfl := Option.some.inj e
      have k1 := q_ne k
      refine ⟨p + 1, by omega, add_ti hp o1 (by omega) (by omega), fun j hj => ?_⟩
      by_cases q : j = p
      · subst q; omega
      · exact h j (by omega)
  rcases Q with ⟨rfl, h⟩ | ⟨rfl, h⟩
  · exact .inl ⟨(Option.some.inj e).symm, h⟩
  · exact .inr ⟨(Option.some.inj e).symm, h⟩
