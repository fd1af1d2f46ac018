/-! an evening: acts read, both loops -/
theorem dgn_d {t : Nat → Int} {K p i : Nat} (h : i < dgn t K p) : 48 ≤ t (p + i) ∧ t (p + i) ≤ 57 := by
  induction K generalizing p i with
  | zero => unfold dgn at h; omega
  | succ K ih =>
    unfold dgn at h
    by_cases c : 48 ≤ t p ∧ t p ≤ 57
    · rw [if_pos c] at h
      cases i with
      | zero => exact c
      | succ i =>
        have := ih (p := p + 1) (i := i) (by omega)
        rwa [show p + 1 + i = p + (i + 1) by omega] at this
    · rw [if_neg c] at h; omega
theorem aNx_60 {A : Mem} {p : Nat} (h : aOk (cx A 60) p) : aNx (cx A 60) p ≤ 60 ∧ p + 1 ≤ aNx (cx A 60) p := by
  have key : ∀ q : Nat, cx A 60 q ≠ -1 → q + 1 ≤ 60 := fun q hq => by have := (cx_lt hq).1; omega
  generalize ht : cx A 60 = t at *
  unfold aOk at h
  unfold aNx
  rcases h with h | h | ⟨h, g⟩ | ⟨h, g⟩ | ⟨h, g1, g2, g3⟩
  · rw [if_neg (by omega), if_neg (by omega), if_neg (by omega)]
    exact ⟨key p (by omega), by omega⟩
  · rw [if_neg (by omega), if_neg (by omega), if_neg (by omega)]
    exact ⟨key p (by omega), by omega⟩
  · rw [if_pos h]
    have d := dgn_d (t := t) (K := 2) (p := p + 1) (i := a1 t p - 1) (by unfold a1 at g ⊢; omega)
    have := key (p + 1 + (a1 t p - 1)) (by omega)
    omega
  · rw [if_neg (by omega), if_pos h]
    have := key (p + 1) (by omega)
    omega
  · rw [if_neg (by omega), if_neg (by omega), if_pos h]
    have d := dgn_d (t := t) (K := 2) (p := p + 2 + a1 t p) (i := a2 t p - 1) (by unfold a2 at g3 ⊢; omega)
    have := key (p + 2 + a1 t p + (a2 t p - 1)) (by omega)
    omega
def EAf (X0 R0 X S : Mem) : Prop := (∀ kx i, ¬ (kx = 148 ∨ kx = 149 ∨ kx = 150) → ¬ (kx = 147 ∧ i = 3) → ¬ (kx = 1 ∧ i = 2) → X.1 kx i = X0.1 kx i) ∧ X.2 = X0.2 ∧ (∀ kx i, kx ≠ 175 → ¬ (kx = 162 ∧ (i = 17 ∨ i = 18)) → S.1 kx i = R0.1 kx i) ∧ S.2 = R0.2
def EvI (X0 R0 : Mem) (s u : Int32 × Int32 × Mem) : Prop := ∃ j p : Nat, 2 * j ≤ p ∧ p ≤ 61 ∧ s.1.toInt = (p : Int) ∧ s.2.1.toInt = (j : Int) ∧ (s.2.2.1 147 3).toInt = (j : Int) ∧ u.1.toInt = (j : Int) ∧ ¬ u.2.1 = 0 ∧ (u.2.2.1 162 17).toInt = (p : Int) ∧ (u.2.2.1 162 18).toInt = -1 ∧ AD j s.2.2 u.2.2 ∧ EAf X0 R0 s.2.2 u.2.2
def EvQ (X0 R0 : Mem) (y : (Int32 × Mem) ⊕ ((Int32 × Mem) ⊕ ((Mem) ⊕ (Int32 × Mem)))) (z : Int32 × Mem) : Prop := match y with
  | .inl _ => False
  | .inr (.inl y) => (∃ w : Nat, w ≤ 1000 ∧ y.1.toInt = -1 - (w : Int) ∧ (z.2.1 162 18).toInt = (w : Int)) ∧ EAf X0 R0 y.2 z.2
  | .inr (.inr (.inl y)) => (∃ j q : Nat, j + 1 ≤ 31 ∧ (y.1 147 3).toInt = ((j + 1 : Nat) : Int) ∧ z.1.toInt = ((j + 1 : Nat) : Int) ∧ (z.2.1 162 17).toInt = (q : Int) ∧ (z.2.1 162 18).toInt = -1 ∧ cx X0 60 q = -1 ∧ q ≤ 60 ∧ AD (j + 1) y z.2) ∧ EAf X0 R0 y z.2
  | .inr (.inr (.inr y)) => (∃ q : Nat, q ≤ 60 ∧ y.1.toInt = (q : Int) ∧ (z.2.1 162 17).toInt = (q : Int) ∧ (z.2.1 162 18).toInt = -1 ∧ (q : Int) < (X0.1 1 1).toInt) ∧ EAf X0 R0 y.2 z.2
theorem AD_s {t : Nat → Int} {X S X' S' : Mem} {j p : Nat} (h : AD j X S) (fx : AfX X X' j) (fr : AfR S S' j) (ok : aOk t p) (ax : AcX t p (X'.1 148 j).toInt (X'.1 149 j).toInt (X'.1 150 j).toInt) (ar : AcX t p (S'.1 175 (3 * j)).toInt (S'.1 175 (3 * j + 1)).toInt (S'.1 175 (3 * j + 2)).toInt) : AD (j + 1) X' S' := by
  intro i hi
  rcases Nat.lt_or_ge i j with g | g
  · rw [fx.1 148 i (by omega) (by omega) (by omega), fx.1 149 i (by omega) (by omega) (by omega), fx.1 150 i (by omega) (by omega) (by omega), fr.1 175 _ (by omega) (by omega), fr.1 175 _ (by omega) (by omega), fr.1 175 _ (by omega) (by omega)]
    exact h i g
  · have : i = j := by omega
    subst this
    obtain ⟨x1, x2, x3⟩ := ax
    obtain ⟨r1, r2, r3⟩ := ar
    unfold aOk at ok
    refine ⟨Int32.toInt_inj.mp (x1.trans r1.symm), by rw [x1]; omega, fun h => Int32.toInt_inj.mp ?_, fun h => Int32.toInt_inj.mp ?_⟩
    · rw [x1] at h; rw [x2 h, r2 h]
    · rw [x1] at h; rw [x3 h, r3 h]
theorem eve_l {X0 R0 X1 : Mem} (hl : (X0.1 1 1).toInt ≤ 80) (rd : Rd (cx X0 60) R0) (a0 : (R0.1 162 17).toInt = 0) (w0 : (R0.1 162 18).toInt = -1) (x1 : X1 = s_i X0 147 3 (0 : Int32)) {y z} (e : iter lb_Acts_read_18 FU ((0 : Int32), (0 : Int32), X1) = some y) (d : iter lb_Mod_evening_39 FU ((0 : Int32), (1 : Int32), R0) = some z) : EvQ X0 R0 y z := by
  have k32 : (32 : Int32).toInt = 32 := rfl
  have k60 : (60 : Int32).toInt = ((60 : Nat) : Int) := rfl
  have k3 := o3
  have k59 : (59 : Int32).toInt = 59 := rfl
  have ym := om
  have z0 := o0
  have fin : ∀ (v : Int32) (S : Mem) c, lb_Mod_evening_39 (v, (0 : Int32), S) = some c → c = .inr (v, S) := by
    intro v S c h
    unfold lb_Mod_evening_39 at h
    dsimp only at h
    rw [if_pos rfl] at h
    exact (Option.some.inj h).symm
  refine it_2e (I := EvI X0 R0) (Q := EvQ X0 R0) ?_ e d ⟨0, 0, by omega, by omega, rfl, rfl, ?_, rfl, (by show ¬ (1 : Int32) = 0; decide), a0, w0, fun i hi => by omega, fun kx i _ h _ => ?_, ?_, fun _ _ _ _ => rfl, rfl⟩
  rotate_left
  · show (X1.1 147 3).toInt = _
    rw [x1, si_eq]; rfl
  · show X1.1 kx i = _
    rw [x1, si_ne h]
  · show X1.2 = _
    rw [x1, si_2]
  rintro ⟨sp, sl, X⟩ ⟨un, um, S⟩ a b ⟨j, p, pj, p61, hp, hj, hj3, hn, hm, hat, hw, ad, fa⟩ ea eb
  dsimp only at hp hj hj3 hn hm hat hw ad fa
  obtain ⟨fa1, fa2, fa3, fa4⟩ := fa
  have cxe : cx X 60 = cx X0 60 := cx_c (fa1 1 1 (by omega) (by omega) (by omega)) (fun i => fa1 2 i (by omega) (by omega) (by omega)) 60
  have rdS : Rd (cx X0 60) S := Rd_f rd (by rw [fa4]) (fa3 162 15 (by omega) (by omega)) (fa3 162 16 (by omega) (by omega)) (fun i => fa3 167 i (by omega) (by omega)) (fun i => fa3 172 i (by omega) (by omega))
  unfold lb_Acts_read_18 at ea
  dsimp only at ea
  rcases io ea with ⟨c, _⟩ | ⟨c, ea⟩
  · have := q_le c; omega
  obtain ⟨x2, e2, ea⟩ := bo ea
  have hlX : (X.1 1 1).toInt ≤ 80 := by rw [fa1 1 1 (by omega) (by omega) (by omega)]; exact hl
  have AC := act_c hlX hp (by omega) hj3 (by omega) e2
  rw [cxe] at AC
  obtain ⟨fx, AC⟩ := AC
  have fxa : ∀ kx i, ¬ (kx = 148 ∨ kx = 149 ∨ kx = 150) → ¬ (kx = 147 ∧ i = 3) → ¬ (kx = 1 ∧ i = 2) → x2.2.1 kx i = X0.1 kx i := fun kx i h1 h2 h3 => by rw [fx.1 kx i (by omega) h2 h3]; exact fa1 kx i h1 h2 h3
  have fxq : x2.2.2 = X0.2 := by rw [fx.2, fa2]
  unfold lb_Mod_evening_39 at eb
  dsimp only at eb
  rw [if_neg hm] at eb
  obtain ⟨y4, ey4, eb⟩ := bo eb
  rcases fine_i ey4 with ⟨_, h⟩ | ⟨h, _⟩
  · exact absurd hw h
  rw [h, if_neg (by decide)] at eb
  obtain ⟨y5, ey5, eb⟩ := bo eb
  obtain ⟨y6, ey6, eb⟩ := bo eb
  obtain rfl := Option.some.inj eb
  have i3 : ((3 : Int32) * un).toInt = ((3 * j : Nat) : Int) := by rw [mul_ti k3 hn (by omega) (by omega)]; omega
  obtain ⟨fr, AR⟩ := act_r rdS i3 (by omega) hat (by omega) hw ey5
  have fs3 : ∀ kx i, kx ≠ 175 → ¬ (kx = 162 ∧ (i = 17 ∨ i = 18)) → y5.1 kx i = R0.1 kx i := fun kx i h1 h2 => by rw [fr.1 kx i (by omega) h2]; exact fa3 kx i h1 h2
  have fs4 : y5.2 = R0.2 := by rw [fr.2, fa4]
  have un1 : (un + (1 : Int32)).toInt = ((j + 1 : Nat) : Int) := add_ti hn o1 (by omega) (by omega)
  rcases AC with ⟨ok, hx, hx3, ax⟩ | ⟨nok, hx⟩
  rotate_left
  · rcases AR with ⟨ok, _⟩ | ⟨_, wn⟩
    · exact absurd ok nok
    have bl : aBd (cx X0 60) p ≤ 1000 := by
      have l1 : a1 (cx X0 60) p ≤ 2 := dgn_le _ 2 _
      unfold aBd
      repeat' split
      all_goals omega
    have h6 := passes_n (by rw [wn]; omega) ey6
    subst h6
    rcases io ea with ⟨g, _⟩ | ⟨g, ea⟩
    · have := q_le g; omega
    obtain rfl := Option.some.inj ea
    refine .inr ⟨_, _, rfl, rfl, fun c hc => ?_⟩
    have := fin _ _ _ hc
    subst this
    exact ⟨_, rfl, ⟨aBd (cx X0 60) p, bl, hx, wn⟩, fxa, fxq, fs3, fs4⟩
  rcases AR with ⟨_, w5, a5, ar⟩ | ⟨nok, _⟩
  rotate_left
  · exact absurd ok nok
  have q60 := aNx_60 ok
  generalize hq : aNx (cx X0 60) p = q at *
  rcases io ea with ⟨_, ea⟩ | ⟨g, _⟩
  rotate_left
  · have := q_ng g; omega
  have adn : AD (j + 1) x2.2 y5 := AD_s ad fx fr ok ax ar
  have rd5 : Rd (cx X0 60) y5 := Rd_a rdS fr
  obtain ⟨x3, e3, ea⟩ := bo ea
  have h3' := at_i (K := 60) hx k60 (by rw [fxa 1 1 (by omega) (by omega) (by omega)]; exact hl) e3
  have cx2 : cx x2.2 60 = cx X0 60 := cx_c (fxa 1 1 (by omega) (by omega) (by omega)) (fun i => fxa 2 i (by omega) (by omega) (by omega)) 60
  rw [cx2] at h3'
  rcases passes_i rd5 a5 w5 (by omega) (by omega) ey6 with ⟨tc, ty, ta, tw⟩ | ⟨tc, ty, te⟩
  · rw [k59] at tc
    rcases io ea with ⟨g, _⟩ | ⟨g, ea⟩
    · have := q_eq g; omega
    rcases io ea with ⟨g2, ea⟩ | ⟨g2, _⟩
    rotate_left
    · have := q_ne g2; omega
    obtain rfl := Option.some.inj ea
    have pf := passes_f ey6
    refine .inl ⟨_, _, rfl, rfl, j + 1, q + 1, by omega, by omega, add_ti hx o1 (by omega) (by omega), add_ti hj o1 (by omega) (by omega), hx3, un1, ty, ta, tw, ?_, fxa, fxq, fun kx i h1 h2 => ?_, ?_⟩
    · show AD (j + 1) x2.2 y6.2
      have p175 : ∀ i, y6.2.1 175 i = y5.1 175 i := fun i => pf.1 175 i (by omega)
      unfold AD at adn ⊢
      simp only [p175]
      exact adn
    · show y6.2.1 kx i = _
      rw [pf.1 kx i h2]; exact fs3 kx i h1 h2
    · show y6.2.2 = _
      rw [pf.2, fs4]
  · rw [k59] at tc
    obtain ⟨y61, y62⟩ := y6
    dsimp only at ty te
    subst ty
    subst te
    rcases io ea with ⟨g, ea⟩ | ⟨g, ea⟩
    · have ge := q_eq g
      obtain rfl := Option.some.inj ea
      refine .inr ⟨_, _, rfl, rfl, fun c hc => ?_⟩
      have := fin _ _ _ hc
      subst this
      exact ⟨_, rfl, ⟨j, q, by omega, hx3, un1, a5, w5, by omega, by omega, adn⟩, fxa, fxq, fs3, fs4⟩
    have gn := q_ne g
    rcases io ea with ⟨g2, _⟩ | ⟨g2, ea⟩
    · have := q_eq g2; omega
    obtain rfl := Option.some.inj ea
    refine .inr ⟨_, _, rfl, rfl, fun c hc => ?_⟩
    have := fin _ _ _ hc
    subst this
    have k3 : cx X0 60 q ≠ -1 := by omega
    exact ⟨_, rfl, ⟨q, by omega, hx, a5, w5, (cx_lt k3).2⟩, fxa, fxq, fs3, fs4⟩
