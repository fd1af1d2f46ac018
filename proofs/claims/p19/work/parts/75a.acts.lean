/-! acts of an evening: both readers -/
def a1 (t : Nat → Int) (p : Nat) : Nat := dgn t 2 (p + 1)
def a2 (t : Nat → Int) (p : Nat) : Nat := dgn t 2 (p + 2 + a1 t p)
def aOk (t : Nat → Int) (p : Nat) : Prop := t p = 102 ∨ t p = 120 ∨ (t p = 109 ∧ 0 < a1 t p) ∨ (t p = 110 ∧ 97 ≤ t (p + 1) ∧ t (p + 1) ≤ 104) ∨ (t p = 112 ∧ 0 < a1 t p ∧ t (p + 1 + a1 t p) = 45 ∧ 0 < a2 t p)
def aNx (t : Nat → Int) (p : Nat) : Nat := if t p = 109 then p + 1 + a1 t p else if t p = 110 then p + 2 else if t p = 112 then p + 2 + a1 t p + a2 t p else p + 1
def aBd (t : Nat → Int) (p : Nat) : Nat := if t p = 109 then p + 1 else if t p = 110 then p + 1 else if t p = 112 then (if a1 t p = 0 then p + 1 else if t (p + 1 + a1 t p) = 45 then p + 2 + a1 t p else p + 1 + a1 t p) else p
def aV1 (t : Nat → Int) (p : Nat) : Int := if t p = 110 then t (p + 1) - 97 else dgv t 2 (p + 1) 0
def aV2 (t : Nat → Int) (p : Nat) : Int := dgv t 2 (p + 2 + a1 t p) 0
def AcX (t : Nat → Int) (p : Nat) (k o q : Int) : Prop := k = t p ∧ ((t p = 109 ∨ t p = 110 ∨ t p = 112) → o = aV1 t p) ∧ (t p = 112 → q = aV2 t p)
theorem cx_lt {A : Mem} {K p : Nat} (h : cx A K p ≠ -1) : p < K ∧ (p : Int) < (A.1 1 1).toInt := by
  unfold cx at h
  by_cases g : (p : Int) < (A.1 1 1).toInt ∧ p < K
  · exact ⟨g.2, g.1⟩
  · exact absurd (if_neg g) h
theorem add_a {A x : Mem} {v1 v2 v3 : Int32} {j : Nat} (hj : (A.1 147 3).toInt = (j : Int)) (j32 : j < 32) (e : f_Acts_add v1 v2 v3 A = some x) : x.1 148 j = v1 ∧ x.1 149 j = v2 ∧ x.1 150 j = v3 ∧ (x.1 147 3).toInt = ((j + 1 : Nat) : Int) ∧ (∀ kx i, ¬ ((kx = 148 ∨ kx = 149 ∨ kx = 150) ∧ i = j) → ¬ (kx = 147 ∧ i = 3) → x.1 kx i = A.1 kx i) ∧ x.2 = A.2 := by
  have z0 := o0
  have k32 : (32 : Int32).toInt = 32 := rfl
  unfold f_Acts_add at e
  rcases io e with ⟨c, _⟩ | ⟨_, e⟩
  · have := q_lt c; omega
  rcases io e with ⟨c, _⟩ | ⟨_, e⟩
  · have := q_le c; omega
  obtain ⟨_, e⟩ := io_n e
  obtain ⟨M1, m1, e⟩ := mo e
  rw [q_nat hj] at m1
  have j1 : M1.1 147 3 = A.1 147 3 := by rw [m1, si_ne (by omega)]
  rw [j1, q_nat hj] at e
  obtain ⟨_, e⟩ := io_n e
  obtain ⟨M2, m2, e⟩ := mo e
  have j2 : M2.1 147 3 = A.1 147 3 := by rw [m2, si_ne (by omega), j1]
  rw [j2, q_nat hj] at e
  obtain ⟨_, e⟩ := io_n e
  obtain ⟨M3, m3, e⟩ := mo e
  have j3 : M3.1 147 3 = A.1 147 3 := by rw [m3, si_ne (by omega), j2]
  obtain ⟨M4, m4, e⟩ := mo e
  obtain rfl := Option.some.inj e
  refine ⟨?_, ?_, ?_, ?_, fun kx i h1 h2 => ?_, ?_⟩
  · rw [m4, si_ne (by omega), m3, si_ne (by omega), m2, si_ne (by omega), m1, si_eq]
  · rw [m4, si_ne (by omega), m3, si_ne (by omega), m2, si_eq]
  · rw [m4, si_ne (by omega), m3, si_eq]
  · rw [m4, si_eq, j3]; exact add_ti hj o1 (by omega) (by omega)
  · rw [m4, si_ne h2, m3, si_ne (by omega), m2, si_ne (by omega), m1, si_ne (by omega)]
  · rw [m4, si_2, m3, si_2, m2, si_2, m1, si_2]
def AfX (A x : Mem) (j : Nat) : Prop := (∀ kx i, ¬ ((kx = 148 ∨ kx = 149 ∨ kx = 150) ∧ i = j) → ¬ (kx = 147 ∧ i = 3) → ¬ (kx = 1 ∧ i = 2) → x.1 kx i = A.1 kx i) ∧ x.2 = A.2
theorem act_c {A : Mem} (hl : (A.1 1 1).toInt ≤ 80) {v : Int32} {p j : Nat} (hp : v.toInt = (p : Int)) (p80 : p ≤ 80) (hj : (A.1 147 3).toInt = (j : Int)) (j32 : j < 32) {x} (e : f_Acts_readAct v A = some x) : AfX A x.2 j ∧ ((aOk (cx A 60) p ∧ x.1.toInt = (aNx (cx A 60) p : Int) ∧ (x.2.1 147 3).toInt = ((j + 1 : Nat) : Int) ∧ AcX (cx A 60) p (x.2.1 148 j).toInt (x.2.1 149 j).toInt (x.2.1 150 j).toInt) ∨ (¬ aOk (cx A 60) p ∧ x.1.toInt = -1 - (aBd (cx A 60) p : Int))) := by
  have z0 := o0
  have ym := om
  have y1 := o1
  have k60 : (60 : Int32).toInt = ((60 : Nat) : Int) := rfl
  have k102 : (102 : Int32).toInt = 102 := rfl
  have k109 : (109 : Int32).toInt = 109 := rfl
  have k110 : (110 : Int32).toInt = 110 := rfl
  have k112 : (112 : Int32).toInt = 112 := rfl
  have k120 : (120 : Int32).toInt = 120 := rfl
  have k97 : (97 : Int32).toInt = 97 := rfl
  have k104 : (104 : Int32).toInt = 104 := rfl
  have k45 : (45 : Int32).toInt = 45 := rfl
  have km2 : (-2 : Int32).toInt = -2 := rfl
  generalize ht : cx A 60 = t at *
  have a1l : a1 t p ≤ 2 := dgn_le _ 2 (p + 1)
  have a2l : a2 t p ≤ 2 := dgn_le _ 2 _
  have p1 : (v + (1 : Int32)).toInt = ((p + 1 : Nat) : Int) := add_ti hp o1 (by omega) (by omega)
  have AfR : AfX A A j := ⟨fun _ _ _ _ _ => rfl, rfl⟩
  have AfA : ∀ {B y : Mem} {w1 w2 w3 : Int32}, AfX A B j → B.1 147 3 = A.1 147 3 → f_Acts_add w1 w2 w3 B = some y → AfX A y j := by
    intro B y w1 w2 w3 h hB e
    obtain ⟨_, _, _, _, f, q⟩ := add_a (j := j) (by rw [hB]; exact hj) j32 e
    exact ⟨fun kx i g1 g2 g3 => by rw [f kx i g1 g2]; exact h.1 kx i g1 g2 g3, by rw [q]; exact h.2⟩
  unfold f_Acts_readAct at e
  obtain ⟨s1, es1, e⟩ := bo e
  have hs := at_i (K := 60) hp k60 hl es1
  rw [ht] at hs
  -- one sign
  have one : (t p = 102 ∨ t p = 120) → ∀ y, f_Acts_add s1 (0 : Int32) (0 : Int32) A = some y → x = (v + (1 : Int32), y) → AfX A x.2 j ∧ ((aOk t p ∧ x.1.toInt = (aNx t p : Int) ∧ (x.2.1 147 3).toInt = ((j + 1 : Nat) : Int) ∧ AcX t p (x.2.1 148 j).toInt (x.2.1 149 j).toInt (x.2.1 150 j).toInt) ∨ (¬ aOk t p ∧ x.1.toInt = -1 - (aBd t p : Int))) := by
    rintro hk y ey rfl
    have F := AfA AfR rfl ey
    obtain ⟨b1, b2, b3, b4, _, _⟩ := add_a hj j32 ey
    refine ⟨F, .inl ⟨by unfold aOk; omega, ?_, b4, ?_⟩⟩
    · show (v + (1 : Int32)).toInt = _
      rw [p1]; unfold aNx; rw [if_neg (by omega), if_neg (by omega), if_neg (by omega)]
    · refine ⟨by rw [b1]; exact hs, fun h => by omega, fun h => by omega⟩
  rcases io e with ⟨c, e⟩ | ⟨c, e⟩
  · have := q_eq c
    obtain ⟨y, ey, e⟩ := bo e
    exact one (by omega) y ey (Option.some.inj e).symm
  have n1 := q_ne c
  rcases io e with ⟨c, e⟩ | ⟨c, e⟩
  · have := q_eq c
    obtain ⟨y, ey, e⟩ := bo e
    exact one (by omega) y ey (Option.some.inj e).symm
  have n2 := q_ne c
  rcases io e with ⟨c, e⟩ | ⟨c, e⟩
  · have cc := q_eq c
    have tp : t p = 109 := by omega
    obtain ⟨x5, e5, e⟩ := bo e
    have e := Option.some.inj e
    have p76 : p < 60 := (cx_lt (A := A) (K := 60) (p := p) (by rw [ht, tp]; decide)).1
    unfold f_Acts_readNumber at e5
    obtain ⟨y1', ey1, e5⟩ := bo e5
    obtain ⟨d1, d2, d3, d4, d5⟩ := dig_i (K := 60) (n := 2) hl p1 k60 rfl (by omega) (by omega) ey1
    rw [ht] at d2 d3
    have dq := dig_q ey1
    have AfD : AfX A y1'.2 j := ⟨fun kx i _ _ g => d1 kx i g, dq⟩
    rcases io e5 with ⟨c, e5⟩ | ⟨c, e5⟩
    · have c0 := q_eq c
      obtain rfl := Option.some.inj e5
      subst e
      refine ⟨AfD, .inr ⟨fun h => ?_, ?_⟩⟩
      · unfold aOk a1 at h; omega
      · show ((-1 : Int32) - (v + (1 : Int32))).toInt = _
        rw [sub_ti om p1 (by omega) (by omega)]; unfold aBd; rw [if_pos tp]
    · have c0 := q_ne c
      obtain ⟨y2, ey2, e5⟩ := bo e5
      obtain rfl := Option.some.inj e5
      subst e
      have h147 : y1'.2.1 147 3 = A.1 147 3 := d1 147 3 (by omega)
      have F := AfA AfD h147 ey2
      obtain ⟨b1, b2, b3, b4, _, _⟩ := add_a (j := j) (by rw [h147]; exact hj) j32 ey2
      have pos : 0 < a1 t p := by unfold a1; omega
      refine ⟨F, .inl ⟨by unfold aOk; omega, ?_, b4, ?_⟩⟩
      · show ((v + (1 : Int32)) + y1'.1).toInt = _
        rw [add_ti p1 d2 (by unfold a1 at a1l; omega) (by unfold a1 at a1l; omega)]; unfold aNx; rw [if_pos tp]; unfold a1; omega
      · refine ⟨by rw [b1]; omega, fun _ => ?_, fun h => by omega⟩
        rw [b2, d3]; unfold aV1; rw [if_neg (by omega)]
  have n3 := q_ne c
  rcases io e with ⟨c, e⟩ | ⟨c, e⟩
  · have cc := q_eq c
    have tp : t p = 110 := by omega
    obtain ⟨x7, e7, e⟩ := bo e
    have e := Option.some.inj e
    have p76 : p < 60 := (cx_lt (A := A) (K := 60) (p := p) (by rw [ht, tp]; decide)).1
    unfold f_Acts_readLetter at e7
    obtain ⟨y1', ey1, e7⟩ := bo e7
    have hy := at_i (K := 60) p1 k60 hl ey1
    rw [ht] at hy
    have bad : ¬ (97 ≤ t (p + 1) ∧ t (p + 1) ≤ 104) → x = ((-1 : Int32) - (v + (1 : Int32)), A) → AfX A x.2 j ∧ ((aOk t p ∧ x.1.toInt = (aNx t p : Int) ∧ (x.2.1 147 3).toInt = ((j + 1 : Nat) : Int) ∧ AcX t p (x.2.1 148 j).toInt (x.2.1 149 j).toInt (x.2.1 150 j).toInt) ∨ (¬ aOk t p ∧ x.1.toInt = -1 - (aBd t p : Int))) := by
      rintro hn rfl
      refine ⟨AfR, .inr ⟨fun h => ?_, ?_⟩⟩
      · unfold aOk at h; omega
      · show ((-1 : Int32) - (v + (1 : Int32))).toInt = _
        rw [sub_ti om p1 (by omega) (by omega)]; unfold aBd; rw [if_neg (by omega), if_pos tp]
    rcases io e7 with ⟨c, e7⟩ | ⟨c, e7⟩
    · have c0 := q_lt c
      obtain rfl := Option.some.inj e7
      exact bad (by omega) e.symm
    have c0 := q_nl c
    rcases io e7 with ⟨c, e7⟩ | ⟨c, e7⟩
    · have c1 := q_le c
      obtain ⟨y2, ey2, e7⟩ := bo e7
      obtain rfl := Option.some.inj e7
      subst e
      have F := AfA AfR rfl ey2
      obtain ⟨b1, b2, b3, b4, _, _⟩ := add_a hj j32 ey2
      refine ⟨F, .inl ⟨by unfold aOk; omega, ?_, b4, ?_⟩⟩
      · show ((v + (1 : Int32)) + (1 : Int32)).toInt = _
        rw [add_ti p1 o1 (by omega) (by omega)]; unfold aNx; rw [if_neg (by omega), if_pos tp]; omega
      · refine ⟨by rw [b1]; omega, fun _ => ?_, fun h => by omega⟩
        rw [b2, sub_ti hy k97 (by omega) (by omega)]; unfold aV1; rw [if_pos tp]
    · have c1 := q_ng c
      obtain rfl := Option.some.inj e7
      exact bad (by omega) e.symm
  have n4 := q_ne c
  rcases io e with ⟨c, e⟩ | ⟨c, e⟩
  · have cc := q_eq c
    have tp : t p = 112 := by omega
    obtain ⟨x9, e9, e⟩ := bo e
    have e := Option.some.inj e
    have p76 : p < 60 := (cx_lt (A := A) (K := 60) (p := p) (by rw [ht, tp]; decide)).1
    unfold f_Acts_readPlank at e9
    obtain ⟨y1', ey1, e9⟩ := bo e9
    obtain ⟨d1, d2, d3, d4, d5⟩ := dig_i (K := 60) (n := 2) hl p1 k60 rfl (by omega) (by omega) ey1
    rw [ht] at d2 d3
    have dq := dig_q ey1
    have AfD : AfX A y1'.2 j := ⟨fun kx i _ _ g => d1 kx i g, dq⟩
    have da : y1'.1.toInt = (a1 t p : Int) := d2
    have dash : ((v + (1 : Int32)) + y1'.1).toInt = ((p + 1 + a1 t p : Nat) : Int) := by rw [add_ti p1 da (by omega) (by omega)]; omega
    rcases io e9 with ⟨c, e9⟩ | ⟨c, e9⟩
    · have c0 := q_eq c
      obtain rfl := Option.some.inj e9
      subst e
      refine ⟨AfD, .inr ⟨fun h => ?_, ?_⟩⟩
      · unfold aOk at h; omega
      · show ((-1 : Int32) - ((v + (1 : Int32)) + y1'.1)).toInt = _
        rw [sub_ti om dash (by omega) (by omega)]; unfold aBd; rw [if_neg (by omega), if_neg (by omega), if_pos tp, if_pos (by omega)]; omega
    have c0 := q_ne c
    obtain ⟨y2, ey2, e9⟩ := bo e9
    have l2 : (y1'.2.1 1 1).toInt ≤ 80 := by rw [d1 1 1 (by omega)]; exact hl
    have cx1 : cx y1'.2 60 = t := by rw [← ht]; exact cx_c (d1 1 1 (by omega)) (fun i => d1 2 i (by omega)) 60
    have hy2 := at_i (K := 60) dash k60 l2 ey2
    rw [cx1] at hy2
    rcases io e9 with ⟨c, e9⟩ | ⟨c, e9⟩
    · have c1 := q_eq c
      have td : t (p + 1 + a1 t p) = 45 := by omega
      have p77 : p + 1 + a1 t p < 60 := by
        have : cx A 60 (p + 1 + a1 t p) ≠ -1 := by rw [ht]; omega
        exact (cx_lt this).1
      obtain ⟨y3, ey3, e9⟩ := bo e9
      have dash1 : (((v + (1 : Int32)) + y1'.1) + (1 : Int32)).toInt = ((p + 2 + a1 t p : Nat) : Int) := by rw [add_ti dash o1 (by omega) (by omega)]; omega
      obtain ⟨g1, g2, g3, g4, g5⟩ := dig_i (K := 60) (n := 2) l2 dash1 k60 rfl (by omega) (by omega) ey3
      rw [cx1] at g2 g3
      have gq := dig_q ey3
      have ga : y3.1.toInt = (a2 t p : Int) := g2
      have AfG : AfX A y3.2 j := ⟨fun kx i h1 h2 g => by rw [g1 kx i g]; exact d1 kx i g, by rw [gq, dq]⟩
      rcases io e9 with ⟨c, e9⟩ | ⟨c, e9⟩
      · have c2 := q_eq c
        obtain rfl := Option.some.inj e9
        subst e
        refine ⟨AfG, .inr ⟨fun h => ?_, ?_⟩⟩
        · unfold aOk at h; omega
        · show ((-2 : Int32) - ((v + (1 : Int32)) + y1'.1)).toInt = _
          rw [sub_ti km2 dash (by omega) (by omega)]; unfold aBd; rw [if_neg (by omega), if_neg (by omega), if_pos tp, if_neg (by omega), if_pos td]; omega
      · have c2 := q_ne c
        obtain ⟨y4, ey4, e9⟩ := bo e9
        obtain rfl := Option.some.inj e9
        subst e
        have h147 : y3.2.1 147 3 = A.1 147 3 := by rw [g1 147 3 (by omega)]; exact d1 147 3 (by omega)
        have F := AfA AfG h147 ey4
        obtain ⟨b1, b2, b3, b4, _, _⟩ := add_a (j := j) (by rw [h147]; exact hj) j32 ey4
        refine ⟨F, .inl ⟨by unfold aOk; omega, ?_, b4, ?_⟩⟩
        · show ((((v + (1 : Int32)) + y1'.1) + (1 : Int32)) + y3.1).toInt = _
          rw [add_ti dash1 ga (by omega) (by omega)]; unfold aNx; rw [if_neg (by omega), if_neg (by omega), if_pos tp]; omega
        · refine ⟨by rw [b1]; omega, fun _ => ?_, fun _ => ?_⟩
          · rw [b2, d3]; unfold aV1; rw [if_neg (by omega)]
          · rw [b3, g3]; rfl
    · have c1 := q_ne c
      obtain rfl := Option.some.inj e9
      subst e
      refine ⟨AfD, .inr ⟨fun h => ?_, ?_⟩⟩
      · unfold aOk at h; omega
      · show ((-1 : Int32) - ((v + (1 : Int32)) + y1'.1)).toInt = _
        rw [sub_ti om dash (by omega) (by omega)]; unfold aBd; rw [if_neg (by omega), if_neg (by omega), if_pos tp, if_neg (by omega), if_neg (by omega)]
  have n5 := q_ne c
  obtain rfl := Option.some.inj e
  refine ⟨AfR, .inr ⟨fun h => ?_, ?_⟩⟩
  · unfold aOk at h; omega
  · show ((-1 : Int32) - v).toInt = _
    rw [sub_ti om hp (by omega) (by omega)]; unfold aBd; rw [if_neg (by omega), if_neg (by omega), if_neg (by omega)]
