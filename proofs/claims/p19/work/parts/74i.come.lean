/-! the folk comes: both sides -/
theorem put_c {A x : Mem} {v1 v2 v3 : Int32} {p : Nat} (hp : v1.toInt = (p : Int)) (e : f_Scene_put 11 v1 v2 v3 A = some x) : x.1 12 p = v2 ∧ x.1 13 p = v3 ∧ x.1 14 p = 0 ∧ (∀ kx i, ¬ ((kx = 12 ∨ kx = 13 ∨ kx = 14) ∧ i = p) → x.1 kx i = A.1 kx i) ∧ x.2 = A.2 := by
  have r0 : rf 11 0 = 12 ∧ rf 11 1 = 13 ∧ rf 11 2 = 14 := by decide +kernel
  unfold f_Scene_put at e
  obtain ⟨_, e⟩ := io_n e
  obtain ⟨_, e⟩ := io_n e
  obtain ⟨M1, m1, e⟩ := mo e
  obtain ⟨_, e⟩ := io_n e
  obtain ⟨M2, m2, e⟩ := mo e
  obtain ⟨_, e⟩ := io_n e
  obtain ⟨M3, m3, e⟩ := mo e
  obtain rfl := Option.some.inj e
  rw [r0.1, q_nat hp] at m1
  rw [r0.2.1, q_nat hp] at m2
  rw [r0.2.2, q_nat hp] at m3
  refine ⟨?_, ?_, ?_, fun kx i h => ?_, ?_⟩
  · rw [m3, si_ne (by omega), m2, si_ne (by omega), m1, si_eq]
  · rw [m3, si_ne (by omega), m2, si_eq]
  · rw [m3, si_eq]
  · rw [m3, si_ne (by omega), m2, si_ne (by omega), m1, si_ne (by omega)]
  · rw [m3, si_2, m2, si_2, m1, si_2]
theorem comes_c {A x : Mem} {v1 v0 : Int32} {n0 N : Nat} (h0 : v0.toInt = (n0 : Int)) (hN : (A.1 6 4).toInt = (N : Int)) (N8 : N ≤ 8) (nN : n0 ≤ N) (e : iter (lb_Top_folk_48 v1) FU (v0, A) = some x) : (∀ p, n0 ≤ p → p < N → x.1 12 p = A.1 9 p ∧ (x.1 13 p).toInt = (if bt (A.1 6 5) p = true then 1 else 0) ∧ x.1 14 p = 0) ∧ (∀ kx i, ¬ ((kx = 12 ∨ kx = 13 ∨ kx = 14) ∧ n0 ≤ i) → x.1 kx i = A.1 kx i) ∧ x.2 = A.2 := by
  refine it_r (I := fun s : Int32 × Mem => ∃ q : Nat, s.1.toInt = (q : Int) ∧ n0 ≤ q ∧ q ≤ N ∧ (∀ p, n0 ≤ p → p < q → s.2.1 12 p = A.1 9 p ∧ (s.2.1 13 p).toInt = (if bt (A.1 6 5) p = true then 1 else 0) ∧ s.2.1 14 p = 0) ∧ (∀ kx i, ¬ ((kx = 12 ∨ kx = 13 ∨ kx = 14) ∧ n0 ≤ i) → s.2.1 kx i = A.1 kx i) ∧ s.2.2 = A.2) (Q := fun x : Mem => (∀ p, n0 ≤ p → p < N → x.1 12 p = A.1 9 p ∧ (x.1 13 p).toInt = (if bt (A.1 6 5) p = true then 1 else 0) ∧ x.1 14 p = 0) ∧ (∀ kx i, ¬ ((kx = 12 ∨ kx = 13 ∨ kx = 14) ∧ n0 ≤ i) → x.1 kx i = A.1 kx i) ∧ x.2 = A.2) ?_ e ⟨n0, h0, by omega, nN, fun p _ _ => by omega, fun _ _ _ => rfl, rfl⟩
  rintro ⟨v, B⟩ r ⟨q, hq, q0, qN, hd, hf, h2⟩ e
  dsimp only at hq hd hf h2
  unfold lb_Top_folk_48 at e
  dsimp only at e
  have b64 : (B.1 6 4).toInt = (N : Int) := by rw [hf 6 4 (by omega)]; exact hN
  rcases io e with ⟨c, e⟩ | ⟨c, e⟩
  · have := q_le c
    obtain rfl := Option.some.inj e
    exact ⟨fun p h1 h2 => hd p h1 (by omega), hf, h2⟩
  have c1 := q_ng c
  obtain ⟨_, e⟩ := io_n e
  obtain ⟨x4, e4, e⟩ := bo e
  have hw := womanC hq (by omega) e4
  rw [hf 6 5 (by omega)] at hw
  rw [q_nat hq, hf 9 q (by omega)] at e
  have step : ∀ w0 : Int32, w0.toInt = (if bt (A.1 6 5) q = true then 1 else 0) → j_Top_folk_89_48 v1 v w0 (A.1 9 q) v B = some r → Sum.elim (fun s : Int32 × Mem => ∃ q : Nat, s.1.toInt = (q : Int) ∧ n0 ≤ q ∧ q ≤ N ∧ (∀ p, n0 ≤ p → p < q → s.2.1 12 p = A.1 9 p ∧ (s.2.1 13 p).toInt = (if bt (A.1 6 5) p = true then 1 else 0) ∧ s.2.1 14 p = 0) ∧ (∀ kx i, ¬ ((kx = 12 ∨ kx = 13 ∨ kx = 14) ∧ n0 ≤ i) → s.2.1 kx i = A.1 kx i) ∧ s.2.2 = A.2) (fun x : Mem => (∀ p, n0 ≤ p → p < N → x.1 12 p = A.1 9 p ∧ (x.1 13 p).toInt = (if bt (A.1 6 5) p = true then 1 else 0) ∧ x.1 14 p = 0) ∧ (∀ kx i, ¬ ((kx = 12 ∨ kx = 13 ∨ kx = 14) ∧ n0 ≤ i) → x.1 kx i = A.1 kx i) ∧ x.2 = A.2) r := by
    intro w0 hw0 e
    unfold j_Top_folk_89_48 at e
    obtain ⟨x5, e5, e⟩ := bo e
    obtain rfl := Option.some.inj e
    obtain ⟨p1, p2, p3, p4, p5⟩ := put_c hq e5
    refine ⟨q + 1, add_ti hq o1 (by omega) (by omega), by omega, by omega, fun p h1 h3 => ?_, fun kx i h => ?_, ?_⟩
    · dsimp only
      rcases Nat.lt_or_ge p q with g | g
      · rw [p4 12 p (by omega), p4 13 p (by omega), p4 14 p (by omega)]; exact hd p h1 g
      · have : p = q := by omega
        subst this
        rw [p1, p2, p3]; exact ⟨rfl, hw0, rfl⟩
    · dsimp only
      rw [p4 kx i (by omega)]; exact hf kx i h
    · dsimp only
      rw [p5]; exact h2
  rcases io e with ⟨c, e⟩ | ⟨c, e⟩
  · exact step 0 (by rw [if_neg (by rw [hw.mp c]; decide)]; exact o0) e
  · refine step 1 ?_ e
    have : bt (A.1 6 5) q = true := by
      cases hb : bt (A.1 6 5) q with
      | true => rfl
      | false => exact absurd (hw.mpr hb) c
    rw [if_pos this]; exact o1
theorem met_r {A x : Mem} {v1 v2 : Int32} {p : Nat} (hp : v2.toInt = (p : Int)) (p8 : p < 8) (e : iter (lb_Mod_come_57 v1 v2) FU ((0 : Int32), A) = some x) : (∀ o, o < 8 → x.1 163 (16 + 8 * p + o) = 0 ∧ x.1 163 (16 + 8 * o + p) = 0) ∧ (∀ kx i, ¬ (kx = 163 ∧ ∃ o, o < 8 ∧ (i = 16 + 8 * p + o ∨ i = 16 + 8 * o + p)) → x.1 kx i = A.1 kx i) ∧ x.2 = A.2 := by
  have k8 : (8 : Int32).toInt = 8 := rfl
  have k16 : (16 : Int32).toInt = 16 := rfl
  refine it_r (I := fun s : Int32 × Mem => ∃ q : Nat, s.1.toInt = (q : Int) ∧ q ≤ 8 ∧ (∀ o, o < q → s.2.1 163 (16 + 8 * p + o) = 0 ∧ s.2.1 163 (16 + 8 * o + p) = 0) ∧ (∀ kx i, ¬ (kx = 163 ∧ ∃ o, o < 8 ∧ (i = 16 + 8 * p + o ∨ i = 16 + 8 * o + p)) → s.2.1 kx i = A.1 kx i) ∧ s.2.2 = A.2) (Q := fun x : Mem => (∀ o, o < 8 → x.1 163 (16 + 8 * p + o) = 0 ∧ x.1 163 (16 + 8 * o + p) = 0) ∧ (∀ kx i, ¬ (kx = 163 ∧ ∃ o, o < 8 ∧ (i = 16 + 8 * p + o ∨ i = 16 + 8 * o + p)) → x.1 kx i = A.1 kx i) ∧ x.2 = A.2) ?_ e ⟨0, rfl, by omega, fun o h => by omega, fun _ _ _ => rfl, rfl⟩
  rintro ⟨v, B⟩ r ⟨q, hq, q8, hd, hf, h2⟩ e
  dsimp only at hq hd hf h2
  unfold lb_Mod_come_57 at e
  dsimp only at e
  rcases io e with ⟨c, e⟩ | ⟨c, e⟩
  · have := q_le c
    obtain rfl := Option.some.inj e
    exact ⟨fun o ho => hd o (by omega), hf, h2⟩
  have c1 := q_ng c
  obtain ⟨_, e⟩ := io_n e
  obtain ⟨M5, m5, e⟩ := mo e
  obtain ⟨_, e⟩ := io_n e
  obtain ⟨M6, m6, e⟩ := mo e
  obtain rfl := Option.some.inj e
  have a1 : ((8 : Int32) * v2).toInt = 8 * (p : Int) := mul_ti k8 hp (by omega) (by omega)
  have a2 : ((16 : Int32) + (8 : Int32) * v2).toInt = 16 + 8 * (p : Int) := add_ti k16 a1 (by omega) (by omega)
  have a3 : ((16 : Int32) + (8 : Int32) * v2 + v).toInt = ((16 + 8 * p + q : Nat) : Int) := by rw [add_ti a2 hq (by omega) (by omega)]; omega
  have b1 : ((8 : Int32) * v).toInt = 8 * (q : Int) := mul_ti k8 hq (by omega) (by omega)
  have b2 : ((16 : Int32) + (8 : Int32) * v).toInt = 16 + 8 * (q : Int) := add_ti k16 b1 (by omega) (by omega)
  have b3 : ((16 : Int32) + (8 : Int32) * v + v2).toInt = ((16 + 8 * q + p : Nat) : Int) := by rw [add_ti b2 hp (by omega) (by omega)]; omega
  rw [q_nat a3] at m5
  rw [q_nat b3] at m6
  have sis : ∀ (C : Mem) (k i j : Nat), C.1 k j = 0 → (s_i C k i (0 : Int32)).1 k j = 0 := by
    intro C k i j h
    by_cases g : j = i
    · subst g; exact si_eq
    · rw [si_ne (by omega)]; exact h
  refine ⟨q + 1, add_ti hq o1 (by omega) (by omega), by omega, fun o ho => ?_, fun kx i h => ?_, ?_⟩
  · dsimp only
    rw [m6, m5]
    rcases Nat.lt_or_ge o q with g | g
    · exact ⟨sis _ _ _ _ (sis _ _ _ _ (hd o g).1), sis _ _ _ _ (sis _ _ _ _ (hd o g).2)⟩
    · have : o = q := by omega
      subst this
      exact ⟨sis _ _ _ _ si_eq, si_eq⟩
  · dsimp only
    rw [m6, si_ne (fun w => h ⟨w.1, q, by omega, .inr w.2⟩), m5, si_ne (fun w => h ⟨w.1, q, by omega, .inl w.2⟩)]; exact hf kx i h
  · dsimp only
    rw [m6, si_2, m5, si_2]; exact h2
theorem steps_r {A x : Mem} {v1 v2 : Int32} {b p k : Nat} (hb : v1.toInt = (b : Int)) (b84 : b ≤ 84) (hp : v2.toInt = (p : Int)) (p8 : p < 8) (hk : (A.1 170 (b + 2)).toInt = (k : Int)) (k9 : k ≤ 9) (e : iter (lb_Mod_come_115 v1 v2) FU ((0 : Int32), A) = some x) : (∀ i, i < k → x.1 165 (9 * p + i) = A.1 170 (b + 3 + i)) ∧ (∀ kx i, ¬ (kx = 165 ∧ 9 * p ≤ i ∧ i < 9 * p + 9) → x.1 kx i = A.1 kx i) ∧ x.2 = A.2 := by
  have z2 := o2
  have z3 := o3
  have k9' : (9 : Int32).toInt = 9 := rfl
  refine it_r (I := fun s : Int32 × Mem => ∃ q : Nat, s.1.toInt = (q : Int) ∧ q ≤ k ∧ (∀ i, i < q → s.2.1 165 (9 * p + i) = A.1 170 (b + 3 + i)) ∧ (∀ kx i, ¬ (kx = 165 ∧ 9 * p ≤ i ∧ i < 9 * p + 9) → s.2.1 kx i = A.1 kx i) ∧ s.2.2 = A.2) (Q := fun x : Mem => (∀ i, i < k → x.1 165 (9 * p + i) = A.1 170 (b + 3 + i)) ∧ (∀ kx i, ¬ (kx = 165 ∧ 9 * p ≤ i ∧ i < 9 * p + 9) → x.1 kx i = A.1 kx i) ∧ x.2 = A.2) ?_ e ⟨0, rfl, by omega, fun o h => by omega, fun _ _ _ => rfl, rfl⟩
  rintro ⟨v, B⟩ r ⟨q, hq, q8, hd, hf, h2⟩ e
  dsimp only at hq hd hf h2
  have i2 : (v1 + (2 : Int32)).toInt = ((b + 2 : Nat) : Int) := add_ti hb z2 (by omega) (by omega)
  have i3 : (v1 + (3 : Int32)).toInt = ((b + 3 : Nat) : Int) := add_ti hb z3 (by omega) (by omega)
  have i4 : (v1 + (3 : Int32) + v).toInt = ((b + 3 + q : Nat) : Int) := add_ti i3 hq (by omega) (by omega)
  have a1 : ((9 : Int32) * v2).toInt = 9 * (p : Int) := mul_ti k9' hp (by omega) (by omega)
  have a2 : ((9 : Int32) * v2 + v).toInt = ((9 * p + q : Nat) : Int) := by rw [add_ti a1 hq (by omega) (by omega)]; omega
  unfold lb_Mod_come_115 at e
  dsimp only at e
  obtain ⟨_, e⟩ := io_n e
  rw [q_nat i2, hf 170 _ (by omega)] at e
  rcases io e with ⟨c, e⟩ | ⟨c, e⟩
  · have := q_le c
    obtain rfl := Option.some.inj e
    exact ⟨fun o ho => hd o (by omega), hf, h2⟩
  have c1 := q_ng c
  obtain ⟨_, e⟩ := io_n e
  obtain ⟨_, e⟩ := io_n e
  obtain ⟨M10, m10, e⟩ := mo e
  obtain rfl := Option.some.inj e
  rw [q_nat a2, q_nat i4, hf 170 _ (by omega)] at m10
  refine ⟨q + 1, add_ti hq o1 (by omega) (by omega), by omega, fun i hi => ?_, fun kx i h => ?_, ?_⟩
  · dsimp only
    rw [m10]
    rcases Nat.lt_or_ge i q with g | g
    · rw [si_ne (by omega)]; exact hd i g
    · have : i = q := by omega
      subst this
      rw [si_eq]
  · dsimp only
    rw [m10, si_ne (by omega)]; exact hf kx i h
  · dsimp only
    rw [m10, si_2]; exact h2
/-- one comes -/
theorem come_r {A x : Mem} {v1 : Int32} {i p k : Nat} (hv : v1.toInt = ((12 * i : Nat) : Int)) (i7 : i ≤ 7) (hp : (A.1 162 4).toInt = (p : Int)) (p8 : p < 8) (hl : 0 ≤ (A.1 170 (12 * i)).toInt ∧ (A.1 170 (12 * i)).toInt ≤ 1) (hc : 0 ≤ (A.1 170 (12 * i + 1)).toInt ∧ (A.1 170 (12 * i + 1)).toInt ≤ 35) (hk : (A.1 170 (12 * i + 2)).toInt = (k : Int)) (k9 : k ≤ 9) (e : f_Mod_come v1 A = some x) : (x.1 162 4).toInt = ((p + 1 : Nat) : Int) ∧ (x.1 163 p).toInt = 36 * (A.1 170 (12 * i)).toInt + (A.1 170 (12 * i + 1)).toInt ∧ x.1 163 (8 + p) = 0 ∧ (∀ o, o < 8 → x.1 163 (16 + 8 * p + o) = 0 ∧ x.1 163 (16 + 8 * o + p) = 0) ∧ x.1 166 p = A.1 170 (12 * i + 2) ∧ (∀ j, j < k → x.1 165 (9 * p + j) = A.1 170 (12 * i + 3 + j)) ∧ (∀ d, bt (x.1 162 5) d = (bt (A.1 162 5) d || (decide ((A.1 170 (12 * i)).toInt = 1) && decide (d = p)))) ∧ (∀ kx j, ¬ (kx = 162 ∧ (j = 4 ∨ j = 5)) → ¬ (kx = 163 ∧ (j = p ∨ j = 8 + p ∨ ∃ o, o < 8 ∧ (j = 16 + 8 * p + o ∨ j = 16 + 8 * o + p))) → ¬ (kx = 165 ∧ 9 * p ≤ j ∧ j < 9 * p + 9) → ¬ (kx = 166 ∧ j = p) → x.1 kx j = A.1 kx j) ∧ x.2 = A.2 := by
  have z2 := o2
  have k8 : (8 : Int32).toInt = 8 := rfl
  have k36 : (36 : Int32).toInt = 36 := rfl
  have i1 : (v1 + (1 : Int32)).toInt = ((12 * i + 1 : Nat) : Int) := add_ti hv o1 (by omega) (by omega)
  have i2 : (v1 + (2 : Int32)).toInt = ((12 * i + 2 : Nat) : Int) := add_ti hv z2 (by omega) (by omega)
  have i8 : ((8 : Int32) + (A.1 162 4)).toInt = ((8 + p : Nat) : Int) := by rw [add_ti k8 hp (by omega) (by omega)]; omega
  unfold f_Mod_come at e
  obtain ⟨_, e⟩ := io_n e
  obtain ⟨_, e⟩ := io_n e
  obtain ⟨x1, e1, e⟩ := bo e
  rw [q_nat hv, q_nat i1] at e1
  have h1 : x1.toInt = 36 * (A.1 170 (12 * i)).toInt + (A.1 170 (12 * i + 1)).toInt := by
    unfold f_Mod_placeOf at e1
    obtain rfl := Option.some.inj e1
    rw [add_ti (mul_ti k36 rfl (by omega) (by omega)) rfl (by omega) (by omega)]
  obtain ⟨_, e⟩ := io_n e
  obtain ⟨M2, m2, e⟩ := mo e
  obtain ⟨_, e⟩ := io_n e
  obtain ⟨M3, m3, e⟩ := mo e
  obtain ⟨_, e⟩ := io_n e
  obtain ⟨M4, m4, e⟩ := mo e
  rw [q_nat hp] at m2
  rw [q_nat hv] at m3
  rw [q_nat i8] at m4
  obtain ⟨x8, e8, e⟩ := bo e
  obtain ⟨w1, w2, w3⟩ := met_r hp p8 e8
  obtain ⟨_, e⟩ := io_n e
  obtain ⟨_, e⟩ := io_n e
  obtain ⟨M9, m9, e⟩ := mo e
  rw [q_nat hp, q_nat i2] at m9
  obtain ⟨x12, e12, e⟩ := bo e
  obtain ⟨M13, m13, e⟩ := mo e
  obtain rfl := Option.some.inj e
  have f4 : ∀ kx j, ¬ (kx = 162 ∧ j = 5) → ¬ (kx = 163 ∧ (j = p ∨ j = 8 + p)) → M4.1 kx j = A.1 kx j := fun kx j g1 g2 => by rw [m4, si_ne (by omega), m3, si_ne (by omega), m2, si_ne (by omega)]
  have f8 : ∀ kx j, ¬ (kx = 162 ∧ j = 5) → ¬ (kx = 163) → x8.1 kx j = A.1 kx j := fun kx j g1 g2 => by rw [w2 kx j (by rintro ⟨h, _⟩; exact g2 h)]; exact f4 kx j g1 (by omega)
  obtain ⟨u1, u2, u3⟩ := steps_r (b := 12 * i) hv (by omega) hp p8 (k := k) (by rw [m9, si_ne (by omega), f8 170 _ (by omega) (by omega)]; exact hk) k9 e12
  have n1 : ∀ o, ¬ (p = 16 + 8 * p + o ∨ p = 16 + 8 * o + p) := fun o h => by omega
  have n2 : ∀ o, o < 8 → ¬ (8 + p = 16 + 8 * p + o ∨ 8 + p = 16 + 8 * o + p) := fun o ho h => by omega
  refine ⟨?_, ?_, ?_, fun o ho => ?_, ?_, fun j hj => ?_, fun d => ?_, fun kx j g1 g2 g3 g4 => ?_, ?_⟩
  · rw [m13, si_eq, u2 162 4 (by omega), m9, si_ne (by omega), f8 162 4 (by omega) (by omega)]; exact add_ti hp o1 (by omega) (by omega)
  · rw [m13, si_ne (by omega), u2 163 p (by omega), m9, si_ne (by omega), w2 163 p (by rintro ⟨_, o, _, h⟩; exact n1 o h), m4, si_ne (by omega), m3, si_ne (by omega), m2, si_eq]; exact h1
  · rw [m13, si_ne (by omega), u2 163 _ (by omega), m9, si_ne (by omega), w2 163 _ (by rintro ⟨_, o, ho, h⟩; exact n2 o ho h), m4, si_eq]
  · rw [m13, si_ne (by omega), si_ne (by omega), u2 163 _ (by omega), u2 163 _ (by omega), m9, si_ne (by omega), si_ne (by omega)]; exact w1 o ho
  · rw [m13, si_ne (by omega), u2 166 p (by omega), m9, si_eq, f8 170 _ (by omega) (by omega)]
  · rw [m13, si_ne (by omega), u1 j hj, m9, si_ne (by omega), f8 170 _ (by omega) (by omega)]
  · obtain ⟨lw, hlw⟩ := ti_ofn hl.1
    have e5 : M13.1 162 5 = (A.1 162 5) ||| ((A.1 170 (12 * i)) <<< ((A.1 162 4) &&& 31)) := by
      rw [m13, si_ne (by omega), u2 162 5 (by omega), m9, si_ne (by omega), w2 162 5 (by rintro ⟨h, _⟩; omega), m4, si_ne (by omega), m3, si_eq, m2, si_ne (by omega), si_ne (by omega)]
    rw [e5, bt_or, bt_lev hlw (by omega) hp (by omega)]
    have : (lw = 1) ↔ ((A.1 170 (12 * i)).toInt = 1) := by omega
    rw [decide_eq_decide.mpr this]
  · rw [m13, si_ne (by omega), u2 kx j g3, m9, si_ne (by omega), w2 kx j (by rintro ⟨h, o, ho, h'⟩; exact g2 ⟨h, .inr (.inr ⟨o, ho, h'⟩)⟩)]; exact f4 kx j (by omega) (by rintro ⟨h, h' | h'⟩; exact g2 ⟨h, .inl h'⟩; exact g2 ⟨h, .inr (.inl h')⟩)
  · rw [m13, si_2, u3, m9, si_2, w3, m4, si_2, m3, si_2, m2, si_2]
