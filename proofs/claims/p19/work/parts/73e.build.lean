/-! a cell built -/
theorem stand_p {X R : Mem} {n p : Nat} {c l : Int32} (zq : ZQ X R n) (hp : p < n) (hc : 0 ≤ c.toInt ∧ c.toInt ≤ 35) (hl : 0 ≤ l.toInt ∧ l.toInt ≤ 1) : (X.1 12 p = c ∧ X.1 13 p = l) ↔ (R.1 163 p).toInt = c.toInt + 36 * l.toInt := by
  obtain ⟨a1, a2, a3, a4, a5, _⟩ := zq.2.2.2.1.1 p hp
  have a1 : (R.1 163 p).toInt = (X.1 12 p).toInt + 36 * (X.1 13 p).toInt := a1
  have a2 : 0 ≤ (X.1 12 p).toInt := a2
  have a3 : (X.1 12 p).toInt ≤ 35 := a3
  constructor
  · rintro ⟨h1, h2⟩; rw [a1, h1, h2]
  · intro h
    exact ⟨Int32.toInt_inj.mp (by omega), Int32.toInt_inj.mp (by omega)⟩
theorem lev_c {X R : Mem} {n : Nat} {c k : Int32} {y : Unit ⊕ Unit} (zq : ZQ X R n) (hc : 0 ≤ c.toInt ∧ c.toInt ≤ 35) (e : iter (lb_Top_canBecome_2 c k X) FU (0 : Int32) = some y) : (y = .inl () ∧ ∀ l : Nat, l < 2 → bt k l = false → ∀ p, p < n → (R.1 163 p).toInt ≠ c.toInt + 36 * (l : Int)) ∨ (y = .inr () ∧ ∃ l : Nat, l < 2 ∧ bt k l = false ∧ ∃ p, p < n ∧ (R.1 163 p).toInt = c.toInt + 36 * (l : Int)) := by
  have n8 := zq.1
  have zc := zq.2.2.1.2.1
  have z1 := o1
  have hm : (X.1 6 4).toInt = (n : Int) := by rw [zc.2.1]; exact zc.1
  refine it_r (I := fun s : Int32 => ∃ q : Nat, q ≤ 2 ∧ s.toInt = (q : Int) ∧ ∀ l : Nat, l < q → bt k l = false → ∀ p, p < n → (R.1 163 p).toInt ≠ c.toInt + 36 * (l : Int)) (Q := fun y : Unit ⊕ Unit => (y = .inl () ∧ ∀ l : Nat, l < 2 → bt k l = false → ∀ p, p < n → (R.1 163 p).toInt ≠ c.toInt + 36 * (l : Int)) ∨ (y = .inr () ∧ ∃ l : Nat, l < 2 ∧ bt k l = false ∧ ∃ p, p < n ∧ (R.1 163 p).toInt = c.toInt + 36 * (l : Int))) ?_ e ⟨0, by omega, rfl, fun l hl => absurd hl (by omega)⟩
  rintro s r ⟨q, lq, hq, h⟩ e
  unfold lb_Top_canBecome_2 at e
  rcases io e with ⟨g, e⟩ | ⟨g, e⟩
  · have := q_lt g
    obtain rfl := Option.some.inj e
    have : q = 2 := by omega
    subst this
    exact .inl ⟨rfl, h⟩
  have g1 := q_nl g
  have nx : (s + (1 : Int32)).toInt = ((q + 1 : Nat) : Int) := add_ti hq o1 (by omega) (by omega)
  rw [bt_shr hq (by omega)] at e
  unfold j_Top_canBecome_20_2 at e
  cases hb : bt k q with
  | true =>
    rw [hb, if_pos rfl, if_neg (by decide), if_pos rfl] at e
    obtain rfl := Option.some.inj e
    refine ⟨q + 1, by omega, nx, fun l hl hk => ?_⟩
    by_cases w : l = q
    · subst w; rw [hb] at hk; cases hk
    · exact h l (by omega) hk
  | false =>
    rw [hb, if_neg (show ¬ (false = true) by decide), if_pos rfl, if_neg (by decide)] at e
    obtain ⟨x1, ex1, e⟩ := bo e
    have S := standing_i hm n8 ex1
    rcases io e with ⟨w, e⟩ | ⟨w, e⟩
    · obtain rfl := Option.some.inj e
      refine ⟨q + 1, by omega, nx, fun l hl hk p hp => ?_⟩
      by_cases v : l = q
      · subst v
        intro hh
        have st := (stand_p (l := s) zq hp hc (by omega)).mpr (by rw [hq]; exact hh)
        have := S p
        rw [w, bt_0, decide_eq_true ⟨hp, st.1, st.2⟩] at this
        cases this
      · exact h l (by omega) hk p hp
    · obtain rfl := Option.some.inj e
      obtain ⟨p, hp⟩ := bt_ex w
      rw [S p] at hp
      obtain ⟨p1, p2, p3⟩ := of_decide_eq_true hp
      have st := (stand_p (l := s) zq p1 hc (by omega)).mp ⟨p2, p3⟩
      rw [hq] at st
      exact .inr ⟨rfl, q, by omega, hb, p, p1, st⟩
theorem can_c {X R : Mem} {n : Nat} {c k x : Int32} (zq : ZQ X R n) (hc : 0 ≤ c.toInt ∧ c.toInt ≤ 35) (e : f_Top_canBecome c k X = some x) : (x = 1 ∧ CB R n c k) ∨ (x = 0 ∧ ¬ CB R n c k) := by
  have hb := zq.2.2.2.2.1.2.1
  have zs := zq.2.2.2.1
  obtain ⟨m, hm⟩ := ti_ofn hb.1
  have lai : X.1 11 6 = R.1 163 92 := zs.2.2.2.1
  have pl : ∀ j : Nat, j < m → X.1 16 j = R.1 163 (80 + 2 * j) ∧ X.1 17 j = R.1 163 (81 + 2 * j) := fun j hj => zs.2.2.2.2.1 j (by omega) (by omega)
  unfold f_Top_canBecome at e
  obtain ⟨y, ey, e⟩ := bo e
  rcases lev_c zq hc ey with ⟨rfl, L⟩ | ⟨rfl, l, l2, hl, p, hp, h⟩
  · dsimp only [Sum.elim_inl] at e
    have L0 : bt k 0 = false → ∀ p, p < n → (R.1 163 p).toInt ≠ c.toInt := fun h p hp => by have := L 0 (by omega) h p hp; omega
    have L1 : bt k 1 = false → ∀ p, p < n → (R.1 163 p).toInt ≠ c.toInt + 36 := fun h p hp => by have := L 1 (by omega) h p hp; omega
    rw [bt_shr (v := 1) (d := 1) rfl (by omega)] at e
    cases hb1 : bt k 1 with
    | false =>
      rw [hb1, if_neg (show ¬ (false = true) by decide), if_pos rfl] at e
      unfold j_Top_canBecome_67 at e
      rw [if_pos rfl] at e
      obtain ⟨x8, ex8, e⟩ := bo e
      have A := planksAt_i (by rw [lai]; exact hm) (by omega) ex8
      rcases io e with ⟨w, e⟩ | ⟨w, e⟩
      · refine .inl ⟨(Option.some.inj e).symm, L0, L1, fun _ j hj => ?_, fun h => (by rw [hb1] at h; cases h)⟩
        have P := pl j (by omega)
        have nA : ¬ (j < m ∧ (X.1 16 j = c ∨ X.1 17 j = c)) := fun h => by have := (A j).mpr h; rw [w, bt_0] at this; cases this
        rw [← P.1, ← P.2]
        exact ⟨fun h => nA ⟨by omega, .inl (Int32.toInt_inj.mp h)⟩, fun h => nA ⟨by omega, .inr (Int32.toInt_inj.mp h)⟩⟩
      · refine .inr ⟨(Option.some.inj e).symm, fun cb => ?_⟩
        obtain ⟨j, hj⟩ := bt_ex w
        obtain ⟨j1, j2⟩ := (A j).mp hj
        have P := pl j j1
        obtain ⟨n1, n2⟩ := cb.2.2.1 hb1 j (by omega)
        rw [← P.1] at n1
        rw [← P.2] at n2
        rcases j2 with h | h
        · exact n1 (congrArg _ h)
        · exact n2 (congrArg _ h)
    | true =>
      rw [hb1, if_pos rfl, if_neg (by decide)] at e
      unfold j_Top_canBecome_67 at e
      rw [if_neg (by decide)] at e
      obtain ⟨x10, ex10, e⟩ := bo e
      rcases under_c zq ex10 with ⟨u, j, hj, h⟩ | ⟨u, h⟩
      · rw [u, if_neg (by decide)] at e
        exact .inr ⟨(Option.some.inj e).symm, fun cb => cb.2.2.2 hb1 j hj h⟩
      · rw [u, if_pos rfl] at e
        exact .inl ⟨(Option.some.inj e).symm, L0, L1, fun h => (by rw [hb1] at h; cases h), fun _ => h⟩
  · dsimp only [Sum.elim_inr] at e
    refine .inr ⟨(Option.some.inj e).symm, fun cb => ?_⟩
    have : l = 0 ∨ l = 1 := by omega
    rcases this with rfl | rfl
    · exact cb.1 hl p hp (by omega)
    · exact cb.2.1 hl p hp (by omega)
theorem ends_r {R : Mem} {v1 v2 v3 : Int32} {y : Unit ⊕ Unit} (hb : 0 ≤ (R.1 163 92).toInt ∧ (R.1 163 92).toInt ≤ 6) (e : iter (lb_Mod_build_87 v1 v2 v3 R) FU (0 : Int32) = some y) : (y = .inl () ∧ (v3 = 0 → ∀ i : Nat, (i : Int) < 2 * (R.1 163 92).toInt → R.1 163 (80 + i) ≠ v1)) ∨ (y = .inr () ∧ v3 = 0 ∧ ∃ i : Nat, (i : Int) < 2 * (R.1 163 92).toInt ∧ R.1 163 (80 + i) = v1) := by
  have z80 : (80 : Int32).toInt = 80 := rfl
  refine it_r (I := fun s : Int32 => ∃ q : Nat, (q : Int) ≤ 2 * (R.1 163 92).toInt ∧ s.toInt = (q : Int) ∧ (v3 = 0 → ∀ i : Nat, i < q → R.1 163 (80 + i) ≠ v1)) (Q := fun y : Unit ⊕ Unit => (y = .inl () ∧ (v3 = 0 → ∀ i : Nat, (i : Int) < 2 * (R.1 163 92).toInt → R.1 163 (80 + i) ≠ v1)) ∨ (y = .inr () ∧ v3 = 0 ∧ ∃ i : Nat, (i : Int) < 2 * (R.1 163 92).toInt ∧ R.1 163 (80 + i) = v1)) ?_ e ⟨0, by omega, rfl, fun _ i hi => absurd hi (by omega)⟩
  rintro s r ⟨q, lq, hq, h⟩ e
  unfold lb_Mod_build_87 at e
  rw [show (92 : Int32).toNatClampNeg = 92 from rfl] at e
  have i1 : ((2 : Int32) * (R.1 163 92)).toInt = 2 * (R.1 163 92).toInt := mul_ti o2 rfl (by omega) (by omega)
  rcases io e with ⟨g, e⟩ | ⟨g, e⟩
  · have := q_le g
    obtain rfl := Option.some.inj e
    exact .inl ⟨rfl, fun w i hi => h w i (by omega)⟩
  have g1 := q_ng g
  have i2 : ((80 : Int32) + s).toInt = ((80 + q : Nat) : Int) := by rw [add_ti z80 hq (by omega) (by omega)]; omega
  have nx : (s + (1 : Int32)).toInt = ((q + 1 : Nat) : Int) := add_ti hq o1 (by omega) (by omega)
  obtain ⟨_, e⟩ := io_n e
  rw [q_nat i2] at e
  rcases io e with ⟨k, e⟩ | ⟨k, e⟩
  · rcases io e with ⟨w, e⟩ | ⟨w, e⟩
    · obtain rfl := Option.some.inj e
      exact .inr ⟨rfl, w, q, by omega, k⟩
    · obtain rfl := Option.some.inj e
      exact ⟨q + 1, by omega, nx, fun v => absurd v w⟩
  · obtain rfl := Option.some.inj e
    refine ⟨q + 1, by omega, nx, fun v i hi => ?_⟩
    by_cases w : i = q
    · subst w; exact k
    · exact h v i (by omega)
theorem can_r {R : Mem} {n : Nat} {v1 v2 w0 : Int32} {r : Int32 × Mem} (jR : J R) (zv : ZV R (R.1 163) n) (hn : (R.1 162 4).toInt = (n : Int)) (n8 : n ≤ 8) (hc : 0 ≤ v1.toInt ∧ v1.toInt ≤ 35) (b0 : bt v2 0 = true ↔ (v2 = 1 ∨ v2 = 3)) (b1 : bt v2 1 = true ↔ w0 ≠ 0) (e : j_Mod_build_39 v1 v2 w0 R = some r) : (CB R n v1 v2 ∧ j_Mod_build_141 v1 v2 R = some r) ∨ (¬ CB R n v1 v2 ∧ r = ((-1 : Int32), R)) := by
  have z36 : (36 : Int32).toInt = 36 := rfl
  have hb := zv.2.1
  have wh := awh jR
  have emp : ∀ {x c : Int32}, f_Mod_onPlace 163 c R = some x → (x = 0 ↔ ∀ p, p < n → (R.1 163 p).toInt ≠ c.toInt) := by
    intro x c e
    have S := onPlace_i hn n8 e
    constructor
    · intro w p hp h
      have := S p
      rw [w, bt_0, decide_eq_true ⟨hp, Int32.toInt_inj.mp h⟩] at this
      cases this
    · intro h
      by_cases w : x = 0
      · exact w
      · obtain ⟨p, hp⟩ := bt_ex w
        rw [S p] at hp
        obtain ⟨p1, p2⟩ := of_decide_eq_true hp
        exact absurd (congrArg _ p2) (h p p1)
  have nf : ∀ {v : Int32} {d : Nat}, ¬ bt v d = true → bt v d = false := fun {v d} h => by
    cases hh : bt v d with
    | true => exact absurd hh h
    | false => rfl
  have tf : ∀ {v : Int32} {d : Nat}, bt v d = true → bt v d = false → False := fun h1 h2 => by rw [h1] at h2; cases h2
  have last : (bt v2 0 = false → ∀ p, p < n → (R.1 163 p).toInt ≠ v1.toInt) → (bt v2 1 = false → ∀ p, p < n → (R.1 163 p).toInt ≠ v1.toInt + 36) → Option.bind (iter (lb_Mod_build_87 v1 v2 w0 R) FU (0 : Int32)) (Sum.elim (fun _ => if w0 = 0 then j_Mod_build_141 v1 v2 R else Option.bind (f_Mod_isUnder v1 R) fun x15 => if x15 = 0 then j_Mod_build_141 v1 v2 R else some ((-1 : Int32), R)) (fun _ => some ((-1 : Int32), R))) = some r → (CB R n v1 v2 ∧ j_Mod_build_141 v1 v2 R = some r) ∨ (¬ CB R n v1 v2 ∧ r = ((-1 : Int32), R)) := by
    intro C0 C1 e
    obtain ⟨y, ey, e⟩ := bo e
    rcases ends_r hb ey with ⟨rfl, L⟩ | ⟨rfl, w, i, hi, h⟩
    · dsimp only [Sum.elim_inl] at e
      rcases io e with ⟨w, e⟩ | ⟨w, e⟩
      · refine .inl ⟨⟨C0, C1, fun _ j hj => ⟨fun h => ?_, fun h => ?_⟩, fun h => absurd w (b1.mp h)⟩, e⟩
        · exact L w (2 * j) (by omega) (Int32.toInt_inj.mp h)
        · exact L w (2 * j + 1) (by omega) (by rw [show 80 + (2 * j + 1) = 81 + 2 * j by omega]; exact Int32.toInt_inj.mp h)
      · obtain ⟨x, ex, e⟩ := bo e
        have t1 := b1.mpr w
        rcases under_r zv hc wh.2 ex with ⟨u, j, hj, h⟩ | ⟨u, h⟩
        · rw [u, if_neg (by decide)] at e
          exact .inr ⟨fun cb => cb.2.2.2 t1 j hj h, (Option.some.inj e).symm⟩
        · rw [u, if_pos rfl] at e
          exact .inl ⟨⟨C0, C1, fun h => (tf t1 h).elim, fun _ => h⟩, e⟩
    · dsimp only [Sum.elim_inr] at e
      refine .inr ⟨fun cb => ?_, (Option.some.inj e).symm⟩
      have f1 : bt v2 1 = false := nf fun h => b1.mp h w
      have : i = 2 * (i / 2) ∨ i = 2 * (i / 2) + 1 := by omega
      obtain ⟨n1, n2⟩ := cb.2.2.1 f1 (i / 2) (by omega)
      rcases this with q | q
      · rw [q] at h; exact n1 (congrArg _ h)
      · rw [q, show 80 + (2 * (i / 2) + 1) = 81 + 2 * (i / 2) by omega] at h; exact n2 (congrArg _ h)
  have mid : (bt v2 0 = false → ∀ p, p < n → (R.1 163 p).toInt ≠ v1.toInt) → j_Mod_build_62 v1 v2 w0 R = some r → (CB R n v1 v2 ∧ j_Mod_build_141 v1 v2 R = some r) ∨ (¬ CB R n v1 v2 ∧ r = ((-1 : Int32), R)) := by
    intro C0 e
    unfold j_Mod_build_62 at e
    obtain ⟨x5, ex5, e⟩ := bo e
    obtain ⟨x6, ex6, e⟩ := bo e
    unfold f_Mod_placeOf at ex5
    have ex5 := Option.some.inj ex5
    have h5 : x5.toInt = v1.toInt + 36 := by
      rw [← ex5, add_ti (mul_ti z36 o1 (by omega) (by omega)) rfl (by omega) (by omega)]; omega
    have E := emp ex6
    rw [h5] at E
    rcases io e with ⟨w, e⟩ | ⟨w, e⟩
    · exact last C0 (fun _ => E.mp w) e
    rcases io e with ⟨v, e⟩ | ⟨v, e⟩
    · exact .inr ⟨fun cb => w (E.mpr (cb.2.1 (nf fun h => b1.mp h v))), (Option.some.inj e).symm⟩
    · exact last C0 (fun h => (tf (b1.mpr v) h).elim) e
  unfold j_Mod_build_39 at e
  obtain ⟨x4, ex4, e⟩ := bo e
  have E := emp ex4
  rcases io e with ⟨w, e⟩ | ⟨w, e⟩
  · exact mid (fun _ => E.mp w) e
  rcases io e with ⟨v, e⟩ | ⟨v, e⟩
  · exact mid (fun h => (tf (b0.mpr (.inl v)) h).elim) e
  rcases io e with ⟨u, e⟩ | ⟨u, e⟩
  · exact mid (fun h => (tf (b0.mpr (.inr u)) h).elim) e
  · exact .inr ⟨fun cb => w (E.mpr (cb.1 (nf fun h => (b0.mp h).elim v u))), (Option.some.inj e).symm⟩
