/-! bits -/
def bt (x : Int32) (d : Nat) : Bool := x.toBitVec.getLsbD d
theorem bt_or (x y : Int32) (d : Nat) : bt (x ||| y) d = (bt x d || bt y d) := by unfold bt; rw [Int32.toBitVec_or, BitVec.getLsbD_or]
theorem bt_and (x y : Int32) (d : Nat) : bt (x &&& y) d = (bt x d && bt y d) := by unfold bt; rw [Int32.toBitVec_and, BitVec.getLsbD_and]
theorem bt_xor (x y : Int32) (d : Nat) : bt (x ^^^ y) d = (bt x d ^^ bt y d) := by unfold bt; rw [Int32.toBitVec_xor, BitVec.getLsbD_xor]
theorem bt_0 (d : Nat) : bt 0 d = false := by unfold bt; exact BitVec.getLsbD_zero
theorem bt_m1a : ∀ d : Fin 32, bt (-1) d.val = true := by decide +kernel
theorem bt_m1 {d : Nat} (h : d < 32) : bt (-1) d = true := bt_m1a ⟨d, h⟩
theorem bt_1a : ∀ d : Fin 32, bt 1 d.val = decide (d.val = 0) := by decide +kernel
theorem bt_hi {x : Int32} {d : Nat} (h : 32 ≤ d) : bt x d = false := BitVec.getLsbD_of_ge _ _ h
theorem bt_1 (d : Nat) : bt 1 d = decide (d = 0) := by
  rcases Nat.lt_or_ge d 32 with h | h
  · exact bt_1a ⟨d, h⟩
  · rw [bt_hi h, decide_eq_false (by omega)]
theorem bt_ext {x y : Int32} (h : ∀ d, d < 32 → bt x d = bt y d) : x = y := by
  refine Int32.toBitVec_inj.mp (BitVec.eq_of_getLsbD_eq ?_)
  intro i hi
  exact h i hi
theorem smd : ∀ d : Fin 32, (((Int32.ofNat d.val) &&& 31).toBitVec.smod 32).toNat = d.val := by decide +kernel
theorem smd_v {v : Int32} {d : Nat} (hv : v.toInt = (d : Int)) (hd : d < 32) : ((v &&& 31).toBitVec.smod 32).toNat = d := by
  rw [ofn_eq hv (by omega)]; exact smd ⟨d, hd⟩
theorem bt_sr {x v : Int32} {d : Nat} (hv : v.toInt = (d : Int)) (hd : d < 32) {i : Nat} (hi : d + i < 32) : bt (x >>> (v &&& 31)) i = bt x (d + i) := by
  unfold bt
  rw [Int32.toBitVec_shiftRight, BitVec.sshiftRight_eq', smd_v hv hd, BitVec.getLsbD_sshiftRight, if_pos hi]
  rw [decide_eq_false (by omega)]; rfl
theorem bt_shr {x v : Int32} {d : Nat} (hv : v.toInt = (d : Int)) (hd : d < 32) : ((x >>> (v &&& 31)) &&& (1 : Int32)) = if bt x d = true then 1 else 0 := by
  refine bt_ext (fun i hi => ?_)
  rw [bt_and, bt_1]
  by_cases c : i = 0
  · subst c
    rw [bt_sr hv hd (by omega)]
    cases hb : bt x d with
    | true => rw [if_pos rfl, bt_1]; simp [hb]
    | false => rw [if_neg (by decide), bt_0]; simp [hb]
  · rw [decide_eq_false c, Bool.and_false]
    cases hb : bt x d with
    | true => rw [if_pos rfl, bt_1, decide_eq_false c]
    | false => rw [if_neg (by decide), bt_0]
theorem bt_one {v : Int32} {d : Nat} (hv : v.toInt = (d : Int)) (hd : d < 32) (i : Nat) : bt ((1 : Int32) <<< (v &&& 31)) i = decide (i = d) := by
  rcases Nat.lt_or_ge i 32 with hi | hi
  · unfold bt
    rw [Int32.toBitVec_shiftLeft, BitVec.shiftLeft_eq', smd_v hv hd, BitVec.getLsbD_shiftLeft]
    rw [decide_eq_true hi, Bool.true_and]
    have := bt_1 (i - d)
    unfold bt at this
    rw [this]
    by_cases c : i < d
    · rw [decide_eq_true c, decide_eq_false (show ¬ i = d by omega)]; rfl
    · rw [decide_eq_false c]
      by_cases g : i = d
      · rw [decide_eq_true g, decide_eq_true (show i - d = 0 by omega)]; rfl
      · rw [decide_eq_false g, decide_eq_false (show ¬ i - d = 0 by omega)]; rfl
  · rw [bt_hi hi, decide_eq_false (by omega)]
theorem bt_b1 (x : Int32) {v : Int32} {d : Nat} (hv : v.toInt = (d : Int)) (hd : d < 32) (i : Nat) : bt (x ||| ((1 : Int32) <<< (v &&& 31))) i = (bt x i || decide (i = d)) := by rw [bt_or, bt_one hv hd]
theorem bt_b0 (x : Int32) {v : Int32} {d : Nat} (hv : v.toInt = (d : Int)) (hd : d < 32) {i : Nat} (hi : i < 32) : bt (x &&& (((1 : Int32) <<< (v &&& 31)) ^^^ (-1 : Int32))) i = (bt x i && !decide (i = d)) := by rw [bt_and, bt_xor, bt_one hv hd, bt_m1 hi]; cases decide (i = d) <;> rfl
/-! the class's reader -/
def cx (M : Mem) (K p : Nat) : Int := if (p : Int) < (M.1 1 1).toInt ∧ p < K then (M.1 2 p).toInt else -1
theorem at_i {M : Mem} {v m x : Int32} {p K : Nat} (hv : v.toInt = (p : Int)) (hm : m.toInt = (K : Int)) (hl : (M.1 1 1).toInt ≤ 80) (e : f_Signs_at v m M = some x) : x.toInt = cx M K p := by
  unfold f_Signs_at at e
  have z8 : (80 : Int32).toInt = 80 := rfl
  have z0 := o0
  have zm := om
  unfold cx
  rcases io e with ⟨c, e⟩ | ⟨c, e⟩
  · have := q_lt c; omega
  rcases io e with ⟨c, e⟩ | ⟨c, e⟩
  · obtain rfl := Option.some.inj e
    have := q_le c
    rw [if_neg (by omega)]; exact om
  have c1 := q_ng c
  rcases io e with ⟨c, e⟩ | ⟨c, e⟩
  · obtain rfl := Option.some.inj e
    have := q_le c
    rw [if_neg (by omega)]; exact om
  have c2 := q_ng c
  rcases io e with ⟨c, e⟩ | ⟨c, e⟩
  · obtain ⟨_, e⟩ := io_n e
    obtain rfl := Option.some.inj e
    rw [if_pos (by omega), q_nat hv]
  · have := q_nl c; omega
theorem cx_c {M N : Mem} (h1 : N.1 1 1 = M.1 1 1) (h2 : ∀ i, N.1 2 i = M.1 2 i) (K : Nat) : cx N K = cx M K := by
  funext p
  unfold cx
  rw [h1, h2]
theorem cx_b {M : Mem} (hJ : J M) (K p : Nat) : -1 ≤ cx M K p ∧ cx M K p ≤ 255 ∧ (cx M K p ≠ -1 → p < 80 ∧ p < K) := by
  have l := Jr_1_1 hJ
  have b : (0 : Int) ≤ (M.1 2 p).toInt ∧ (M.1 2 p).toInt ≤ 255 := hJ.1 2 p
  unfold cx
  split <;> omega
theorem dig_l {A : Mem} {v1 v2 v3 : Int32} {p K n : Nat} (hl : (A.1 1 1).toInt ≤ 80) (h1 : v1.toInt = (p : Int)) (h2 : v2.toInt = (K : Int)) (h3 : v3.toInt = (n : Int)) (n3 : n ≤ 3) (p80 : p ≤ 80) (h0 : A.1 1 2 = 0) {x} (e : iter (lb_Signs_digits_11 v1 v2 v3) FU ((0 : Int32), (0 : Int32), A) = some x) : (∀ k i, ¬ (k = 1 ∧ i = 2) → x.2.1 k i = A.1 k i) ∧ x.1.toInt = (dgn (cx A K) n p : Int) ∧ (x.2.1 1 2).toInt = dgv (cx A K) n p 0 ∧ 0 ≤ (x.2.1 1 2).toInt ∧ (x.2.1 1 2).toInt < 1000 := by
  refine it_r (I := fun s : Int32 × Int32 × Mem => (∀ k i, ¬ (k = 1 ∧ i = 2) → s.2.2.1 k i = A.1 k i) ∧ ∃ m i : Nat, s.1.toInt = (m : Int) ∧ s.2.1.toInt = (i : Int) ∧ i ≤ n ∧ ((m = i ∧ dgv (cx A K) n p 0 = dgv (cx A K) (n - i) (p + i) (s.2.2.1 1 2).toInt ∧ dgn (cx A K) n p = i + dgn (cx A K) (n - i) (p + i) ∧ 0 ≤ (s.2.2.1 1 2).toInt ∧ (s.2.2.1 1 2).toInt < (10 : Int) ^ i) ∨ (m < i ∧ dgn (cx A K) n p = m ∧ dgv (cx A K) n p 0 = (s.2.2.1 1 2).toInt ∧ 0 ≤ (s.2.2.1 1 2).toInt ∧ (s.2.2.1 1 2).toInt < 1000))) (Q := fun x : Int32 × Mem => (∀ k i, ¬ (k = 1 ∧ i = 2) → x.2.1 k i = A.1 k i) ∧ x.1.toInt = (dgn (cx A K) n p : Int) ∧ (x.2.1 1 2).toInt = dgv (cx A K) n p 0 ∧ 0 ≤ (x.2.1 1 2).toInt ∧ (x.2.1 1 2).toInt < 1000) ?_ e ⟨fun _ _ _ => rfl, 0, 0, rfl, rfl, by omega, .inl ⟨rfl, ?_, by simp, ?_, ?_⟩⟩
  · rintro ⟨a, b, N⟩ r ⟨fx, m, i, hm, hi, li, h⟩ e
    dsimp only at fx hm hi h
    have z48 : (48 : Int32).toInt = 48 := rfl
    have z57 : (57 : Int32).toInt = 57 := rfl
    have z10 : (10 : Int32).toInt = 10 := rfl
    have pw : (10 : Int) ^ i ≤ 1000 ∧ (i < n → (10 : Int) ^ i ≤ 100 ∧ (10 : Int) ^ (i + 1) = 10 * (10 : Int) ^ i) := by
      have : i = 0 ∨ i = 1 ∨ i = 2 ∨ i = 3 := by omega
      rcases this with rfl | rfl | rfl | rfl
      · exact ⟨by decide, fun _ => by decide⟩
      · exact ⟨by decide, fun _ => by decide⟩
      · exact ⟨by decide, fun _ => by decide⟩
      · exact ⟨by decide, fun h => by omega⟩
    unfold lb_Signs_digits_11 at e
    dsimp only at e
    rcases io e with ⟨c, e⟩ | ⟨c, e⟩
    · have c := q_le c
      obtain rfl := Option.some.inj e
      have ei : i = n := by omega
      subst ei
      rcases h with ⟨g1, g2, g3, g4, g5⟩ | ⟨g1, g2, g3, g4, g5⟩
      · rw [Nat.sub_self] at g2 g3
        refine ⟨fx, ?_, ?_, g4, (by show (N.1 1 2).toInt < 1000; omega)⟩
        · show a.toInt = _
          rw [g3, hm]; show (m : Int) = ((i + 0 : Nat) : Int); omega
        · show (N.1 1 2).toInt = _
          rw [g2]; rfl
      · exact ⟨fx, by show a.toInt = _; rw [g2]; exact hm, g3.symm, g4, g5⟩
    have c1 := q_ng c
    rcases io e with ⟨c, e⟩ | ⟨c, e⟩
    · have c2 := q_eq c
      rcases h with ⟨g1, g2, g3, g4, g5⟩ | ⟨g1, _⟩
      · subst g1
        have nj : n - m = (n - (m + 1)) + 1 := by omega
        obtain ⟨x2, e2, e⟩ := bo e
        have a1 : (v1 + b).toInt = ((p + m : Nat) : Int) := add_ti h1 hi (by omega) (by omega)
        have hx := at_i a1 h2 (by rw [fx 1 1 (by omega)]; exact hl) e2
        rw [cx_c (fx 1 1 (by omega)) (fun j => fx 2 j (by omega))] at hx
        have b1 : (b + (1 : Int32)).toInt = ((m + 1 : Nat) : Int) := add_ti hi o1 (by omega) (by omega)
        have non : ¬ (48 ≤ cx A K (p + m) ∧ cx A K (p + m) ≤ 57) → (m < m + 1 ∧ dgn (cx A K) n p = m ∧ dgv (cx A K) n p 0 = (N.1 1 2).toInt ∧ 0 ≤ (N.1 1 2).toInt ∧ (N.1 1 2).toInt < 1000) := by
          intro nd
          refine ⟨by omega, ?_, ?_, g4, by omega⟩
          · rw [g3, nj, dgn, if_neg nd]; rfl
          · rw [g2, nj, dgv, if_neg nd]
        rcases io e with ⟨c, e⟩ | ⟨c, e⟩
        · have c3 := q_lt c
          obtain rfl := Option.some.inj e
          exact ⟨fx, m, m + 1, hm, b1, by omega, .inr (non (by omega))⟩
        have c3 := q_nl c
        rcases io e with ⟨c, e⟩ | ⟨c, e⟩
        · have c4 := q_lt c
          obtain rfl := Option.some.inj e
          exact ⟨fx, m, m + 1, hm, b1, by omega, .inr (non (by omega))⟩
        have c4 := q_nl c
        obtain ⟨M3, e3, e⟩ := mo e
        obtain rfl := Option.some.inj e
        have dg : 48 ≤ cx A K (p + m) ∧ cx A K (p + m) ≤ 57 := by omega
        obtain ⟨pw1, pw2⟩ := pw.2 (by omega)
        have m1 : ((N.1 1 2) * (10 : Int32)).toInt = (N.1 1 2).toInt * 10 := mul_ti rfl z10 (by omega) (by omega)
        have m2 : ((N.1 1 2) * (10 : Int32) + x2).toInt = (N.1 1 2).toInt * 10 + x2.toInt := add_ti m1 rfl (by omega) (by omega)
        have m3 : ((N.1 1 2) * (10 : Int32) + x2 - (48 : Int32)).toInt = (N.1 1 2).toInt * 10 + x2.toInt - 48 := sub_ti m2 z48 (by omega) (by omega)
        have mv : (M3.1 1 2).toInt = 10 * (N.1 1 2).toInt + cx A K (p + m) - 48 := by rw [e3, si_eq, m3, hx]; omega
        refine ⟨fun k j hk => ?_, m + 1, m + 1, add_ti hm o1 (by omega) (by omega), b1, by omega, .inl ⟨rfl, ?_, ?_, ?_, ?_⟩⟩
        · show M3.1 k j = _
          rw [e3, si_ne hk]; exact fx k j hk
        · show _ = dgv (cx A K) (n - (m + 1)) (p + (m + 1)) (M3.1 1 2).toInt
          rw [g2, nj, mv]
          rw [show dgv (cx A K) (n - (m + 1) + 1) (p + m) (N.1 1 2).toInt = dgv (cx A K) (n - (m + 1)) (p + m + 1) (10 * (N.1 1 2).toInt + cx A K (p + m) - 48) by rw [dgv, if_pos dg]]
          rfl
        · rw [g3, nj]
          rw [show dgn (cx A K) (n - (m + 1) + 1) (p + m) = dgn (cx A K) (n - (m + 1)) (p + m + 1) + 1 by rw [dgn, if_pos dg]]
          rw [show p + (m + 1) = p + m + 1 by omega]; omega
        · show 0 ≤ (M3.1 1 2).toInt
          omega
        · show (M3.1 1 2).toInt < (10 : Int) ^ (m + 1)
          rw [pw2]; omega
      · omega
    · have c2 := q_ne c
      obtain rfl := Option.some.inj e
      rcases h with ⟨g1, _⟩ | ⟨g1, g2, g3, g4, g5⟩
      · omega
      · exact ⟨fx, by show a.toInt = _; rw [g2]; exact hm, g3.symm, g4, g5⟩
  · show dgv (cx A K) n p 0 = dgv (cx A K) n p (A.1 1 2).toInt
    rw [h0]; rfl
  · show 0 ≤ (A.1 1 2).toInt
    rw [h0]; decide
  · show (A.1 1 2).toInt < 1
    rw [h0]; decide
theorem dig_i {A : Mem} {v1 v2 v3 : Int32} {p K n : Nat} (hl : (A.1 1 1).toInt ≤ 80) (h1 : v1.toInt = (p : Int)) (h2 : v2.toInt = (K : Int)) (h3 : v3.toInt = (n : Int)) (n3 : n ≤ 3) (p80 : p ≤ 80) {x} (e : f_Signs_digits v1 v2 v3 A = some x) : (∀ k i, ¬ (k = 1 ∧ i = 2) → x.2.1 k i = A.1 k i) ∧ x.1.toInt = (dgn (cx A K) n p : Int) ∧ (x.2.1 1 2).toInt = dgv (cx A K) n p 0 ∧ 0 ≤ (x.2.1 1 2).toInt ∧ (x.2.1 1 2).toInt < 1000 := by
  unfold f_Signs_digits at e
  obtain ⟨M1, e1, e⟩ := mo e
  obtain ⟨x8, e8, e⟩ := bo e
  obtain rfl := Option.some.inj e
  have c : cx M1 K = cx A K := cx_c (by rw [e1, si_ne (by omega)]) (fun i => by rw [e1, si_ne (by omega)]) K
  have d := dig_l (A := M1) (by rw [e1, si_ne (by omega)]; exact hl) h1 h2 h3 n3 p80 (by rw [e1, si_eq]) e8
  rw [c] at d
  refine ⟨fun k i hk => ?_, d.2⟩
  rw [d.1 k i hk, e1, si_ne hk]
