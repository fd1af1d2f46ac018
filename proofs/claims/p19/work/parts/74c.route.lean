/-! routes read, both sides -/
def stp (c : Int) : Int := if c = 117 then 0 else if c = 114 then 1 else if c = 100 then 2 else if c = 108 then 3 else if c = 111 then 4 else -1
def rtn (t : Nat → Int) : Nat → Nat → Nat
  | 0, _ => 0
  | K + 1, p => if stp (t p) = -1 then 0 else rtn t K (p + 1) + 1
theorem rtn_c {t : Nat → Int} {K p j : Nat} (hj : j ≤ K) (h1 : ∀ i, i < j → stp (t (p + i)) ≠ -1) (h2 : j = K ∨ stp (t (p + j)) = -1) : rtn t K p = j := by
  induction K generalizing p j with
  | zero =>
    have : j = 0 := by omega
    subst this
    rfl
  | succ K ih =>
    unfold rtn
    cases j with
    | zero =>
      rcases h2 with h | h
      · omega
      · rw [if_pos (by simpa using h)]
    | succ j =>
      have a := h1 0 (by omega)
      rw [if_neg (by simpa using a)]
      have := ih (p := p + 1) (j := j) (by omega) (fun i hi => by have := h1 (i + 1) (by omega); rwa [show p + (i + 1) = p + 1 + i by omega] at this) (by
        rcases h2 with h | h
        · exact .inl (by omega)
        · exact .inr (by rwa [show p + (j + 1) = p + 1 + j by omega] at h))
      rw [this]
theorem stp_b (c : Int) : stp c = -1 ∨ (0 ≤ stp c ∧ stp c ≤ 4 ∧ 100 ≤ c ∧ c ≤ 117) := by
  unfold stp
  repeat' split
  all_goals omega
theorem stpC {v x : Int32} (e : f_Signs_stepOf v = some x) : x.toInt = stp v.toInt := by
  have k1 : (100 : Int32).toInt = 100 := rfl
  have k2 : (108 : Int32).toInt = 108 := rfl
  have k3 : (111 : Int32).toInt = 111 := rfl
  have k4 : (114 : Int32).toInt = 114 := rfl
  have k5 : (117 : Int32).toInt = 117 := rfl
  unfold f_Signs_stepOf at e
  rcases io e with ⟨c, e⟩ | ⟨c, e⟩
  · obtain rfl := Option.some.inj e; rw [c, k1]; rfl
  have c1 := q_ne c
  rcases io e with ⟨c, e⟩ | ⟨c, e⟩
  · obtain rfl := Option.some.inj e; rw [c, k2]; rfl
  have c2 := q_ne c
  rcases io e with ⟨c, e⟩ | ⟨c, e⟩
  · obtain rfl := Option.some.inj e; rw [c, k3]; rfl
  have c3 := q_ne c
  rcases io e with ⟨c, e⟩ | ⟨c, e⟩
  · obtain rfl := Option.some.inj e; rw [c, k4]; rfl
  have c4 := q_ne c
  rcases io e with ⟨c, e⟩ | ⟨c, e⟩
  · obtain rfl := Option.some.inj e; rw [c, k5]; rfl
  have c5 := q_ne c
  obtain rfl := Option.some.inj e
  unfold stp
  rw [if_neg (by omega), if_neg (by omega), if_neg (by omega), if_neg (by omega), if_neg (by omega)]; rfl
theorem stpR {v x : Int32} (e : f_Mod_stepOf v = some x) : x.toInt = stp v.toInt := by
  have k1 : (100 : Int32).toInt = 100 := rfl
  have k2 : (108 : Int32).toInt = 108 := rfl
  have k3 : (111 : Int32).toInt = 111 := rfl
  have k4 : (114 : Int32).toInt = 114 := rfl
  have k5 : (117 : Int32).toInt = 117 := rfl
  unfold f_Mod_stepOf at e
  rcases io e with ⟨c, e⟩ | ⟨c, e⟩
  · obtain rfl := Option.some.inj e; rw [c, k5]; rfl
  have c1 := q_ne c
  rcases io e with ⟨c, e⟩ | ⟨c, e⟩
  · obtain rfl := Option.some.inj e; rw [c, k4]; rfl
  have c2 := q_ne c
  rcases io e with ⟨c, e⟩ | ⟨c, e⟩
  · obtain rfl := Option.some.inj e; rw [c, k1]; rfl
  have c3 := q_ne c
  rcases io e with ⟨c, e⟩ | ⟨c, e⟩
  · obtain rfl := Option.some.inj e; rw [c, k2]; rfl
  have c4 := q_ne c
  rcases io e with ⟨c, e⟩ | ⟨c, e⟩
  · obtain rfl := Option.some.inj e; rw [c, k3]; rfl
  have c5 := q_ne c
  obtain rfl := Option.some.inj e
  unfold stp
  rw [if_neg (by omega), if_neg (by omega), if_neg (by omega), if_neg (by omega), if_neg (by omega)]; rfl
theorem ln_rt : ln 10 = 9 ∧ ln 7 = 72 ∧ ln 171 = 9 ∧ ln 170 = 96 := by decide +kernel
theorem steps_i {A : Mem} {v1 v2 v4 : Int32} {v3 p K o : Nat} (hl : (A.1 1 1).toInt ≤ 80) (h1 : v1.toInt = (p : Int)) (p80 : p ≤ 100) (h2 : v2.toInt = (K : Int)) (h3 : v3 = 10 ∨ v3 = 7) (h4 : v4.toInt = (o : Int)) (ho : o + 9 ≤ ln v3) {x} (e : f_Signs_steps v1 v2 v3 v4 A = some x) : x.1.toInt = (rtn (cx A K) 9 p : Int) ∧ (∀ i, i < rtn (cx A K) 9 p → (x.2.1 v3 (o + i)).toInt = stp (cx A K (p + i)) ∧ stp (cx A K (p + i)) ≠ -1) ∧ (∀ kx i, ¬ (kx = v3 ∧ o ≤ i ∧ i < o + 9) → x.2.1 kx i = A.1 kx i) ∧ x.2.2 = A.2 := by
  have hln : ln v3 ≤ 72 := by
    have := ln_rt
    rcases h3 with rfl | rfl <;> omega
  have n12 : v3 ≠ 1 ∧ v3 ≠ 2 := by rcases h3 with rfl | rfl <;> decide
  unfold f_Signs_steps at e
  obtain ⟨_, e⟩ := io_n e
  obtain ⟨x9, e9, e⟩ := bo e
  obtain rfl := Option.some.inj e
  refine it_r (I := fun s : Int32 × Int32 × Mem => ∃ j k : Nat, s.1.toInt = (j : Int) ∧ s.2.1.toInt = (k : Int) ∧ k ≤ 9 ∧ (∀ i, i < j → (s.2.2.1 v3 (o + i)).toInt = stp (cx A K (p + i)) ∧ stp (cx A K (p + i)) ≠ -1) ∧ (j = k ∨ (j < k ∧ stp (cx A K (p + j)) = -1)) ∧ (∀ kx i, ¬ (kx = v3 ∧ o ≤ i ∧ i < o + 9) → s.2.2.1 kx i = A.1 kx i) ∧ s.2.2.2 = A.2) (Q := fun x : Int32 × Mem => x.1.toInt = (rtn (cx A K) 9 p : Int) ∧ (∀ i, i < rtn (cx A K) 9 p → (x.2.1 v3 (o + i)).toInt = stp (cx A K (p + i)) ∧ stp (cx A K (p + i)) ≠ -1) ∧ (∀ kx i, ¬ (kx = v3 ∧ o ≤ i ∧ i < o + 9) → x.2.1 kx i = A.1 kx i) ∧ x.2.2 = A.2) ?_ e9 ⟨0, 0, rfl, rfl, by omega, fun i hi => by omega, .inl rfl, fun _ _ _ => rfl, rfl⟩
  rintro ⟨a, b, N⟩ r ⟨j, k, ha, hb, k9, hv, hj, hf, hq⟩ e
  dsimp only at ha hb hv hf hq
  have z9 : (9 : Int32).toInt = 9 := rfl
  have jk : j ≤ k := by omega
  have fin : (j = 9 ∨ stp (cx A K (p + j)) = -1) → rtn (cx A K) 9 p = j := fun h => rtn_c (by omega) (fun i hi => (hv i hi).2) h
  unfold lb_Signs_steps_6 at e
  dsimp only at e
  rcases io e with ⟨c, e⟩ | ⟨c, e⟩
  · have := q_le c
    obtain rfl := Option.some.inj e
    have f := fin (by omega)
    refine ⟨by rw [f]; exact ha, fun i hi => hv i (by omega), hf, hq⟩
  have c1 := q_ng c
  rcases io e with ⟨c, e⟩ | ⟨c, e⟩
  · have cc := q_eq c
    have hjk : j = k := by omega
    subst hjk
    obtain ⟨x1, e1, e⟩ := bo e
    obtain ⟨x2, e2, e⟩ := bo e
    have hN : cx N K = cx A K := cx_c (hf 1 1 (by omega)) (fun i => hf 2 i (by omega)) K
    have hv1 : (v1 + b).toInt = ((p + j : Nat) : Int) := add_ti h1 hb (by omega) (by omega)
    have ha1 := at_i (K := K) hv1 h2 (by rw [hf 1 1 (by omega)]; exact hl) e1
    rw [hN] at ha1
    have hs := stpC e2
    rw [ha1] at hs
    have nb : (b + (1 : Int32)).toInt = ((j + 1 : Nat) : Int) := add_ti hb o1 (by omega) (by omega)
    rcases io e with ⟨c, e⟩ | ⟨c, e⟩
    · have := q_eq c
      have hm := om
      obtain rfl := Option.some.inj e
      exact ⟨j, j + 1, ha, nb, by omega, hv, .inr ⟨by omega, by omega⟩, hf, hq⟩
    have c2 := q_ne c
    have hm := om
    have z0 := o0
    rcases io e with ⟨c, e⟩ | ⟨c, e⟩
    · have := q_lt c; omega
    have h5 : (v4 + b).toInt = ((o + j : Nat) : Int) := add_ti h4 hb (by omega) (by omega)
    rcases io e with ⟨c, e⟩ | ⟨c, e⟩
    · have := q_le c
      rw [ofn_ti (by omega), h5] at this
      omega
    obtain ⟨_, e⟩ := io_n e
    obtain ⟨M3, e3, e⟩ := mo e
    obtain rfl := Option.some.inj e
    rw [q_nat h5] at e3
    refine ⟨j + 1, j + 1, add_ti ha o1 (by omega) (by omega), nb, by omega, fun i hi => ?_, .inl rfl, fun kx i h => ?_, ?_⟩
    · dsimp only
      rw [e3]
      rcases Nat.lt_or_ge i j with g | g
      · rw [si_ne (by omega)]; exact hv i g
      · have : i = j := by omega
        subst this
        rw [si_eq]
        exact ⟨hs, by omega⟩
    · dsimp only
      rw [e3, si_ne (by omega)]; exact hf kx i h
    · dsimp only
      rw [e3, si_2]; exact hq
  · have cc := q_ne c
    obtain rfl := Option.some.inj e
    have f := fin (by omega)
    exact ⟨by rw [f]; exact ha, fun i hi => hv i (by omega), hf, hq⟩
theorem here_s {t : Nat → Int} {N : Mem} (h : Rd t N) {p : Nat} (hp : (N.1 162 17).toInt = (p : Int)) {x y : Int32} (e : f_Mod_here N = some x) (e2 : f_Mod_stepOf x = some y) : y.toInt = stp (t p) := by
  have a := stpR e2
  rcases here_i h hp e with ⟨b, _⟩ | ⟨b, c⟩
  · rw [a, b]
  · have h1 := stp_b x.toInt
    have h2 := stp_b (t p)
    omega
theorem Rd_f {t : Nat → Int} {A N : Mem} (h : Rd t A) (f14 : N.2.2 162 14 = A.2.2 162 14) (f15 : N.1 162 15 = A.1 162 15) (f16 : N.1 162 16 = A.1 162 16) (f167 : ∀ i, N.1 167 i = A.1 167 i) (f172 : ∀ i, N.1 172 i = A.1 172 i) : Rd t N := by
  obtain ⟨b, h1, h2, h3, h4⟩ := h
  have fb : ∀ p, N.1 b p = A.1 b p := by
    intro p
    rcases h2 with rfl | rfl
    · exact f167 p
    · exact f172 p
  refine ⟨b, by rw [f14]; exact h1, h2, by rw [f15]; exact h3, fun p => ?_⟩
  rw [f15, f16, fb]; exact h4 p
def RW (t : Nat → Int) (p : Nat) (w : Int) : Prop := (rtn t 9 p = 0 ∧ w = (p : Int)) ∨ (rtn t 9 p = 9 ∧ stp (t (p + 9)) ≠ -1 ∧ w = ((p + 9 : Nat) : Int)) ∨ (0 < rtn t 9 p ∧ stp (t (p + rtn t 9 p)) = -1 ∧ w = -1)
theorem route_i {t : Nat → Int} {A : Mem} {v1 o p : Nat} {v2 : Int32} (hA : Rd t A) (hv : v1 = 171 ∨ v1 = 170) (h2 : v2.toInt = (o : Int)) (ho : o + 9 ≤ ln v1) (hp : (A.1 162 17).toInt = (p : Int)) (hw : (A.1 162 18).toInt = -1) (p80 : p ≤ 100) {x} (e : f_Mod_readRoute v1 v2 A = some x) : x.1.toInt = (rtn t 9 p : Int) ∧ (x.2.1 162 17).toInt = ((p + rtn t 9 p : Nat) : Int) ∧ (∀ i, i < rtn t 9 p → (x.2.1 v1 (o + i)).toInt = stp (t (p + i)) ∧ stp (t (p + i)) ≠ -1) ∧ RW t p (x.2.1 162 18).toInt ∧ (∀ kx i, ¬ (kx = v1 ∧ o ≤ i ∧ i < o + 9) → ¬ (kx = 162 ∧ (i = 17 ∨ i = 18)) → x.2.1 kx i = A.1 kx i) ∧ x.2.2 = A.2 := by
  have hln : ln v1 ≤ 96 := by
    have := ln_rt
    rcases hv with rfl | rfl <;> omega
  have nv : v1 ≠ 162 ∧ v1 ≠ 167 ∧ v1 ≠ 172 := by rcases hv with rfl | rfl <;> decide
  unfold f_Mod_readRoute at e
  obtain ⟨_, e⟩ := io_n e
  obtain ⟨x12, e12, e⟩ := bo e
  have key : ∃ j : Nat, j ≤ 9 ∧ x12.1.toInt = (j : Int) ∧ (x12.2.1 162 17).toInt = ((p + j : Nat) : Int) ∧ (∀ i, i < j → (x12.2.1 v1 (o + i)).toInt = stp (t (p + i)) ∧ stp (t (p + i)) ≠ -1) ∧ (((x12.2.1 162 18).toInt = -1 ∧ stp (t (p + j)) = -1) ∨ (j = 9 ∧ stp (t (p + 9)) ≠ -1 ∧ (x12.2.1 162 18).toInt = ((p + 9 : Nat) : Int))) ∧ (∀ kx i, ¬ (kx = v1 ∧ o ≤ i ∧ i < o + 9) → ¬ (kx = 162 ∧ (i = 17 ∨ i = 18)) → x12.2.1 kx i = A.1 kx i) ∧ x12.2.2 = A.2 := by
    refine it_r (I := fun s : Int32 × Mem => ∃ j : Nat, j ≤ 9 ∧ s.1.toInt = (j : Int) ∧ (s.2.1 162 17).toInt = ((p + j : Nat) : Int) ∧ (∀ i, i < j → (s.2.1 v1 (o + i)).toInt = stp (t (p + i)) ∧ stp (t (p + i)) ≠ -1) ∧ ((s.2.1 162 18).toInt = -1 ∨ (j = 9 ∧ stp (t (p + 9)) ≠ -1 ∧ (s.2.1 162 18).toInt = ((p + 9 : Nat) : Int))) ∧ (∀ kx i, ¬ (kx = v1 ∧ o ≤ i ∧ i < o + 9) → ¬ (kx = 162 ∧ (i = 17 ∨ i = 18)) → s.2.1 kx i = A.1 kx i) ∧ s.2.2 = A.2) (Q := fun x12 : Int32 × Mem => ∃ j : Nat, j ≤ 9 ∧ x12.1.toInt = (j : Int) ∧ (x12.2.1 162 17).toInt = ((p + j : Nat) : Int) ∧ (∀ i, i < j → (x12.2.1 v1 (o + i)).toInt = stp (t (p + i)) ∧ stp (t (p + i)) ≠ -1) ∧ (((x12.2.1 162 18).toInt = -1 ∧ stp (t (p + j)) = -1) ∨ (j = 9 ∧ stp (t (p + 9)) ≠ -1 ∧ (x12.2.1 162 18).toInt = ((p + 9 : Nat) : Int))) ∧ (∀ kx i, ¬ (kx = v1 ∧ o ≤ i ∧ i < o + 9) → ¬ (kx = 162 ∧ (i = 17 ∨ i = 18)) → x12.2.1 kx i = A.1 kx i) ∧ x12.2.2 = A.2) ?_ e12 ⟨0, by omega, rfl, by rw [hp]; omega, fun i hi => by omega, .inl hw, fun _ _ _ _ => rfl, rfl⟩
    rintro ⟨a, N⟩ r ⟨j, j9, ha, hat, hc, hww, hf, hq⟩ e
    dsimp only at ha hat hc hww hf hq
    unfold lb_Mod_readRoute_2 at e
    dsimp only at e
    obtain ⟨x1, e1, e⟩ := bo e
    rcases fine_i e1 with ⟨b1, b2⟩ | ⟨b1, b2⟩
    · rw [b1, if_pos rfl] at e
      obtain rfl := Option.some.inj e
      exact ⟨j, j9, ha, hat, hc, .inr (hww.resolve_left b2), hf, hq⟩
    rw [b1, if_neg (by decide)] at e
    obtain ⟨x2, e2, e⟩ := bo e
    obtain ⟨x3, e3, e⟩ := bo e
    have hN : Rd t N := Rd_f hA (by rw [hq]) (hf 162 15 (by omega) (by omega)) (hf 162 16 (by omega) (by omega)) (fun i => hf 167 i (by omega) (by omega)) (fun i => hf 172 i (by omega) (by omega))
    have hs := here_s hN hat e2 e3
    have hm := om
    rcases io e with ⟨c, e⟩ | ⟨c, e⟩
    · have := q_eq c
      obtain rfl := Option.some.inj e
      exact ⟨j, j9, ha, hat, hc, .inl ⟨b2, by omega⟩, hf, hq⟩
    have c2 := q_ne c
    have z9 : (9 : Int32).toInt = 9 := rfl
    have b80 : p + j < 80 := by
      have h1 := (Rd_rng hN (p + j)).2.2
      have h2 := stp_b (t (p + j))
      exact h1 (by omega)
    rcases io e with ⟨c, e⟩ | ⟨c, e⟩
    · have c3 := q_eq c
      obtain ⟨x8, e8, e⟩ := bo e
      obtain rfl := Option.some.inj e
      have j9' : j = 9 := by omega
      subst j9'
      rcases fault_i e8 with ⟨g, _⟩ | ⟨_, g⟩
      · exact absurd b2 g
      · refine ⟨9, by omega, ha, ?_, fun i hi => ?_, .inr ⟨rfl, by omega, ?_⟩, fun kx i h1 h2 => ?_, ?_⟩
        · dsimp only; rw [g, si_ne (by omega)]; exact hat
        · dsimp only; rw [g, si_ne (by omega)]; exact hc i hi
        · dsimp only; rw [g, si_eq]; exact hat
        · dsimp only; rw [g, si_ne (by omega)]; exact hf kx i h1 h2
        · dsimp only; rw [g, si_2]; exact hq
    have c3 := q_ne c
    obtain ⟨x4, e4, e⟩ := bo e
    obtain ⟨x5, e5, e⟩ := bo e
    have hs5 := here_s hN hat e4 e5
    obtain ⟨_, e⟩ := io_n e
    obtain ⟨M6, m6, e⟩ := mo e
    obtain ⟨M7, m7, e⟩ := mo e
    obtain rfl := Option.some.inj e
    have h5 : (v2 + a).toInt = ((o + j : Nat) : Int) := add_ti h2 ha (by omega) (by omega)
    rw [q_nat h5] at m6
    refine ⟨j + 1, by omega, add_ti ha o1 (by omega) (by omega), ?_, fun i hi => ?_, .inl ?_, fun kx i h1 h2 => ?_, ?_⟩
    · dsimp only
      rw [m7, si_eq, m6, si_ne (by omega)]; exact add_ti hat o1 (by omega) (by omega)
    · dsimp only
      rw [m7, si_ne (by omega), m6]
      rcases Nat.lt_or_ge i j with g | g
      · rw [si_ne (by omega)]; exact hc i g
      · have : i = j := by omega
        subst this
        rw [si_eq]
        exact ⟨hs5, by omega⟩
    · dsimp only
      rw [m7, si_ne (by omega), m6, si_ne (by omega)]; exact b2
    · dsimp only
      rw [m7, si_ne (by omega), m6, si_ne (by omega)]; exact hf kx i h1 h2
    · dsimp only
      rw [m7, si_2, m6, si_2]; exact hq
  obtain ⟨j, j9, ha, hat, hc, hww, hf, hq⟩ := key
  have rn : rtn t 9 p = j := rtn_c j9 (fun i hi => (hc i hi).2) (by
    rcases hww with ⟨_, h⟩ | ⟨h, _⟩
    · exact .inr h
    · exact .inl h)
  unfold RW
  rw [rn]
  unfold j_Mod_readRoute_65 at e
  have z0 := o0
  rcases io e with ⟨c, e⟩ | ⟨c, e⟩
  · have c1 := q_eq c
    obtain ⟨x13, e13, e⟩ := bo e
    obtain rfl := Option.some.inj e
    have j0 : j = 0 := by omega
    subst j0
    have w0 : (x12.2.1 162 18).toInt = -1 := by
      rcases hww with ⟨h, _⟩ | ⟨h, _⟩
      · exact h
      · omega
    rcases fault_i e13 with ⟨g, _⟩ | ⟨_, g⟩
    · exact absurd w0 g
    · refine ⟨ha, ?_, fun i hi => by omega, .inl ⟨rfl, ?_⟩, fun kx i h1 h2 => ?_, ?_⟩
      · dsimp only; rw [g, si_ne (by omega)]; exact hat
      · dsimp only; rw [g, si_eq, hat]; omega
      · dsimp only; rw [g, si_ne (by omega)]; exact hf kx i h1 h2
      · dsimp only; rw [g, si_2]; exact hq
  · have c1 := q_ne c
    obtain rfl := Option.some.inj e
    refine ⟨ha, hat, hc, .inr ?_, hf, hq⟩
    rcases hww with ⟨h1, h2⟩ | ⟨h1, h2, h3⟩
    · exact .inr ⟨by omega, h2, h1⟩
    · exact .inl ⟨h1, h2, h3⟩
