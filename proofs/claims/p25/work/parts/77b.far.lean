/-! the class's nets and the reference's steps; both measures are one -/
theorem near_go {X R : Mem} {v0 a n l c d : Nat} (jR : J R) (zv : ZV R (R.1 a) n) (zx : ZX v0 R (onA R) (fun c d => plk R a c d) X) (l2 : l < 2) (c36 : c < 36) : bl (X.2.1 (v0 + 2) (l * 36 + c)) d = true ↔ (onN R l c ∧ d < 36 ∧ ∃ s : Int, 0 ≤ s ∧ s ≤ 3 ∧ goR R a ((36 * l + c : Nat) : Int) s ((36 * l + d : Nat) : Int)) := by
  have hw := aw jR
  have hh := ah jR
  have wh := awh jR
  have pm : ((36 * l + c : Nat) : Int) % 36 = (c : Int) := by omega
  have pd : ((36 * l + c : Nat) : Int) / 36 = (l : Int) := by omega
  rw [zx.2 l c l2 c36 d]
  constructor
  · rintro (⟨s, s4, ⟨o1, o2, o3⟩, o4⟩ | ⟨hl, s, s4, hb, hp⟩)
    · have onl := (onA_i jR).mp o1
      have on2 := (onA_i jR).mp o3
      rw [o4] at on2
      rw [show (((d : Int)).toNat : Int) = (d : Int) by omega] at on2
      refine ⟨onl, by have := on2.2.1; omega, s, by omega, by omega, .inr ⟨by omega, .inr (.inl ⟨by rw [pm]; exact o2, by rw [pm, pd, o4]; exact on2, by rw [pm, pd, o4]; omega⟩)⟩⟩
    · subst hl
      have onl := (plk_on (KP_v zv) hp).1
      have ond := (plk_on (KP_v zv) hp).2
      have b1 : bes (xw R) (xh R) c s ≠ -1 := by
        intro h
        unfold bb at hb
        rw [if_pos h] at hb
        omega
      have b2 : bb (xw R) (xh R) c s = bes (xw R) (xh R) (bes (xw R) (xh R) c s) s := by unfold bb; rw [if_neg b1]
      have no := mid_no jR zv onl s4 (by omega) (by rw [hb]; exact hp)
      refine ⟨onl, by have := ond.2.1; omega, s, by omega, by omega, .inr ⟨by omega, .inr (.inr (.inr (.inl ⟨by rw [pm]; exact b1, by rw [pm, pd]; exact no, by rw [pd]; omega, ?_, ?_, ?_⟩)))⟩⟩
      · rw [pm, ← b2]; omega
      · rw [pm, ← b2, hb]; exact hp
      · rw [pm, ← b2, hb]; omega
  · rintro ⟨onl, d36, s, s0, s3, g⟩
    rcases g with ⟨h, _⟩ | ⟨_, g⟩
    · omega
    rw [pm, pd] at g
    obtain ⟨s', hs'⟩ : ∃ s' : Nat, s = (s' : Int) := ⟨s.toNat, by omega⟩
    subst hs'
    rcases g with ⟨g1, g2⟩ | ⟨g1, g2, g3⟩ | ⟨g1, g2, g3, g4⟩ | ⟨g1, g2, g3, g4, g5, g6⟩ | ⟨g1, g2, g3, g4, g5⟩
    · omega
    · have e : bes (xw R) (xh R) c s' = (d : Int) := by omega
      refine .inl ⟨s', by omega, ⟨(onA_i jR).mpr onl, g1, (onA_i jR).mpr ?_⟩, e⟩
      rw [e]
      rw [e] at g2
      rw [show (((d : Int)).toNat : Int) = (d : Int) by omega]
      exact g2
    · omega
    · have l1 : l = 1 := by omega
      have b2 : bb (xw R) (xh R) c s' = bes (xw R) (xh R) (bes (xw R) (xh R) c s') s' := by unfold bb; rw [if_neg g1]
      rw [← b2] at g4 g5 g6
      have e : bb (xw R) (xh R) c s' = (d : Int) := by omega
      rw [e] at g5
      exact .inr ⟨l1, s', by omega, e, g5⟩
    · omega
theorem onP_lc {R : Mem} {l c : Nat} (l2 : l < 2) (c36 : c < 36) : onP R ((36 * l + c : Nat) : Int) ↔ onN R l c := by
  unfold onP
  rw [show ((36 * l + c : Nat) : Int) % 36 = (c : Int) by omega, show ((36 * l + c : Nat) : Int) / 36 = (l : Int) by omega]
  constructor
  · intro h; exact h.2.2
  · intro h; exact ⟨by omega, by omega, h⟩
/-- one stays on one's level -/
theorem go_lev {R : Mem} {a : Nat} {p s m : Int} (jR : J R) (hp : 0 ≤ p ∧ p ≤ 71) (s0 : 0 ≤ s ∧ s ≤ 3) (h : goR R a p s m) (hm : m ≠ -1) : ∃ d : Nat, d < 36 ∧ m = 36 * (p / 36) + d := by
  have hw := aw jR
  have hh := ah jR
  have wh := awh jR
  rcases h with ⟨h, _⟩ | ⟨_, g⟩
  · omega
  have inn : ∀ q : Int, bes (xw R) (xh R) q s ≠ -1 → 0 ≤ bes (xw R) (xh R) q s ∧ bes (xw R) (xh R) q s < 36 := by
    intro q hq
    unfold bes at hq ⊢
    by_cases c : 0 ≤ q % xw R + (if s = 1 then 1 else if s = 3 then -1 else 0) ∧ q % xw R + (if s = 1 then 1 else if s = 3 then -1 else 0) ≤ xw R - 1 ∧ 0 ≤ q / xw R + (if s = 2 then 1 else if s = 0 then -1 else 0) ∧ q / xw R + (if s = 2 then 1 else if s = 0 then -1 else 0) ≤ xh R - 1
    · rw [if_pos c]
      generalize q % xw R + (if s = 1 then 1 else if s = 3 then -1 else 0) = u at c ⊢
      generalize q / xw R + (if s = 2 then 1 else if s = 0 then -1 else 0) = v at c ⊢
      have v5 : v ≤ xh R - 1 := c.2.2.2
      have mul : xw R * v ≤ xw R * (xh R - 1) := Int.mul_le_mul_of_nonneg_left v5 (by omega)
      have mul0 : 0 ≤ xw R * v := Int.mul_nonneg (by omega) (by omega)
      rw [Int.mul_sub, Int.mul_one] at mul
      constructor <;> omega
    · rw [if_neg c] at hq; exact absurd rfl hq
  rcases g with ⟨g1, g2⟩ | ⟨g1, g2, g3⟩ | ⟨g1, g2, g3, g4⟩ | ⟨g1, g2, g3, g4, g5, g6⟩ | ⟨g1, g2, g3, g4, g5⟩
  · exact absurd g2 hm
  · have := inn _ g1
    exact ⟨(bes (xw R) (xh R) (p % 36) s).toNat, by omega, by omega⟩
  · exact absurd g4 hm
  · have := inn _ g4
    exact ⟨(bes (xw R) (xh R) (bes (xw R) (xh R) (p % 36) s) s).toNat, by omega, by omega⟩
  · exact absurd g5 hm
/-- both measures are one -/
theorem far_eq {X R r : Mem} {v0 n l f : Nat} {D : Nat → Int} (jR : J R) (jr : J r) (zv : ZV R (R.1 163) n) (zx : ZX v0 R (onA R) (fun c d => plk R 163 c d) X) (l2 : l < 2) (f36 : f < 36) (onf : onN R l f) (ms : MSR (fun c d => bl (X.2.1 (v0 + 2) (l * 36 + c)) d = true) f D) (ff : FF R ((36 * l + f : Nat) : Int) r) : ∀ c, c < 36 → D c = (r.1 177 (36 * l + c)).toInt := by
  obtain ⟨m1, m2, m3, m4⟩ := ms
  have kp := KP_v zv
  have onp : onP R ((36 * l + f : Nat) : Int) := (onP_lc l2 f36).mpr onf
  obtain ⟨⟨_, _, _, q0, q1⟩, cl⟩ := ff
  have q0 : (r.1 177 (36 * l + f)).toInt = 0 := q0
  have up : ∀ (m : Nat) (c : Nat), c < 36 → D c < 1000000 → (D c).toNat ≤ m → (r.1 177 (36 * l + c)).toInt ≤ D c := by
    intro m
    induction m with
    | zero =>
      intro c hc hd hm
      rcases m3 c hc hd with h | ⟨c', hc', h1, h2⟩
      · subst h; rw [q0, m1]; omega
      · have := (m2 c' hc').1; omega
    | succ m ih =>
      intro c hc hd hm
      rcases m3 c hc hd with h | ⟨c', hc', h1, h2⟩
      · subst h; rw [q0, m1]; omega
      · have k := (m2 c' hc').1
        have i := ih c' hc' (by omega) (by omega)
        obtain ⟨_, _, s, s0, s3, g⟩ := (near_go jR zv zx l2 hc').mp h2
        have := cl (36 * l + c') (by omega) (by omega) s s0 s3 _ g (by omega)
        rw [show (((36 * l + c : Nat) : Int)).toNat = 36 * l + c by omega, show (((36 * l + c' : Nat) : Int)).toNat = 36 * l + c' by omega] at this
        omega
  have ffR : FF R ((36 * l + f : Nat) : Int) r := ⟨⟨‹_›, ‹_›, ‹_›, q0, q1⟩, cl⟩
  have dn : ∀ (m : Nat) (k : Nat), k < 72 → (r.1 177 k).toInt < 1000000 → (r.1 177 k).toInt.toNat ≤ m → ∃ c, c < 36 ∧ k = 36 * l + c ∧ D c ≤ (r.1 177 k).toInt := by
    intro m
    induction m with
    | zero =>
      intro k hk hd hm
      have b := (Jr_177 jr k).1
      rcases q1 k hk hd with h | ⟨q, hq, s, s0, s3, g, h⟩
      · exact ⟨f, f36, by omega, by rw [m1]; omega⟩
      · have := (Jr_177 jr q).1; omega
    | succ m ih =>
      intro k hk hd hm
      have b := (Jr_177 jr k).1
      rcases q1 k hk hd with h | ⟨q, hq, s, s0, s3, g, h⟩
      · exact ⟨f, f36, by omega, by rw [m1]; omega⟩
      · have bq := (Jr_177 jr q).1
        obtain ⟨c', hc', e', hD⟩ := ih q hq (by omega) (by omega)
        subst e'
        have onq := far_on jR kp onp ffR ((r.1 177 (36 * l + c')).toInt.toNat) (36 * l + c') hq (by omega) (Nat.le_refl _)
        obtain ⟨d, d36, hd'⟩ := go_lev jR (by omega) ⟨s0, s3⟩ g (by omega)
        have e2 : k = 36 * l + d := by omega
        subst e2
        have := m4 c' hc' (by omega) d ((near_go jR zv zx l2 hc').mpr ⟨(onP_lc l2 hc').mp onq, d36, s, s0, s3, g⟩)
        exact ⟨d, d36, rfl, by omega⟩
  intro c hc
  have b := Jr_177 jr (36 * l + c)
  rcases (m2 c hc).2 with h | h
  · have u := up (D c).toNat c hc (by omega) (Nat.le_refl _)
    obtain ⟨c', hc', e', hD⟩ := dn ((r.1 177 (36 * l + c)).toInt.toNat) (36 * l + c) (by omega) (by omega) (Nat.le_refl _)
    have : c' = c := by omega
    subst this
    omega
  · by_cases g : (r.1 177 (36 * l + c)).toInt < 1000000
    · obtain ⟨c', hc', e', hD⟩ := dn ((r.1 177 (36 * l + c)).toInt.toNat) (36 * l + c) (by omega) g (Nat.le_refl _)
      have : c' = c := by omega
      subst this
      omega
    · omega
/-- the class measures, the reference finds: from the same place the same numbers -/
theorem meas_2 {X R x r : Mem} {n l f k : Nat} {v1 v2 p : Int32} (jR : J R) (zv : ZV R (R.1 163) n) (zw : ZW X R 163) (h1 : v1.toInt = (l : Int)) (l2 : l < 2) (h2 : v2.toInt = (f : Int)) (f36 : f < 36) (onf : onN R l f) (hp : p.toInt = ((36 * l + f : Nat) : Int)) (ex : f_Nets_measure 32 v1 v2 k X = some x) (er : f_Mod_findFar p R = some r) : (∀ c, c < 36 → x.1 k c = r.1 177 (36 * l + c)) ∧ (∀ kx i, kx ≠ k → x.1 kx i = X.1 kx i) ∧ x.2 = X.2 ∧ J r ∧ (∀ kx i, kx ≠ 177 → r.1 kx i = R.1 kx i) ∧ r.2 = R.2 := by
  have wh := awh jR
  obtain ⟨ms, fx, q⟩ := meas_i (.inl rfl) h1 l2 h2 f36 (fun c d hc h => ((near_go jR zv zw.2 l2 hc).mp h).2.1) ex
  have ff := some_of (fs_findFar jR p (by omega)) er
  rw [hp] at ff
  have jr : J r := ff.1.1
  have E := far_eq jR jr zv zw.2 l2 f36 onf ms ff
  refine ⟨fun c hc => Int32.toInt_inj.mp (E c hc), fx, q, jr, fun kx i h => ff.1.2.1 kx i h, ff.1.2.2.1⟩
