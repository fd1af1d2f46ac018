section
/-! planks: the reference relaxes -/
def EPk (R : Mem) (v u ds da : Nat) : Prop := ∃ c d : Nat, c < 36 ∧ d < 36 ∧ v = 36 * 1 + c ∧ u = 36 * 1 + d ∧ onN R 1 c ∧ onN R 1 d ∧ da = 1 ∧ ((ds = 0 ∧ ∃ s : Int, 0 ≤ s ∧ s ≤ 3 ∧ goR R 163 ((36 * 1 + c : Nat) : Int) s ((36 * 1 + d : Nat) : Int)) ∨ (ds = 1 ∧ ∃ s : Int, 0 ≤ s ∧ s ≤ 3 ∧ bb (xw R) (xh R) c s = (d : Int) ∧ ¬ onN R 1 (bes (xw R) (xh R) c s)))
theorem EPk_ok {R : Mem} : Eok (EPk R) := by
  rintro v u ds da ⟨c, d, c36, d36, rfl, rfl, _, _, rfl, ⟨rfl, _⟩ | ⟨rfl, _⟩⟩
  · omega
  · omega
theorem EPk_on {R : Mem} : ∀ v u ds da, EPk R v u ds da → onP R (u : Int) := by
  rintro v u ds da ⟨c, d, c36, d36, rfl, rfl, _, on, _⟩
  exact (onP_lc (l := 1) (by omega) d36).mpr on
theorem bes_rng {R : Mem} (jR : J R) {c s : Int} : -1 ≤ bes (xw R) (xh R) c s ∧ bes (xw R) (xh R) c s ≤ 35 ∧ (bes (xw R) (xh R) c s ≠ -1 → 0 ≤ bes (xw R) (xh R) c s ∧ bes (xw R) (xh R) c s < xw R * xh R) := by
  have hw := aw jR
  have hh := ah jR
  have wh := awh jR
  unfold bes
  by_cases q : 0 ≤ c % xw R + (if s = 1 then 1 else if s = 3 then -1 else 0) ∧ c % xw R + (if s = 1 then 1 else if s = 3 then -1 else 0) ≤ xw R - 1 ∧ 0 ≤ c / xw R + (if s = 2 then 1 else if s = 0 then -1 else 0) ∧ c / xw R + (if s = 2 then 1 else if s = 0 then -1 else 0) ≤ xh R - 1
  · rw [if_pos q]
    generalize c % xw R + (if s = 1 then 1 else if s = 3 then -1 else 0) = u at q ⊢
    generalize c / xw R + (if s = 2 then 1 else if s = 0 then -1 else 0) = v at q ⊢
    have v5 : v ≤ xh R - 1 := q.2.2.2
    have mul : xw R * v ≤ xw R * (xh R - 1) := Int.mul_le_mul_of_nonneg_left v5 (by omega)
    have mul0 : 0 ≤ xw R * v := Int.mul_nonneg (by omega) (by omega)
    rw [Int.mul_sub, Int.mul_one] at mul
    refine ⟨by omega, by omega, fun _ => ⟨by omega, by omega⟩⟩
  · rw [if_neg q]
    exact ⟨by omega, by omega, fun h => absurd rfl h⟩
/-- a new plank may lie there -/
theorem canB_r {R : Mem} {c d s : Nat} {v w x : Int32} (jR : J R) (hv : v.toInt = (c : Int)) (hw : w.toInt = (d : Int)) (on : onN R 1 c) (s4 : s < 4) (hb : bb (xw R) (xh R) c s = (d : Int)) (e : f_Mod_canBridge v w R = some x) : (x = 0 ∨ x ≠ 0) ∧ (x ≠ 0 ↔ onN R 1 d ∧ ¬ onN R 1 (bes (xw R) (xh R) c s)) := by
  have hW := aw jR
  have hH := ah jR
  have bne : bb (xw R) (xh R) c s ≠ -1 := by omega
  have b1 : bes (xw R) (xh R) c s ≠ -1 := by
    intro h
    unfold bb at hb
    rw [if_pos h] at hb
    omega
  have b2 : bb (xw R) (xh R) c s = bes (xw R) (xh R) (bes (xw R) (xh R) c s) s := by unfold bb; rw [if_neg b1]
  have rd := (bes_rng jR (c := bes (xw R) (xh R) c s) (s := s)).2.2 (by rw [← b2]; exact bne)
  rw [← b2, hb] at rd
  have rm := (bes_rng jR (c := (c : Int)) (s := (s : Int))).2.2 b1
  have u := bb_i hW hH on.1 on.2.1 (s := s) (by omega) bne
  rw [hb] at u
  refine ⟨Classical.em _, ?_⟩
  unfold f_Mod_canBridge at e
  obtain ⟨x1, e1, e⟩ := bo e
  have h1 := betweenR jR (by omega) (by rw [hv]; exact on.2.1) (by omega) (by omega) e1
  rw [hv, hw, u.1] at h1
  have ym := om
  rw [if_neg (fun h => by have := q_eq h; omega)] at e
  obtain ⟨x2, e2, e⟩ := bo e
  have h2 := some_of (fs_isOf jR 1 v) e2
  rw [o1, hv] at h2
  rcases h2 with ⟨a, _⟩ | ⟨_, n⟩
  rotate_left
  · exact absurd on n
  rw [a, if_neg (by decide)] at e
  obtain ⟨x3, e3, e⟩ := bo e
  have h3 := some_of (fs_isOf jR 1 w) e3
  rw [o1, hw] at h3
  rcases h3 with ⟨a, on3⟩ | ⟨a, n⟩
  rotate_left
  · rw [a, if_pos rfl] at e
    obtain rfl := Option.some.inj e
    exact ⟨fun h => absurd rfl h, fun h => absurd h.1 n⟩
  rw [a, if_neg (by decide)] at e
  obtain ⟨x4, e4, e⟩ := bo e
  have h4 := some_of (fs_isOf jR 1 x1) e4
  rw [o1, h1] at h4
  rcases h4 with ⟨a, on4⟩ | ⟨a, n⟩
  · rw [a, if_neg (by decide)] at e
    obtain rfl := Option.some.inj e
    exact ⟨fun h => absurd rfl h, fun h => absurd on4 h.2⟩
  · rw [a, if_pos rfl] at e
    obtain rfl := Option.some.inj e
    exact ⟨fun _ => ⟨on3, n⟩, fun _ => by decide⟩
theorem plkS_r {R T : Mem} {f c : Nat} {v2 v4 more : Int32} {y : Int32 × Mem} (jR : J R) (kp : KP R 163 0) (hf : onP R (f : Int)) (h : RIw (EPk R) f R T) (hv4 : v4.toInt = (c : Int)) (c36 : c < 36) (hv : Vk 180 T (36 * 1 + c) < 1000000) (hm : more = 0 ∨ more = 1) (e : iter (lb_Mod_planks_102 v2 v4) FU (more, (0 : Int32), T) = some y) : RIw (EPk R) f R y.2 ∧ (y.1 = 0 ∨ y.1 = 1) ∧ (y.1 = 0 → y.2 = T ∧ more = 0 ∧ ∀ u ds da, EPk R (36 * 1 + c) u ds da → Vk 180 T u ≤ Vk 180 T (36 * 1 + c) + cw 1000 ds da) := by
  have k4 : (4 : Int32).toInt = 4 := rfl
  have wh := awh jR
  refine it_r (I := fun s : Int32 × Int32 × Mem => ∃ q : Nat, q ≤ 4 ∧ s.2.1.toInt = (q : Int) ∧ RIw (EPk R) f R s.2.2 ∧ (s.1 = 0 ∨ s.1 = 1) ∧ Vk 180 s.2.2 (36 * 1 + c) < 1000000 ∧ (s.1 = 0 → s.2.2 = T ∧ more = 0 ∧ ∀ (t : Int) (d : Nat), 0 ≤ t → t < (q : Int) → d < 36 → (goR R 163 ((36 * 1 + c : Nat) : Int) t ((36 * 1 + d : Nat) : Int) → Vk 180 T (36 * 1 + d) ≤ Vk 180 T (36 * 1 + c) + cw 1000 0 1) ∧ (bb (xw R) (xh R) c t = (d : Int) → onN R 1 d → ¬ onN R 1 (bes (xw R) (xh R) c t) → Vk 180 T (36 * 1 + d) ≤ Vk 180 T (36 * 1 + c) + cw 1000 1 1))) (Q := fun y : Int32 × Mem => RIw (EPk R) f R y.2 ∧ (y.1 = 0 ∨ y.1 = 1) ∧ (y.1 = 0 → y.2 = T ∧ more = 0 ∧ ∀ u ds da, EPk R (36 * 1 + c) u ds da → Vk 180 T u ≤ Vk 180 T (36 * 1 + c) + cw 1000 ds da)) ?_ e ⟨0, by omega, rfl, h, hm, hv, fun h => ⟨rfl, h, fun t d a b => by omega⟩⟩
  rintro ⟨mo', i, S⟩ r ⟨q, q4, hq, hS, hmo, hvS, hz⟩ e
  dsimp only at hq hS hmo hvS hz
  unfold lb_Mod_planks_102 at e
  dsimp only at e
  rcases io e with ⟨g, e⟩ | ⟨g, e⟩
  · have := q_le g
    obtain rfl := Option.some.inj e
    refine ⟨hS, hmo, fun h => ?_⟩
    obtain ⟨a, b, cc⟩ := hz h
    refine ⟨a, b, ?_⟩
    rintro u ds da ⟨c', d, c36', d36, hc, rfl, on1, on2, rfl, ⟨rfl, s, s0, s3, hg⟩ | ⟨rfl, s, s0, s3, hb, hn⟩⟩
    · have : c' = c := by omega
      subst this
      exact (cc s d s0 (by omega) d36).1 hg
    · have : c' = c := by omega
      subst this
      exact (cc s d s0 (by omega) d36).2 hb on2 hn
  have g1 := q_ng g
  have i1 : (i + (1 : Int32)).toInt = ((q + 1 : Nat) : Int) := add_ti hq o1 (by omega) (by omega)
  obtain ⟨x11, e11, e⟩ := bo e
  obtain ⟨x12, e12, e⟩ := bo e
  obtain ⟨x13, e13, e⟩ := bo e
  obtain ⟨_, e⟩ := io_n e
  obtain ⟨x14, e14, e⟩ := bo e
  obtain ⟨x15, e15, e⟩ := bo e
  have p11 := place_c (l := 1) (c := c) rfl hv4 (by omega) c36 e11
  have p13 := place_c (l := 1) (c := c) rfl hv4 (by omega) c36 e13
  have jS := hS.1
  have onv : onP R ((36 * 1 + c : Nat) : Int) := by
    obtain ⟨n, s, a, w, _⟩ := hS.2.2.2 (36 * 1 + c) (by omega) hvS
    exact wk_on EPk_on hf w
  have onc : onN R 1 c := (onP_lc (l := 1) (by omega) c36).mp onv
  obtain ⟨gg, gl, gh⟩ := some_of (fs_go jS 163 (.inl rfl) x11 i (by omega)) e12
  rw [p11, hq, goR_c (RIw_map hS) (fun i => hS.2.1 163 i (by omega))] at gg
  rw [q_nat p13] at e14
  have bv := Jr_180 jS (36 * 1 + c)
  -- the step
  have A : RIw (EPk R) f R x14.2 ∧ (x14.1 = 0 ∨ x14.1 = 1) ∧ Vk 180 x14.2 (36 * 1 + c) < 1000000 ∧ (x14.1 = 0 → x14.2 = S ∧ ∀ d : Nat, d < 36 → goR R 163 ((36 * 1 + c : Nat) : Int) q ((36 * 1 + d : Nat) : Int) → Vk 180 S (36 * 1 + d) ≤ Vk 180 S (36 * 1 + c) + cw 1000 0 1) := by
    by_cases gm : x12.toInt = -1
    · rcases lowB e14 with ⟨_, rfl⟩ | ⟨g, _⟩
      · exact ⟨hS, .inl rfl, hvS, fun _ => ⟨rfl, fun d _ hg => by have := goR_fun gg hg; omega⟩⟩
      · exact absurd gm g
    · obtain ⟨d, d36, hd⟩ := go_lev jR (by omega) (s := (q : Int)) ⟨by omega, by omega⟩ gg gm
      have hu : x12.toInt = ((36 * 1 + d : Nat) : Int) := by omega
      rw [hu] at gg
      have onu := (go_sym jR kp onv (s := (q : Int)) ⟨by omega, by omega⟩ gg (by omega)).1
      have edge : EPk R (36 * 1 + c) (36 * 1 + d) 0 1 := ⟨c, d, c36, d36, rfl, rfl, onc, (onP_lc (l := 1) (by omega) d36).mp onu, rfl, .inl ⟨rfl, q, by omega, by omega, gg⟩⟩
      have hval : ((S.1 180 (36 * 1 + c)) + (1 : Int32)).toInt = Vk 180 S (36 * 1 + c) + cw 1000 0 1 := by
        rw [cw_z, add_ti rfl o1 (by omega) (by omega)]; rfl
      obtain ⟨r1, r2, r3, r4, r5⟩ := relax_r hS (by omega) hvS edge hu hval e14
      refine ⟨r1, r2, by have := r5 (36 * 1 + c); omega, fun h => ?_⟩
      have eS := r4 h
      refine ⟨eS, fun d' _ hg => ?_⟩
      have := goR_fun gg hg
      have : d' = d := by omega
      subst this
      rw [eS, hval] at r3
      exact r3
  obtain ⟨a1, a2, a3, a4⟩ := A
  obtain ⟨oa, ob⟩ := or01w hmo a2
  have mE := RIw_map a1
  have w1 : xw x14.2 = xw R := congrArg Int32.toInt mE.1
  have w2 : xh x14.2 = xh R := congrArg Int32.toInt mE.2.1
  have h15 := some_of (fs_beside a1.1 v4 i (by omega)) e15
  rw [w1, w2, hv4, hq] at h15
  have j14 := a1.1
  have b14 := Jr_180 j14 (36 * 1 + c)
  -- behind the step: a plank
  have body : ∀ w0 : Int32, (w0.toInt = bb (xw R) (xh R) c q) → j_Mod_planks_172_102 v2 (mo' ||| x14.1) v4 i w0 x14.2 = some r → Sum.elim (fun s : Int32 × Int32 × Mem => ∃ q : Nat, q ≤ 4 ∧ s.2.1.toInt = (q : Int) ∧ RIw (EPk R) f R s.2.2 ∧ (s.1 = 0 ∨ s.1 = 1) ∧ Vk 180 s.2.2 (36 * 1 + c) < 1000000 ∧ (s.1 = 0 → s.2.2 = T ∧ more = 0 ∧ ∀ (t : Int) (d : Nat), 0 ≤ t → t < (q : Int) → d < 36 → (goR R 163 ((36 * 1 + c : Nat) : Int) t ((36 * 1 + d : Nat) : Int) → Vk 180 T (36 * 1 + d) ≤ Vk 180 T (36 * 1 + c) + cw 1000 0 1) ∧ (bb (xw R) (xh R) c t = (d : Int) → onN R 1 d → ¬ onN R 1 (bes (xw R) (xh R) c t) → Vk 180 T (36 * 1 + d) ≤ Vk 180 T (36 * 1 + c) + cw 1000 1 1))) (fun y : Int32 × Mem => RIw (EPk R) f R y.2 ∧ (y.1 = 0 ∨ y.1 = 1) ∧ (y.1 = 0 → y.2 = T ∧ more = 0 ∧ ∀ u ds da, EPk R (36 * 1 + c) u ds da → Vk 180 T u ≤ Vk 180 T (36 * 1 + c) + cw 1000 ds da)) r := by
    intro w0 hw0 e
    have keep : (∀ d : Nat, bb (xw R) (xh R) c q = (d : Int) → onN R 1 d → ¬ onN R 1 (bes (xw R) (xh R) c q) → False) → (mo' ||| x14.1) = 0 → x14.2 = T ∧ more = 0 ∧ ∀ (t : Int) (d : Nat), 0 ≤ t → t < ((q + 1 : Nat) : Int) → d < 36 → (goR R 163 ((36 * 1 + c : Nat) : Int) t ((36 * 1 + d : Nat) : Int) → Vk 180 T (36 * 1 + d) ≤ Vk 180 T (36 * 1 + c) + cw 1000 0 1) ∧ (bb (xw R) (xh R) c t = (d : Int) → onN R 1 d → ¬ onN R 1 (bes (xw R) (xh R) c t) → Vk 180 T (36 * 1 + d) ≤ Vk 180 T (36 * 1 + c) + cw 1000 1 1) := by
      intro no h
      obtain ⟨h1, h2⟩ := ob h
      obtain ⟨a, b, cc⟩ := hz h1
      obtain ⟨eS, hs⟩ := a4 h2
      refine ⟨by rw [eS, a], b, fun t d t0 t1 d36 => ?_⟩
      by_cases k : t = (q : Int)
      · subst k
        rw [a] at hs
        exact ⟨fun hg => hs d d36 hg, fun hb on2 hn => (no d hb on2 hn).elim⟩
      · exact cc t d t0 (by omega) d36
    unfold j_Mod_planks_172_102 at e
    have ym := om
    rcases io e with ⟨g, e⟩ | ⟨g, e⟩
    · have gm := q_eq g
      obtain rfl := Option.some.inj e
      exact ⟨q + 1, by omega, i1, a1, oa, a3, keep (fun d hb _ _ => by omega)⟩
    have gm := q_ne g
    obtain ⟨x17, e17, e⟩ := bo e
    have bne : bb (xw R) (xh R) c q ≠ -1 := by omega
    have b1 : bes (xw R) (xh R) c q ≠ -1 := by
      intro h
      apply bne
      unfold bb
      rw [if_pos h]
    have b2 : bb (xw R) (xh R) c q = bes (xw R) (xh R) (bes (xw R) (xh R) c q) q := by unfold bb; rw [if_neg b1]
    have rd := (bes_rng jR (c := bes (xw R) (xh R) c q) (s := q)).2.2 (by rw [← b2]; exact bne)
    rw [← b2] at rd
    obtain ⟨d, hd⟩ : ∃ d : Nat, w0.toInt = (d : Int) := ⟨w0.toInt.toNat, by omega⟩
    have onc' : onN x14.2 1 c := (onN_c mE).mpr onc
    have cb := (canB_r j14 hv4 hd onc' (show q < 4 by omega) (by rw [w1, w2]; omega) e17).2
    rw [w1, w2, onN_c mE, onN_c mE] at cb
    rcases io e with ⟨g17, e⟩ | ⟨g17, e⟩
    · obtain rfl := Option.some.inj e
      refine ⟨q + 1, by omega, i1, a1, oa, a3, keep (fun d' hb on2 hn => ?_)⟩
      have : d' = d := by omega
      subst this
      exact cb.mpr ⟨on2, hn⟩ g17
    obtain ⟨on2, hn⟩ := cb.mp g17
    obtain ⟨x18, e18, e⟩ := bo e
    obtain ⟨x19, e19, e⟩ := bo e
    obtain ⟨_, e⟩ := io_n e
    obtain ⟨x20, e20, e⟩ := bo e
    obtain rfl := Option.some.inj e
    have d36 : d < 36 := by omega
    have p18 := place_c (l := 1) (c := d) rfl hd (by omega) d36 e18
    have p19 := place_c (l := 1) (c := c) rfl hv4 (by omega) c36 e19
    rw [q_nat p19] at e20
    have k1001 : (1001 : Int32).toInt = 1001 := rfl
    have hval : ((x14.2.1 180 (36 * 1 + c)) + (1001 : Int32)).toInt = Vk 180 x14.2 (36 * 1 + c) + cw 1000 1 1 := by
      rw [cw_1, add_ti rfl k1001 (by omega) (by omega)]; rfl
    have edge : EPk R (36 * 1 + c) (36 * 1 + d) 1 1 := ⟨c, d, c36, d36, rfl, rfl, onc, on2, rfl, .inr ⟨rfl, q, by omega, by omega, by omega, hn⟩⟩
    obtain ⟨r1, r2, r3, r4, r5⟩ := relax_r a1 (by omega) a3 edge p18 hval e20
    obtain ⟨pa, pb⟩ := or01w oa r2
    refine ⟨q + 1, by omega, i1, r1, pa, by have := r5 (36 * 1 + c); dsimp only; omega, fun h => ?_⟩
    obtain ⟨h0, h3⟩ := pb h
    obtain ⟨h1, h2⟩ := ob h0
    obtain ⟨a, b, cc⟩ := hz h1
    obtain ⟨eS, hs⟩ := a4 h2
    have e20' := r4 h3
    refine ⟨by show x20.2 = T; rw [e20', eS, a], b, fun t d' t0 t1 d36' => ?_⟩
    by_cases k : t = (q : Int)
    · subst k
      rw [a] at hs
      refine ⟨fun hg => hs d' d36' hg, fun hb _ _ => ?_⟩
      have : d' = d := by omega
      subst this
      rw [e20', hval, eS, a] at r3
      exact r3
    · exact cc t d' t0 (by omega) d36'
  have ym := om
  rcases io e with ⟨g, e⟩ | ⟨g, e⟩
  · have gm := q_eq g
    refine body (-1) ?_ e
    unfold bb
    rw [if_pos (by omega)]; exact om
  · have gm := q_ne g
    obtain ⟨x16, e16, e⟩ := bo e
    have rr := bes_rng jR (c := (c : Int)) (s := (q : Int))
    have h16 := some_of (fs_beside a1.1 x15 i (by omega)) e16
    rw [w1, w2, h15, hq] at h16
    refine body x16 ?_ e
    unfold bb
    rw [if_neg (by omega)]; exact h16
theorem plkR_r {R T : Mem} {f : Nat} {v2 : Int32} {y : Int32 × Mem} (jR : J R) (kp : KP R 163 0) (hf : onP R (f : Int)) (h : RIw (EPk R) f R T) (e : iter (lb_Mod_planks_70 v2) FU ((0 : Int32), (0 : Int32), T) = some y) : RIw (EPk R) f R y.2 ∧ (y.1 = 0 → CLO 1000 (EPk R) (Vk 180 y.2)) := by
  have km : (1000000 : Int32).toInt = 1000000 := rfl
  have wh := awh jR
  refine it_r (I := fun s : Int32 × Int32 × Mem => ∃ k : Nat, s.2.1.toInt = (k : Int) ∧ RIw (EPk R) f R s.2.2 ∧ (s.1 = 0 ∨ s.1 = 1) ∧ (s.1 = 0 → s.2.2 = T ∧ ∀ c u ds da, c < k → EPk R (36 * 1 + c) u ds da → Vk 180 T u ≤ Vk 180 T (36 * 1 + c) + cw 1000 ds da)) (Q := fun y : Int32 × Mem => RIw (EPk R) f R y.2 ∧ (y.1 = 0 → CLO 1000 (EPk R) (Vk 180 y.2))) ?_ e ⟨0, rfl, h, .inl rfl, fun _ => ⟨rfl, fun c u ds da h => by omega⟩⟩
  rintro ⟨mo', i, S⟩ r ⟨k, hk, hS, hmo, hz⟩ e
  dsimp only at hk hS hmo hz
  have jS := hS.1
  unfold lb_Mod_planks_70 at e
  dsimp only at e
  obtain ⟨x9, e9, e⟩ := bo e
  have h9 : x9.toInt = xw R * xh R := by
    unfold f_Mod_cells at e9
    obtain rfl := Option.some.inj e9
    rw [hS.2.1 162 2 (by omega), hS.2.1 162 3 (by omega)]
    exact wh_ti jR
  rcases io e with ⟨g, e⟩ | ⟨g, e⟩
  · have gl := q_le g
    obtain rfl := Option.some.inj e
    refine ⟨hS, fun h => ?_⟩
    obtain ⟨a, b⟩ := hz h
    dsimp only
    rw [a]
    intro v u ds da hE
    have hE' := hE
    obtain ⟨c, d, c36, d36, rfl, rfl, on1, _⟩ := hE
    exact b c _ ds da (by have := on1.2.1; omega) hE'
  have gl := q_ng g
  have i1 : (i + (1 : Int32)).toInt = ((k + 1 : Nat) : Int) := add_ti hk o1 (by omega) (by omega)
  obtain ⟨x10, e10, e⟩ := bo e
  obtain ⟨_, e⟩ := io_n e
  have k36 : k < 36 := by omega
  have p10 := place_c (l := 1) (c := k) rfl hk (by omega) k36 e10
  rw [q_nat p10] at e
  rcases io e with ⟨g, e⟩ | ⟨g, e⟩
  · have gg := q_lt g
    obtain ⟨x25, e25, e⟩ := bo e
    obtain rfl := Option.some.inj e
    have hv : Vk 180 S (36 * 1 + k) < 1000000 := by
      have : Vk 180 S (36 * 1 + k) = (S.1 180 (36 * 1 + k)).toInt := rfl
      omega
    obtain ⟨s1, s2, s3⟩ := plkS_r jR kp hf hS hk k36 hv hmo e25
    refine ⟨k + 1, i1, s1, s2, fun h => ?_⟩
    obtain ⟨a, b, cc⟩ := s3 h
    obtain ⟨a', d⟩ := hz b
    refine ⟨by show x25.2 = T; rw [a, a'], fun c u ds da hc hE => ?_⟩
    by_cases w : c = k
    · subst w
      rw [← a']
      exact cc u ds da hE
    · exact d c u ds da (by omega) hE
  · have gg := q_nl g
    obtain rfl := Option.some.inj e
    refine ⟨k + 1, i1, hS, hmo, fun h => ?_⟩
    obtain ⟨a, b⟩ := hz h
    refine ⟨a, fun c u ds da hc hE => ?_⟩
    by_cases w : c = k
    · subst w
      have bu := Jr_180 jS u
      have : 0 ≤ cw 1000 ds da := by unfold cw; omega
      have e1 : Vk 180 S u = (S.1 180 u).toInt := rfl
      have e2 : Vk 180 S (36 * 1 + c) = (S.1 180 (36 * 1 + c)).toInt := rfl
      rw [← a]
      omega
    · exact b c u ds da (by omega) hE
theorem plkF_r {a b : Int32} {N x : Mem} (jN : J N) (e : iter (lb_Mod_planks_27 a b) FU ((0 : Int32), N) = some x) : J x ∧ (∀ kx i, kx ≠ 180 → x.1 kx i = N.1 kx i) ∧ ∀ c, c < 72 → x.1 180 c = 1000000 := by
  have k72 : (72 : Int32).toInt = 72 := rfl
  refine it_r (I := fun s : Int32 × Mem => ∃ q : Nat, q ≤ 72 ∧ s.1.toInt = (q : Int) ∧ J s.2 ∧ (∀ kx i, kx ≠ 180 → s.2.1 kx i = N.1 kx i) ∧ ∀ c, c < q → s.2.1 180 c = 1000000) (Q := fun x : Mem => J x ∧ (∀ kx i, kx ≠ 180 → x.1 kx i = N.1 kx i) ∧ ∀ c, c < 72 → x.1 180 c = 1000000) ?_ e ⟨0, by omega, rfl, jN, fun _ _ _ => rfl, fun c h => by omega⟩
  rintro ⟨i, T⟩ r ⟨q, q72, hq, jT, hf, hd⟩ e
  dsimp only at hq jT hf hd
  unfold lb_Mod_planks_27 at e
  dsimp only at e
  rcases io e with ⟨g, e⟩ | ⟨g, e⟩
  · have := q_le g
    obtain rfl := Option.some.inj e
    exact ⟨jT, hf, fun c hc => hd c (by omega)⟩
  have g1 := q_ng g
  have i1 : (i + (1 : Int32)).toInt = ((q + 1 : Nat) : Int) := add_ti hq o1 (by omega) (by omega)
  obtain ⟨_, e⟩ := io_n e
  obtain ⟨M3, m3, e⟩ := mo e
  obtain rfl := Option.some.inj e
  rw [q_nat hq] at m3
  refine ⟨q + 1, by omega, i1, by rw [m3]; exact Jw_180 jT q _ (by decide) (by decide), fun kx j h => by rw [m3, si_ne (by omega)]; exact hf kx j h, fun c hc => ?_⟩
  rw [m3]
  by_cases w : c = q
  · subst w; exact si_eq
  · rw [si_ne (by omega)]; exact hd c (by omega)
end
section
/-! planks: the class relaxes -/
def EPc (R : Mem) (c d ds da : Nat) : Prop := EPk R (36 * 1 + c) (36 * 1 + d) ds da
theorem EPc_ok {R : Mem} : Eok (EPc R) := by
  rintro c d ds da h
  have h' := EPk_ok _ _ _ _ h
  obtain ⟨c', d', c36, d36, hc, hd, _⟩ := h
  omega
theorem EPc_36 {R : Mem} {c d ds da : Nat} (h : EPc R c d ds da) : c < 36 ∧ d < 36 ∧ onN R 1 c ∧ onN R 1 d := by
  obtain ⟨c', d', c36, d36, hc, hd, o1, o2, _⟩ := h
  have : c' = c := by omega
  have : d' = d := by omega
  subst_vars
  exact ⟨c36, d36, o1, o2⟩
theorem wkP_c {R : Mem} {f n u s a : Nat} (h : wk (EPk R) (36 * 1 + f) n u s a) : ∃ c, u = 36 * 1 + c ∧ wk (EPc R) f n c s a := by
  induction n generalizing u s a with
  | zero =>
    obtain ⟨rfl, rfl, rfl⟩ := h
    exact ⟨f, rfl, rfl, rfl, rfl⟩
  | succ n ih =>
    obtain ⟨v, s', a', ds, da, h, e, rfl, rfl⟩ := h
    obtain ⟨c, rfl, hc⟩ := ih h
    obtain ⟨c', d', c36, d36, h1, rfl, o1, o2, r⟩ := e
    exact ⟨d', rfl, c, s', a', ds, da, hc, ⟨c', d', c36, d36, h1, rfl, o1, o2, r⟩, rfl, rfl⟩
theorem wkC_on {R : Mem} {f n c s a : Nat} (hf : onN R 1 f) (h : wk (EPc R) f n c s a) : onN R 1 c := by
  cases n with
  | zero => obtain ⟨rfl, _⟩ := h; exact hf
  | succ n => obtain ⟨v, s', a', ds, da, _, e, _⟩ := h; exact (EPc_36 e).2.2.2
theorem cross_c {X R N : Mem} {n f c : Nat} {v3 : Int32} {y : Int32 × Mem} (za : ZA X R n) (hf : onN R 1 f) (h : CI (EPc R) f X N) (hc : v3.toInt = (c : Int)) (c36 : c < 36) (lt : Vk 158 N c < 1000000) (e : f_Ways_cross 32 v3 N = some y) : CI (EPc R) f X y.2 ∧ (y.1 = 0 ∨ y.1 = 1) ∧ (∀ w, Vk 158 y.2 w ≤ Vk 158 N w) ∧ (y.1 = 0 → y.2 = N) ∧ (∀ d ds da, EPc R c d ds da → Vk 158 y.2 d ≤ Vk 158 N c + cw 100 ds da) := by
  have k4 : (4 : Int32).toInt = 4 := rfl
  have jR := za.1.2.1
  have wh := awh jR
  obtain ⟨nw, sw, aw, hw, _⟩ := h.2.2.2.1 c (by omega) lt
  have onc : onN R 1 c := wkC_on hf hw
  unfold f_Ways_cross at e
  obtain ⟨_, e⟩ := io_n e
  obtain ⟨x10, e10, e⟩ := bo e
  obtain ⟨_, e⟩ := io_n e
  obtain rfl := Option.some.inj e
  refine it_r (I := fun s : Int32 × Int32 × Mem => ∃ q : Nat, q ≤ 4 ∧ s.2.1.toInt = (q : Int) ∧ CI (EPc R) f X s.2.2 ∧ (s.1 = 0 ∨ s.1 = 1) ∧ (∀ w, Vk 158 s.2.2 w ≤ Vk 158 N w) ∧ (s.1 = 0 → s.2.2 = N) ∧ (∀ (t : Int) (d : Nat), 0 ≤ t → t < (q : Int) → d < 36 → (goR R 163 ((36 * 1 + c : Nat) : Int) t ((36 * 1 + d : Nat) : Int) → Vk 158 s.2.2 d ≤ Vk 158 N c + cw 100 0 1) ∧ (bb (xw R) (xh R) c t = (d : Int) → onN R 1 d → ¬ onN R 1 (bes (xw R) (xh R) c t) → Vk 158 s.2.2 d ≤ Vk 158 N c + cw 100 1 1))) (Q := fun y : Int32 × Mem => CI (EPc R) f X y.2 ∧ (y.1 = 0 ∨ y.1 = 1) ∧ (∀ w, Vk 158 y.2 w ≤ Vk 158 N w) ∧ (y.1 = 0 → y.2 = N) ∧ (∀ d ds da, EPc R c d ds da → Vk 158 y.2 d ≤ Vk 158 N c + cw 100 ds da)) ?_ e10 ⟨0, by omega, rfl, h, .inl rfl, fun w => Int.le_refl _, fun _ => rfl, fun t d a b => by omega⟩
  rintro ⟨ch, i, S⟩ r ⟨q, q4, hq, hS, hch, hm, hz, hst⟩ e
  dsimp only at hq hS hch hm hz hst
  unfold lb_Ways_cross_6 at e
  dsimp only at e
  rcases io e with ⟨g, e⟩ | ⟨g, e⟩
  · have := q_le g
    obtain rfl := Option.some.inj e
    refine ⟨hS, hch, hm, hz, ?_⟩
    rintro d ds da ⟨c', d', c36', d36, h1, h2, o1, o2, rfl, ⟨rfl, s, s0, s3, hg⟩ | ⟨rfl, s, s0, s3, hb, hn⟩⟩
    · have e1 : c' = c := by omega
      have e2 : d' = d := by omega
      subst e1 e2
      exact (hst s d' s0 (by omega) d36).1 hg
    · have e1 : c' = c := by omega
      have e2 : d' = d := by omega
      subst e1 e2
      exact (hst s d' s0 (by omega) d36).2 hb o2 hn
  have g1 := q_ng g
  have i1 : (i + (1 : Int32)).toInt = ((q + 1 : Nat) : Int) := add_ti hq o1 (by omega) (by omega)
  obtain ⟨x1, e1, e⟩ := bo e
  obtain ⟨x2, e2, e⟩ := bo e
  obtain ⟨x3, e3, e⟩ := bo e
  have zaS := CI_ZA za hS
  have zgS := zaS.1.2.2.1.1
  have ym := om
  -- the step
  have hpv : (Int32.ofNat (36 * 1 + c)).toInt = ((36 * 1 + c : Nat) : Int) := ofn_ti (by omega)
  have onv : onP R ((36 * 1 + c : Nat) : Int) := (onP_lc (l := 1) (by omega) c36).mpr onc
  obtain ⟨y9, e9, g9, _⟩ := fs_go jR 163 (.inl rfl) (Int32.ofNat (36 * 1 + c)) i (by rw [hpv]; omega)
  have T := tow_2 jR (.inl rfl) zaS.1.2.2.2.2.1 zaS.1.2.2.2.2.2 (l := 1) (lv := 1) rfl hc hq hpv (by omega) c36 (by omega) (by rw [hpv]; exact onv) e1 e9
  rw [hpv, hq] at g9
  -- beyond
  have b2 : x2.toInt = bes (xw R) (xh R) c q := by
    have := (besC zgS jR e2).1 (by omega) (by rw [hc]; exact onc.2.1) (by omega) (by omega)
    rw [this, hc, hq]
  have rr := bes_rng jR (c := (c : Int)) (s := (q : Int))
  have b3 : x3.toInt = bb (xw R) (xh R) c q := by
    unfold bb
    by_cases k : bes (xw R) (xh R) c q = -1
    · rw [if_pos k]
      exact (besC zgS jR e3).2 (by omega)
    · rw [if_neg k]
      have w := rr.2.2 k
      have := (besC zgS jR e3).1 (by omega) (by omega) (by omega) (by omega)
      rw [this, b2, hq]
  have mN := hm c
  have bS := hS.2.2.2.2 c (by omega)
  obtain ⟨nS, sS, aS, hwS, ewS⟩ := hS.2.2.2.1 c (by omega) (by omega)
  have eV : Vk 158 S c = (S.1 158 c).toInt := rfl
  -- no step: nothing that go leads to
  rcases io e with ⟨g, e⟩ | ⟨g, e⟩
  · have gm := q_eq g
    have y1 : y9.toInt = -1 := by
      rcases T with ⟨_, h⟩ | ⟨h, _⟩
      · exact h
      · omega
    have nogo : ∀ d : Nat, ¬ goR R 163 ((36 * 1 + c : Nat) : Int) q ((36 * 1 + d : Nat) : Int) := fun d hg => by
      have := goR_fun g9 hg
      omega
    obtain ⟨x4, e4, e⟩ := bo e
    have h4 := holdsC zgS jR e4
    rw [o1, b3] at h4
    rcases h4 with ⟨hx, _, _, on⟩ | ⟨hx, no⟩
    rotate_left
    · rw [hx, if_pos rfl] at e
      obtain rfl := Option.some.inj e
      refine ⟨q + 1, by omega, i1, hS, hch, hm, hz, fun t d t0 t1 d36 => ?_⟩
      by_cases k : t = (q : Int)
      · subst k
        refine ⟨fun hg => absurd hg (nogo d), fun hb on2 _ => absurd ⟨by omega, by omega, ?_⟩ no⟩
        rw [hb]; exact on2
      · exact hst t d t0 (by omega) d36
    rw [hx, if_neg (by decide)] at e
    obtain ⟨_, e⟩ := io_n e
    obtain ⟨x5, e5, e⟩ := bo e
    obtain rfl := Option.some.inj e
    have rb := on.2.1
    have rb0 := on.1
    obtain ⟨d, hd⟩ : ∃ d : Nat, x3.toInt = (d : Int) := ⟨x3.toInt.toNat, by omega⟩
    have d36 : d < 36 := by omega
    have hbd : bb (xw R) (xh R) c q = (d : Int) := by omega
    rw [hbd] at on
    -- no step that way: the middle is no roof
    have nm : ¬ onN R 1 (bes (xw R) (xh R) c q) := by
      intro om'
      have bne : bes (xw R) (xh R) c q ≠ -1 := by
        intro h
        rw [h] at om'
        have := om'.1
        omega
      have gg : goR R 163 ((36 * 1 + c : Nat) : Int) q (36 * 1 + bes (xw R) (xh R) c q) := by
        refine .inr ⟨by omega, .inr (.inl ⟨?_, ?_, ?_⟩)⟩
        · rw [show ((36 * 1 + c : Nat) : Int) % 36 = (c : Int) by omega]; exact bne
        · rw [show ((36 * 1 + c : Nat) : Int) % 36 = (c : Int) by omega, show ((36 * 1 + c : Nat) : Int) / 36 = 1 by omega]; exact om'
        · rw [show ((36 * 1 + c : Nat) : Int) % 36 = (c : Int) by omega, show ((36 * 1 + c : Nat) : Int) / 36 = 1 by omega]
      have := goR_fun g9 gg
      omega
    have k100 : (100 : Int32).toInt = 100 := rfl
    have hval : (((S.1 158 v3.toNatClampNeg) + (100 : Int32)) + (1 : Int32)).toInt = Vk 158 S c + cw 100 1 1 := by
      rw [q_nat hc, cw_1, add_ti (add_ti rfl k100 (by omega) (by omega)) o1 (by omega) (by omega)]; omega
    have edge : EPc R c d 1 1 := ⟨c, d, c36, d36, rfl, rfl, onc, on, rfl, .inr ⟨rfl, q, by omega, by omega, hbd, nm⟩⟩
    obtain ⟨r1, r2, r3, r4, r5⟩ := relax_c hS (by omega) ⟨nS, sS, aS, hwS, ewS⟩ edge hd hval e5
    obtain ⟨oa, ob⟩ := or01w hch r2
    refine ⟨q + 1, by omega, i1, r1, oa, fun w => Int.le_trans (r5 w) (hm w), fun h => ?_, fun t d' t0 t1 d36' => ?_⟩
    · obtain ⟨h1, h2⟩ := ob h
      show x5.2 = N
      rw [r4 h2, hz h1]
    · by_cases k : t = (q : Int)
      · subst k
        refine ⟨fun hg => absurd hg (nogo d'), fun hb _ _ => ?_⟩
        have : d' = d := by omega
        subst this
        show Vk 158 x5.2 d' ≤ _
        omega
      · have a := hst t d' t0 (by omega) d36'
        have b := r5 d'
        exact ⟨fun hg => Int.le_trans b (a.1 hg), fun h1 h2 h3 => Int.le_trans b (a.2 h1 h2 h3)⟩
  have gm := q_ne g
  rcases T with ⟨h2, _⟩ | ⟨t0', t36, hy, ony⟩
  · omega
  obtain ⟨_, e⟩ := io_n e
  obtain ⟨x7, e7, e⟩ := bo e
  obtain rfl := Option.some.inj e
  obtain ⟨d, hd⟩ : ∃ d : Nat, x1.toInt = (d : Int) := ⟨x1.toInt.toNat, by omega⟩
  have d36 : d < 36 := by omega
  have hu : y9.toInt = ((36 * 1 + d : Nat) : Int) := by omega
  rw [hu] at g9 ony
  have hval : ((S.1 158 v3.toNatClampNeg) + (1 : Int32)).toInt = Vk 158 S c + cw 100 0 1 := by
    rw [q_nat hc, cw_z, add_ti rfl o1 (by omega) (by omega)]; rfl
  have edge : EPc R c d 0 1 := ⟨c, d, c36, d36, rfl, rfl, onc, (onP_lc (l := 1) (by omega) d36).mp ony, rfl, .inl ⟨rfl, q, by omega, by omega, g9⟩⟩
  obtain ⟨r1, r2, r3, r4, r5⟩ := relax_c hS (by omega) ⟨nS, sS, aS, hwS, ewS⟩ edge hd hval e7
  obtain ⟨oa, ob⟩ := or01w hch r2
  refine ⟨q + 1, by omega, i1, r1, oa, fun w => Int.le_trans (r5 w) (hm w), fun h => ?_, fun t d' t0 t1 d36' => ?_⟩
  · obtain ⟨h1, h2⟩ := ob h
    show x7.2 = N
    rw [r4 h2, hz h1]
  · by_cases k : t = (q : Int)
    · subst k
      have c0 : cw 100 0 1 ≤ cw 100 1 1 := by unfold cw; omega
      refine ⟨fun hg => ?_, fun hb on2 hn => ?_⟩
      · have := goR_fun g9 hg
        have : d' = d := by omega
        subst this
        show Vk 158 x7.2 d' ≤ _
        omega
      · -- the plank that lies there leads to the same cell
        have b1 : bes (xw R) (xh R) c q ≠ -1 := by
          intro h
          unfold bb at hb
          rw [if_pos h] at hb
          omega
        have b2' : bb (xw R) (xh R) c q = bes (xw R) (xh R) (bes (xw R) (xh R) c q) q := by unfold bb; rw [if_neg b1]
        have same : d' = d := by
          rcases g9 with ⟨h, _⟩ | ⟨_, gd⟩
          · omega
          rw [show ((36 * 1 + c : Nat) : Int) % 36 = (c : Int) by omega, show ((36 * 1 + c : Nat) : Int) / 36 = 1 by omega] at gd
          rcases gd with ⟨h, _⟩ | ⟨_, h, _⟩ | ⟨_, _, _, h⟩ | ⟨_, _, _, _, _, h⟩ | ⟨_, _, _, _, h⟩
          · omega
          · exact absurd h hn
          · omega
          · omega
          · omega
        subst same
        show Vk 158 x7.2 d' ≤ _
        omega
    · have a := hst t d' t0 (by omega) d36'
      have b := r5 d'
      exact ⟨fun hg => Int.le_trans b (a.1 hg), fun h1 h2 h3 => Int.le_trans b (a.2 h1 h2 h3)⟩
theorem plkR_c {X R N : Mem} {n f : Nat} {v4 v6 : Int32} {y : Int32 × Mem} (za : ZA X R n) (hf : onN R 1 f) (h : CI (EPc R) f X N) (e : iter (lb_Ways_bridged_29 32 v4 v6) FU ((0 : Int32), (0 : Int32), N) = some y) : CI (EPc R) f X y.2 ∧ (∀ w, Vk 158 y.2 w ≤ Vk 158 N w) ∧ (y.1 = 0 → y.2 = N) ∧ (∀ v u ds da, EPc R v u ds da → Vk 158 N v < 1000000 → Vk 158 y.2 u ≤ Vk 158 N v + cw 100 ds da) := by
  have k36 : (36 : Int32).toInt = 36 := rfl
  have km : (1000000 : Int32).toInt = 1000000 := rfl
  refine it_r (I := fun s : Int32 × Int32 × Mem => ∃ k : Nat, k ≤ 36 ∧ s.2.1.toInt = (k : Int) ∧ CI (EPc R) f X s.2.2 ∧ (s.1 = 0 ∨ s.1 = 1) ∧ (∀ w, Vk 158 s.2.2 w ≤ Vk 158 N w) ∧ (s.1 = 0 → s.2.2 = N) ∧ (∀ c u ds da, c < k → EPc R c u ds da → Vk 158 N c < 1000000 → Vk 158 s.2.2 u ≤ Vk 158 N c + cw 100 ds da)) (Q := fun y : Int32 × Mem => CI (EPc R) f X y.2 ∧ (∀ w, Vk 158 y.2 w ≤ Vk 158 N w) ∧ (y.1 = 0 → y.2 = N) ∧ (∀ v u ds da, EPc R v u ds da → Vk 158 N v < 1000000 → Vk 158 y.2 u ≤ Vk 158 N v + cw 100 ds da)) ?_ e ⟨0, by omega, rfl, h, .inl rfl, fun w => Int.le_refl _, fun _ => rfl, fun c u ds da h => by omega⟩
  rintro ⟨ch, i, S⟩ r ⟨k, k36', hk, hS, hch, hm, hz, hst⟩ e
  dsimp only at hk hS hch hm hz hst
  unfold lb_Ways_bridged_29 at e
  dsimp only at e
  rcases io e with ⟨g, e⟩ | ⟨g, e⟩
  · have := q_le g
    obtain rfl := Option.some.inj e
    exact ⟨hS, hm, hz, fun v u ds da hE hv => hst v u ds da (by have := (EPc_36 hE).1; omega) hE hv⟩
  have g1 := q_ng g
  have i1 : (i + (1 : Int32)).toInt = ((k + 1 : Nat) : Int) := add_ti hk o1 (by omega) (by omega)
  obtain ⟨_, e⟩ := io_n e
  rw [q_nat hk] at e
  have eV : Vk 158 S k = (S.1 158 k).toInt := rfl
  have z0 := or01w hch (.inl (rfl : (0 : Int32) = 0))
  have z1 := or01w hch (.inr (rfl : (1 : Int32) = 1))
  rcases io e with ⟨g, e⟩ | ⟨g, e⟩
  · have gg := q_le g
    obtain rfl := Option.some.inj e
    refine ⟨k + 1, by omega, i1, hS, z0.1, hm, fun h => hz (z0.2 h).1, fun c u ds da hc hE hv => ?_⟩
    by_cases w : c = k
    · subst w
      have := hm c
      omega
    · exact hst c u ds da (by omega) hE hv
  have gg := q_ng g
  obtain ⟨x2, e2, e⟩ := bo e
  obtain ⟨a1, a2, a3, a4, a5⟩ := cross_c za hf hS hk (by omega) (by omega) e2
  have fin : ∀ c u ds da, c < k + 1 → EPc R c u ds da → Vk 158 N c < 1000000 → Vk 158 x2.2 u ≤ Vk 158 N c + cw 100 ds da := by
    intro c u ds da hc hE hv
    by_cases w : c = k
    · subst w
      have := a5 u ds da hE
      have := hm c
      omega
    · have := hst c u ds da (by omega) hE hv
      have := a3 u
      omega
  rcases io e with ⟨g2, e⟩ | ⟨g2, e⟩
  · obtain rfl := Option.some.inj e
    exact ⟨k + 1, by omega, i1, a1, z0.1, fun w => Int.le_trans (a3 w) (hm w), fun h => by show x2.2 = N; rw [a4 g2, hz (z0.2 h).1], fin⟩
  · obtain rfl := Option.some.inj e
    exact ⟨k + 1, by omega, i1, a1, z1.1, fun w => Int.le_trans (a3 w) (hm w), fun h => absurd (z1.2 h).2 (by decide), fin⟩
theorem bridged_c {X R : Mem} {n f t : Nat} {v3 v4 : Int32} {x : Int32 × Mem} {O : Nat → Int} (za : ZA X R n) (hf : onN R 1 f) (f36 : f < 36) (t36 : t < 36) (h3 : v3.toInt = (f : Int)) (h4 : v4.toInt = (t : Int)) (Of : O f = 0) (oc : CLO 100 (EPc R) O) (orz : RZw 100 (EPc R) f O) (ob : ∀ u, O u ≤ 1000000) (oh : ∀ u, 36 ≤ u → O u = 1000000) (e : f_Ways_bridged 32 v3 v4 X = some x) : x.1.toInt = O t ∧ (∀ kx i, kx ≠ 158 → x.2.1 kx i = X.1 kx i) ∧ x.2.2 = X.2 := by
  have k36 : (36 : Int32).toInt = 36 := rfl
  unfold f_Ways_bridged at e
  obtain ⟨_, e⟩ := io_n e
  obtain ⟨x1, e1, e⟩ := bo e
  obtain ⟨x9, e9, e⟩ := bo e
  obtain ⟨_, e⟩ := io_n e
  obtain rfl := Option.some.inj e
  obtain ⟨b1, b2, b3, b4⟩ := begin_c h3 e1
  have ci0 : CI (EPc R) f X x1 := ⟨b1, b2, by omega, RZw_1 b3 b4, fun u hu => by
    by_cases g : u = f
    · subst g; omega
    · rw [b4 u hu g]; omega⟩
  -- the other half of the prices is settled from the first on
  have half : ∀ S : Mem, CI (EPc R) f X S → 36 ≤ Sn (Vk 158 S) O := by
    intro S hS
    have key : (List.range 36).countP (fun i => decide (Vk 158 S (36 + i) ≤ O (36 + i))) = (List.range 36).length := List.countP_eq_length.mpr (fun i hi => decide_eq_true (by
      have := List.mem_range.mp hi
      rw [oh (36 + i) (by omega)]
      exact (hS.2.2.2.2 (36 + i) (by omega)).2))
    rw [List.length_range] at key
    unfold Sn
    rw [show 72 = 36 + 36 from rfl, cnt_add, key]
    omega
  have K : CI (EPc R) f X x9 ∧ ∀ u, u < 72 → Vk 158 x9 u ≤ O u := by
    refine it_r (I := fun s : Int32 × Int32 × Mem => ∃ k : Nat, k ≤ 36 ∧ s.2.1.toInt = (k : Int) ∧ CI (EPc R) f X s.2.2 ∧ 36 + k ≤ Sn (Vk 158 s.2.2) O ∧ (s.1 = 0 → ∀ u, u < 72 → Vk 158 s.2.2 u ≤ O u)) (Q := fun x : Mem => CI (EPc R) f X x ∧ ∀ u, u < 72 → Vk 158 x u ≤ O u) ?_ e9 ⟨0, by omega, rfl, ci0, half x1 ci0, fun h => absurd (show (1 : Int32) = 0 from h) (by decide)⟩
    rintro ⟨ch, i, S⟩ r ⟨k, k36', hk, hS, hn, hz⟩ e
    dsimp only at hk hS hn hz
    unfold lb_Ways_bridged_11 at e
    dsimp only at e
    rcases io e with ⟨g, e⟩ | ⟨g, e⟩
    · have := q_le g
      obtain rfl := Option.some.inj e
      exact ⟨hS, Sn_all (by omega)⟩
    have g1 := q_ng g
    rcases io e with ⟨g, e⟩ | ⟨g, e⟩
    · obtain rfl := Option.some.inj e
      exact ⟨hS, hz g⟩
    obtain ⟨x5, e5, e⟩ := bo e
    obtain rfl := Option.some.inj e
    obtain ⟨r1, r3, r4, r5⟩ := plkR_c za hf hS e5
    refine ⟨k + 1, by omega, add_ti hk o1 (by omega) (by omega), r1, ?_, fun h u hu => ?_⟩
    · show 36 + (k + 1) ≤ Sn (Vk 158 x5.2) O
      rcases round_1 EPc_ok hS.2.2.1 (by omega) (by omega) oc orz (fun u _ => r3 u) r5 (fun u hu => (hS.2.2.2.2 u hu).2) (by omega) with h | h
      · rw [Sn_m (fun u _ => r3 u) h]; omega
      · omega
    · show Vk 158 x5.2 u ≤ O u
      have eS := r4 h
      rw [eS] at r5 ⊢
      have bd := hS.2.2.2.2
      have clo : CLO 100 (EPc R) (Vk 158 S) := by
        intro v u ds da hE
        by_cases g : Vk 158 S v < 1000000
        · exact r5 v u ds da hE g
        · have h36 := EPc_36 hE
          have := (bd u (by omega)).2
          have : 0 ≤ cw 100 ds da := by unfold cw; omega
          omega
      by_cases g : O u < 1000000
      · obtain ⟨n, s, a, w, ew⟩ := orz u hu g
        rw [ew]
        exact wk_le hS.2.2.1 clo n u s a w
      · have := (bd u hu).2
        omega
  obtain ⟨⟨c1, c2, _, rz, bd⟩, le⟩ := K
  refine ⟨?_, c1, c2⟩
  rw [q_nat h4]
  show Vk 158 x9 t = O t
  have l := le t (by omega)
  by_cases g : Vk 158 x9 t < 1000000
  · obtain ⟨n, s, a, w, ew⟩ := rz t (by omega) g
    have := wk_le (by omega) oc n t s a w
    omega
  · have := (bd t (by omega)).2
    have := ob t
    omega
def OhC (Q : Nat → Int) (c : Nat) : Int := if c < 36 then Oh Q (36 * 1 + c) else 1000000
theorem OhC_1 {Q : Nat → Int} {c : Nat} (h : c < 36) : OhC Q c = Oh Q (36 * 1 + c) := if_pos h
theorem OhC_2 {Q : Nat → Int} {c : Nat} (h : ¬ c < 36) : OhC Q c = 1000000 := if_neg h
theorem planks_q {X R : Mem} {n : Nat} {v1 v2 : Int32} {x r : Int32 × Mem} (za : ZA X R n) (ex : f_Top_planks v1 v2 X = some x) (er : f_Mod_planks v1 v2 R = some r) : x.1 = r.1 ∧ (RR X R → RR x.2 r.2) := by
  have km : (1000000 : Int32).toInt = 1000000 := rfl
  unfold f_Mod_planks at er
  obtain ⟨M1, m1, er⟩ := mo er
  obtain ⟨zaM, fqM⟩ := ZA_M1 za m1
  obtain ⟨n8, jM, ⟨zg, zc, zl⟩, zs, zv, zw⟩ := zaM.1
  unfold f_Top_planks at ex
  obtain ⟨x1, ex1, ex⟩ := bo ex
  obtain ⟨y2, ey2, er⟩ := bo er
  rcases plc_2 zg jM ex1 ey2 with ⟨a, b⟩ | ⟨a, b, l, f, l2, f36, hl, hf, onf⟩
  · rw [a, if_pos rfl] at ex
    rw [b, if_pos rfl] at er
    obtain rfl := Option.some.inj ex
    obtain rfl := Option.some.inj er
    exact ⟨rfl, FQ2_RR fqM⟩
  have l1 : l = 1 := by have := o1; omega
  subst l1
  rw [a, if_neg (by decide)] at ex
  rw [b, if_neg (by decide)] at er
  obtain ⟨x2, ex2, ex⟩ := bo ex
  obtain ⟨y3, ey3, er⟩ := bo er
  rcases plc_2 zg jM ex2 ey3 with ⟨a, b⟩ | ⟨a, b, l', t, l2', t36, hl', ht, ont⟩
  · rw [a, if_pos rfl] at ex
    rw [b, if_pos rfl] at er
    obtain rfl := Option.some.inj ex
    obtain rfl := Option.some.inj er
    exact ⟨rfl, FQ2_RR fqM⟩
  have l1 : l' = 1 := by have := o1; omega
  subst l1
  rw [a, if_neg (by decide)] at ex
  rw [b, if_neg (by decide)] at er
  obtain ⟨x3, e3, ex⟩ := bo ex
  obtain ⟨x6, f6, er⟩ := bo er
  obtain ⟨x7, f7, er⟩ := bo er
  obtain ⟨_, er⟩ := io_n er
  obtain ⟨M8, m8, er⟩ := mo er
  obtain ⟨x24, f24, er⟩ := bo er
  obtain ⟨x25, f25, er⟩ := bo er
  obtain ⟨_, er⟩ := io_n er
  have p7 := place_c (l := 1) (c := f) rfl hf (by omega) f36 f7
  have p25 := place_c (l := 1) (c := t) rfl ht (by omega) t36 f25
  rw [q_nat p7] at m8
  rw [q_nat p25] at er
  obtain ⟨j6, g6, z6⟩ := plkF_r jM f6
  have onF : onP M1 ((36 * 1 + f : Nat) : Int) := (onP_lc (by omega) f36).mpr onf
  have F0 : Vk 180 M8 (36 * 1 + f) = 0 := by rw [m8, Vk_eq]; rfl
  have ri0 : RIw (EPk M1) (36 * 1 + f) M1 M8 := ⟨by rw [m8]; exact Jw_180 j6 _ _ (by decide) (by decide), fun kx i h => by rw [m8, si_ne (by omega)]; exact g6 kx i h, by omega, RZw_1 F0 (fun u hu hn => by
    rw [m8, Vk_ne hn]
    show (x6.1 180 u).toInt = _
    rw [z6 u hu]; rfl)⟩
  have K : RIw (EPk M1) (36 * 1 + f) M1 x24 ∧ CLO 1000 (EPk M1) (Vk 180 x24) := by
    refine it_r (I := fun s : Int32 × Mem => RIw (EPk M1) (36 * 1 + f) M1 s.2 ∧ (s.1 = 0 → CLO 1000 (EPk M1) (Vk 180 s.2))) (Q := fun x : Mem => RIw (EPk M1) (36 * 1 + f) M1 x ∧ CLO 1000 (EPk M1) (Vk 180 x)) ?_ f24 ⟨ri0, fun h => absurd (show (1 : Int32) = 0 from h) (by decide)⟩
    rintro ⟨mo', S⟩ r ⟨hS, hz⟩ e
    dsimp only at hS hz
    unfold lb_Mod_planks_61 at e
    dsimp only at e
    rcases io e with ⟨g, e⟩ | ⟨g, e⟩
    · obtain rfl := Option.some.inj e
      exact ⟨hS, hz g⟩
    obtain ⟨x22, e22, e⟩ := bo e
    obtain rfl := Option.some.inj e
    exact plkR_r jM (KP_v zv) onF hS e22
  obtain ⟨⟨j24, fr24, p24, rz24⟩, clo⟩ := K
  obtain ⟨o1', o2', o3'⟩ := Oh_clo EPk_ok p24 clo rz24 (fun u => (Jr_180 j24 u).2)
  -- by cells
  have OF : Oh (Vk 180 x24) (36 * 1 + f) = 0 := by
    have b := (Jr_180 j24 (36 * 1 + f)).1
    have : Vk 180 x24 (36 * 1 + f) = 0 := by
      have e : Vk 180 x24 (36 * 1 + f) = (x24.1 180 (36 * 1 + f)).toInt := rfl
      omega
    unfold Oh
    rw [this, if_pos (by decide)]; rfl
  obtain ⟨A1, A2, A3⟩ := bridged_c (O := OhC (Vk 180 x24)) zaM onf f36 t36 hf ht (by rw [OhC_1 f36]; exact OF) (fun v u ds da hE => by
    have h := EPc_36 hE
    rw [OhC_1 h.1, OhC_1 h.2.1]
    exact o1' _ _ ds da hE) (fun u hu hlt => by
    by_cases h : u < 36
    · rw [OhC_1 h] at hlt ⊢
      obtain ⟨n', s, a, w, ew⟩ := o2' (36 * 1 + u) (by omega) hlt
      obtain ⟨c, hc, w'⟩ := wkP_c w
      have : c = u := by omega
      subst this
      exact ⟨n', s, a, w', ew⟩
    · rw [OhC_2 h] at hlt
      omega) (fun u => by
    by_cases h : u < 36
    · rw [OhC_1 h]; exact o3' _
    · rw [OhC_2 h]; omega) (fun u hu => OhC_2 (by omega)) e3
  rw [OhC_1 t36] at A1
  have rrx : RR X R → RR x3.2 x24 := fun h => RR_f (A2 0 15 (by omega)) (fun i => A2 161 i (by omega)) (fr24 162 12 (by omega)) (fun i => fr24 168 i (by omega)) (FQ2_RR fqM h)
  have eQ : Vk 180 x24 (36 * 1 + t) = (x24.1 180 (36 * 1 + t)).toInt := rfl
  rcases io er with ⟨g, er⟩ | ⟨g, er⟩
  · have gl := q_lt g
    obtain ⟨nn, s, a, w, ew, s72, a72⟩ := rz_2 EPk_ok (by omega) p24 clo rz24 (show 36 * 1 + t < 72 by omega) (by omega)
    have oh := (Oh_i s72 a72 ew).2
    rw [oh] at A1
    rw [eQ] at ew
    have hx : x3.1.toInt = ((100 * s + a : Nat) : Int) := by rw [A1]; unfold cw; omega
    have hq : (x24.1 180 (36 * 1 + t)).toInt = ((1000 * s + a : Nat) : Int) := by rw [ew]; unfold cw; omega
    have k100 : (100 : Int32).toInt = 100 := rfl
    have k1000 : (1000 : Int32).toInt = 1000 := rfl
    have d1 : (x3.1 / (100 : Int32)).toInt = (s : Int) := by rw [div_ti hx k100 (by omega) (by omega)]; omega
    have d2 : ((x24.1 180 (36 * 1 + t)) / (1000 : Int32)).toInt = (s : Int) := by rw [div_ti hq k1000 (by omega) (by omega)]; omega
    have r1 : (x3.1 - x3.1 / (100 : Int32) * (100 : Int32)).toInt = (a : Int) := by rw [sub_ti hx (mul_ti d1 k100 (by omega) (by omega)) (by omega) (by omega)]; omega
    have r2 : ((x24.1 180 (36 * 1 + t)) - (x24.1 180 (36 * 1 + t)) / (1000 : Int32) * (1000 : Int32)).toInt = (a : Int) := by rw [sub_ti hq (mul_ti d2 k1000 (by omega) (by omega)) (by omega) (by omega)]; omega
    rw [if_pos (Int32.lt_iff_toInt_lt.mpr (by omega))] at ex
    obtain ⟨x4, e4, ex⟩ := bo ex
    obtain ⟨x5, e5, ex⟩ := bo ex
    obtain rfl := Option.some.inj ex
    obtain ⟨M26, m26, er⟩ := mo er
    obtain ⟨x27, e27, er⟩ := bo er
    obtain rfl := Option.some.inj er
    exact ⟨Int32.toInt_inj.mp (by show (x3.1 / (100 : Int32)).toInt = ((x24.1 180 (36 * 1 + t)) / (1000 : Int32)).toInt; rw [d1, d2]), fun _ => RRn_r (k := 1) (by omega) (RR_n (RR_0 e4 m26) (by omega) (Int32.toInt_inj.mp (by rw [r1, r2])) e5 e27)⟩
  · have gl := q_nl g
    have : Oh (Vk 180 x24) (36 * 1 + t) = 1000000 := by unfold Oh; rw [if_neg (by omega)]
    rw [if_neg (fun h => by have := q_lt h; omega)] at ex
    obtain rfl := Option.some.inj ex
    obtain rfl := Option.some.inj er
    exact ⟨rfl, rrx⟩
end
