/-! tryst: both sides -/
theorem meas_v {X R x r : Mem} {v0 n l f k : Nat} {v1 v2 p : Int32} (hv : isN v0) (jR : J R) (zv : ZV R (R.1 163) n) (zx : ZX v0 R (onA R) (fun c d => plk R 163 c d) X) (h1 : v1.toInt = (l : Int)) (l2 : l < 2) (h2 : v2.toInt = (f : Int)) (f36 : f < 36) (onf : onN R l f) (hp : p.toInt = ((36 * l + f : Nat) : Int)) (ex : f_Nets_measure v0 v1 v2 k X = some x) (er : f_Mod_findFar p R = some r) : (∀ c, c < 36 → x.1 k c = r.1 177 (36 * l + c)) ∧ (∀ kx i, kx ≠ k → x.1 kx i = X.1 kx i) ∧ x.2 = X.2 ∧ J r ∧ (∀ kx i, kx ≠ 177 → r.1 kx i = R.1 kx i) ∧ r.2 = R.2 := by
  have wh := awh jR
  obtain ⟨ms, fx, q⟩ := meas_i hv h1 l2 h2 f36 (fun c d hc h => ((near_go jR zv zx l2 hc).mp h).2.1) ex
  have ff := some_of (fs_findFar jR p (by omega)) er
  rw [hp] at ff
  have jr : J r := ff.1.1
  have E := far_eq jR jr zv zx l2 f36 onf ms ff
  refine ⟨fun c hc => Int32.toInt_inj.mp (E c hc), fx, q, jr, fun kx i h => ff.1.2.1 kx i h, ff.1.2.2.1⟩
theorem ln_far : ln 177 = 72 ∧ ln 181 = 72 ∧ ln 182 = 72 ∧ ln 183 = 72 := by decide +kernel
theorem copy_r {R r : Mem} {k : Nat} (hk : k ≠ 177) (e : f_Mod_copy 177 k R = some r) : (∀ i, i < 72 → r.1 k i = R.1 177 i) ∧ (∀ kx i, kx ≠ k → r.1 kx i = R.1 kx i) ∧ r.2 = R.2 := by
  have k72 : (Int32.ofNat (ln 177)).toInt = 72 := by rw [ln_far.1]; rfl
  unfold f_Mod_copy at e
  obtain ⟨_, e⟩ := io_n e
  obtain ⟨_, e⟩ := io_n e
  obtain ⟨x3, e3, e⟩ := bo e
  obtain rfl := Option.some.inj e
  refine it_r (I := fun s : Int32 × Mem => ∃ q : Nat, q ≤ 72 ∧ s.1.toInt = (q : Int) ∧ (∀ i, i < q → s.2.1 k i = R.1 177 i) ∧ (∀ kx i, kx ≠ k → s.2.1 kx i = R.1 kx i) ∧ s.2.2 = R.2) (Q := fun r : Mem => (∀ i, i < 72 → r.1 k i = R.1 177 i) ∧ (∀ kx i, kx ≠ k → r.1 kx i = R.1 kx i) ∧ r.2 = R.2) ?_ e3 ⟨0, by omega, rfl, fun i h => by omega, fun _ _ _ => rfl, rfl⟩
  rintro ⟨i, N⟩ r ⟨q, q72, hq, hd, hf, h2⟩ e
  dsimp only at hq hd hf h2
  unfold lb_Mod_copy_2 at e
  dsimp only at e
  rcases io e with ⟨g, e⟩ | ⟨g, e⟩
  · have := q_le g
    obtain rfl := Option.some.inj e
    exact ⟨fun i hi => hd i (by omega), hf, h2⟩
  have g1 := q_ng g
  obtain ⟨_, e⟩ := io_n e
  obtain ⟨_, e⟩ := io_n e
  obtain ⟨M1, m1, e⟩ := mo e
  obtain rfl := Option.some.inj e
  rw [q_nat hq] at m1
  refine ⟨q + 1, by omega, add_ti hq o1 (by omega) (by omega), fun j hj => ?_, fun kx j h => ?_, ?_⟩
  · dsimp only
    rw [m1]
    by_cases b : j = q
    · subst b; rw [si_eq]; exact hf 177 j (fun h => hk h.symm)
    · rw [si_ne (by omega)]; exact hd j (by omega)
  · dsimp only
    rw [m1, si_ne (by omega)]; exact hf kx j h
  · dsimp only
    rw [m1, si_2]; exact h2
/-- where two of the people are, both sides -/
theorem at_2 {X R : Mem} {n p : Nat} (n8 : n ≤ 8) (zs : ZS (scn X 11) (R.1 163) n) (zv : ZV R (R.1 163) n) (pn : p < n) : ∃ l c : Nat, l < 2 ∧ c < 36 ∧ (X.1 13 p).toInt = (l : Int) ∧ (X.1 12 p).toInt = (c : Int) ∧ (R.1 163 p).toInt = ((36 * l + c : Nat) : Int) ∧ onN R l c := by
  obtain ⟨s1, s2, s3, s4, s5, _⟩ := zs.1 p pn
  have s1 : (R.1 163 p).toInt = (X.1 12 p).toInt + 36 * (X.1 13 p).toInt := s1
  have s2 : 0 ≤ (X.1 12 p).toInt := s2
  have s3 : (X.1 12 p).toInt ≤ 35 := s3
  have s4 : 0 ≤ (X.1 13 p).toInt := s4
  have s5 : (X.1 13 p).toInt ≤ 1 := s5
  obtain ⟨c, hc⟩ := ti_ofn s2
  obtain ⟨l, hl⟩ := ti_ofn s4
  have v := (zv.1 p pn).1
  have e : (R.1 163 p).toInt = ((36 * l + c : Nat) : Int) := by omega
  rw [e] at v
  exact ⟨l, c, by omega, by omega, hl, hc, e, (onP_lc (by omega) (by omega)).mp v⟩
theorem stairs_i {X R : Mem} {v0 : Nat} {sv : Int64} (hv : isN v0) (jR : J R) (kr : ∀ i, i < 36 → 0 ≤ (R.1 164 i).toInt ∧ (R.1 164 i).toInt ≤ 3) (nb : NB v0 (onA R) 36 X) (e : f_Nets_stairs v0 X = some sv) (c : Nat) : bl sv c = true ↔ (c : Int) < xw R * xh R ∧ (R.1 164 c).toInt = 3 := by
  have wh := awh jR
  unfold f_Nets_stairs at e
  obtain ⟨_, e⟩ := io_n e
  obtain rfl := Option.some.inj e
  rw [(isN_r hv).1, show (0 : Int32).toNatClampNeg = 0 from rfl, show (1 : Int32).toNatClampNeg = 1 from rfl, bl_and, Bool.and_eq_true, nb 0 c (by omega), nb 1 c (by omega), onA_i jR, onA_i jR]
  unfold onN
  rw [show ((c : Int)).toNat = c by omega]
  constructor
  · rintro ⟨⟨_, _, h1, h2⟩, _, _, _, h3⟩
    rw [if_pos (by decide)] at h2
    rw [if_neg (by decide)] at h3
    exact ⟨h1, by omega⟩
  · rintro ⟨h1, h2⟩
    refine ⟨⟨by omega, by omega, h1, ?_⟩, by omega, by omega, h1, ?_⟩
    · rw [if_pos (by decide)]; omega
    · rw [if_neg (by decide)]; omega
theorem soon_2 {X R : Mem} {v0 n p q : Nat} {a b : Int32} {x r : Int32 × Mem} (hv : isN v0) (n8 : n ≤ 8) (jR : J R) (kr : ∀ i, i < 36 → 0 ≤ (R.1 164 i).toInt ∧ (R.1 164 i).toInt ≤ 3) (zs : ZS (scn X 11) (R.1 163) n) (zv : ZV R (R.1 163) n) (nb : NB v0 (onA R) 36 X) (zx : ZX v0 R (onA R) (fun c d => plk R 163 c d) X) (hp : a.toInt = (p : Int)) (hq : b.toInt = (q : Int)) (pn : p < n) (qn : q < n) (ex : f_Top_soonestStair v0 a b X = some x) (er : f_Mod_findTryst a b R = some r) : ∃ pk : Int × Int, x.1.toInt = pk.2 ∧ r.1.toInt = pk.1 ∧ (pk.1 = 1000000 ↔ pk.2 = -1) ∧ (0 ≤ pk.1 ∧ pk.1 ≤ 1000000 ∧ -1 ≤ pk.2 ∧ pk.2 < 36) ∧ (pk.2 ≠ -1 → (r.2.1 162 42).toInt = pk.2) ∧ (∀ c : Nat, pk.2 = (c : Int) → mxi (x.2.1 155 c) (x.2.1 156 c) = pk.1) ∧ ((∀ kx i, kx ≠ 155 → kx ≠ 156 → x.2.1 kx i = X.1 kx i) ∧ x.2.2 = X.2) ∧ (∀ kx i, kx ≠ 177 → kx ≠ 183 → ¬ (kx = 162 ∧ i = 42) → r.2.1 kx i = R.1 kx i) := by
  have wh := awh jR
  obtain ⟨l1, c1, l12, c136, hl1, hc1, hP1, on1⟩ := at_2 n8 zs zv pn
  obtain ⟨l2, c2, l22, c236, hl2, hc2, hP2, on2⟩ := at_2 n8 zs zv qn
  unfold f_Top_soonestStair at ex
  obtain ⟨_, ex⟩ := io_n ex
  obtain ⟨_, ex⟩ := io_n ex
  obtain ⟨_, ex⟩ := io_n ex
  obtain ⟨x1, e1, ex⟩ := bo ex
  obtain ⟨_, ex⟩ := io_n ex
  obtain ⟨_, ex⟩ := io_n ex
  obtain ⟨x2, e2, ex⟩ := bo ex
  obtain ⟨x9, e9, ex⟩ := bo ex
  obtain rfl := Option.some.inj ex
  unfold f_Mod_findTryst at er
  obtain ⟨_, er⟩ := io_n er
  obtain ⟨r1, f1, er⟩ := bo er
  obtain ⟨r2, f2, er⟩ := bo er
  obtain ⟨_, er⟩ := io_n er
  obtain ⟨r3, f3, er⟩ := bo er
  obtain ⟨y13, f13, er⟩ := bo er
  obtain rfl := Option.some.inj er
  rw [q_nat hp] at e1 f1
  rw [q_nat hq] at e2 f3
  obtain ⟨E1, fx1, qx1, jr1, fr1, qr1⟩ := meas_v hv jR zv zx hl1 l12 hc1 c136 on1 hP1 e1 f1
  obtain ⟨g1, g2, g3⟩ := copy_r (by omega) f2
  have j2 := (some_of (sf_Mod_copy 177 183 r1 (.inl rfl) (.inr (.inr (.inr rfl))) jr1) f2).1
  have fr2 : ∀ kx i, kx ≠ 177 → kx ≠ 183 → r2.1 kx i = R.1 kx i := fun kx i h1 h2 => by rw [g2 kx i h2]; exact fr1 kx i h1
  have x13 : x1.1 13 q = X.1 13 q := fx1 13 q (by omega)
  have x12 : x1.1 12 q = X.1 12 q := fx1 12 q (by omega)
  rw [x13, x12] at e2
  rw [fr2 163 q (by omega) (by omega)] at f3
  have mE : MapEq r2 R := ⟨fr2 162 2 (by omega) (by omega), fr2 162 3 (by omega) (by omega), fun i => fr2 164 i (by omega) (by omega)⟩
  have agr : AgR R r2 := ⟨fr2 162 2 (by omega) (by omega), fr2 162 3 (by omega) (by omega), fr2 162 4 (by omega) (by omega), fr2 162 5 (by omega) (by omega), fr2 162 23 (by omega) (by omega), fun i => fr2 164 i (by omega) (by omega), fun i => fr2 165 i (by omega) (by omega), fun i => fr2 166 i (by omega) (by omega), fun i => fr2 172 i (by omega) (by omega)⟩
  have zv2 : ZV r2 (r2.1 163) n := ZV_a n8 agr (fun i _ => fr2 163 i (by omega) (by omega)) zv
  have zx2 : ZX v0 r2 (onA r2) (fun c d => plk r2 163 c d) x1 := by
    have w1 : xw r2 = xw R := congrArg Int32.toInt mE.1
    have w2 : xh r2 = xh R := congrArg Int32.toInt mE.2.1
    have on : onA r2 = onA R := by funext l d; exact propext (by unfold onA; rw [onN_c mE])
    have pk : (fun c d => plk r2 163 c d) = (fun c d => plk R 163 c d) := by funext c d; exact propext (plk_c (fun i _ _ => fr2 163 i (by omega) (by omega)) zv.2.1.2 c d)
    unfold ZX NXT NRD LKn lk
    rw [on, pk, w1, w2, qx1]
    refine ⟨fun l c s hl hc hs => ?_, zx.2⟩
    have : ∀ i, x1.1 (v0 + 3) i = X.1 (v0 + 3) i := fun i => fx1 _ i (by rcases hv with rfl | rfl <;> omega)
    rw [this]
    exact zx.1 l c s hl hc hs
  obtain ⟨E2, fx2, qx2, jr3, fr3, qr3⟩ := meas_v hv j2 zv2 zx2 hl2 l22 hc2 c236 ((onN_c mE).mpr on2) hP2 e2 f3
  have k155 : ∀ c, c < 36 → x2.1 155 c = r3.1 183 (36 * l1 + c) := fun c hc => by rw [fx2 155 c (by omega), E1 c hc, fr3 183 _ (by omega), g1 _ (by omega)]
  have k156 : ∀ c, c < 36 → x2.1 156 c = r3.1 177 (36 * l2 + c) := E2
  have fr3R : ∀ kx i, kx ≠ 177 → kx ≠ 183 → r3.1 kx i = R.1 kx i := fun kx i h1 h2 => by rw [fr3 kx i h1]; exact fr2 kx i h1 h2
  have b177 : ∀ i, 0 ≤ (r3.1 177 i).toInt := fun i => (Jr_177 jr3 i).1
  have b183 : ∀ i, i < 72 → 0 ≤ (r3.1 183 i).toInt := fun i hi => by rw [fr3 183 i (by omega), g1 i hi]; exact (Jr_177 jr1 i).1
  -- the class's look round
  have fxa : ∀ kx i, kx ≠ 155 → kx ≠ 156 → x2.1 kx i = X.1 kx i := fun kx i h1 h2 => by rw [fx2 kx i h2]; exact fx1 kx i h1
  have qxa : x2.2 = X.2 := by rw [qx2, qx1]
  have hst : ∃ sv, f_Nets_stairs v0 x2 = some sv := by
    unfold f_Nets_stairs
    rw [if_pos (by rcases hv with rfl | rfl <;> decide +kernel)]
    exact ⟨_, rfl⟩
  obtain ⟨sv, hsv⟩ := hst
  have nb2 : NB v0 (onA R) 36 x2 := by
    intro l d hl
    rw [qxa]; exact nb l d hl
  have st := stairs_i hv jR kr nb2 hsv
  have S := soon_c hsv (fun c h => by
    have := (st c).mp h
    rw [k155 c (by omega), k156 c (by omega)]
    exact ⟨b183 _ (by omega), b177 _⟩) e9
  obtain ⟨W, hW⟩ : ∃ W : Nat, xw R * xh R = (W : Int) := ⟨(xw R * xh R).toNat, by omega⟩
  have W36 : W ≤ 36 := by omega
  have PE : pick (fun c => bl sv c) (fun c => mxi (x2.1 155 c) (x2.1 156 c)) 36 = pick (fun c => bl sv c) (fun c => mxi (x2.1 155 c) (x2.1 156 c)) W := by
    have := pick_s (P := fun c => bl sv c) (V := fun c => mxi (x2.1 155 c) (x2.1 156 c)) (k := W) (36 - W) (fun c h1 h2 => by
      cases hb : bl sv c with
      | false => rfl
      | true => have := ((st c).mp hb).1; omega)
    rwa [show W + (36 - W) = 36 by omega] at this
  have PB := pick_b (P := fun c => bl sv c) (V := fun c => mxi (x2.1 155 c) (x2.1 156 c)) (fun c h => by
    have := (st c).mp h
    unfold mxi
    rw [k155 c (by omega), k156 c (by omega)]
    have q1 := b183 (36 * l1 + c) (by omega)
    have q2 := b177 (36 * l2 + c)
    split
    · exact q2
    · exact q1) W
  -- the reference's
  have K : y13.1.toInt = (pick (fun c => bl sv c) (fun c => mxi (x2.1 155 c) (x2.1 156 c)) W).1 ∧ ((pick (fun c => bl sv c) (fun c => mxi (x2.1 155 c) (x2.1 156 c)) W).2 ≠ -1 → (y13.2.1 162 42).toInt = (pick (fun c => bl sv c) (fun c => mxi (x2.1 155 c) (x2.1 156 c)) W).2) ∧ (∀ kx i, ¬ (kx = 162 ∧ i = 42) → y13.2.1 kx i = r3.1 kx i) := by
    refine it_r (I := fun s : Int32 × Int32 × Mem => ∃ k : Nat, k ≤ W ∧ s.2.1.toInt = (k : Int) ∧ s.1.toInt = (pick (fun c => bl sv c) (fun c => mxi (x2.1 155 c) (x2.1 156 c)) k).1 ∧ ((pick (fun c => bl sv c) (fun c => mxi (x2.1 155 c) (x2.1 156 c)) k).2 ≠ -1 → (s.2.2.1 162 42).toInt = (pick (fun c => bl sv c) (fun c => mxi (x2.1 155 c) (x2.1 156 c)) k).2) ∧ (∀ kx i, ¬ (kx = 162 ∧ i = 42) → s.2.2.1 kx i = r3.1 kx i)) (Q := fun y13 : Int32 × Mem => y13.1.toInt = (pick (fun c => bl sv c) (fun c => mxi (x2.1 155 c) (x2.1 156 c)) W).1 ∧ ((pick (fun c => bl sv c) (fun c => mxi (x2.1 155 c) (x2.1 156 c)) W).2 ≠ -1 → (y13.2.1 162 42).toInt = (pick (fun c => bl sv c) (fun c => mxi (x2.1 155 c) (x2.1 156 c)) W).2) ∧ (∀ kx i, ¬ (kx = 162 ∧ i = 42) → y13.2.1 kx i = r3.1 kx i)) ?_ f13 ⟨0, by omega, rfl, rfl, fun h => absurd rfl h, fun _ _ _ => rfl⟩
    rintro ⟨bs, i, N⟩ u ⟨k, kW, hk, h1, h2, h3⟩ e
    dsimp only at hk h1 h2 h3
    unfold lb_Mod_findTryst_38 at e
    dsimp only at e
    obtain ⟨x4, e4, e⟩ := bo e
    have h4 : x4.toInt = (W : Int) := by
      unfold f_Mod_cells at e4
      obtain rfl := Option.some.inj e4
      rw [h3 162 2 (by omega), h3 162 3 (by omega), fr3R 162 2 (by omega) (by omega), fr3R 162 3 (by omega) (by omega)]
      rw [wh_ti jR]; exact hW
    rcases io e with ⟨g, e⟩ | ⟨g, e⟩
    · have := q_le g
      obtain rfl := Option.some.inj e
      have : k = W := by omega
      subst this
      exact ⟨h1, h2, h3⟩
    have g1 := q_ng g
    have i1 : (i + (1 : Int32)).toInt = ((k + 1 : Nat) : Int) := add_ti hk o1 (by omega) (by omega)
    obtain ⟨_, e⟩ := io_n e
    rw [q_nat hk, h3 164 k (by omega), fr3R 164 k (by omega) (by omega)] at e
    rcases io e with ⟨g3', e⟩ | ⟨g3', e⟩
    · have gb : bl sv k = true := (st k).mpr ⟨by omega, by rw [g3']; rfl⟩
      obtain ⟨_, e⟩ := io_n e
      obtain ⟨x5, e5, e⟩ := bo e
      obtain ⟨x6, e6, e⟩ := bo e
      obtain ⟨_, e⟩ := io_n e
      obtain ⟨_, e⟩ := io_n e
      obtain ⟨x7, e7, e⟩ := bo e
      obtain ⟨x8, e8, e⟩ := bo e
      obtain ⟨_, e⟩ := io_n e
      rw [q_nat hp, h3 163 p (by omega), fr3R 163 p (by omega) (by omega)] at e5
      rw [q_nat hq, h3 163 q (by omega), fr3R 163 q (by omega) (by omega)] at e7
      have v5 : x5.toInt = (l1 : Int) := by rw [(place_i (v := R.1 163 p) (by omega) (by omega)).2 e5]; omega
      have v7 : x7.toInt = (l2 : Int) := by rw [(place_i (v := R.1 163 q) (by omega) (by omega)).2 e7]; omega
      have v6 := place_c v5 hk l12 (by omega) e6
      have v8 := place_c v7 hk l22 (by omega) e8
      rw [q_nat v6, q_nat v8, h3 183 _ (by omega), h3 177 _ (by omega), ← k155 k (by omega), ← k156 k (by omega)] at e
      rcases io e with ⟨g, e⟩ | ⟨g, e⟩
      · have gl := q_lt g
        rw [mxi_i] at gl
        obtain ⟨M9, m9, e⟩ := mo e
        obtain rfl := Option.some.inj e
        refine ⟨k + 1, by omega, i1, ?_⟩
        have hlt : mxi (x2.1 155 k) (x2.1 156 k) < (pick (fun c => bl sv c) (fun c => mxi (x2.1 155 c) (x2.1 156 c)) k).1 := by omega
        rw [pick_p (P := fun c => bl sv c) (V := fun c => mxi (x2.1 155 c) (x2.1 156 c)) ⟨gb, hlt⟩]
        refine ⟨mxi_i _ _, fun _ => by rw [m9, si_eq]; exact hk, fun kx j h => by rw [m9, si_ne h]; exact h3 kx j h⟩
      · have gl := q_nl g
        rw [mxi_i] at gl
        obtain rfl := Option.some.inj e
        refine ⟨k + 1, by omega, i1, ?_⟩
        rw [pick_n (fun w => by have := w.2; omega)]
        exact ⟨h1, h2, h3⟩
    · have gb : ¬ bl sv k = true := fun h => g3' (Int32.toInt_inj.mp (((st k).mp h).2))
      obtain rfl := Option.some.inj e
      refine ⟨k + 1, by omega, i1, ?_⟩
      rw [pick_n (fun w => gb w.1)]
      exact ⟨h1, h2, h3⟩
  refine ⟨pick (fun c => bl sv c) (fun c => mxi (x2.1 155 c) (x2.1 156 c)) W, by rw [← PE]; exact S, K.1, PB.2.2.2.2.1, ⟨PB.1, PB.2.1, PB.2.2.1, by have := PB.2.2.2.1; omega⟩, K.2.1, fun c h => (PB.2.2.2.2.2 c h).symm, ⟨fxa, qxa⟩, fun kx i h1 h2 h3 => by rw [K.2.2 kx i h3]; exact fr3R kx i h1 h2⟩
theorem mw_2 {X R : Mem} {n : Nat} {a b x y : Int32} (zc : ZC X R n) (n8 : n ≤ 8) (ex : f_Top_areManAndWoman a b X = some x) (ey : f_Mod_areManWoman a b R = some y) : (x = 0 ∧ y = 0) ∨ (x = 1 ∧ y = 1 ∧ ∃ p q : Nat, a.toInt = (p : Int) ∧ b.toInt = (q : Int) ∧ p < n ∧ q < n) := by
  unfold f_Top_areManAndWoman at ex
  unfold f_Mod_areManWoman at ey
  obtain ⟨x1, ex1, ex⟩ := bo ex
  obtain ⟨y1, ey1, ey⟩ := bo ey
  have h1 := crowd_has (n := n) (by rw [zc.2.1]; exact zc.1) n8 ex1
  have g1 := isOne_i zc.1 n8 ey1
  rcases h1 with ⟨a1, b1⟩ | ⟨a1, b1⟩
  rotate_left
  · rcases g1 with ⟨_, c⟩ | ⟨c, _⟩
    · exact absurd c b1
    rw [a1, if_pos rfl] at ex
    rw [c, if_pos rfl] at ey
    exact .inl ⟨(Option.some.inj ex).symm, (Option.some.inj ey).symm⟩
  rcases g1 with ⟨c1, _⟩ | ⟨_, c⟩
  rotate_left
  · exact absurd b1 c
  rw [a1, if_neg (by decide)] at ex
  rw [c1, if_neg (by decide)] at ey
  obtain ⟨x2, ex2, ex⟩ := bo ex
  obtain ⟨y2, ey2, ey⟩ := bo ey
  have h2 := crowd_has (n := n) (by rw [zc.2.1]; exact zc.1) n8 ex2
  have g2 := isOne_i zc.1 n8 ey2
  rcases h2 with ⟨a2, b2⟩ | ⟨a2, b2⟩
  rotate_left
  · rcases g2 with ⟨_, c⟩ | ⟨c, _⟩
    · exact absurd c b2
    rw [a2, if_pos rfl] at ex
    rw [c, if_pos rfl] at ey
    exact .inl ⟨(Option.some.inj ex).symm, (Option.some.inj ey).symm⟩
  rcases g2 with ⟨c2, _⟩ | ⟨_, c⟩
  rotate_left
  · exact absurd b2 c
  rw [a2, if_neg (by decide)] at ex
  rw [c2, if_neg (by decide)] at ey
  obtain ⟨p, hp⟩ := ti_ofn b1.1
  obtain ⟨q, hq⟩ := ti_ofn b2.1
  obtain ⟨x3, ex3, ex⟩ := bo ex
  obtain ⟨y3, ey3, ey⟩ := bo ey
  have w3 := womanC hp (by omega) ex3
  have v3 := hasR hp (by omega) ey3
  rw [zc.2.2.1] at w3
  rcases io ex with ⟨g, ex⟩ | ⟨g, ex⟩
  · rw [if_pos (v3.mpr (w3.mp g))] at ey
    obtain ⟨x4, ex4, ex⟩ := bo ex
    obtain ⟨y4, ey4, ey⟩ := bo ey
    have w4 := womanC hq (by omega) ex4
    have v4 := hasR hq (by omega) ey4
    rw [zc.2.2.1] at w4
    rcases io ex with ⟨g, ex⟩ | ⟨g, ex⟩
    · rw [if_pos (v4.mpr (w4.mp g))] at ey
      exact .inl ⟨(Option.some.inj ex).symm, (Option.some.inj ey).symm⟩
    · rw [if_neg (fun h => g (w4.mpr (v4.mp h)))] at ey
      exact .inr ⟨(Option.some.inj ex).symm, (Option.some.inj ey).symm, p, q, hp, hq, by omega, by omega⟩
  · rw [if_neg (fun h => g (w3.mpr (v3.mp h)))] at ey
    exact .inl ⟨(Option.some.inj ex).symm, (Option.some.inj ey).symm⟩
theorem tryst_q {X R : Mem} {n : Nat} {a b : Int32} {x r : Int32 × Mem} (za : ZA X R n) (ex : f_Top_tryst a b X = some x) (er : f_Mod_tryst a b R = some r) : x.1 = r.1 ∧ (RR X R → RR x.2 r.2) := by
  have n8 := za.1.1
  have ym := om
  have kF : (1000000 : Int32).toInt = 1000000 := rfl
  unfold f_Mod_tryst at er
  obtain ⟨M1, m1, er⟩ := mo er
  obtain ⟨zaM, fqM⟩ := ZA_M1 za m1
  obtain ⟨_, jM, ⟨zg, zc, zl⟩, zs, zv, zw⟩ := zaM.1
  unfold f_Top_tryst at ex
  obtain ⟨x1, ex1, ex⟩ := bo ex
  obtain ⟨y2, ey2, er⟩ := bo er
  rcases mw_2 zc n8 ex1 ey2 with ⟨h1, h2⟩ | ⟨h1, h2, p, q, hp, hq, pn, qn⟩
  · rw [h1, if_pos rfl] at ex
    rw [h2, if_pos rfl] at er
    obtain rfl := Option.some.inj ex
    obtain rfl := Option.some.inj er
    exact ⟨rfl, FQ2_RR fqM⟩
  rw [h1, if_neg (by decide)] at ex
  rw [h2, if_neg (by decide)] at er
  obtain ⟨x2, ex2, ex⟩ := bo ex
  obtain ⟨y3, ey3, er⟩ := bo er
  obtain ⟨pk, s1, s2, s3, s4, s5, s6, s7, s8⟩ := soon_2 (.inl rfl) n8 jM zg.2.2.2 zs zv zw.1 zw.2 hp hq pn qn ex2 ey3
  rcases io ex with ⟨g, ex⟩ | ⟨g, ex⟩
  · have gg := q_eq g
    rw [if_pos (Int32.toInt_inj.mp (by rw [s2, s3.mpr (by omega)]; rfl))] at er
    obtain rfl := Option.some.inj ex
    obtain rfl := Option.some.inj er
    refine ⟨rfl, fun h => ?_⟩
    have h := FQ2_RR fqM h
    exact RR_f (s7.1 0 15 (by omega) (by omega)) (fun i => s7.1 161 i (by omega) (by omega)) (s8 162 12 (by omega) (by omega) (by omega)) (fun i => s8 168 i (by omega) (by omega) (by omega)) h
  · have gg := q_ne g
    rw [if_neg (fun h => by have := q_eq h; rw [s2] at this; have := s3.mp (by omega); omega)] at er
    obtain ⟨x3, e3, ex⟩ := bo ex
    obtain ⟨x4, e4, ex⟩ := bo ex
    obtain ⟨x5, e5, ex⟩ := bo ex
    obtain rfl := Option.some.inj ex
    obtain ⟨M4, m4, er⟩ := mo er
    obtain ⟨y5, ey5, er⟩ := bo er
    obtain rfl := Option.some.inj er
    obtain ⟨c, hc⟩ := ti_ofn (show 0 ≤ x2.1.toInt by omega)
    have em := empty_i e3
    have l4 := later_i hc e4
    rw [em.1 155 c (by omega), em.1 156 c (by omega), s6 c (by omega)] at l4
    have pf := put_i ey5
    refine ⟨?_, fun _ => RRn_r (by omega) (RR_n (RR_0 e3 m4) (by omega) (Int32.toInt_inj.mp (by rw [l4, s2])) e5 ey5)⟩
    show x2.1 = y5.1 162 42
    rw [pf 162 42 (by omega) (by omega), m4, si_ne (by omega)]
    exact Int32.toInt_inj.mp (by rw [s1, s5 (by omega)])
