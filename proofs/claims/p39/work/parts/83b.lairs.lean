/-! lairs: both sides -/
theorem strike_i {X x : Mem} {i : Nat} {v : Int32} (hv : v.toInt = (i : Int)) (i30 : i < 30) (e : f_Thief_strike v X = some x) : x.1 = X.1 ∧ x.2.2 = X.2.2 ∧ (∀ k q, ¬ (k = 151 ∧ (q = 2 ∨ q = 3)) → x.2.1 k q = X.2.1 k q) ∧ (∀ l c : Nat, l < 2 → c < 64 → bl (x.2.1 151 (2 + l)) c = (bl (X.2.1 151 (2 + l)) c && !bl (X.2.1 (152 + l) i) c)) := by
  have z0 := o0
  have k30 : (30 : Int32).toInt = 30 := rfl
  unfold f_Thief_strike at e
  rw [if_neg (fun h => by have := q_lt h; omega), if_neg (fun h => by have := q_le h; omega), q_nat hv] at e
  obtain ⟨_, e⟩ := io_n e
  obtain ⟨M3, m3, e⟩ := mo e
  obtain ⟨_, e⟩ := io_n e
  obtain ⟨M4, m4, e⟩ := mo e
  obtain rfl := Option.some.inj e
  have a153 : M3.2.1 153 i = X.2.1 153 i := by rw [m3, sl_ne (by omega)]
  have a3 : M3.2.1 151 3 = X.2.1 151 3 := by rw [m3, sl_ne (by omega)]
  refine ⟨by rw [m4, sl_1, m3, sl_1], ?_, fun k q h => by rw [m4, sl_ne (by omega), m3, sl_ne (by omega)], fun l c l2 hc => ?_⟩
  · rw [m4]; show M3.2.2 = _
    rw [m3]; rfl
  · have : l = 0 ∨ l = 1 := by omega
    rcases this with rfl | rfl
    · rw [show 2 + 0 = 2 from rfl, show 152 + 0 = 152 from rfl, m4, sl_ne (by omega), m3, sl_eq, bl_and, bl_not hc]
    · rw [show 2 + 1 = 3 from rfl, show 152 + 1 = 153 from rfl, m4, sl_eq, a153, a3, bl_and, bl_not hc]
/-- one run of the reference -/
theorem run_r {X X1 M T0 : Mem} {n N f : Nat} {p v1 : Int32} {sq : Nat → Mem} {r : Int32 × Mem} {Z R' : Mem} (za : ZA X T0 n) (jM : J M) (zaM : ZA X M n) (mE : MapEq T0 M) (e1 : f_Scene_copy 25 11 X = some X1) (t1 : sq 0 = X1) (t3 : ∀ j, j < N → ∃ y, f_Clock_pass 25 32 (sq j) = some y ∧ (sq (j + 1)).1 = y.1 ∧ (sq (j + 1)).2.2 = y.2.2 ∧ ∀ k q, k ≠ 152 → k ≠ 153 → (sq (j + 1)).2.1 k q = y.2.1 k q) (hN : v1.toInt = (N : Int)) (N1 : 1 ≤ N) (N30 : N ≤ 30) (hp : p.toInt = (f : Int)) (f72 : f < 72) (onf : onP M (f : Int)) (er : f_Mod_thiefIn p v1 T0 = some r) : (r.1 = 1000000 ↔ ∃ w, w < 72 ∧ Fw (EA M 163) (fun i u => OX (sq (i + 1)) n u) f N w) ∧ J r.2 ∧ (∀ kx i, CRr kx i → r.2.1 kx i = T0.1 kx i) ∧ (∀ i, r.2.1 188 i = T0.1 188 i) ∧ r.2.1 162 12 = T0.1 162 12 ∧ ∀ i, r.2.1 168 i = T0.1 168 i := by
  have km : (1000000 : Int32).toInt = 1000000 := rfl
  obtain ⟨_, _, _, _, zvM, zwM⟩ := zaM.1
  unfold f_Mod_thiefIn at er
  obtain ⟨R1, g1, er⟩ := bo er
  obtain ⟨R6, g6, er⟩ := bo er
  obtain ⟨t, gt, er⟩ := bo er
  obtain ⟨zt1, fq1⟩ := begin_t za.1 e1 g1
  obtain ⟨_, _, l2⟩ := lay_t za.1.2.1 g1
  obtain ⟨n8, j1, zb1, zs1, zv1, zw1⟩ := zt1
  obtain ⟨p1, p2, p3⟩ := place1_r j1 hp g6
  have agr : AgR R1 R6 := ⟨p2 162 2 (by omega), p2 162 3 (by omega), p2 162 4 (by omega), p2 162 5 (by omega), p2 162 23 (by omega), fun i => p2 164 i (by omega), fun i => p2 165 i (by omega), fun i => p2 166 i (by omega), fun i => p2 172 i (by omega)⟩
  have zt6 : ZT (sq 0) R6 n := by
    rw [t1]
    exact ⟨n8, p1, ZB_a AgX_r agr zb1, ZS_c n8 SEq_r (fun i _ => (p2 176 i (by omega)).symm) zs1, ZV_a n8 agr (fun i _ => p2 176 i (by omega)) zv1, ZW_a AgX_r agr (plk_c (fun i _ _ => p2 176 i (by omega)) zv1.2.1.2) zw1⟩
  have fq6 : FQ2 X T0 (sq 0) R6 := by
    rw [t1]
    exact FQ2_t fq1 ⟨Fz_r, fun kx i h => p2 kx i (by unfold CRr CR at h; omega), ⟨rfl, fun _ => rfl⟩, p2 162 12 (by omega), fun i => p2 168 i (by omega)⟩
  have hE : ∀ v u, EA M 163 v u → onP M (u : Int) := fun v u h => h.2.2.2.1
  have K : (∃ B, t = .inl B ∧ (∃ w, w < 72 ∧ Fw (EA M 163) (fun i u => OX (sq (i + 1)) n u) f N w) ∧ J B ∧ (∀ kx i, CRr kx i → B.1 kx i = T0.1 kx i) ∧ (∀ i, B.1 188 i = T0.1 188 i) ∧ B.1 162 12 = T0.1 162 12 ∧ ∀ i, B.1 168 i = T0.1 168 i) ∨ (∃ k B, t = .inr (k, B) ∧ k.toInt ≤ 30 ∧ (¬ ∃ w, w < 72 ∧ Fw (EA M 163) (fun i u => OX (sq (i + 1)) n u) f N w) ∧ J B ∧ (∀ kx i, CRr kx i → B.1 kx i = T0.1 kx i) ∧ (∀ i, B.1 188 i = T0.1 188 i) ∧ B.1 162 12 = T0.1 162 12 ∧ ∀ i, B.1 168 i = T0.1 168 i) := by
    refine it_r (I := fun s : Int32 × Mem => ∃ k : Nat, k ≤ N ∧ s.1.toInt = ((k + 1 : Nat) : Int) ∧ ZT (sq k) s.2 n ∧ FQ2 X T0 (sq k) s.2 ∧ (∀ u, u < 72 → (mayb 186 s.2 u ↔ Fw (EA M 163) (fun i u => OX (sq (i + 1)) n u) f k u)) ∧ (∀ i, s.2.1 188 i = T0.1 188 i) ∧ ∃ w, w < 72 ∧ Fw (EA M 163) (fun i u => OX (sq (i + 1)) n u) f k w) (Q := fun t : Mem ⊕ (Int32 × Mem) => (∃ B, t = .inl B ∧ (∃ w, w < 72 ∧ Fw (EA M 163) (fun i u => OX (sq (i + 1)) n u) f N w) ∧ J B ∧ (∀ kx i, CRr kx i → B.1 kx i = T0.1 kx i) ∧ (∀ i, B.1 188 i = T0.1 188 i) ∧ B.1 162 12 = T0.1 162 12 ∧ ∀ i, B.1 168 i = T0.1 168 i) ∨ (∃ k B, t = .inr (k, B) ∧ k.toInt ≤ 30 ∧ (¬ ∃ w, w < 72 ∧ Fw (EA M 163) (fun i u => OX (sq (i + 1)) n u) f N w) ∧ J B ∧ (∀ kx i, CRr kx i → B.1 kx i = T0.1 kx i) ∧ (∀ i, B.1 188 i = T0.1 188 i) ∧ B.1 162 12 = T0.1 162 12 ∧ ∀ i, B.1 168 i = T0.1 168 i)) ?_ gt ⟨0, by omega, rfl, zt6, fq6, fun u hu => p3 u hu, fun i => by rw [p2 188 i (by omega)]; exact l2 188 i (by omega), f, f72, rfl⟩
    rintro ⟨i, T⟩ r ⟨k, kN, hk, zt, fq, tm, f188, w, w72, hw⟩ e
    dsimp only at hk zt fq tm f188
    unfold lb_Mod_thiefIn_44 at e
    dsimp only at e
    rcases io e with ⟨g, e⟩ | ⟨g, e⟩
    · have gl := q_lt g
      obtain rfl := Option.some.inj e
      have : k = N := by omega
      subst this
      exact .inl ⟨_, rfl, ⟨w, w72, hw⟩, zt.2.1, fq.2.1, f188, fq.2.2.2.1, fq.2.2.2.2⟩
    have gl := q_nl g
    obtain ⟨x7, e7, e⟩ := bo e
    obtain ⟨x8, e8, e⟩ := bo e
    obtain ⟨y, ey, s1, s2, s3⟩ := t3 k (by omega)
    obtain ⟨zt2, pp, fq2⟩ := pass_t zt ey e7
    have fr : Fx mG176 [] T x7 := wf_Mod_goMinute 176 T (by decide +kernel) (oc_c (sb_r _) (by decide +kernel)) Fx_r e7
    have a186 : ∀ u, x7.1 186 u = T.1 186 u := fun u => (fr 186 u (by rw [show sl 186 u = 186 from rfl]; decide +kernel) (by simp)).1
    have a188 : ∀ u, x7.1 188 u = T.1 188 u := fun u => (fr 188 u (by rw [show sl 188 u = 188 from rfl]; decide +kernel) (by simp)).1
    have fs : FQ2 y x7 (sq (k + 1)) x7 := ⟨⟨fun kx i _ => by rw [s1], fun i => s3 33 i (by omega) (by omega), fun i => s3 34 i (by omega) (by omega), fun i => by rw [s2], fun i => by rw [s2]⟩, fun _ _ _ => rfl, ⟨by rw [s1], fun i => by rw [s1]⟩, rfl, fun _ => rfl⟩
    have fq3 : FQ2 X T0 (sq (k + 1)) x7 := FQ2_t fq (FQ2_t fq2 fs)
    have zt3 : ZT (sq (k + 1)) x7 n := by
      obtain ⟨n8, j2, zb2, zs2, zv2, zw2⟩ := zt2
      have agx : AgX y (sq (k + 1)) := ⟨by rw [s1], by rw [s1], fun q => by rw [s1], by rw [s1], by rw [s1], fun q => by rw [s1], fun q => by rw [s1], by rw [s1], fun q => by rw [s1], fun q => by rw [s1], fun q => s3 33 q (by omega) (by omega), fun q => s3 34 q (by omega) (by omega)⟩
      exact ⟨n8, j2, ZB_a agx AgR_r zb2, ZS_c n8 (scn_f (fun kx i _ _ => by rw [s1])) (fun _ _ => rfl) zs2, zv2, ZW_a agx AgR_r (fun _ _ => Iff.rfl) zw2⟩
    have mE7 : MapEq x7 M := ⟨by rw [fq3.2.1 162 2 (by unfold CRr CR; omega)]; exact mE.1, by rw [fq3.2.1 162 3 (by unfold CRr CR; omega)]; exact mE.2.1, fun i => by rw [fq3.2.1 164 i (by unfold CRr CR; omega)]; exact mE.2.2 i⟩
    obtain ⟨_, j7, ⟨zg7, zc7, zl7⟩, zs7, zv7, zw7⟩ := zt3
    have tm7 : ∀ u, u < 72 → (mayb 186 x7 u ↔ Fw (EA M 163) (fun i u => OX (sq (i + 1)) n u) f k u) := fun u hu => by
      unfold mayb
      rw [a186]; exact tm u hu
    obtain ⟨q1, q2, q3, q4⟩ := thief_r j7 (KP_v zv7) zc7.1 n8 (fun v hv hm => (onP_c mE7).mpr (Fw_A onf hE k v ((tm7 v hv).mp hm))) e8
    have ed : ∀ v u, EA x7 176 v u ↔ EA M 163 v u := fun v u => by
      rw [EA_near j7 zv7 zw7, EA_near jM zvM zwM]
      exact NE_m mE7 (fun i => fq3.1.2.2.1 i)
    have tm8 : ∀ u, u < 72 → (mayb 186 x8.2 u ↔ Fw (EA M 163) (fun i u => OX (sq (i + 1)) n u) f (k + 1) u) := by
      intro u hu
      rw [q3 u hu, ← OX_R zs7 hu, tm7 u hu]
      constructor
      · rintro ⟨h | ⟨v, h, g⟩, o⟩
        · exact ⟨.inl h, o⟩
        · exact ⟨.inr ⟨v, (tm7 v g.1).mp h, (ed v u).mp g⟩, o⟩
      · rintro ⟨h | ⟨v, h, g⟩, o⟩
        · exact ⟨.inl h, o⟩
        · exact ⟨.inr ⟨v, (tm7 v g.1).mpr h, (ed v u).mpr g⟩, o⟩
    have fr8 : FQ2 X T0 (sq (k + 1)) x8.2 := FQ2_t fq3 ⟨Fz_r, fun kx i h => q2 kx i (by unfold CRr CR at h; omega) (by unfold CRr CR at h; omega), ⟨rfl, fun _ => rfl⟩, q2 162 12 (by omega) (by omega), fun i => q2 168 i (by omega) (by omega)⟩
    have f188' : ∀ i, x8.2.1 188 i = T0.1 188 i := fun i => by rw [q2 188 i (by omega) (by omega), a188]; exact f188 i
    rcases io e with ⟨g8, e⟩ | ⟨g8, e⟩
    · obtain rfl := Option.some.inj e
      refine .inr ⟨_, _, rfl, by omega, ?_, q1, fr8.2.1, f188', fr8.2.2.2.1, fr8.2.2.2.2⟩
      have no := q4.mp g8
      have all : ∀ d u, ¬ Fw (EA M 163) (fun i u => OX (sq (i + 1)) n u) f (k + 1 + d) u := by
        intro d
        induction d with
        | zero =>
          intro u h
          have u72 : u < 72 := by
            have := Fw_A onf hE (k + 1) u h
            have := this.2.1
            omega
          exact no u u72 ((tm8 u u72).mpr h)
        | succ d ih =>
          rintro u ⟨h | ⟨v, h, _⟩, _⟩
          · exact ih u h
          · exact ih v h
      rintro ⟨w, _, h⟩
      refine all (N - (k + 1)) w ?_
      rw [show k + 1 + (N - (k + 1)) = N by omega]
      exact h
    · obtain rfl := Option.some.inj e
      have ex : ∃ w, w < 72 ∧ mayb 186 x8.2 w := Classical.byContradiction (fun h => g8 (q4.mpr (fun u hu hh => h ⟨u, hu, hh⟩)))
      obtain ⟨w', w72', hw'⟩ := ex
      have agr8 : AgR x7 x8.2 := ⟨q2 162 2 (by omega) (by omega), q2 162 3 (by omega) (by omega), q2 162 4 (by omega) (by omega), q2 162 5 (by omega) (by omega), q2 162 23 (by omega) (by omega), fun i => q2 164 i (by omega) (by omega), fun i => q2 165 i (by omega) (by omega), fun i => q2 166 i (by omega) (by omega), fun i => q2 172 i (by omega) (by omega)⟩
      refine ⟨k + 1, by omega, add_ti hk o1 (by omega) (by omega), ⟨n8, q1, ZB_a AgX_r agr8 ⟨zg7, zc7, zl7⟩, ZS_c n8 SEq_r (fun i _ => (q2 176 i (by omega) (by omega)).symm) zs7, ZV_a n8 agr8 (fun i _ => q2 176 i (by omega) (by omega)) zv7, ZW_a AgX_r agr8 (plk_c (fun i _ _ => q2 176 i (by omega) (by omega)) zv7.2.1.2) zw7⟩, fr8, tm8, f188', w', w72', (tm8 w' w72').mp hw'⟩
  rcases K with ⟨B, rfl, hw, h1, h2, h3, h4, h5⟩ | ⟨k, B, rfl, hk, hw, h1, h2, h3, h4, h5⟩
  · have er := el_l er
    obtain rfl := Option.some.inj er
    exact ⟨⟨fun _ => hw, fun _ => rfl⟩, h1, h2, h3, h4, h5⟩
  · have er := el_r er
    obtain rfl := Option.some.inj er
    exact ⟨⟨fun h => by have := q_eq h; exfalso; dsimp only at this; omega, fun h => absurd h hw⟩, h1, h2, h3, h4, h5⟩
theorem cnt_c {P Q : Nat → Bool} {n : Nat} (h : ∀ i, i < n → P i = Q i) : (List.range n).countP P = (List.range n).countP Q := List.countP_congr (fun i hi => by rw [h i (List.mem_range.mp hi)])
theorem lairs_q {X R : Mem} {n : Nat} {v1 : Int32} {x r : Int32 × Mem} (za : ZA X R n) (ex : f_Top_lairs v1 X = some x) (er : f_Mod_lairs v1 R = some r) : x.1 = r.1 ∧ (RR X R → RR x.2 r.2) := by
  have k30 : (30 : Int32).toInt = 30 := rfl
  have k1 := o1
  have km : (1000000 : Int32).toInt = 1000000 := rfl
  have k72 : (72 : Int32).toInt = 72 := rfl
  unfold f_Mod_lairs at er
  obtain ⟨M1, m1, er⟩ := mo er
  obtain ⟨zaM, fqM⟩ := ZA_M1 za m1
  obtain ⟨n8, jM, ⟨zg, zc, zl⟩, zs, zv, zw⟩ := zaM.1
  have wh := awh jM
  obtain ⟨y2, ey2, er⟩ := bo er
  have hin := some_of (sp_in v1 1 30) ey2
  rw [o1, k30] at hin
  unfold f_Top_lairs at ex
  have out : y2 = 0 → some ((-1 : Int32), X) = some x → x.1 = r.1 ∧ (RR X R → RR x.2 r.2) := by
    intro a ex
    rw [a, if_pos rfl] at er
    obtain rfl := Option.some.inj ex
    obtain rfl := Option.some.inj er
    exact ⟨rfl, FQ2_RR fqM⟩
  rcases io ex with ⟨g, ex⟩ | ⟨g, ex⟩
  · have g := q_lt g
    rcases hin with ⟨a, b⟩ | ⟨a, b⟩
    · omega
    exact out a ex
  have g1 := q_nl g
  rcases io ex with ⟨g, ex⟩ | ⟨g, ex⟩
  rotate_left
  · have g := q_ng g
    rcases hin with ⟨a, b⟩ | ⟨a, b⟩
    · omega
    exact out a ex
  have g2 := q_le g
  rcases hin with ⟨a, _⟩ | ⟨_, b⟩
  rotate_left
  · exact absurd ⟨by omega, by omega⟩ b
  rw [a, if_neg (by decide)] at er
  obtain ⟨N, hN⟩ := ti_ofn (v := v1) (by omega)
  obtain ⟨X1, e1, ex⟩ := bo ex
  obtain ⟨x7, e7, ex⟩ := bo ex
  obtain ⟨M8, m8, ex⟩ := mo ex
  obtain ⟨M9, m9, ex⟩ := mo ex
  obtain ⟨x13, e13, ex⟩ := bo ex
  obtain ⟨x14, e14, ex⟩ := bo ex
  obtain ⟨x15, e15, ex⟩ := bo ex
  obtain ⟨x16, e16, ex⟩ := bo ex
  obtain ⟨x17, e17, ex⟩ := bo ex
  obtain ⟨x18, e18, ex⟩ := bo ex
  obtain rfl := Option.some.inj ex
  obtain ⟨x12, f12, er⟩ := bo er
  obtain ⟨M13, m13, er⟩ := mo er
  obtain ⟨x14', f14, er⟩ := bo er
  obtain rfl := Option.some.inj er
  obtain ⟨R1, gR1, _⟩ := fs_lay 163 176 (0 : Int32) jM (.inl rfl) (by decide) (by decide +kernel) (by decide) (by decide) (by decide +kernel) (by decide +kernel) (by decide)
  obtain ⟨zt1, fq1⟩ := begin_t zaM.1 e1 gR1
  obtain ⟨sq, t1, t2, t3, t4, t5⟩ := trace_c zt1 hN (by omega) e7
  -- backward
  obtain ⟨TN', ztN, fqN⟩ := t2 N (Nat.le_refl N)
  rw [← t4] at fqN
  have fz7 : Fz X x7 := Fz_t fq1.1 fqN.1
  have zaS : ∀ S : Mem, S.1 = x7.1 → S.2.2 = x7.2.2 → (∀ k q, ¬ (k = 151 ∧ (q = 2 ∨ q = 3)) → S.2.1 k q = x7.2.1 k q) → ZA S M1 n := fun S h1 h2 h3 => ZA_z zaM jM (fun kx i w => by rw [h1]; exact fz7.1 kx i w) (fun i => by rw [h3 33 i (by omega)]; exact fz7.2.1 i) (fun i => by rw [h3 34 i (by omega)]; exact fz7.2.2.1 i) (fun i => by rw [h2]; exact fz7.2.2.2.1 i) (fun i => by rw [h2]; exact fz7.2.2.2.2 i) (fun _ _ _ => rfl)
  have hE : ∀ v u, EA M1 163 v u → onP M1 (u : Int) := fun v u h => h.2.2.2.1
  have net : ∀ l c : Nat, l < 2 → (bl (x7.2.1 33 l) c = true ↔ (c < 36 ∧ onN M1 l c)) := by
    intro l c l2
    have := (zaS x7 rfl rfl (fun _ _ _ => rfl)).1.2.2.2.2.2.1 l c l2
    rw [this, onA_i jM]
  have n2 : M9.2.1 151 2 = x7.2.1 33 0 := by rw [m9, sl_ne (by omega), m8, sl_eq]; rfl
  have n3 : M9.2.1 151 3 = x7.2.1 33 1 := by rw [m9, sl_eq, m8, sl_ne (by omega)]; rfl
  have b9 : ∀ l c : Nat, l < 2 → (bl (M9.2.1 151 (2 + l)) c = true ↔ (c < 36 ∧ onN M1 l c)) := by
    intro l c l2
    have : l = 0 ∨ l = 1 := by omega
    rcases this with rfl | rfl
    · rw [show 2 + 0 = 2 from rfl, n2]; exact net 0 c l2
    · rw [show 2 + 1 = 3 from rfl, n3]; exact net 1 c l2
  have K : x13.1 = x7.1 ∧ (∃ A, TN A x13) ∧ ∀ u, u < 72 → (TBq x13 u ↔ Bk (EA M1 163) (fun i u => OX (sq (i + 1)) n u) (fun u => onP M1 (u : Int)) N N u) := by
    refine it_r (I := fun s : Int32 × Mem => ∃ j : Nat, j ≤ N ∧ s.1.toInt = (N : Int) - 1 - (j : Int) ∧ s.2.1 = x7.1 ∧ s.2.2.2 = x7.2.2 ∧ (∀ k q, ¬ (k = 151 ∧ (q = 2 ∨ q = 3)) → s.2.2.1 k q = x7.2.1 k q) ∧ TN M1 s.2 ∧ ∀ u, u < 72 → (TBq s.2 u ↔ Bk (EA M1 163) (fun i u => OX (sq (i + 1)) n u) (fun u => onP M1 (u : Int)) N j u)) (Q := fun x13 : Mem => x13.1 = x7.1 ∧ (∃ A, TN A x13) ∧ ∀ u, u < 72 → (TBq x13 u ↔ Bk (EA M1 163) (fun i u => OX (sq (i + 1)) n u) (fun u => onP M1 (u : Int)) N N u)) ?_ e13 ⟨0, by omega, by rw [sub_ti hN o1 (by omega) (by omega)]; omega, by rw [m9, sl_1, m8, sl_1], ?_, fun k q h => by show M9.2.1 k q = _; rw [m9, sl_ne (by omega), m8, sl_ne (by omega)], ?_, ?_⟩
    · rintro ⟨i, S⟩ r ⟨j, jN, hj, s1, s2, s3, s4, s5⟩ e
      dsimp only at hj s1 s2 s3 s4 s5
      unfold lb_Top_lairs_138 at e
      dsimp only at e
      have z0 := o0
      have zm := om
      rcases io e with ⟨g, e⟩ | ⟨g, e⟩
      · have gl := q_lt g
        obtain rfl := Option.some.inj e
        have : j = N := by omega
        subst this
        exact ⟨s1, ⟨_, s4⟩, s5⟩
      have gl := q_nl g
      obtain ⟨x10, e10, e⟩ := bo e
      obtain ⟨x11, e11, e⟩ := bo e
      obtain rfl := Option.some.inj e
      have hi : i.toInt = ((N - 1 - j : Nat) : Int) := by omega
      obtain ⟨q1, q2, q3, q4⟩ := strike_i hi (by omega) e10
      have bits : ∀ u, u < 72 → (TBq x10 u ↔ TBq S u ∧ ¬ OX (sq (N - 1 - j + 1)) n u) := by
        intro u hu
        have b := q4 (u / 36) (u % 36) (by omega) (by omega)
        have o := t5 (N - 1 - j) (by omega) (u / 36) (u % 36) (by omega) (by omega)
        rw [show 36 * (u / 36) + u % 36 = u by omega, ← s3 _ _ (by omega)] at o
        unfold TBq
        rw [b, Bool.and_eq_true, Bool.not_eq_true', ← Bool.not_eq_true, o]
      have tn10 : TN M1 x10 := by
        intro l c l2 h
        have c64 : c < 64 := by
          rcases Nat.lt_or_ge c 64 with w | w
          · exact w
          · rw [bl_hi w] at h; cases h
        rw [q4 l c l2 c64, Bool.and_eq_true] at h
        exact s4 l c l2 h.1
      have zaX := zaS x10 (by rw [q1, s1]) (by rw [q2, s2]) (fun k q h => by rw [q3 k q h]; exact s3 k q h)
      obtain ⟨w1, w2, w3, w4, w5⟩ := stir_c jM (KP_v zv) zv zaX.1.2.2.2.2.2 zg.2.2.2 tn10 e11
      refine ⟨j + 1, by omega, by rw [add_ti hi zm (by omega) (by omega)]; omega, by show x11.1 = _; rw [w1, q1, s1], by show x11.2.2 = _; rw [w2, q2, s2], fun k q h => by show x11.2.1 k q = _; rw [w3 k q h, q3 k q h]; exact s3 k q h, w4, fun u hu => ?_⟩
      rw [w5 u hu]
      constructor
      · rintro (h | ⟨v, h, g⟩)
        · obtain ⟨a, b⟩ := (bits u hu).mp h
          exact .inl ⟨(s5 u hu).mp a, b⟩
        · obtain ⟨a, b⟩ := (bits v g.1).mp h
          exact .inr ⟨v, ⟨(s5 v g.1).mp a, b⟩, g⟩
      · rintro (⟨a, b⟩ | ⟨v, ⟨a, b⟩, g⟩)
        · exact .inl ((bits u hu).mpr ⟨(s5 u hu).mpr a, b⟩)
        · exact .inr ⟨v, (bits v g.1).mpr ⟨(s5 v g.1).mpr a, b⟩, g⟩
    · show M9.2.2 = _
      rw [m9]; show M8.2.2 = _
      rw [m8]; rfl
    · intro l c l2 h
      obtain ⟨a, b⟩ := (b9 l c l2).mp h
      exact ⟨a, (onP_lc l2 a).mpr b⟩
    · intro u hu
      show TBq M9 u ↔ onP M1 (u : Int)
      unfold TBq
      rw [b9 (u / 36) (u % 36) (by omega), ← onP_lc (by omega) (by omega), show 36 * (u / 36) + u % 36 = u by omega]
      constructor
      · intro h; exact h.2
      · intro h; exact ⟨by omega, h⟩
  obtain ⟨K1, ⟨A, K2⟩, K3⟩ := K
  -- the reference: one run for each place
  have B : x12.1.toInt = (((List.range 72).countP (fun u => decide (x12.2.1 188 u ≠ 0)) : Nat) : Int) ∧ ∀ u, u < 72 → (mayb 188 x12.2 u ↔ Bk (EA M1 163) (fun i u => OX (sq (i + 1)) n u) (fun u => onP M1 (u : Int)) N N u) := by
    refine it_r (I := fun s : Int32 × Int32 × Mem => ∃ k : Nat, k ≤ 72 ∧ s.2.1.toInt = (k : Int) ∧ J s.2.2 ∧ (∀ kx i, CRr kx i → s.2.2.1 kx i = M1.1 kx i) ∧ s.1.toInt = (((List.range k).countP (fun u => decide (s.2.2.1 188 u ≠ 0)) : Nat) : Int) ∧ ∀ u, u < k → (mayb 188 s.2.2 u ↔ Bk (EA M1 163) (fun i u => OX (sq (i + 1)) n u) (fun u => onP M1 (u : Int)) N N u)) (Q := fun x12 : Int32 × Mem => x12.1.toInt = (((List.range 72).countP (fun u => decide (x12.2.1 188 u ≠ 0)) : Nat) : Int) ∧ ∀ u, u < 72 → (mayb 188 x12.2 u ↔ Bk (EA M1 163) (fun i u => OX (sq (i + 1)) n u) (fun u => onP M1 (u : Int)) N N u)) ?_ f12 ⟨0, by omega, rfl, jM, fun _ _ _ => rfl, rfl, fun u h => by omega⟩
    rintro ⟨sm, i, T⟩ r ⟨k, k72', hk, jT, fT, hs, hm⟩ e
    dsimp only at hk jT fT hs hm
    unfold lb_Mod_lairs_21 at e
    dsimp only at e
    rcases io e with ⟨g, e⟩ | ⟨g, e⟩
    · have := q_le g
      obtain rfl := Option.some.inj e
      have : k = 72 := by omega
      subst this
      exact ⟨hs, hm⟩
    have gl := q_ng g
    have k72'' : k < 72 := by omega
    have i1 : (i + (1 : Int32)).toInt = ((k + 1 : Nat) : Int) := add_ti hk o1 (by omega) (by omega)
    obtain ⟨x3, f3, e⟩ := bo e
    obtain ⟨x4, f4, e⟩ := bo e
    obtain ⟨x5, f5, e⟩ := bo e
    have c3 : x3.toInt = ((k / 36 : Nat) : Int) := by rw [(place_i (v := i) (by omega) (by omega)).2 f3, hk]; omega
    have c4 : x4.toInt = ((k % 36 : Nat) : Int) := by rw [(place_i (v := i) (by omega) (by omega)).1 f4, hk]; omega
    have mE : MapEq T M1 := ⟨fT 162 2 (by unfold CRr CR; omega), fT 162 3 (by unfold CRr CR; omega), fun i => fT 164 i (by unfold CRr CR; omega)⟩
    have hof := some_of (fs_isOf jT x3 x4) f5
    rw [c3, c4, onN_c mE] at hof
    have onk : onP M1 (k : Int) ↔ onN M1 ((k / 36 : Nat) : Int) ((k % 36 : Nat) : Int) := by
      rw [← onP_lc (by omega) (by omega), show 36 * (k / 36) + k % 36 = k by omega]
    have body : ∀ (w : Int32) (T' : Mem), J T' → (∀ kx i, CRr kx i → T'.1 kx i = M1.1 kx i) → (∀ i, T'.1 188 i = T.1 188 i) → (w = 0 ∨ w = 1) → (w ≠ 0 ↔ Bk (EA M1 163) (fun i u => OX (sq (i + 1)) n u) (fun u => onP M1 (u : Int)) N N k) → j_Mod_lairs_64_21 v1 sm i w i T' = some r → Sum.elim (fun s : Int32 × Int32 × Mem => ∃ k : Nat, k ≤ 72 ∧ s.2.1.toInt = (k : Int) ∧ J s.2.2 ∧ (∀ kx i, CRr kx i → s.2.2.1 kx i = M1.1 kx i) ∧ s.1.toInt = (((List.range k).countP (fun u => decide (s.2.2.1 188 u ≠ 0)) : Nat) : Int) ∧ ∀ u, u < k → (mayb 188 s.2.2 u ↔ Bk (EA M1 163) (fun i u => OX (sq (i + 1)) n u) (fun u => onP M1 (u : Int)) N N u)) (fun x12 : Int32 × Mem => x12.1.toInt = (((List.range 72).countP (fun u => decide (x12.2.1 188 u ≠ 0)) : Nat) : Int) ∧ ∀ u, u < 72 → (mayb 188 x12.2 u ↔ Bk (EA M1 163) (fun i u => OX (sq (i + 1)) n u) (fun u => onP M1 (u : Int)) N N u)) r := by
      intro w T' jT' fT' h188 hw hq e
      unfold j_Mod_lairs_64_21 at e
      obtain ⟨_, e⟩ := io_n e
      obtain ⟨M6, m6, e⟩ := mo e
      obtain ⟨_, e⟩ := io_n e
      have wn : vp_nar .boolean w = w := by
        rcases hw with rfl | rfl
        · exact vb_0
        · exact vb_1
      rw [q_nat hk, wn] at m6
      have ek : M6.1 188 k = w := by rw [m6, si_eq]
      have en : ∀ u, u ≠ k → M6.1 188 u = T.1 188 u := fun u h => by rw [m6, si_ne (by omega)]; exact h188 u
      have j6 : J M6 := by
        rw [m6]
        rcases hw with rfl | rfl
        · exact Jw_188 jT' k _ (by decide) (by decide)
        · exact Jw_188 jT' k _ (by decide) (by decide)
      have f6 : ∀ kx i, CRr kx i → M6.1 kx i = M1.1 kx i := fun kx i h => by rw [m6, si_ne (by unfold CRr CR at h; omega)]; exact fT' kx i h
      have h6 : ∀ u, u < k + 1 → (mayb 188 M6 u ↔ Bk (EA M1 163) (fun i u => OX (sq (i + 1)) n u) (fun u => onP M1 (u : Int)) N N u) := fun u hu => by
        unfold mayb
        by_cases c : u = k
        · subst c; rw [ek]; exact hq
        · rw [en u c]; exact hm u (by omega)
      have cn : (List.range k).countP (fun u => decide (M6.1 188 u ≠ 0)) = (List.range k).countP (fun u => decide (T.1 188 u ≠ 0)) := cnt_c (fun u hu => by rw [en u (by omega)])
      have le := cnt_le (fun u => decide (M6.1 188 u ≠ 0)) k
      rw [q_nat hk, ek] at e
      rcases io e with ⟨g, e⟩ | ⟨g, e⟩
      · obtain rfl := Option.some.inj e
        refine ⟨k + 1, by omega, i1, j6, f6, ?_, h6⟩
        show (sm + (0 : Int32)).toInt = _
        rw [cnt_s, if_neg (by rw [decide_eq_true_eq, ek]; exact fun h => h g), cn, add_ti hs o0 (by omega) (by omega)]; omega
      · obtain rfl := Option.some.inj e
        refine ⟨k + 1, by omega, i1, j6, f6, ?_, h6⟩
        show (sm + (1 : Int32)).toInt = _
        rw [cnt_s, if_pos (by rw [decide_eq_true_eq, ek]; exact g), cn, add_ti hs o1 (by omega) (by omega)]; omega
    rcases hof with ⟨hx, on⟩ | ⟨hx, on⟩
    rotate_left
    · rw [hx, if_pos rfl] at e
      exact body 0 T jT fT (fun _ => rfl) (.inl rfl) ⟨fun h => absurd rfl h, fun h => absurd (onk.mp (Bk_A hE N k h)) on⟩ e
    rw [hx, if_neg (by decide)] at e
    obtain ⟨x8, f8, e⟩ := bo e
    have zaT : ZA X T n := ZA_z zaM jT (fun _ _ _ => rfl) (fun _ => rfl) (fun _ => rfl) (fun _ => rfl) (fun _ => rfl) fT
    obtain ⟨r1, r2, r3, r4, _, _⟩ := run_r (Z := T) (R' := T) zaT jM zaM mE e1 t1 t3 hN (by omega) (by omega) hk k72'' (onk.mpr on) f8
    have sym : ∀ v u, EA M1 163 v u → EA M1 163 u v := fun v u h => EA_sym jM (KP_v zv) h
    have fb := fb_i (E := EA M1 163) (O := fun i u => OX (sq (i + 1)) n u) (A := fun u => onP M1 (u : Int)) (f := k) (N := N) (onk.mpr on) hE sym
    have fin : (x8.1 = 1000000 ↔ Bk (EA M1 163) (fun i u => OX (sq (i + 1)) n u) (fun u => onP M1 (u : Int)) N N k) := by
      rw [r1, ← fb]
      constructor
      · rintro ⟨w, _, h⟩; exact ⟨w, h⟩
      · rintro ⟨w, h⟩
        have := Fw_A (A := fun u => onP M1 (u : Int)) (onk.mpr on) hE N w h
        exact ⟨w, by have := this.2.1; omega, h⟩
    have f8' : ∀ kx i, CRr kx i → x8.2.1 kx i = M1.1 kx i := fun kx i h => by rw [r3 kx i h]; exact fT kx i h
    rcases io e with ⟨g, e⟩ | ⟨g, e⟩
    · exact body 1 x8.2 r2 f8' r4 (.inr rfl) ⟨fun _ => fin.mp g, fun _ => by decide⟩ e
    · exact body 0 x8.2 r2 f8' r4 (.inl rfl) ⟨fun h => absurd rfl h, fun h => absurd (fin.mpr h) g⟩ e
  obtain ⟨B1, B2⟩ := B
  -- told alike, counted alike
  have em := empty_i e14
  have s14 : x14.2 = x13.2 := em.2
  have s15 : x15.2 = x14.2 := noteSet_2 e15
  have s16 : x16.2 = x15.2 := noteSet_2 e16
  rw [s14] at e15
  rw [s15, s14] at e16
  rw [s16, s15, s14] at e17 e18
  have mb : ∀ l c, mayB 188 M13 l c = mayB 188 x12.2 l c := fun l c => by unfold mayB; rw [m13, si_ne (by omega)]
  have tb : ∀ l c : Nat, l < 2 → (bl (x13.2.1 151 (2 + l)) c = true ↔ (c < 36 ∧ mayB 188 M13 l c = true)) := by
    intro l c l2
    constructor
    · intro h
      have c36 := (K2 l c l2 h).1
      refine ⟨c36, ?_⟩
      rw [mb]
      exact decide_eq_true ((B2 _ (by omega)).mpr ((K3 _ (by omega)).mp ((TBq_lc l2 c36).mpr h)))
    · rintro ⟨c36, h⟩
      rw [mb] at h
      have h' : x12.2.1 188 (36 * l + c) ≠ 0 := of_decide_eq_true h
      exact (TBq_lc l2 c36).mp ((K3 _ (by omega)).mpr ((B2 _ (by omega)).mp h'))
  refine ⟨?_, fun _ => told_2 (k := 188) (R := M13) ⟨by omega, by omega, by omega⟩ tb e15 e16 (RR_0 e14 m13) f14⟩
  have h17 := bitc e17
  have h18 := bitc e18
  rw [cnt_64 (Q := mayB 188 M13 0) (fun c _ => tb 0 c (by omega))] at h17
  rw [cnt_64 (Q := mayB 188 M13 1) (fun c _ => tb 1 c (by omega))] at h18
  have l0 := cnt_le (mayB 188 M13 0) 36
  have l1 := cnt_le (mayB 188 M13 1) 36
  refine Int32.toInt_inj.mp ?_
  show (x17 + x18).toInt = x12.1.toInt
  rw [add_ti h17 h18 (by omega) (by omega), B1, show 72 = 36 + 36 from rfl, cnt_add, cnt_c (P := fun u => decide (x12.2.1 188 u ≠ 0)) (Q := mayB 188 M13 0) (fun c _ => by rw [mb]; unfold mayB; rw [show 36 * 0 + c = c by omega]), cnt_c (P := fun i => decide (x12.2.1 188 (36 + i) ≠ 0)) (Q := mayB 188 M13 1) (fun c _ => by rw [mb]; unfold mayB; rfl)]
  omega
