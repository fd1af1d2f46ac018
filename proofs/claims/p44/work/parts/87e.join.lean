section
/-! part -/
def PN (X : Mem) (a b : Int32) (v3 : Int64) (s : Nat) (P : Int64 → Prop) : Prop := ∃ (sv : Int32) (z : Int64), sv.toInt = (s : Int) ∧ f_Top_partedBy a b v3 sv (0 : Int64) X = some z ∧ P z
def PT (R : Mem) (a b : Int32) (s : Nat) (P : Int32 → Prop) : Prop := ∃ (M5 : Mem) (sv : Int32) (y : Int32 × Mem), sv.toInt = (s : Int) ∧ CSx R M5 (fun d => bl 0 d) ∧ J M5 ∧ f_Mod_parts a b (0 : Int32) sv (0 : Int32) M5 = some y ∧ P y.1
theorem pt_c {X : Mem} {a b : Int32} {v3 : Int64} {x : Unit ⊕ (Int32 × Int64)} (e : iter (lb_Top_part_67 a b v3 X) FU (0 : Int32) = some x) : Sum.elim (fun _ : Unit => ∀ s : Nat, s ≤ 3 → PN X a b v3 s (fun z => lg_cmp z (0 : Int64) < 0)) (fun y : Int32 × Int64 => ∃ s : Nat, s ≤ 3 ∧ y.1.toInt = (s : Int) ∧ PN X a b v3 s (fun z => ¬ lg_cmp z (0 : Int64) < 0) ∧ ∀ s' : Nat, s' < s → PN X a b v3 s' (fun z => lg_cmp z (0 : Int64) < 0)) x := by
  have z3 := o3
  refine it_r (I := fun s : Int32 => ∃ k : Nat, s.toInt = (k : Int) ∧ k ≤ 4 ∧ ∀ s' : Nat, s' < k → PN X a b v3 s' (fun z => lg_cmp z (0 : Int64) < 0))
    (Q := fun x : Unit ⊕ (Int32 × Int64) => Sum.elim (fun _ : Unit => ∀ s : Nat, s ≤ 3 → PN X a b v3 s (fun z => lg_cmp z (0 : Int64) < 0)) (fun y : Int32 × Int64 => ∃ s : Nat, s ≤ 3 ∧ y.1.toInt = (s : Int) ∧ PN X a b v3 s (fun z => ¬ lg_cmp z (0 : Int64) < 0) ∧ ∀ s' : Nat, s' < s → PN X a b v3 s' (fun z => lg_cmp z (0 : Int64) < 0)) x) ?_ e ⟨0, rfl, by omega, fun s h => absurd h (by omega)⟩
  rintro sv r ⟨k, hk, k4, ih⟩ e
  unfold lb_Top_part_67 at e
  rcases io e with ⟨g, e⟩ | ⟨g, e⟩
  · have := q_lt g
    obtain rfl := Option.some.inj e
    show ∀ s : Nat, s ≤ 3 → PN X a b v3 s (fun z => lg_cmp z (0 : Int64) < 0)
    exact fun s hs => ih s (by omega)
  have g1 := q_nl g
  obtain ⟨z, ez, e⟩ := bo e
  rcases io e with ⟨g2, e⟩ | ⟨g2, e⟩
  · obtain rfl := Option.some.inj e
    refine ⟨k + 1, add_ti hk o1 (by omega) (by omega), by omega, fun s hs => ?_⟩
    by_cases q : s = k
    · subst q; exact ⟨sv, z, hk, ez, g2⟩
    · exact ih s (by omega)
  · obtain rfl := Option.some.inj e
    show ∃ s : Nat, s ≤ 3 ∧ _
    exact ⟨k, by omega, hk, ⟨sv, z, hk, ez, g2⟩, ih⟩
theorem pt_r {R N0 : Mem} {a b : Int32} (ha : 0 ≤ a.toInt ∧ a.toInt ≤ 7) (hb : 0 ≤ b.toInt ∧ b.toInt ≤ 7) (cs : CSx R N0 (fun d => bl 0 d)) (jN : J N0) {x : Mem ⊕ (Int32 × Mem)} (e : iter (lb_Mod_part_18 a b) FU ((0 : Int32), N0) = some x) : Sum.elim (fun _ : Mem => ∀ s : Nat, s ≤ 3 → PT R a b s (fun y => y = 0)) (fun y : Int32 × Mem => ∃ s : Nat, s ≤ 3 ∧ y.1.toInt = (s : Int) ∧ PT R a b s (fun y => y ≠ 0) ∧ ∀ s' : Nat, s' < s → PT R a b s' (fun y => y = 0)) x := by
  have z3 := o3
  have z0 := o0
  refine it_r (I := fun s : Int32 × Mem => ∃ k : Nat, s.1.toInt = (k : Int) ∧ k ≤ 4 ∧ J s.2 ∧ CSx R s.2 (fun d => bl 0 d) ∧ ∀ s' : Nat, s' < k → PT R a b s' (fun y => y = 0))
    (Q := fun x : Mem ⊕ (Int32 × Mem) => Sum.elim (fun _ : Mem => ∀ s : Nat, s ≤ 3 → PT R a b s (fun y => y = 0)) (fun y : Int32 × Mem => ∃ s : Nat, s ≤ 3 ∧ y.1.toInt = (s : Int) ∧ PT R a b s (fun y => y ≠ 0) ∧ ∀ s' : Nat, s' < s → PT R a b s' (fun y => y = 0)) x) ?_ e ⟨0, rfl, by omega, jN, cs, fun s h => absurd h (by omega)⟩
  clear cs jN e
  rintro ⟨sv, N⟩ r ⟨k, hk, k4, jN, cs, ih⟩ e
  dsimp only at hk jN cs
  unfold lb_Mod_part_18 at e
  dsimp only at e
  rcases io e with ⟨g, e⟩ | ⟨g, e⟩
  · have := q_lt g
    obtain rfl := Option.some.inj e
    show ∀ s : Nat, s ≤ 3 → PT R a b s (fun y => y = 0)
    exact fun s hs => ih s (by omega)
  have g1 := q_nl g
  obtain ⟨y, ey, e⟩ := bo e
  obtain ⟨j3, g3, _⟩ := some_of (sf_Mod_parts a b (0 : Int32) sv (0 : Int32) N ha hb (by omega) (by omega) (by omega) jN) ey
  rcases io e with ⟨g2, e⟩ | ⟨g2, e⟩
  · obtain rfl := Option.some.inj e
    refine ⟨k + 1, add_ti hk o1 (by omega) (by omega), by omega, j3, CS_gd cs g3, fun s hs => ?_⟩
    by_cases q : s = k
    · subst q; exact ⟨N, sv, y, hk, cs, jN, ey, g2⟩
    · exact ih s (by omega)
  · obtain rfl := Option.some.inj e
    show ∃ s : Nat, s ≤ 3 ∧ _
    exact ⟨k, by omega, hk, ⟨N, sv, y, hk, cs, jN, ey, g2⟩, ih⟩
theorem part_q {X R : Mem} {n : Nat} {a b : Int32} {x r : Int32 × Mem} (hJ : J X) (za : ZA X R n) (ex : f_Top_part a b X = some x) (er : f_Mod_part a b R = some r) : x.1 = r.1 := by
  have z0 := o0
  have z3 := o3
  unfold f_Mod_part at er
  obtain ⟨M1, m1, er⟩ := mo er
  obtain ⟨zaM, fqM⟩ := ZA_M1 za m1
  have zq := zaM.1
  obtain ⟨n8, jM, ⟨zg, zc, zl⟩, zs, zv, zw⟩ := zaM.1
  have wh := awh jM
  obtain ⟨y2, ey2, er⟩ := bo er
  unfold f_Top_part at ex
  obtain ⟨x1, ex1, ex⟩ := bo ex
  rcases mw_2 zc n8 ex1 ey2 with ⟨h1, h2⟩ | ⟨h1, h2, p, q, hp, hq, pn, qn⟩
  · rw [h1, if_pos rfl] at ex
    rw [h2, if_pos rfl] at er
    obtain rfl := Option.some.inj ex
    obtain rfl := Option.some.inj er
    rfl
  rw [h1, if_neg (by decide)] at ex
  rw [h2, if_neg (by decide)] at er
  obtain ⟨la, ca, la2, ca36, hla, hca, hPa, ona⟩ := at_2 n8 zs zv pn
  obtain ⟨lb, cb, lb2, cb36, hlb, hcb, hPb, onb⟩ := at_2 n8 zs zv qn
  obtain ⟨st, es, ex⟩ := bo ex
  obtain ⟨_, ex⟩ := io_n ex
  obtain ⟨_, ex⟩ := io_n ex
  rw [q_nat hp, q_nat hq] at ex
  obtain ⟨x3, ex3, ex⟩ := bo ex
  have sti := stairs_i (.inl rfl) jM zg.2.2.2 zw.1 es
  obtain ⟨w, hw⟩ : ∃ w : Nat, xw M1 * xh M1 = (w : Int) := ⟨(xw M1 * xh M1).toNat, by omega⟩
  have w36 : w ≤ 36 := by omega
  obtain ⟨v3, ev3⟩ : ∃ v3 : Int64, v3 = (st &&& (((1 : Int64) <<< ((X.1 12 p).toInt64 &&& 63)) ^^^ (-1 : Int64))) &&& (((1 : Int64) <<< ((X.1 12 q).toInt64 &&& 63)) ^^^ (-1 : Int64)) := ⟨_, rfl⟩
  rw [← ev3] at ex ex3
  have hv3 : ∀ d, bl v3 d = true ↔ d < w ∧ (M1.1 164 d).toInt = 3 ∧ d ≠ ca ∧ d ≠ cb := by
    intro d
    rw [ev3, bl_and, bl_and, Bool.and_eq_true, Bool.and_eq_true, sti d]
    by_cases d64 : d < 64
    · rw [bl_not d64, bl_not d64, bl_one hca (by omega), bl_one hcb (by omega), Bool.not_eq_true', Bool.not_eq_true', decide_eq_false_iff_not, decide_eq_false_iff_not]
      constructor
      · rintro ⟨⟨⟨u1, u2⟩, u3⟩, u4⟩; exact ⟨by omega, u2, u3, u4⟩
      · rintro ⟨u1, u2, u3, u4⟩; exact ⟨⟨⟨by omega, u2⟩, u3⟩, u4⟩
    · constructor
      · rintro ⟨⟨⟨u1, _⟩, _⟩, _⟩; omega
      · rintro ⟨u1, _⟩; omega
  have hs0 : ∀ d, bl 0 d = true → bl v3 d = true := fun d h => by rw [bl_0] at h; cases h
  have hl0 : ∀ s, 0 ≤ s ↔ ∀ d, bl 0 d = true → d < s := fun s => ⟨fun _ d h => absurd h (by rw [bl_0]; decide), fun _ => Nat.zero_le _⟩
  have cs0 : CSx M1 M1 (fun d => bl 0 d) := ⟨rfl, rfl, fun _ => rfl, fun _ _ => rfl, fun i h => by dsimp only at h; rw [bl_0] at h; cases h⟩
  have EQ : ∀ (s : Nat) (P : Int64 → Prop) (P' : Int32 → Prop), s ≤ 3 → PN X a b v3 s P → PT M1 a b s P' → ∃ z y, P z ∧ P' y ∧ (¬ lg_cmp z (0 : Int64) < 0 ↔ y ≠ 0) := by
    rintro s P P' s3 ⟨sv, z, hs, ez, pz⟩ ⟨M5, sv', y, hs', cs5, j5, ey, py⟩
    have : sv' = sv := Int32.toInt_inj.mp (by omega)
    subst this
    exact ⟨z, y.1, pz, py, pby_2 zq hp hq pn qn hca hcb hw w36 hv3 s 8 8 0 sv' 0 sv' 0 0 M5 z y hs (by omega) (by omega) (by omega) (by omega) (by rw [z0]; rfl) (by omega) hs0 hl0 cs5 j5 ez ey⟩
  have a7 : 0 ≤ a.toInt ∧ a.toInt ≤ 7 := by omega
  have b7 : 0 ≤ b.toInt ∧ b.toInt ≤ 7 := by omega
  obtain ⟨yl, eyl, er⟩ := bo er
  have RL := pt_r (R := M1) a7 b7 cs0 jM eyl
  have eR : (∃ N, yl = .inl N ∧ r.1 = -2) ∨ ∃ y, yl = .inr y ∧ r.1 = y.1 := by
    rcases yl with N | y
    · obtain rfl := Option.some.inj er
      exact .inl ⟨N, rfl, rfl⟩
    · rw [Sum.elim_inr] at er
      obtain ⟨M9, m9, er⟩ := mo er
      obtain ⟨x12, e12, er⟩ := bo er
      obtain rfl := Option.some.inj er
      exact .inr ⟨y, rfl, rfl⟩
  rcases io ex with ⟨g3, ex⟩ | ⟨g3, ex⟩
  · obtain ⟨xl, exl, ex⟩ := bo ex
    have CL := pt_c exl
    rcases xl with u | y9
    · obtain rfl := Option.some.inj ex
      rcases eR with ⟨N, rfl, e2⟩ | ⟨y, rfl, e2⟩
      · exact e2.symm
      · exfalso
        obtain ⟨s, s3, hs, pt, _⟩ := RL
        obtain ⟨z, y', c1, c2, c3⟩ := EQ s _ _ s3 (CL s s3) pt
        exact c3.mpr c2 c1
    · rw [Sum.elim_inr] at ex
      obtain ⟨x10, e10, ex⟩ := bo ex
      obtain ⟨x14, e14, ex⟩ := bo ex
      obtain rfl := Option.some.inj ex
      obtain ⟨s, s3, hs, pn9, lo9⟩ := CL
      rcases eR with ⟨N, rfl, e2⟩ | ⟨y, rfl, e2⟩
      · exfalso
        obtain ⟨z, y', c1, c2, c3⟩ := EQ s _ _ s3 pn9 (RL s s3)
        exact c3.mp c1 c2
      · obtain ⟨t, t3, ht, pt, lt⟩ := RL
        rw [e2]
        show y9.1 = y.1
        rcases Nat.lt_trichotomy s t with z | z | z
        · exfalso
          obtain ⟨z', y', c1, c2, c3⟩ := EQ s _ _ s3 pn9 (lt s z)
          exact c3.mp c1 c2
        · exact Int32.toInt_inj.mp (by omega)
        · exfalso
          obtain ⟨z', y', c1, c2, c3⟩ := EQ t _ _ t3 (lo9 t z) pt
          exact c3.mpr c2 c1
  · obtain rfl := Option.some.inj ex
    rcases eR with ⟨N, rfl, e2⟩ | ⟨y, rfl, e2⟩
    · exact e2.symm
    · exfalso
      obtain ⟨s, s3, hs, pt, _⟩ := RL
      obtain ⟨M5, sv, y', hs', cs5, j5, ey', py⟩ := pt
      obtain ⟨z, ez, _⟩ := sf_Top_partedBy a b v3 sv (0 : Int64) X a7 b7 (by omega) hJ
      have ng := pby_neg zq hp hq pn qn hw w36 hv3 ex3 g3 s 8 0 sv 0 z hs' s3 hs0 hl0 ez
      obtain ⟨z', y'', c1, c2, c3⟩ := EQ s (fun z => lg_cmp z (0 : Int64) < 0) (fun y => y ≠ 0) s3 ⟨sv, z, hs', ez, ng⟩ ⟨M5, sv, y', hs', cs5, j5, ey', py⟩
      exact c3.mpr c2 c1
end
section
/-! the row told: minute, minutes -/
theorem row2_r {X x4 x5 x6 R y4 y5 y6 : Mem} {a b a' b' : Int32} (e4 : f_Top_emptyRow X = some x4) (e5 : f_Top_note a x4 = some x5) (e6 : f_Top_note b x5 = some x6) (m4 : y4 = s_i R 162 12 (0 : Int32)) (p5 : f_Mod_put a' y4 = some y5) (p6 : f_Mod_put b' y5 = some y6) (ha : a = a') (hb : b = b') : RR x6 y6 :=
  RRn_r (k := 2) (by omega) (RR_n (RR_n (RR_0 e4 m4) (by omega) ha e5 p5) (by omega) hb e6 p6)
theorem minute_r {X R : Mem} {n : Nat} {x r : Int32 × Mem} (za : ZA X R n) (kk : KK R) (ex : f_Top_minute X = some x) (er : f_Mod_minute R = some r) : RR x.2 r.2 := by
  have jR := za.1.2.1
  unfold f_Top_minute at ex
  unfold f_Mod_minute at er
  obtain ⟨X1, ex1, exa⟩ := bo ex
  obtain ⟨x2, ex2, exb⟩ := bo exa
  obtain ⟨x3, ex3, exc⟩ := bo exb
  obtain ⟨x4, ex4, exd⟩ := bo exc
  obtain ⟨x5, ex5, exe⟩ := bo exd
  obtain ⟨x6, ex6, exf⟩ := bo exe
  have exf := Option.some.inj exf
  obtain ⟨M1, m1, era⟩ := mo er
  obtain ⟨R1, er1, erb⟩ := bo era
  obtain ⟨y3, ey3, erc⟩ := bo erb
  obtain ⟨M4, m4, erd⟩ := mo erc
  obtain ⟨y5, ey5, ere⟩ := bo erd
  obtain ⟨y6, ey6, erf⟩ := bo ere
  have erf := Option.some.inj erf
  have j1 : J M1 := by rw [m1]; exact Jw_fld okf_162_13 jR _
  have zaM : ZA X M1 n := ZA_13 j1 (fun kx i h _ _ => by rw [m1, si_ne (by omega)]) za
  obtain ⟨zq', _, _⟩ := rem_q zaM (KK_13 jR kk m1) er1
  have zq1' : ZQ X1 R1 n := (copy_q (.inl rfl) zq' ex1).1
  obtain ⟨cs, pp⟩ := pass_q zq1' ex2 ey3
  obtain ⟨a4, b4⟩ := empty_i ex4
  obtain ⟨a5, b5⟩ := note_i ex5
  have p5 := put_i ey5
  have f0 : Fx (2 ^ 400 - 1 - 2 ^ 350) [] x2 x3 := wf_History_add 18 x2 (by decide +kernel) Fx_r ex3
  have f1 : Fx (2 ^ 400 - 1 - 2 ^ 351) [] x2 x3 := wf_History_add 18 x2 (by decide +kernel) Fx_r ex3
  rw [← exf, ← erf]
  refine row2_r ex4 ex5 ex6 m4 ey5 ey6 ?_ ?_
  · rw [a4 45 0 (by omega), m4, si_ne (by omega), (f0 45 0 (by decide +kernel) (by simp)).1]
    exact pp.2.2.2.2.2.1
  · rw [a5 45 1 (by omega) (by omega), a4 45 1 (by omega), p5 162 30 (by omega) (by omega), m4, si_ne (by omega), (f1 45 1 (by decide +kernel) (by simp)).1]
    exact pp.2.2.2.2.2.2.1
theorem minutes_r {X R : Mem} {n : Nat} {v : Int32} {x r : Int32 × Mem} (za : ZA X R n) (kk : KK R) (ex : f_Top_minutes v X = some x) (er : f_Mod_minutes v R = some r) (hr : RR X R) : RR x.2 r.2 := by
  have jR := za.1.2.1
  have z0 := o0
  have z60 : (60 : Int32).toInt = 60 := rfl
  unfold f_Mod_minutes at er
  obtain ⟨M1, m1, era⟩ := mo er
  obtain ⟨zaM, fqM⟩ := ZA_M1 za m1
  obtain ⟨y2, ey2, erb⟩ := bo era
  have h2 := some_of (sp_in v 0 60) ey2
  rw [o0, z60] at h2
  unfold f_Top_minutes at ex
  have out : ¬ (0 ≤ v.toInt ∧ v.toInt ≤ 60) → some ((-1 : Int32), X) = some x → RR x.2 r.2 := by
    intro hn e
    obtain rfl := Option.some.inj e
    rcases h2 with ⟨_, h⟩ | ⟨h, _⟩
    · exact absurd h hn
    · rw [h, if_pos rfl] at erb
      obtain rfl := Option.some.inj erb
      exact FQ2_RR fqM hr
  rcases io ex with ⟨c, ex⟩ | ⟨c, ex⟩
  · exact out (by have := q_lt c; omega) ex
  have c1 := q_nl c
  rcases io ex with ⟨c, ex⟩ | ⟨c, ex⟩
  rotate_left
  · exact out (by have := q_ng c; omega) ex
  have c2 := q_le c
  rcases h2 with ⟨h, _⟩ | ⟨_, h⟩
  rotate_left
  · exact absurd (⟨by omega, by omega⟩ : 0 ≤ v.toInt ∧ v.toInt ≤ 60) h
  rw [h, if_neg (by decide)] at erb
  obtain ⟨X1, ex1, exa⟩ := bo ex
  obtain ⟨X2, ex2, exb⟩ := bo exa
  obtain ⟨x5, ex5, exc⟩ := bo exb
  unfold f_Clock_reset at ex2
  obtain ⟨C1, d1, ex2⟩ := mo ex2
  obtain ⟨C2, d2, ex2⟩ := mo ex2
  have ex2 := Option.some.inj ex2
  subst ex2
  have fC : ∀ kx i, kx ≠ 45 → C2.1 kx i = X1.1 kx i := fun kx i h => by rw [d2, si_ne (by omega), d1, si_ne (by omega)]
  have fC2 : C2.2 = X1.2 := by rw [d2]; show C1.2 = _; rw [d1]; rfl
  have agC : AgX X1 C2 := ⟨fC 3 2 (by omega), fC 3 3 (by omega), fun q => fC 4 q (by omega), fC 6 4 (by omega), fC 6 5 (by omega), fun q => fC 7 q (by omega), fun q => fC 8 q (by omega), fC 40 4 (by omega), fun q => fC 41 q (by omega), fun q => fC 35 q (by omega), fun q => by rw [fC2], fun q => by rw [fC2]⟩
  have loop : ∀ (T0 : Mem), ZQ X1 T0 n → ∀ y, iter (lb_Mod_minutes_36 v) FU ((0 : Int32), (0 : Int32), (0 : Int32), T0) = some y → CS X1 T0 n x5 y.2.2 ∧ y.2.1 = x5.1 45 3 := by
    intro T0 zq0 y ey
    have zqC : ZQ C2 T0 n := by
      obtain ⟨n8, j0, zb, zs, zv, zw⟩ := zq0
      exact ⟨n8, j0, ZB_a agC AgR_r zb, ZS_c n8 (scn_f (fun kx i a b => fC kx i (by omega))) (fun _ _ => rfl) zs, zv, ZW_a agC AgR_r (fun _ _ => Iff.rfl) zw⟩
    have hC : HFx X1 C2 := ⟨⟨fun kx i w => fC kx i (by omega), fC 46 2 (by omega), fC 46 3 (by omega)⟩, fun i => by rw [fC2], fun i => by rw [fC2]⟩
    refine it_2 (I := fun (s : Int32 × Mem) (t : Int32 × Int32 × Int32 × Mem) => s.1 = t.2.2.1 ∧ CS X1 T0 n s.2 t.2.2.2 ∧ t.2.1 = s.2.1 45 3) (Q := fun (x : Mem) (y : Int32 × Int32 × Mem) => CS X1 T0 n x y.2.2 ∧ y.2.1 = x.1 45 3) ?_ ex5 ey ⟨rfl, ⟨zqC, hC, HFr_r, AgR_r⟩, ?_⟩
    · rintro ⟨i, N⟩ ⟨m, st, i', T⟩ A B ⟨hi, cs, h3⟩ eA eB
      dsimp only at hi cs h3
      subst hi
      unfold lb_Top_minutes_32 at eA
      unfold lb_Mod_minutes_36 at eB
      dsimp only at eA eB
      rcases io eA with ⟨g, eA⟩ | ⟨g, eA⟩
      · rw [if_pos g] at eB
        obtain rfl := Option.some.inj eA
        obtain rfl := Option.some.inj eB
        exact .inr ⟨_, _, rfl, rfl, cs, h3⟩
      · rw [if_neg g] at eB
        obtain ⟨z3, ez3, eA⟩ := bo eA
        obtain rfl := Option.some.inj eA
        obtain ⟨w3, ew3, eB⟩ := bo eB
        obtain ⟨w4, ew4, eB⟩ := bo eB
        obtain rfl := Option.some.inj eB
        obtain ⟨cs2, pp⟩ := pass_q cs.1 ez3 ew3
        obtain ⟨b, hb1, hb2⟩ := pp.2.2.2.2.2.2.2.2.2.1
        refine .inl ⟨_, _, rfl, rfl, rfl, CS_t cs cs2, ?_⟩
        show st + w4 = z3.1 45 3
        rw [hb2, h3]
        rw [pp.2.2.2.2.2.1, ew4] at hb1
        rw [Option.some.inj hb1]
    · show (0 : Int32) = C2.1 45 3
      rw [d2, si_ne (by omega), d1, si_eq]
  have fin : ∀ (A B M7 x8 x9 : Mem) (y6 w9 : Int32), A.1 45 3 = y6 → A.1 11 8 = B.1 163 93 → M7 = s_i B 162 12 (0 : Int32) → f_Mod_put y6 M7 = some x8 → f_Mod_put w9 x8 = some x9 → w9 = x8.1 163 93 → r.2 = x9 → j_Top_minutes_85 A = some x → RR x.2 r.2 := by
    intro A B M7 x8 x9 y6 w9 h3 h8 hm q8 q9 hw hr9 e
    unfold j_Top_minutes_85 at e
    obtain ⟨u6, eu6, e⟩ := bo e
    obtain ⟨u7, eu7, e⟩ := bo e
    obtain ⟨u8, eu8, e⟩ := bo e
    have e := Option.some.inj e
    obtain ⟨a4, b4⟩ := empty_i eu6
    obtain ⟨a5, b5⟩ := note_i eu7
    have p5 := put_i q8
    rw [← e, hr9]
    refine row2_r eu6 eu7 eu8 hm q8 q9 ?_ ?_
    · rw [a4 45 3 (by omega)]; exact h3
    · rw [a5 11 8 (by omega) (by omega), a4 11 8 (by omega), hw, p5 163 93 (by omega) (by omega), hm, si_ne (by omega)]; exact h8
  have news : ∀ {A B : Mem}, ZQ A B n → A.1 11 8 = B.1 163 93 := fun z => z.2.2.2.1.2.2.2.2.2.2.1
  rcases io erb with ⟨g, erb⟩ | ⟨g, erb⟩
  · rw [if_pos g] at exc
    obtain ⟨y6, ey6, erc⟩ := bo erb
    obtain ⟨M7, m7, erd⟩ := mo erc
    obtain ⟨y8, ey8, ere⟩ := bo erd
    obtain ⟨y9, ey9, erf⟩ := bo ere
    have erf := Option.some.inj erf
    obtain ⟨L1, L2⟩ := loop M1 (copy_q (.inl rfl) zaM.1 ex1).1 y6 ey6
    exact fin x5 y6.2.2 M7 y8 y9 _ _ L2.symm (news L1.1) m7 ey8 ey9 rfl (by rw [← erf]) exc
  · rw [if_neg g] at exc
    obtain ⟨x9, ex9, exd⟩ := bo exc
    obtain ⟨R1, er1, erc⟩ := bo erb
    obtain ⟨y6, ey6, erd⟩ := bo erc
    obtain ⟨M7, m7, ere⟩ := mo erd
    obtain ⟨y8, ey8, erf⟩ := bo ere
    obtain ⟨y9, ey9, erg⟩ := bo erf
    have erg := Option.some.inj erg
    obtain ⟨zq', _, _⟩ := rem_q zaM (KK_13 jR kk m1) er1
    obtain ⟨L1, L2⟩ := loop R1 (copy_q (.inl rfl) zq' ex1).1 y6 ey6
    have ff : Fx (2 ^ 400 - 1 - 2 ^ 353) [] x5 x9 := wf_History_add 18 x5 (by decide +kernel) Fx_r ex9
    have W := with_hist zaM ex1 er1 L1 ex9
    exact fin x9 y6.2.2 M7 y8 y9 _ _ (by rw [(ff 45 3 (by decide +kernel) (by simp)).1]; exact L2.symm) (news W.1) m7 ey8 ey9 rfl (by rw [← erg]) exd
end
section
/-! path: the row -/
theorem it_2x {S T X Y : Type} {f : S → Option (S ⊕ X)} {g : T → Option (T ⊕ Y)} {I : S → T → Prop} {K : X → T → Prop} {Q : X → Y → Prop} (hs : ∀ s t a b, I s t → f s = some a → g t = some b → (∃ s' t', a = .inl s' ∧ b = .inl t' ∧ I s' t') ∨ (∃ x y, a = .inr x ∧ b = .inr y ∧ Q x y) ∨ (∃ x t', a = .inr x ∧ b = .inl t' ∧ K x t')) (hk : ∀ x t b, K x t → g t = some b → (∃ t', b = .inl t' ∧ K x t') ∨ (∃ y, b = .inr y ∧ Q x y)) {n m : Nat} {s : S} {t : T} {x : X} {y : Y} (e : iter f n s = some x) (d : iter g m t = some y) (h : I s t) : Q x y := by
  have tail : ∀ (m : Nat) (t : T) (x : X), K x t → iter g m t = some y → Q x y := by
    intro m
    induction m with
    | zero => intro t x _ d; cases d
    | succ m ih =>
      intro t x k d
      simp only [iter] at d
      cases hg : g t with
      | none => rw [hg] at d; cases d
      | some b =>
        rw [hg] at d
        rcases hk x t b k hg with ⟨t', rfl, k'⟩ | ⟨y', rfl, q⟩
        · exact ih t' x k' d
        · obtain rfl := Option.some.inj d
          exact q
  induction n generalizing s t m with
  | zero => cases e
  | succ n ih =>
    cases m with
    | zero => cases d
    | succ m =>
      simp only [iter] at e d
      cases hf : f s with
      | none => rw [hf] at e; cases e
      | some a =>
        cases hg : g t with
        | none => rw [hg] at d; cases d
        | some b =>
          rw [hf] at e
          rw [hg] at d
          rcases hs s t a b h hf hg with ⟨s', t', rfl, rfl, k⟩ | ⟨x', y', rfl, rfl, k⟩ | ⟨x', t', rfl, rfl, k⟩
          · exact ih e d k
          · obtain rfl := Option.some.inj e
            obtain rfl := Option.some.inj d
            exact k
          · obtain rfl := Option.some.inj e
            exact tail m t' x' k d
theorem nst_2 {X R : Mem} {n l c : Nat} (jR : J R) (zv : ZV R (R.1 163) n) (zw : ZW X R 163) {v1 cv pv v5 v6 : Int32} (hl : v1.toInt = (l : Int)) (l2 : l < 2) (hc : cv.toInt = (c : Int)) (c36 : c < 36) (hp : pv.toInt = ((36 * l + c : Nat) : Int)) (on : onP R pv.toInt) {D : Nat → Int} (hD : ∀ d, d < 36 → (X.1 155 d).toInt = D d ∧ (R.1 177 (36 * l + d)).toInt = D d) (d0 : ∀ d, d < 36 → 0 ≤ D d ∧ D d ≤ 1000000) (up : ∀ s d : Nat, s < 4 → d < 36 → goR R 163 ((36 * l + c : Nat) : Int) (s : Int) ((36 * l + d : Nat) : Int) → D c ≤ D d + 1) (ne : ∃ s d : Nat, s < 4 ∧ d < 36 ∧ goR R 163 ((36 * l + c : Nat) : Int) (s : Int) ((36 * l + d : Nat) : Int) ∧ D d = D c - 1) {y z : Int32} (ex : f_Nets_stepNearer 32 v1 cv 155 X = some y) (er : iter (lb_Mod_path_79 pv v5 v6 R) FU (0 : Int32) = some z) : y = z ∧ ∃ s d : Nat, s < 4 ∧ z.toInt = (s : Int) ∧ d < 36 ∧ goR R 163 ((36 * l + c : Nat) : Int) (s : Int) ((36 * l + d : Nat) : Int) ∧ D d = D c - 1 := by
  have ym := om
  have y4 := o4
  obtain ⟨sm, dm, sm4, dm36, gm, em⟩ := ne
  unfold f_Nets_stepNearer at ex
  obtain ⟨_, ex⟩ := io_n ex
  obtain ⟨_, ex⟩ := io_n ex
  obtain ⟨u, eu, ex⟩ := bo ex
  have key : ∃ s d : Nat, u = .inr z ∧ s < 4 ∧ z.toInt = (s : Int) ∧ d < 36 ∧ goR R 163 ((36 * l + c : Nat) : Int) (s : Int) ((36 * l + d : Nat) : Int) ∧ D d = D c - 1 := by
    refine it_2 (I := fun (s t : Int32) => s = t ∧ ∃ k : Nat, k ≤ sm ∧ s.toInt = (k : Int)) (Q := fun (x : Unit ⊕ Int32) (y : Int32) => ∃ s d : Nat, x = .inr y ∧ s < 4 ∧ y.toInt = (s : Int) ∧ d < 36 ∧ goR R 163 ((36 * l + c : Nat) : Int) (s : Int) ((36 * l + d : Nat) : Int) ∧ D d = D c - 1) ?_ eu er ⟨rfl, 0, by omega, rfl⟩
    rintro s t A B ⟨rfl, k, km, hk⟩ eA eB
    unfold lb_Nets_stepNearer_3 at eA
    unfold lb_Mod_path_79 at eB
    rcases io eA with ⟨g, _⟩ | ⟨_, eA⟩
    · have := q_le g; omega
    obtain ⟨to, eto, eA⟩ := bo eA
    obtain ⟨go, ego, eB⟩ := bo eB
    have T := tow_2 jR (.inl rfl) zv zw hl hc hk hp l2 c36 (by omega) on eto ego
    have G := (some_of (fs_go jR 163 St_163 pv s (by omega)) ego).1
    rw [hp, hk] at G
    have k1 : (s + (1 : Int32)).toInt = ((k + 1 : Nat) : Int) := add_ti hk o1 (by omega) (by omega)
    have out : go.toInt ≠ ((36 * l + dm : Nat) : Int) → k + 1 ≤ sm := fun h => by
      rcases Nat.lt_or_ge k sm with q | q
      · exact q
      · have : k = sm := by omega
        subst this
        exact absurd (goR_fun G gm) h
    rcases T with ⟨t1, t2⟩ | ⟨t1, t2, t3, t4⟩
    · have e1 : to = -1 := Int32.toInt_inj.mp (by rw [t1]; exact om.symm)
      have e2 : go = -1 := Int32.toInt_inj.mp (by rw [t2]; exact om.symm)
      rw [if_pos e1] at eA
      rw [if_pos e2] at eB
      exact .inl ⟨_, _, (Option.some.inj eA).symm, (Option.some.inj eB).symm, rfl, k + 1, out (by omega), k1⟩
    · obtain ⟨d, hd⟩ := ti_ofn t1
      have hg : go.toInt = ((36 * l + d : Nat) : Int) := by omega
      rw [if_neg (fun h => by have := q_eq h; omega)] at eA
      rw [if_neg (fun h => by have := q_eq h; omega)] at eB
      obtain ⟨_, eA⟩ := io_n eA
      obtain ⟨_, eA⟩ := io_n eA
      obtain ⟨go', ego', eB⟩ := bo eB
      rw [ego] at ego'
      obtain rfl := Option.some.inj ego'
      obtain ⟨_, eB⟩ := io_n eB
      obtain ⟨_, eB⟩ := io_n eB
      rw [q_nat hd, q_nat hc] at eA
      rw [q_nat hg, q_nat hp] at eB
      rw [hg] at G
      have u1 := up k d (by omega) (by omega) G
      have a1 := hD d (by omega)
      have a2 := hD c c36
      have b1 := d0 d (by omega)
      have b2 := d0 c c36
      have sb1 : ((R.1 177 (36 * l + c)) - (1 : Int32)).toInt = D c - 1 := sub_ti a2.2 o1 (by omega) (by omega)
      rcases io eA with ⟨g, eA⟩ | ⟨g, eA⟩
      · have := q_le g
        rw [if_neg (fun h => by have := q_eq h; omega)] at eB
        refine .inl ⟨_, _, (Option.some.inj eA).symm, (Option.some.inj eB).symm, rfl, k + 1, out (fun h => ?_), k1⟩
        have : d = dm := by omega
        subst this
        omega
      · have := q_ng g
        rw [if_pos (Int32.toInt_inj.mp (by omega))] at eB
        exact .inr ⟨_, _, (Option.some.inj eA).symm, (Option.some.inj eB).symm, k, d, rfl, by omega, hk, by omega, G, by omega⟩
  obtain ⟨s, d, hu, h⟩ := key
  rw [hu] at ex
  exact ⟨(Option.some.inj ex).symm, s, d, h⟩
theorem path_r {X R : Mem} {n : Nat} {v1 v2 v3 : Int32} {x r : Int32 × Mem} (za : ZA X R n) (ex : f_Top_path v1 v2 v3 X = some x) (er : f_Mod_path v1 v2 v3 R = some r) (hr : RR X R) : RR x.2 r.2 := by
  have ym := om
  have k10 : (10 : Int32).toInt = 10 := rfl
  have kF : (1000000 : Int32).toInt = 1000000 := rfl
  unfold f_Mod_path at er
  obtain ⟨M1, m1, er⟩ := mo er
  obtain ⟨zaM, fqM⟩ := ZA_M1 za m1
  obtain ⟨n8, jM, ⟨zg, zc, zl⟩, zs, zv, zw⟩ := zaM.1
  unfold f_Top_path at ex
  obtain ⟨x1, ex1, ex⟩ := bo ex
  obtain ⟨y2, ey2, er⟩ := bo er
  rcases plc_2 zg jM ex1 ey2 with ⟨a, b⟩ | ⟨a, b, l, c, l2, c36, hl, hc, onc⟩
  · rw [a, if_pos rfl] at ex
    rw [b, if_pos rfl] at er
    obtain rfl := Option.some.inj ex
    obtain rfl := Option.some.inj er
    exact FQ2_RR fqM hr
  rw [a, if_neg (by decide)] at ex
  rw [b, if_neg (by decide)] at er
  obtain ⟨x2, ex2, ex⟩ := bo ex
  obtain ⟨y3, ey3, er⟩ := bo er
  rcases plc_2 zg jM ex2 ey3 with ⟨a, b⟩ | ⟨a, b, l', f, l2', f36, hl', hf, onf⟩
  · rw [a, if_pos rfl] at ex
    rw [b, if_pos rfl] at er
    obtain rfl := Option.some.inj ex
    obtain rfl := Option.some.inj er
    exact FQ2_RR fqM hr
  have : l' = l := by omega
  subst this
  rw [a, if_neg (by decide)] at ex
  rw [b, if_neg (by decide)] at er
  obtain ⟨x3, ex3, ex⟩ := bo ex
  obtain ⟨p4, e4, er⟩ := bo er
  obtain ⟨r5, e5, er⟩ := bo er
  obtain ⟨p6, e6, er⟩ := bo er
  obtain ⟨_, ex⟩ := io_n ex
  obtain ⟨_, er⟩ := io_n er
  have h4 := place_c hl hf l2 f36 e4
  have h6 := place_c hl hc l2 c36 e6
  obtain ⟨E, f1, q1, j5, f5, q5⟩ := meas_2 jM zv zw hl l2 hf f36 onf h4 ex3 e5
  rw [q_nat hc, E c c36] at ex
  rw [q_nat h6] at er
  have fq5 : FQ2 X M1 x3 r5 := FQ2_155 f1 q1 f5
  have za5 : ZA x3 r5 n := FQ2_ZA fq5 j5 zaM
  rcases io ex with ⟨g, ex⟩ | ⟨g, ex⟩
  rotate_left
  · rw [if_neg g] at er
    obtain rfl := Option.some.inj ex
    obtain rfl := Option.some.inj er
    exact FQ2_RR fq5 (FQ2_RR fqM hr)
  rw [if_pos g] at er
  have gm := q_lt g
  obtain ⟨x4, ex4, ex⟩ := bo ex
  obtain ⟨x11, ex11, ex⟩ := bo ex
  obtain rfl := Option.some.inj ex
  obtain ⟨M7, m7, er⟩ := mo er
  obtain ⟨y17, ey17, er⟩ := bo er
  obtain rfl := Option.some.inj er
  have ff := some_of (fs_findFar jM p4 (by omega)) e5
  have onpf : onP M1 p4.toInt := by rw [h4]; exact (onP_lc l2 f36).mpr onf
  have kp := KP_v zv
  have bd : ∀ d : Nat, d < 36 → 0 ≤ (r5.1 177 (36 * l' + d)).toInt ∧ (r5.1 177 (36 * l' + d)).toInt ≤ 1000000 := fun d _ => Jr_177 j5 (36 * l' + d)
  have up : ∀ c s d : Nat, c < 36 → onN M1 l' c → s < 4 → d < 36 → goR M1 163 ((36 * l' + c : Nat) : Int) (s : Int) ((36 * l' + d : Nat) : Int) → (r5.1 177 (36 * l' + c)).toInt ≤ (r5.1 177 (36 * l' + d)).toInt + 1 := by
    intro c s d hc9 on9 hs hd gg
    have bc := bd c hc9
    have bb := bd d hd
    by_cases k : (r5.1 177 (36 * l' + d)).toInt < 1000000
    · have gs := (go_sym jM kp ((onP_lc l2 hc9).mpr on9) (by omega) gg (by omega)).2
      have op := opp_r (s := (s : Int)) (by omega)
      have := ff.2 (36 * l' + d) (by omega) k _ op.1 op.2 _ gs (by omega)
      rw [show (((36 * l' + c : Nat) : Int)).toNat = 36 * l' + c by omega, show (((36 * l' + d : Nat) : Int)).toNat = 36 * l' + d by omega] at this
      exact this
    · omega
  have nr : ∀ c : Nat, c < 36 → (r5.1 177 (36 * l' + c)).toInt < 1000000 → 0 < (r5.1 177 (36 * l' + c)).toInt → ∃ s d : Nat, s < 4 ∧ d < 36 ∧ goR M1 163 ((36 * l' + c : Nat) : Int) (s : Int) ((36 * l' + d : Nat) : Int) ∧ (r5.1 177 (36 * l' + d)).toInt = (r5.1 177 (36 * l' + c)).toInt - 1 := by
    intro c hc9 k k0
    obtain ⟨q, q72, s, s0, s3, gg, eq⟩ := nearer jM kp onpf ff (n := 36 * l' + c) (by omega) k k0
    obtain ⟨d, d36, hd⟩ := go_lev jM (by omega) ⟨s0, s3⟩ gg (by omega)
    have e2 : q = 36 * l' + d := by omega
    subst e2
    exact ⟨s.toNat, d, by omega, d36, by rw [show ((s.toNat : Nat) : Int) = s by omega]; exact gg, eq⟩
  have gT : ∀ {T : Mem}, (∀ kx i, kx ≠ 168 → ¬ (kx = 162 ∧ i = 12) → T.1 kx i = r5.1 kx i) → ∀ a b d : Int, goR T 163 a b d ↔ goR M1 163 a b d := fun {T} h a b d => goR_c ⟨(h 162 2 (by omega) (by omega)).trans (f5 162 2 (by omega)), (h 162 3 (by omega) (by omega)).trans (f5 162 3 (by omega)), fun i => (h 164 i (by omega) (by omega)).trans (f5 164 i (by omega))⟩ (fun i => (h 163 i (by omega) (by omega)).trans (f5 163 i (by omega)))
  have oT : ∀ {T : Mem}, (∀ kx i, kx ≠ 168 → ¬ (kx = 162 ∧ i = 12) → T.1 kx i = r5.1 kx i) → ∀ a b : Int, onN T a b ↔ onN M1 a b := fun {T} h a b => onN_c ⟨(h 162 2 (by omega) (by omega)).trans (f5 162 2 (by omega)), (h 162 3 (by omega) (by omega)).trans (f5 162 3 (by omega)), fun i => (h 164 i (by omega) (by omega)).trans (f5 164 i (by omega))⟩
  obtain ⟨m, hm⟩ := ti_ofn (bd c c36).1
  have em := empty_i ex4
  refine it_2x (I := fun (s t : Int32 × Int32 × Mem) => ∃ i c : Nat, i ≤ 10 ∧ c < 36 ∧ s.1.toInt = (c : Int) ∧ t.1.toInt = ((36 * l' + c : Nat) : Int) ∧ s.2.1.toInt = (i : Int) ∧ t.2.1 = s.2.1 ∧ onN M1 l' c ∧ (r5.1 177 (36 * l' + c)).toInt + (i : Int) = (m : Int) ∧ RRn i s.2.2 t.2.2 ∧ (∀ kx i, kx ≠ 161 → ¬ (kx = 0 ∧ i = 15) → s.2.2.1 kx i = x3.1 kx i) ∧ s.2.2.2 = x3.2 ∧ (∀ kx i, kx ≠ 168 → ¬ (kx = 162 ∧ i = 12) → t.2.2.1 kx i = r5.1 kx i) ∧ J t.2.2) (K := fun (x : Mem) (t : Int32 × Int32 × Mem) => RRn 10 x t.2.2 ∧ ∃ j : Nat, 10 ≤ j ∧ t.2.1.toInt = (j : Int)) (Q := fun (x y : Mem) => RR x y) ?_ ?_ ex11 ey17 ⟨0, c, by omega, c36, hc, h6, rfl, rfl, onc, by omega, RR_0 ex4 m7, fun kx i _ h => em.1 kx i h, em.2, fun kx i _ h => by show M7.1 kx i = _; rw [m7, si_ne h], by show J M7; rw [m7]; exact Jw_162_12 j5 _ (by decide) (by decide)⟩
  · rintro ⟨cv, iv, N⟩ ⟨pv, iv', T⟩ A B ⟨i, c, i10, c36, hc, hp, hi, hii, onc, hm9, hR, fN, qN, fT, jT⟩ eA eB
    dsimp only at hc hp hi hii hR fN qN fT jT
    subst hii
    unfold lb_Top_path_74 at eA
    unfold lb_Mod_path_69 at eB
    dsimp only at eA eB
    rcases io eA with ⟨g1, eA⟩ | ⟨g1, eA⟩
    · rw [if_pos g1] at eB
      exact .inr (.inl ⟨_, _, (Option.some.inj eA).symm, (Option.some.inj eB).symm, RRn_r i10 hR⟩)
    have h1 := q_ng g1
    rw [if_neg g1] at eB
    obtain ⟨z, ez, eB⟩ := bo eB
    rcases io eA with ⟨g2, eA⟩ | ⟨g2, eA⟩
    · rw [if_pos g2] at eB
      have h2 := q_le g2
      unfold j_Mod_path_143_69 at eB
      obtain ⟨w, _, eB⟩ := bo eB
      have : i = 10 := by omega
      subst this
      exact .inr (.inr ⟨_, _, (Option.some.inj eA).symm, (Option.some.inj eB).symm, hR, 11, by omega, add_ti hi o1 (by omega) (by omega)⟩)
    rw [if_neg g2] at eB
    have h2 := q_ng g2
    rcases io eA with ⟨g3, _⟩ | ⟨_, eA⟩
    · have := q_eq g3; omega
    obtain ⟨y, ey, eA⟩ := bo eA
    obtain ⟨N', eN, eA⟩ := bo eA
    obtain ⟨to, eto, eA⟩ := bo eA
    obtain ⟨T', eT, eB7⟩ := bo eB
    unfold j_Mod_path_143_69 at eB7
    obtain ⟨go, ego, eB9⟩ := bo eB7
    have zT := row_x (x := N) (r := T) za5 jT fN qN fT
    obtain ⟨_, _, _, _, zvT, zwT⟩ := zT.1
    have onT : onP T pv.toInt := by rw [hp]; exact (onP_lc l2 c36).mpr ((oT fT _ _).mpr onc)
    obtain ⟨hyz, s, d, s4, hs, d36, gd, ed⟩ := nst_2 (D := fun d => (r5.1 177 (36 * l' + d)).toInt) jT zvT zwT hl l2 hc c36 hp onT (fun d hd => ⟨by rw [fN 155 d (by omega) (by omega), E d hd], by rw [fT 177 _ (by omega) (by omega)]⟩) bd (fun s d h3 h4 gg => up c s d c36 onc h3 h4 ((gT fT _ _ _).mp gg)) (by
      obtain ⟨s, d, k1, k2, k3, k4⟩ := nr c c36 (by omega) (by omega)
      exact ⟨s, d, k1, k2, (gT fT _ _ _).mpr k3, k4⟩) ey ez
    subst hyz
    have R1 := RR_n hR (by omega) rfl eN eT
    have nI := note_i eN
    have pI := put_i eT
    have jT' : J T' := (some_of (fs_put jT y (by have := hR.2.1; omega)) eT).1
    have fN' : ∀ kx i, kx ≠ 161 → ¬ (kx = 0 ∧ i = 15) → N'.1 kx i = x3.1 kx i := fun kx i h h' => by rw [nI.1 kx i h h']; exact fN kx i h h'
    have qN' : N'.2 = x3.2 := by rw [nI.2]; exact qN
    have fT' : ∀ kx i, kx ≠ 168 → ¬ (kx = 162 ∧ i = 12) → T'.1 kx i = r5.1 kx i := fun kx i h h' => by rw [pI kx i h h']; exact fT kx i h h'
    have zT' := row_x (x := N') (r := T') za5 jT' fN' qN' fT'
    obtain ⟨_, _, _, _, zvT', zwT'⟩ := zT'.1
    have onT' : onP T' pv.toInt := by rw [hp]; exact (onP_lc l2 c36).mpr ((oT fT' _ _).mpr onc)
    have W := tow_2 jT' (.inl rfl) zvT' zwT' hl hc hs hp l2 c36 (by omega) onT' eto ego
    have G := (some_of (fs_go jT' 163 St_163 pv y (by omega)) ego).1
    rw [hp, hs] at G
    have ge := goR_fun ((gT fT' _ _ _).mp G) ((gT fT _ _ _).mp gd)
    have i1 : (iv' + (1 : Int32)).toInt = ((i + 1 : Nat) : Int) := add_ti hi o1 (by omega) (by omega)
    rcases W with ⟨w1, w2⟩ | ⟨w1, w2, w3, w4⟩
    · omega
    · have ht : to.toInt = (d : Int) := by omega
      rw [ge] at w4
      exact .inl ⟨_, _, (Option.some.inj eA).symm, (Option.some.inj eB9).symm, i + 1, d, by omega, d36, ht, ge, i1, rfl, (oT fT' _ _).mp ((onP_lc l2 d36).mp w4), by omega, R1, fN', qN', fT', jT'⟩
  · rintro u ⟨pv, iv, T⟩ B ⟨hR, j, j10, hj⟩ eB
    dsimp only at hR hj
    unfold lb_Mod_path_69 at eB
    dsimp only at eB
    rcases io eB with ⟨g1, eB⟩ | ⟨g1, eB⟩
    · exact .inr ⟨_, (Option.some.inj eB).symm, RRn_r (k := 10) (by omega) hR⟩
    have h1 := q_ng g1
    obtain ⟨z, _, eB⟩ := bo eB
    rw [if_pos (Int32.le_iff_toInt_le.mpr (by omega))] at eB
    unfold j_Mod_path_143_69 at eB
    obtain ⟨w, _, eB⟩ := bo eB
    exact .inl ⟨_, (Option.some.inj eB).symm, hR, j + 1, by omega, add_ti hj o1 (by omega) (by omega)⟩
end
section
/-! fights, pieces: the row -/
theorem cnt_split (P Q : Nat → Bool) (n : Nat) : (List.range n).countP (fun d => P d && Q d) + (List.range n).countP (fun d => P d && !Q d) = (List.range n).countP P := by
  induction n with
  | zero => rfl
  | succ n ih =>
    rw [List.range_succ, List.countP_append, List.countP_append, List.countP_append, ← ih]
    have : [n].countP (fun d => P d && Q d) + [n].countP (fun d => P d && !Q d) = [n].countP P := by
      simp only [List.countP_cons, List.countP_nil]
      cases P n <;> cases Q n <;> rfl
    omega
theorem btm8 : ∀ d : Fin 8, bt (-1 : Int32) d.val = true := by decide +kernel
theorem pc_split (a w : Int32) : pc (a &&& w) + pc (a &&& (w ^^^ (-1 : Int32))) = pc a := by
  have e : pc (a &&& (w ^^^ (-1 : Int32))) = (List.range 8).countP (fun d => bt a d && !bt w d) := by
    unfold pc
    refine List.countP_congr (fun d hd => ?_)
    have := btm8 ⟨d, List.mem_range.mp hd⟩
    rw [bt_and, bt_xor, this, Bool.xor_true]
  have e2 : pc (a &&& w) = (List.range 8).countP (fun d => bt a d && bt w d) := by
    unfold pc
    refine List.countP_congr (fun d _ => ?_)
    rw [bt_and]
  rw [e, e2]
  exact cnt_split _ _ 8
theorem ofn9 : ∀ k : Fin 9, (Int32.ofNat k.val).toInt = (k.val : Int) := by decide +kernel
theorem bcv {v b : Int32} (h : ∀ d, 8 ≤ d → bt v d = false) (e : f_JInteger_bitCount v = some b) : b.toInt = (pc v : Int) ∧ pc v ≤ 8 := by
  rw [bc_i h] at e
  obtain rfl := Option.some.inj e
  have : pc v ≤ 8 := cnt_le _ _
  exact ⟨ofn9 ⟨pc v, by omega⟩, this⟩
theorem fights_r {X R : Mem} {n : Nat} {v : Int32} {x r : Int32 × Mem} (za : ZA X R n) (fi : X.1 0 16 = R.1 162 8) (fri : FRI R) (ex : f_Top_fights v X = some x) (er : f_Mod_fights v R = some r) (hr : RR X R) : RR x.2 r.2 := by
  have n8 := za.1.1
  have z0 := o0
  have ym := om
  have z60 : (60 : Int32).toInt = 60 := rfl
  unfold f_Mod_fights at er
  obtain ⟨M1, m1, er⟩ := mo er
  obtain ⟨zaM, fqM⟩ := ZA_M1 za m1
  have f1 : ∀ kx i, ¬ (kx = 162 ∧ i = 13) → M1.1 kx i = R.1 kx i := fun kx i h => by rw [m1, si_ne h]
  have fiM : X.1 0 16 = M1.1 162 8 := by rw [f1 162 8 (by omega)]; exact fi
  obtain ⟨y2, ey2, er⟩ := bo er
  have h2 := some_of (sp_in v 0 60) ey2
  rw [o0, z60] at h2
  unfold f_Top_fights at ex
  have out : ¬ (0 ≤ v.toInt ∧ v.toInt ≤ 60) → some ((-1 : Int32), X) = some x → RR x.2 r.2 := by
    intro hn e
    rcases h2 with ⟨_, h⟩ | ⟨h, _⟩
    · exact absurd h hn
    rw [h, if_pos rfl] at er
    obtain rfl := Option.some.inj e
    obtain rfl := Option.some.inj er
    exact FQ2_RR fqM hr
  rcases io ex with ⟨c, ex⟩ | ⟨c, ex⟩
  · exact out (by have := q_lt c; omega) ex
  have c1 := q_nl c
  rcases io ex with ⟨c, ex⟩ | ⟨c, ex⟩
  rotate_left
  · exact out (by have := q_ng c; omega) ex
  have c2 := q_le c
  rcases h2 with ⟨h, _⟩ | ⟨_, h⟩
  rotate_left
  · exact absurd ⟨by omega, by omega⟩ h
  rw [h, if_neg (by decide)] at er
  rw [fiM] at ex
  rcases io ex with ⟨g, ex⟩ | ⟨g, ex⟩
  · rw [if_pos g] at er
    obtain rfl := Option.some.inj ex
    obtain rfl := Option.some.inj er
    exact FQ2_RR fqM hr
  rw [if_neg g] at er
  have w1 : xw M1 = xw R := congrArg Int32.toInt (f1 162 2 (by omega))
  have w2 : xh M1 = xh R := congrArg Int32.toInt (f1 162 3 (by omega))
  have fbM : 0 ≤ (M1.1 162 8).toInt ∧ (M1.1 162 8).toInt < xw M1 * xh M1 := by
    rw [f1 162 8 (by omega), w1, w2]
    rcases fri with h | h
    · rw [f1 162 8 (by omega)] at g; exact absurd h g
    · exact h
  obtain ⟨x4, e4, ex⟩ := bo ex
  obtain ⟨x5, e5, ex⟩ := bo ex
  obtain ⟨x6, e6, ex⟩ := bo ex
  obtain ⟨x7, e7, ex⟩ := bo ex
  obtain ⟨x8, e8, ex⟩ := bo ex
  obtain ⟨x9, e9, ex⟩ := bo ex
  obtain rfl := Option.some.inj ex
  obtain ⟨y6, ey6, er⟩ := bo er
  obtain ⟨M7, m7, er⟩ := mo er
  obtain ⟨y8, ey8, er⟩ := bo er
  obtain ⟨y9, ey9, er⟩ := bo er
  obtain ⟨y10, ey10, er⟩ := bo er
  obtain ⟨y11, ey11, er⟩ := bo er
  obtain rfl := Option.some.inj er
  have key : x4.1 = y6.1 ∧ (∀ d, n ≤ d → bt x4.1 d = false) ∧ ZA x4.2 y6.2 n := by
    refine it_2 (I := fun (s t : Int32 × Int32 × Mem) => s.1 = t.1 ∧ s.2.1 = t.2.1 ∧ (∀ d, n ≤ d → bt s.1 d = false) ∧ ∃ p : Nat, p ≤ n ∧ s.2.1.toInt = (p : Int) ∧ ZA s.2.2 t.2.2 n ∧ s.2.2.1 0 16 = M1.1 162 8 ∧ t.2.2.1 162 8 = M1.1 162 8 ∧ xw t.2.2 = xw M1 ∧ xh t.2.2 = xh M1) (Q := fun (x y : Int32 × Mem) => x.1 = y.1 ∧ (∀ d, n ≤ d → bt x.1 d = false) ∧ ZA x.2 y.2 n) ?_ e4 ey6 ⟨rfl, rfl, fun d _ => bt_0 d, 0, by omega, rfl, zaM, fiM, rfl, rfl, rfl⟩
    rintro ⟨b, i, N⟩ ⟨b', i', T⟩ A B ⟨h1, h2, hb, p, pn, hp, z, q1, q2, q3, q4⟩ eA eB
    dsimp only at h1 h2 hb hp z q1 q2 q3 q4
    subst h1
    subst h2
    unfold lb_Top_fights_27 at eA
    unfold lb_Mod_fights_32 at eB
    dsimp only at eA eB
    have n64 : N.1 6 4 = T.1 162 4 := z.1.2.2.1.2.1.2.1
    have nn : (T.1 162 4).toInt = (n : Int) := z.1.2.2.1.2.1.1
    rw [n64] at eA
    rcases io eA with ⟨g, eA⟩ | ⟨g, eA⟩
    · rw [if_pos g] at eB
      obtain rfl := Option.some.inj eA
      obtain rfl := Option.some.inj eB
      exact .inr ⟨_, _, rfl, rfl, rfl, hb, z⟩
    have g1 := q_ng g
    rw [if_neg g] at eB
    obtain ⟨x1, e1, eA⟩ := bo eA
    obtain ⟨y3, ey3, eB⟩ := bo eB
    obtain ⟨F1, _, _, F4, F5, F6, F7⟩ := fire_2 z (by rw [q1, q2]) (by rw [q2, q3, q4]; exact fbM) hp (by omega) e1 ey3
    have z2 : ZA x1.2 y3.2 n := FQ2_ZA (FQ2_155 F4 F5 F7) F6 z
    have p1 : (i + (1 : Int32)).toInt = ((p + 1 : Nat) : Int) := add_ti hp o1 (by omega) (by omega)
    have w3 : xw y3.2 = xw T := congrArg Int32.toInt (F7 162 2 (by omega))
    have w4 : xh y3.2 = xh T := congrArg Int32.toInt (F7 162 3 (by omega))
    rw [F1] at eA
    rcases io eA with ⟨gl, eA⟩ | ⟨gl, eA⟩
    · rw [if_pos gl] at eB
      obtain rfl := Option.some.inj eA
      obtain rfl := Option.some.inj eB
      exact .inl ⟨_, _, rfl, rfl, (Int32.or_zero).symm, rfl, hb, p + 1, by omega, p1, z2, by show x1.2.1 0 16 = _; rw [F4 0 16 (by omega)]; exact q1, by show y3.2.1 162 8 = _; rw [F7 162 8 (by omega)]; exact q2, w3.trans q3, w4.trans q4⟩
    · rw [if_neg gl] at eB
      obtain rfl := Option.some.inj eA
      obtain rfl := Option.some.inj eB
      refine .inl ⟨_, _, rfl, rfl, rfl, rfl, fun d hd => ?_, p + 1, by omega, p1, z2, by show x1.2.1 0 16 = _; rw [F4 0 16 (by omega)]; exact q1, by show y3.2.1 162 8 = _; rw [F7 162 8 (by omega)]; exact q2, w3.trans q3, w4.trans q4⟩
      dsimp only
      rw [bt_or, hb d hd, bt_one hp (by omega), decide_eq_false (by omega)]; rfl
  obtain ⟨k1, k2, k3⟩ := key
  have hW : x4.2.1 6 5 = y6.2.1 162 5 := k3.1.2.2.1.2.1.2.2.1
  have M5 : M7.1 162 5 = y6.2.1 162 5 := by rw [m7, si_ne (by omega)]
  have M9 : y9.1 162 5 = y6.2.1 162 5 := by rw [put_i ey9 162 5 (by omega) (by omega)]; exact M5
  rw [hW, k1] at e5
  rw [k1] at e7
  rw [M5] at ey8
  rw [M9] at ey10
  rw [k1] at k2
  have b8 : ∀ w : Int32, ∀ d, 8 ≤ d → bt (y6.1 &&& w) d = false := fun w d hd => by rw [bt_and, k2 d (by omega), Bool.false_and]
  have a5 := bcv (b8 _) e5
  have a7 := bcv (fun d hd => k2 d (by omega)) e7
  have a8 := bcv (b8 _) ey8
  have a10 := bcv (b8 _) ey10
  have sp := pc_split y6.1 (y6.2.1 162 5)
  have sb : (x7 - x5).toInt = ((pc y6.1 : Nat) : Int) - ((pc (y6.1 &&& y6.2.1 162 5) : Nat) : Int) := sub_ti a7.1 a5.1 (by omega) (by omega)
  exact row2_r e6 e8 e9 m7 ey9 ey11 (Int32.toInt_inj.mp (by omega)) (Int32.toInt_inj.mp (by omega))
/-- the largest piece, its least cell -/
def pcl (P : Nat → Bool) (Rc : Nat → Nat → Bool) : Nat → Int × Int
  | 0 => (0, -1)
  | k + 1 => if P k = true ∧ (pcs P Rc k).1 k = false ∧ (pcl P Rc k).1 < (((List.range 64).countP (fun d => Rc k d) : Nat) : Int) then ((((List.range 64).countP (fun d => Rc k d) : Nat) : Int), (k : Int)) else pcl P Rc k
theorem pcl_p {P : Nat → Bool} {Rc : Nat → Nat → Bool} {k : Nat} (h : P k = true ∧ (pcs P Rc k).1 k = false ∧ (pcl P Rc k).1 < (((List.range 64).countP (fun d => Rc k d) : Nat) : Int)) : pcl P Rc (k + 1) = ((((List.range 64).countP (fun d => Rc k d) : Nat) : Int), (k : Int)) := if_pos h
theorem pcl_n {P : Nat → Bool} {Rc : Nat → Nat → Bool} {k : Nat} (h : ¬ (P k = true ∧ (pcs P Rc k).1 k = false ∧ (pcl P Rc k).1 < (((List.range 64).countP (fun d => Rc k d) : Nat) : Int))) : pcl P Rc (k + 1) = pcl P Rc k := if_neg h
theorem pcl_s {P : Nat → Bool} {Rc : Nat → Nat → Bool} {k : Nat} (j : Nat) (h : ∀ c, k ≤ c → P c = false) : pcl P Rc (k + j) = pcl P Rc k := by
  induction j with
  | zero => rfl
  | succ j ih =>
    show pcl P Rc (k + j + 1) = _
    rw [pcl_n (fun w => by rw [h (k + j) (by omega)] at w; cases w.1), ih]
theorem pcs_d {X : Mem} {v1 : Int32} {net : Int64} {x : Int32 × Int32 × Int32} (e : iter (lb_Top_pieces_33 v1 X) FU (net, (0 : Int32), (0 : Int32), (-1 : Int32), (0 : Int32)) = some x) : x.2.1.toInt = (pcl (fun c => bl net c) (rcX v1 X) 36).1 ∧ x.2.2.toInt = (pcl (fun c => bl net c) (rcX v1 X) 36).2 := by
  have k36 : (36 : Int32).toInt = 36 := rfl
  refine it_r (I := fun s : Int64 × Int32 × Int32 × Int32 × Int32 => ∃ k : Nat, k ≤ 36 ∧ s.2.2.2.2.toInt = (k : Int) ∧ (s.2.2.1.toInt = (pcl (fun c => bl net c) (rcX v1 X) k).1 ∧ s.2.2.2.1.toInt = (pcl (fun c => bl net c) (rcX v1 X) k).2) ∧ ∀ c, c < 64 → bl s.1 c = (bl net c && !(pcs (fun c => bl net c) (rcX v1 X) k).1 c)) (Q := fun x : Int32 × Int32 × Int32 => x.2.1.toInt = (pcl (fun c => bl net c) (rcX v1 X) 36).1 ∧ x.2.2.toInt = (pcl (fun c => bl net c) (rcX v1 X) 36).2) ?_ e ⟨0, by omega, rfl, ⟨rfl, rfl⟩, fun c _ => by show bl net c = (bl net c && !false); rw [Bool.not_false, Bool.and_true]⟩
  rintro ⟨left, cn, best, cell, i⟩ r ⟨k, k36', hk, h1, h2⟩ e
  dsimp only at hk h1 h2
  unfold lb_Top_pieces_33 at e
  dsimp only at e
  rcases io e with ⟨g, e⟩ | ⟨g, e⟩
  · have := q_le g
    obtain rfl := Option.some.inj e
    have : k = 36 := by omega
    subst this
    exact h1
  have g1 := q_ng g
  have i1 : (i + (1 : Int32)).toInt = ((k + 1 : Nat) : Int) := add_ti hk o1 (by omega) (by omega)
  have bk := h2 k (by omega)
  rcases io e with ⟨g, e⟩ | ⟨g, e⟩
  · have gb := (bl_cmp hk (by omega)).mp g
    obtain rfl := Option.some.inj e
    have no : ¬ (bl net k = true ∧ (pcs (fun c => bl net c) (rcX v1 X) k).1 k = false) := fun w => by
      rw [gb, w.1, w.2] at bk; cases bk
    refine ⟨k + 1, by omega, i1, ?_⟩
    rw [pcl_n (P := fun c => bl net c) (Rc := rcX v1 X) (fun w => no ⟨w.1, w.2.1⟩), pcs_n (P := fun c => bl net c) (Rc := rcX v1 X) no]
    exact ⟨h1, h2⟩
  · have gb : bl left k = true := by
      cases hb : bl left k with
      | true => rfl
      | false => exact absurd ((bl_cmp hk (by omega)).mpr hb) g
    rw [gb] at bk
    have bk := bk.symm
    rw [Bool.and_eq_true, Bool.not_eq_true'] at bk
    obtain ⟨x1, e1, e⟩ := bo e
    obtain ⟨x2, e2, e⟩ := bo e
    have rc := rcX_i hk (by omega) e1
    have L : ∀ c, c < 64 → bl (left &&& (x1 ^^^ (-1 : Int64))) c = (bl net c && !(pcs (fun c => bl net c) (rcX v1 X) (k + 1)).1 c) := by
      intro c hc
      rw [pcs_p (P := fun c => bl net c) (Rc := rcX v1 X) ⟨bk.1, bk.2⟩, bl_and, bl_not hc, h2 c hc]
      dsimp only
      rw [rc c]
      cases bl net c <;> cases (pcs (fun c => bl net c) (rcX v1 X) k).1 c <;> cases bl x1 c <;> rfl
    have cn2 : x2.toInt = (((List.range 64).countP (fun d => rcX v1 X k d) : Nat) : Int) := by
      rw [bitc e2]
      have : (fun d => rcX v1 X k d) = fun d => bl x1 d := funext rc
      rw [this]
    rcases io e with ⟨g2, e⟩ | ⟨g2, e⟩
    · have g3 := q_le g2
      obtain rfl := Option.some.inj e
      refine ⟨k + 1, by omega, i1, ?_, L⟩
      rw [pcl_n (P := fun c => bl net c) (Rc := rcX v1 X) (fun w => by have := w.2.2; omega)]
      exact h1
    · have g3 := q_ng g2
      obtain ⟨x3, e3, e⟩ := bo e
      rw [e2] at e3
      obtain rfl := Option.some.inj e3
      obtain rfl := Option.some.inj e
      refine ⟨k + 1, by omega, i1, ?_, L⟩
      rw [pcl_p (P := fun c => bl net c) (Rc := rcX v1 X) ⟨bk.1, bk.2, by omega⟩]
      exact ⟨cn2, hk⟩
theorem pieces_r {X R : Mem} {n : Nat} {v1 : Int32} {x r : Int32 × Mem} (hJ : J X) (za : ZA X R n) (ex : f_Top_pieces v1 X = some x) (er : f_Mod_pieces v1 R = some r) (hr : RR X R) : RR x.2 r.2 := by
  have z0 := o0
  unfold f_Mod_pieces at er
  obtain ⟨M1, m1, er⟩ := mo er
  obtain ⟨zaM, fqM⟩ := ZA_M1 za m1
  obtain ⟨n8, jM, ⟨zg, zc, zl⟩, zs, zv, zw⟩ := zaM.1
  have wh := awh jM
  have jM1 : J M1 := jM
  unfold f_Top_pieces at ex
  obtain ⟨y2, ey2, er⟩ := bo er
  have hin := some_of (sp_in v1 0 1) ey2
  rw [o0, o1] at hin
  rcases io ex with ⟨g, ex⟩ | ⟨g, ex⟩
  · have g := q_lt g
    rcases hin with ⟨a, b⟩ | ⟨a, b⟩
    · omega
    rw [a, if_pos rfl] at er
    obtain rfl := Option.some.inj ex
    obtain rfl := Option.some.inj er
    exact FQ2_RR fqM hr
  have g1 := q_nl g
  rcases io ex with ⟨g, ex⟩ | ⟨g, ex⟩
  rotate_left
  · have g := q_ng g
    rcases hin with ⟨a, b⟩ | ⟨a, b⟩
    · have := o1; omega
    rw [a, if_pos rfl] at er
    obtain rfl := Option.some.inj ex
    obtain rfl := Option.some.inj er
    exact FQ2_RR fqM hr
  have g2 := q_le g
  have k1 := o1
  rcases hin with ⟨a, _⟩ | ⟨_, b⟩
  rotate_left
  · exact absurd ⟨by omega, by omega⟩ b
  rw [a, if_neg (by decide)] at er
  obtain ⟨l, hl⟩ := ti_ofn (v := v1) (by omega)
  have l2 : l < 2 := by omega
  obtain ⟨_, ex⟩ := io_n ex
  obtain ⟨x7, e7, ex⟩ := bo ex
  obtain ⟨x8, e8, ex⟩ := bo ex
  obtain ⟨x9, e9, ex⟩ := bo ex
  obtain ⟨x10, e10, ex⟩ := bo ex
  obtain rfl := Option.some.inj ex
  obtain ⟨y5, ey5, er⟩ := bo er
  obtain ⟨y22, ey22, er⟩ := bo er
  obtain ⟨M23, m23, er⟩ := mo er
  obtain ⟨y24, ey24, er⟩ := bo er
  obtain ⟨y25, ey25, er⟩ := bo er
  obtain rfl := Option.some.inj er
  rw [q_nat hl] at e7
  have C := pcs_d e7
  have nb : ∀ d, bl (X.2.1 33 l) d = true ↔ (d < 36 ∧ onN M1 l d) := fun d => by
    have := zw.1 l d l2
    rw [this, onA_i jM]
  obtain ⟨j5, f5, w5⟩ := wipe_r jM1 ey5
  obtain ⟨W, hW⟩ : ∃ W : Nat, xw M1 * xh M1 = (W : Int) := ⟨(xw M1 * xh M1).toNat, by omega⟩
  have W36 : W ≤ 36 := by omega
  have K : y22.2.1.toInt = (pcl (fun c => bl (X.2.1 33 l) c) (rcX v1 X) W).1 ∧ y22.2.2.1.toInt = (pcl (fun c => bl (X.2.1 33 l) c) (rcX v1 X) W).2 := by
    refine it_r (I := fun s : Int32 × Int32 × Int32 × Int32 × Mem => ∃ k : Nat, k ≤ W ∧ s.2.2.2.1.toInt = (k : Int) ∧ (s.2.1.toInt = (pcl (fun c => bl (X.2.1 33 l) c) (rcX v1 X) k).1 ∧ s.2.2.1.toInt = (pcl (fun c => bl (X.2.1 33 l) c) (rcX v1 X) k).2) ∧ (∀ c, c < 36 → s.2.2.2.2.1 179 c = if (pcs (fun c => bl (X.2.1 33 l) c) (rcX v1 X) k).1 c = true then 1 else 0) ∧ J s.2.2.2.2 ∧ (∀ kx i, kx ≠ 177 → kx ≠ 179 → s.2.2.2.2.1 kx i = M1.1 kx i)) (Q := fun y : Int32 × Int32 × Int32 × Mem => y.2.1.toInt = (pcl (fun c => bl (X.2.1 33 l) c) (rcX v1 X) W).1 ∧ y.2.2.1.toInt = (pcl (fun c => bl (X.2.1 33 l) c) (rcX v1 X) W).2) ?_ ey22 ⟨0, by omega, rfl, ⟨rfl, rfl⟩, fun c hc => by show y5.1 179 c = if false = true then 1 else 0; rw [w5 c hc, if_neg (by decide)], j5, fun kx i _ h => f5 kx i h⟩
    rintro ⟨cn, best, cell, i, T⟩ u ⟨k, kW, hk, h1, h2, jT, hf⟩ e
    dsimp only at hk h1 h2 jT hf
    unfold lb_Mod_pieces_50 at e
    dsimp only at e
    obtain ⟨x6, e6, e⟩ := bo e
    have h6 : x6.toInt = (W : Int) := by
      unfold f_Mod_cells at e6
      obtain rfl := Option.some.inj e6
      rw [hf 162 2 (by omega) (by omega), hf 162 3 (by omega) (by omega)]
      rw [wh_ti jM]; exact hW
    rcases io e with ⟨g, e⟩ | ⟨g, e⟩
    · have := q_le g
      obtain rfl := Option.some.inj e
      have : k = W := by omega
      subst this
      exact h1
    have g1 := q_ng g
    have i1 : (i + (1 : Int32)).toInt = ((k + 1 : Nat) : Int) := add_ti hk o1 (by omega) (by omega)
    have zT : ZA X T n := ZA_z zaM jT (fun _ _ _ => rfl) (fun _ => rfl) (fun _ => rfl) (fun _ => rfl) (fun _ => rfl) (fun kx i h => hf kx i (by unfold CRr CR at h; omega) (by unfold CRr CR at h; omega))
    obtain ⟨_, _, _, _, zvT, zwT⟩ := zT.1
    have nbT : bl (X.2.1 33 l) k = true ↔ (k < 36 ∧ onN T l k) := by
      have := zwT.1 l k l2
      rw [this, onA_i jT]
    obtain ⟨x7', e7', e⟩ := bo e
    have hof := some_of (fs_isOf jT v1 i) e7'
    rw [hl, hk] at hof
    rcases hof with ⟨a, on⟩ | ⟨a, on⟩
    rotate_left
    · rw [a, if_pos rfl] at e
      obtain rfl := Option.some.inj e
      refine ⟨k + 1, by omega, i1, ?_⟩
      rw [pcl_n (P := fun c => bl (X.2.1 33 l) c) (Rc := rcX v1 X) (fun w => on (nbT.mp w.1).2), pcs_n (P := fun c => bl (X.2.1 33 l) c) (Rc := rcX v1 X) (fun w => on (nbT.mp w.1).2)]
      exact ⟨h1, h2, jT, hf⟩
    rw [a, if_neg (by decide)] at e
    have P1 : bl (X.2.1 33 l) k = true := nbT.mpr ⟨by omega, on⟩
    obtain ⟨_, e⟩ := io_n e
    rw [q_nat hk, h2 k (by omega)] at e
    rcases io e with ⟨g, e⟩ | ⟨g, e⟩
    rotate_left
    · obtain rfl := Option.some.inj e
      refine ⟨k + 1, by omega, i1, ?_⟩
      rw [pcl_n (P := fun c => bl (X.2.1 33 l) c) (Rc := rcX v1 X) (fun w => g (by rw [w.2.1, if_neg (by decide)])), pcs_n (P := fun c => bl (X.2.1 33 l) c) (Rc := rcX v1 X) (fun w => g (by rw [w.2, if_neg (by decide)]))]
      exact ⟨h1, h2, jT, hf⟩
    have seen : (pcs (fun c => bl (X.2.1 33 l) c) (rcX v1 X) k).1 k = false := by
      cases hs : (pcs (fun c => bl (X.2.1 33 l) c) (rcX v1 X) k).1 k with
      | false => rfl
      | true => rw [hs, if_pos rfl] at g; exact absurd g (by decide)
    have E := pcs_p (P := fun c => bl (X.2.1 33 l) c) (Rc := rcX v1 X) ⟨P1, seen⟩
    obtain ⟨x8', e8', e⟩ := bo e
    obtain ⟨x9', e9', e⟩ := bo e
    obtain ⟨x15, e15, e⟩ := bo e
    obtain ⟨x16, e16, e⟩ := bo e
    obtain ⟨y, ey, _⟩ := sf_Nets_flood 32 v1 i (0 : Int64) X kd_32 ⟨by omega, by omega⟩ hJ
    obtain ⟨F1, F2, F3⟩ := flood_2 hJ jT zvT zwT hl l2 hk (by omega) on (place_c hl hk l2 (by omega) e8') ey e9'
    obtain ⟨A1, A2, A3⟩ := mark_r hl l2 F2 e15
    have rc := rcX_i hk (by omega) ey
    have S : ∀ c, c < 36 → x15.1 179 c = if (pcs (fun c => bl (X.2.1 33 l) c) (rcX v1 X) (k + 1)).1 c = true then 1 else 0 := by
      intro c hc
      have E1 : (pcs (fun c => bl (X.2.1 33 l) c) (rcX v1 X) (k + 1)).1 c = ((pcs (fun c => bl (X.2.1 33 l) c) (rcX v1 X) k).1 c || bl y c) := by
        rw [← rc c]
        exact congrArg (fun z : (Nat → Bool) × Int => z.1 c) E
      rw [A3 c hc, F3 179 c (by omega), h2 c hc, E1]
      by_cases w : (x9'.1 177 (36 * l + c)).toInt < 1000000
      · rw [if_pos w, (F1 c).mpr ⟨hc, w⟩, Bool.or_true, if_pos rfl]
      · rw [if_neg w]
        have : bl y c = false := by
          cases hb : bl y c with
          | false => rfl
          | true => exact absurd ((F1 c).mp hb).2 w
        rw [this, Bool.or_false]
    have fr : ∀ kx i, kx ≠ 177 → kx ≠ 179 → x15.1 kx i = M1.1 kx i := fun kx i h h' => by rw [A2 kx i h', F3 kx i h]; exact hf kx i h h'
    have cn2 : x16.toInt = (((List.range 64).countP (fun d => rcX v1 X k d) : Nat) : Int) := by
      have : (fun d => rcX v1 X k d) = fun d => bl y d := funext rc
      rw [this, reached_i hl l2 e16, cnt_64 (Q := farB x15 l) (fun c _ => (F1 c).trans ⟨fun ⟨u1, u2⟩ => ⟨u1, decide_eq_true (by rw [A2 177 _ (by omega)]; exact u2)⟩, fun ⟨u1, u2⟩ => ⟨u1, by have := of_decide_eq_true u2; rw [A2 177 _ (by omega)] at this; exact this⟩⟩)]
    rcases io e with ⟨g5, e⟩ | ⟨g5, e⟩
    · have g6 := q_lt g5
      obtain ⟨x17, e17, e⟩ := bo e
      rw [e16] at e17
      obtain rfl := Option.some.inj e17
      obtain rfl := Option.some.inj e
      refine ⟨k + 1, by omega, i1, ?_, S, A1, fr⟩
      rw [pcl_p (P := fun c => bl (X.2.1 33 l) c) (Rc := rcX v1 X) ⟨P1, seen, by omega⟩]
      exact ⟨cn2, hk⟩
    · have g6 := q_nl g5
      obtain rfl := Option.some.inj e
      refine ⟨k + 1, by omega, i1, ?_, S, A1, fr⟩
      rw [pcl_n (P := fun c => bl (X.2.1 33 l) c) (Rc := rcX v1 X) (fun w => by have := w.2.2; omega)]
      exact h1
  have tail := pcl_s (P := fun c => bl (X.2.1 33 l) c) (Rc := rcX v1 X) (k := W) (36 - W) (fun c hc => by
    cases hb : bl (X.2.1 33 l) c with
    | false => rfl
    | true =>
      have on := ((nb c).mp hb).2
      have := on.2.1
      omega)
  rw [show W + (36 - W) = 36 by omega] at tail
  rw [tail] at C
  exact row2_r e8 e9 e10 m23 ey24 ey25 (Int32.toInt_inj.mp (by rw [C.1, K.1])) (Int32.toInt_inj.mp (by rw [C.2, K.2]))
end
section
/-! evening: the row -/
theorem eve_row_r {X R : Mem} {v1 v2 : Int32} {x r : Int32 × Mem} (h33 : X.1 45 4 = R.1 162 33) (ex : j_Top_evening_90 v1 v2 X = some x) (er : j_Mod_evening_155 v1 v2 R = some r) : RR x.2 r.2 := by
  unfold j_Top_evening_90 at ex
  obtain ⟨x10, e10, ex⟩ := bo ex
  unfold j_Mod_evening_155 at er
  obtain ⟨M17, m17, er⟩ := mo er
  have em := empty_i e10
  have fin : ∀ w0 : Int32, j_Top_evening_105 v2 w0 x10 = some x → j_Mod_evening_171 v2 w0 M17 = some r → RR x.2 r.2 := by
    intro w0 ea eb
    unfold j_Top_evening_105 at ea
    obtain ⟨x11, e11, ea⟩ := bo ea
    obtain ⟨x12, e12, ea⟩ := bo ea
    obtain rfl := Option.some.inj ea
    unfold j_Mod_evening_171 at eb
    obtain ⟨y18, ey18, eb⟩ := bo eb
    obtain ⟨y19, ey19, eb⟩ := bo eb
    obtain rfl := Option.some.inj eb
    refine row2_r e10 e11 e12 m17 ey18 ey19 rfl ?_
    rw [(note_i e11).1 45 4 (by omega) (by omega), em.1 45 4 (by omega), put_i ey18 162 33 (by omega) (by omega), m17, si_ne (by omega)]; exact h33
  rcases io ex with ⟨g, ex⟩ | ⟨g, ex⟩
  · rw [if_pos g] at er
    exact fin 0 ex er
  · rw [if_neg g] at er
    exact fin 1 ex er
theorem evening_r {X R : Mem} {n : Nat} {x r : Int32 × Mem} (za : ZA X R n) (kk : KK R) (tx : cx X 60 = rx R 60) (l : X.1 1 1 = R.1 162 10) (hJ : J X) (hb : ∀ p : Nat, (p : Int) < (R.1 162 10).toInt → -128 ≤ (R.1 167 p).toInt ∧ (R.1 167 p).toInt ≤ 127) (hr : RR X R) (ex : f_Top_evening X = some x) (er : f_Mod_evening R = some r) : RR x.2 r.2 := by
  have l2 := Jr_162_10 za.1.2.1
  have hl : (X.1 1 1).toInt ≤ 80 := by rw [l]; exact l2.2
  have jR := za.1.2.1
  have z0 := o0
  have ym := om
  have k60 : (60 : Int32).toInt = 60 := rfl
  unfold f_Mod_evening at er
  obtain ⟨M1, m1, er⟩ := mo er
  obtain ⟨x2, e2, er⟩ := bo er
  obtain ⟨M3, m3, er⟩ := mo er
  obtain ⟨rd, b15, b17, b18, bf, bq, bq2⟩ := beg_i (K := 60) rfl l2.2 hb m1 e2 m3
  rw [← tx] at rd
  have jM3 : J M3 := by
    have j1 : J M1 := by rw [m1]; exact Jw_fld okf_162_13 jR _
    have q10 : M1.1 162 10 = R.1 162 10 := by rw [m1, si_ne (by omega)]
    have j2 := some_of (sp_begin j1 167 (M1.1 162 10) (60 : Int32) (.inl ⟨rfl, by rw [q10]; exact l2.1, by rw [q10]; exact l2.2, by omega, by omega⟩)) e2
    rw [m3]; exact Jw_162_10 j2.1.1 _ (by decide) (by decide)
  unfold f_Top_evening at ex
  obtain ⟨x1, ex1, ex⟩ := bo ex
  obtain ⟨M2, m2, ex⟩ := mo ex
  -- the end, when both go on
  have doit : ∀ (A S : Mem) (L : Nat) (v1 : Int32), EAf X M3 A S → J S → AD L A S → v1.toInt = (L : Int) → x1.1 = v1 → x1.2 = A → L ≤ 31 → (S.1 162 18).toInt = -1 → j_Mod_evening_89 v1 S = some r → RR x.2 r.2 := by
    intro A S L v1 fa jS ad hv hx1 hx2 L31 hw e89
    subst hx2
    have zaS : ZA M2 S n := ZA_z za jS (fun kx i h => by
      have hh : kx ≠ 1 ∧ kx ≠ 147 ∧ kx ≠ 148 ∧ kx ≠ 149 ∧ kx ≠ 150 := by unfold CXr CX at h; omega
      rw [m2, si_ne (by omega)]; exact fa.1 kx i (by omega) (by omega) (by omega)) (fun i => by rw [m2, si_2, fa.2.1]) (fun i => by rw [m2, si_2, fa.2.1]) (fun i => by rw [m2, si_2, fa.2.1]) (fun i => by rw [m2, si_2, fa.2.1]) (fun kx i h => by rw [fa.2.2.1 kx i (by unfold CRr CR at h; omega) (by unfold CRr CR at h; omega)]; exact bf kx i (by unfold CRr CR at h; omega))
    have adM : AD L M2 S := by
      intro i hi
      rw [m2, si_ne (by omega), si_ne (by omega), si_ne (by omega)]; exact ad i hi
    rw [hx1] at ex
    rw [if_pos (Int32.le_iff_toInt_le.mpr (by omega))] at ex
    obtain ⟨X3, e3, ex⟩ := bo ex
    obtain ⟨x4, e4, ex⟩ := bo ex
    obtain ⟨x9, e9, ex⟩ := bo ex
    unfold j_Mod_evening_89 at e89
    obtain ⟨y10, ey10, e89⟩ := bo e89
    rcases fine_i ey10 with ⟨_, h⟩ | ⟨h, _⟩
    · exact absurd hw h
    rw [h, if_neg (by decide)] at e89
    obtain ⟨x11, r11, e89⟩ := bo e89
    obtain ⟨M12, m12, e89⟩ := mo e89
    obtain ⟨x16, r16, e89⟩ := bo e89
    have fS : ∀ kx i, kx ≠ 175 → ¬ (kx = 162 ∧ (i = 10 ∨ i = 13 ∨ i = 15 ∨ i = 16 ∨ i = 17 ∨ i = 18)) → S.1 kx i = R.1 kx i := fun kx i h1 h2 => by rw [fa.2.2.1 kx i h1 (by omega)]; exact bf kx i h2
    have kkS : KK S := KK_c jR ⟨⟨fS 162 2 (by omega) (by omega), fS 162 3 (by omega) (by omega), fun i => fS 164 i (by omega) (by omega)⟩, fS 162 27 (by omega) (by omega), fS 162 48 (by omega) (by omega), fun i _ _ => fS 163 i (by omega) (by omega), fun i => fS 173 i (by omega) (by omega), fun i => fS 189 i (by omega) (by omega), fun i => fS 190 i (by omega) (by omega), fun i => fS 191 i (by omega) (by omega)⟩ kk
    obtain ⟨D1, D2, D3, D4, D5, D6⟩ := eve_do zaS kkS adM hv L31 e3 e4 e9 r11 m12 r16
    unfold j_Top_evening_75 at ex
    unfold j_Mod_evening_143 at e89
    rw [D1] at ex
    rcases io ex with ⟨g, ex⟩ | ⟨g, ex⟩
    · rw [if_pos g] at e89
      exact eve_row_r D2 ex e89
    · rw [if_neg g] at e89
      obtain ⟨x14, e14, ex⟩ := bo ex
      obtain ⟨y21, ey21, e89⟩ := bo e89
      have f1 : Fx (2 ^ 400 - 1 - 2 ^ 354) [] x9.2 x14 := wf_History_add 18 x9.2 (by decide +kernel) Fx_r e14
      have f2 : Fx (2 ^ 400 - 1 - 2 ^ 233) [] x16.2 y21 := wf_Mod_remember 174 x16.2 (by decide +kernel) Fx_r ey21
      exact eve_row_r (by rw [(f1 45 4 (by decide +kernel) (by simp)).1, (f2 162 33 (by decide +kernel) (by simp)).1]; exact D2) ex e89
  -- both refuse
  have refuse : ∀ (A S : Mem) (w : Nat), EAf X M3 A S → J S → x1.1.toInt = -1 - (w : Int) → w ≤ 1000 → x1.2 = A → (S.1 162 18).toInt = (w : Int) → (∀ v1, j_Mod_evening_89 v1 S = some r → RR x.2 r.2) := by
    intro A S w fa jS hx1 w1000 hx2 hw v1 e89
    subst hx2
    rw [if_neg (fun h => by have := q_le h; omega)] at ex
    obtain rfl := Option.some.inj ex
    unfold j_Mod_evening_89 at e89
    obtain ⟨y10, ey10, e89⟩ := bo e89
    rcases fine_i ey10 with ⟨h, _⟩ | ⟨_, h⟩
    rotate_left
    · omega
    rw [h, if_pos rfl] at e89
    obtain rfl := Option.some.inj e89
    refine RR_f ?_ (fun i => ?_) ?_ (fun i => ?_) hr
    · show M2.1 0 15 = X.1 0 15
      rw [m2, si_ne (by omega)]; exact fa.1 0 15 (by omega) (by omega) (by omega)
    · show M2.1 161 i = X.1 161 i
      rw [m2, si_ne (by omega)]; exact fa.1 161 i (by omega) (by omega) (by omega)
    · show S.1 162 12 = R.1 162 12
      rw [fa.2.2.1 162 12 (by omega) (by omega)]; exact bf 162 12 (by omega)
    · show S.1 168 i = R.1 168 i
      rw [fa.2.2.1 168 i (by omega) (by omega)]; exact bf 168 i (by omega)
  unfold f_Acts_read at ex1
  obtain ⟨X1, x1e, ex1⟩ := mo ex1
  have x111 : X1.1 1 1 = X.1 1 1 := by rw [x1e, si_ne (by omega)]
  rcases io er with ⟨g15, er⟩ | ⟨g15, er⟩
  · have g1 := q_le g15
    rw [b15, ← l] at g1
    have len0 : X.1 1 1 = 0 := Int32.toInt_inj.mp (by have := (Jr_1_1 hJ).1; omega)
    rw [x111, if_pos len0] at ex1
    obtain rfl := Option.some.inj ex1
    obtain ⟨y9, ey9, er⟩ := bo er
    have h9 : y9 = (0, M3) := by
      refine it_r (I := fun s : Int32 × Int32 × Mem => s = (0, 0, M3)) (Q := fun y : Int32 × Mem => y = (0, M3)) ?_ ey9 rfl
      rintro s q rfl e
      unfold lb_Mod_evening_39 at e
      dsimp only at e
      rw [if_pos rfl] at e
      obtain rfl := Option.some.inj e
      rfl
    subst h9
    unfold j_Mod_evening_70 at er
    dsimp only at er
    rw [if_pos (Int32.le_iff_toInt_le.mpr (by rw [b15, ← l, b17]; omega))] at er
    exact doit X1 M3 0 0 ⟨fun kx i _ h2 _ => by rw [x1e, si_ne h2], by rw [x1e, si_2], fun _ _ _ _ => rfl, rfl⟩ jM3 (fun i hi => by omega) rfl rfl rfl (by omega) b18 er
  have g1 := q_ng g15
  rw [b15, ← l] at g1
  rw [x111, if_neg (fun h => by rw [h] at g1; omega)] at ex1
  obtain ⟨y, ey, ex1⟩ := bo ex1
  obtain ⟨z, ez, er⟩ := bo er
  have Q := eve_l hl rd b17 b18 x1e ey ez
  have jz : J z.2 := by
    have piM : PI M3 := by
      refine ⟨jM3, fun _ => ?_⟩
      show (M3.1 162 17).toInt ≤ (M3.1 162 15).toInt
      rw [b17, b15]; exact l2.1
    exact (some_of (sl_evening39 piM b17 (1 : Int32)) ez).1.1
  rcases y with y | y | y | y
  · exact Q.elim
  · replace ex1 := el_l (el_r ex1)
    obtain rfl := Option.some.inj ex1
    obtain ⟨⟨w, w1000, q1, q2⟩, fa⟩ := Q
    unfold j_Mod_evening_70 at er
    rcases io er with ⟨_, er⟩ | ⟨_, er⟩
    · exact refuse y.2 z.2 w fa jz q1 w1000 rfl q2 _ er
    · obtain ⟨y24, ey24, er⟩ := bo er
      have := fault_n (by rw [q2]; omega) ey24
      rw [this] at er
      exact refuse y.2 z.2 w fa jz q1 w1000 rfl q2 _ er
  · replace ex1 := el_l (el_r (el_r ex1))
    obtain ⟨⟨j, q, j31, hj3, hz, ha, hw, tq, q60, ad⟩, fa⟩ := Q
    have y11 : y.1 1 1 = X.1 1 1 := fa.1 1 1 (by omega) (by omega) (by omega)
    have z15 : z.2.1 162 15 = X.1 1 1 := by rw [fa.2.2.1 162 15 (by omega) (by omega), b15]; exact l.symm
    unfold j_Mod_evening_70 at er
    rcases io ex1 with ⟨c, ex1⟩ | ⟨c, ex1⟩
    · have c1 := q_le c
      rw [y11] at c1
      have lp : (X.1 1 1).toInt ≤ (q : Int) := by
        by_cases g : ((q : Nat) : Int) < (X.1 1 1).toInt ∧ q < 60
        · unfold cx at tq
          rw [if_pos g] at tq
          have := (Jr_2 hJ q).1
          omega
        · omega
      rw [if_pos (Int32.le_iff_toInt_le.mpr (by rw [z15, ha]; exact lp))] at er
      obtain rfl := Option.some.inj ex1
      exact doit y z.2 (j + 1) z.1 fa jz ad hz (Int32.toInt_inj.mp (hj3.trans hz.symm)) rfl j31 hw er
    · have c1 := q_ng c
      rw [y11] at c1
      obtain rfl := Option.some.inj ex1
      rcases io er with ⟨g, _⟩ | ⟨_, er⟩
      · have := q_le g
        rw [z15, ha] at this
        omega
      obtain ⟨y24, ey24, er⟩ := bo er
      rcases fault_i ey24 with ⟨h, _⟩ | ⟨_, h⟩
      · exact absurd hw h
      have q0 : q = 60 := by
        by_cases g : q < 60
        · unfold cx at tq
          rw [if_pos ⟨by omega, g⟩] at tq
          have := (Jr_2 hJ q).1
          omega
        · omega
      have ff := fault_f ey24
      have k61 : (-61 : Int32).toInt = -61 := rfl
      refine refuse y y24 60 ⟨fa.1, fa.2.1, fun kx i h1 h2 => by rw [ff.1 kx i h2]; exact fa.2.2.1 kx i h1 h2, by rw [ff.2, fa.2.2.2]⟩ (some_of (sp_faultA jz) ey24).1.1 (by show (-61 : Int32).toInt = _; rw [k61]; rfl) (by omega) rfl (by rw [h, si_eq, ha, q0]) _ er
  · replace ex1 := el_r (el_r (el_r ex1))
    obtain rfl := Option.some.inj ex1
    obtain ⟨⟨q, q60, hy, ha, hw, hq⟩, fa⟩ := Q
    have z15 : z.2.1 162 15 = X.1 1 1 := by rw [fa.2.2.1 162 15 (by omega) (by omega), b15]; exact l.symm
    unfold j_Mod_evening_70 at er
    rcases io er with ⟨g, _⟩ | ⟨_, er⟩
    · have := q_le g
      rw [z15, ha] at this
      omega
    obtain ⟨y24, ey24, er⟩ := bo er
    rcases fault_i ey24 with ⟨h, _⟩ | ⟨_, h⟩
    · exact absurd hw h
    have ff := fault_f ey24
    exact refuse y.2 y24 q ⟨fa.1, fa.2.1, fun kx i h1 h2 => by rw [ff.1 kx i h2]; exact fa.2.2.1 kx i h1 h2, by rw [ff.2, fa.2.2.2]⟩ (some_of (sp_faultA jz) ey24).1.1 (by show ((-1 : Int32) - y.1).toInt = _; rw [sub_ti om hy (by omega) (by omega)]) (by omega) rfl (by rw [h, si_eq]; exact ha) _ er
end
section
/-! part: which stairs -/
theorem pbyl_s {rc : Int32 → Int32 → Int64 → Int32 → Int64 → Mem → Option Int64} {X : Mem} {v1 v2 v5 : Int32} {v3 v6 : Int64} {w lo : Nat} (hw : (X.1 3 3).toInt = (w : Int)) (w36 : w ≤ 36) (hx : ∀ d, bl v6 d = true → d < 36) (hlo : ∀ s, lo ≤ s ↔ ∀ d, bl v6 d = true → d < s) {x : Unit ⊕ Int64} (e : iter (lb_Top_partedBy_28 rc v1 v2 v3 v5 v6 X) FU (0 : Int32) = some x) :
    Sum.elim (fun _ : Unit => ∀ s : Nat, s < w → lo ≤ s → bl v3 s = true → PC rc X v1 v2 v3 v5 v6 s (fun z => lg_cmp z (0 : Int64) < 0)) (fun z : Int64 => ¬ lg_cmp z (0 : Int64) < 0 ∧ ∃ s : Nat, s < w ∧ lo ≤ s ∧ bl v3 s = true ∧ PC rc X v1 v2 v3 v5 v6 s (fun z9 => z9 = z) ∧ ∀ s9 : Nat, s9 < s → lo ≤ s9 → bl v3 s9 = true → PC rc X v1 v2 v3 v5 v6 s9 (fun z9 => lg_cmp z9 (0 : Int64) < 0)) x := by
  refine it_r (I := fun s : Int32 => ∃ k : Nat, s.toInt = (k : Int) ∧ k ≤ 36 ∧ ∀ s : Nat, s < k → lo ≤ s → bl v3 s = true → PC rc X v1 v2 v3 v5 v6 s (fun z => lg_cmp z (0 : Int64) < 0))
    (Q := fun x : Unit ⊕ Int64 => Sum.elim (fun _ : Unit => ∀ s : Nat, s < w → lo ≤ s → bl v3 s = true → PC rc X v1 v2 v3 v5 v6 s (fun z => lg_cmp z (0 : Int64) < 0)) (fun z : Int64 => ¬ lg_cmp z (0 : Int64) < 0 ∧ ∃ s : Nat, s < w ∧ lo ≤ s ∧ bl v3 s = true ∧ PC rc X v1 v2 v3 v5 v6 s (fun z9 => z9 = z) ∧ ∀ s9 : Nat, s9 < s → lo ≤ s9 → bl v3 s9 = true → PC rc X v1 v2 v3 v5 v6 s9 (fun z9 => lg_cmp z9 (0 : Int64) < 0)) x) ?_ e ⟨0, rfl, by omega, fun s h => absurd h (by omega)⟩
  rintro sv r ⟨k, hk, k36, ih⟩ e
  unfold lb_Top_partedBy_28 at e
  rcases io e with ⟨g, e⟩ | ⟨g, e⟩
  · have := q_le g
    obtain rfl := Option.some.inj e
    show ∀ s : Nat, s < w → lo ≤ s → bl v3 s = true → PC rc X v1 v2 v3 v5 v6 s (fun z => lg_cmp z (0 : Int64) < 0)
    exact fun s hs => ih s (by omega)
  have g1 := q_ng g
  have b1 : (sv + (1 : Int32)).toInt = ((k + 1 : Nat) : Int) := add_ti hk o1 (by omega) (by omega)
  have nx : (lo ≤ k → bl v3 k = true → PC rc X v1 v2 v3 v5 v6 k (fun z => lg_cmp z (0 : Int64) < 0)) → ∃ k' : Nat, (sv + (1 : Int32)).toInt = (k' : Int) ∧ k' ≤ 36 ∧ ∀ s : Nat, s < k' → lo ≤ s → bl v3 s = true → PC rc X v1 v2 v3 v5 v6 s (fun z => lg_cmp z (0 : Int64) < 0) := fun h => ⟨k + 1, b1, by omega, fun s hs h1 h2 => by
    by_cases q : s = k
    · subst q; exact h h1 h2
    · exact ih s (by omega) h1 h2⟩
  rcases io e with ⟨g2, e⟩ | ⟨g2, e⟩
  · have lk9 : lo ≤ k := (hlo k).mpr ((sr_0 hx hk (by omega)).mp (lc_0.mp g2))
    unfold j_Top_partedBy_55_28 at e
    rw [if_neg (by decide)] at e
    rcases io e with ⟨g3, e⟩ | ⟨g3, e⟩
    · have h3 := (bl_cmp hk (by omega)).mp g3
      obtain rfl := Option.some.inj e
      exact nx (fun _ h => by rw [h3] at h; cases h)
    have h3 : bl v3 k = true := by
      cases hb : bl v3 k with
      | true => rfl
      | false => exact absurd ((bl_cmp hk (by omega)).mpr hb) g3
    obtain ⟨z, ez, e⟩ := bo e
    rcases io e with ⟨g4, e⟩ | ⟨g4, e⟩
    · obtain rfl := Option.some.inj e
      exact nx (fun _ _ => ⟨sv, z, hk, ez, g4⟩)
    · obtain rfl := Option.some.inj e
      show ¬ lg_cmp z (0 : Int64) < 0 ∧ _
      exact ⟨g4, k, by omega, lk9, h3, ⟨sv, z, hk, ez, rfl⟩, ih⟩
  · have lk9 : ¬ lo ≤ k := fun h => g2 (lc_0.mpr ((sr_0 hx hk (by omega)).mpr ((hlo k).mp h)))
    unfold j_Top_partedBy_55_28 at e
    rw [if_pos rfl] at e
    obtain rfl := Option.some.inj e
    exact nx (fun h => absurd h lk9)
def PRs (R N : Mem) (F : Nat) (a b i i4 : Int32) (v6 : Int64) (s : Nat) : Prop := ∃ (M5 : Mem) (sv : Int32) (y : Int32 × Mem), sv.toInt = (s : Int) ∧ CSx R M5 (fun d => bl (v6 ||| ((1 : Int64) <<< (sv.toInt64 &&& 63))) d) ∧ J M5 ∧ fr_parts F a b (i + (1 : Int32)) i4 (sv + (1 : Int32)) M5 = some y ∧ y.1 ≠ 0 ∧ M5.1 184 i.toNatClampNeg = sv ∧ ∀ j, N.1 184 j = y.2.1 184 j
theorem partsl_s {X R : Mem} {n p q ca cb w lo F : Nat} {a b i i4 fm : Int32} {v6 : Int64} {S : Mem} {x : Mem ⊕ Mem} (zq : ZQ X R n) (hp : a.toInt = (p : Int)) (hq : b.toInt = (q : Int)) (pn : p < n) (qn : q < n) (hca : (X.1 12 p).toInt = (ca : Int)) (hcb : (X.1 12 q).toInt = (cb : Int)) (hw : xw R * xh R = (w : Int)) (w36 : w ≤ 36) (i0 : 0 ≤ i.toInt) (ii : i.toInt + 1 ≤ i4.toInt) (i3 : i4.toInt ≤ 3) (fu : i4.toInt - (i.toInt + 1) < (F : Int)) (hfm : fm.toInt = (lo : Int)) (lo36 : lo ≤ 36) (hb6 : ∀ d, bl v6 d = true → d < lo) (cs : CSx R S (fun d => bl v6 d)) (jS : J S) (e : iter (lb_Mod_parts_28 (fr_parts F) a b i i4) FU (fm, S) = some x) :
    Sum.elim (fun _ : Mem => ∀ s : Nat, s < w → lo ≤ s → (R.1 164 s).toInt = 3 → s ≠ ca → s ≠ cb → PR R F a b i i4 v6 s (fun y => y = 0)) (fun N : Mem => ∃ s : Nat, s < w ∧ lo ≤ s ∧ (R.1 164 s).toInt = 3 ∧ s ≠ ca ∧ s ≠ cb ∧ PRs R N F a b i i4 v6 s ∧ ∀ s9 : Nat, s9 < s → lo ≤ s9 → (R.1 164 s9).toInt = 3 → s9 ≠ ca → s9 ≠ cb → PR R F a b i i4 v6 s9 (fun y => y = 0)) x := by
  have n8 := zq.1
  have z3 := o3
  refine it_r (I := fun s : Int32 × Mem => ∃ k : Nat, s.1.toInt = (k : Int) ∧ k ≤ 36 ∧ lo ≤ k ∧ J s.2 ∧ CSx R s.2 (fun d => bl v6 d) ∧ ∀ s' : Nat, s' < k → lo ≤ s' → (R.1 164 s').toInt = 3 → s' ≠ ca → s' ≠ cb → PR R F a b i i4 v6 s' (fun y => y = 0))
    (Q := fun x : Mem ⊕ Mem => Sum.elim (fun _ : Mem => ∀ s : Nat, s < w → lo ≤ s → (R.1 164 s).toInt = 3 → s ≠ ca → s ≠ cb → PR R F a b i i4 v6 s (fun y => y = 0)) (fun N : Mem => ∃ s : Nat, s < w ∧ lo ≤ s ∧ (R.1 164 s).toInt = 3 ∧ s ≠ ca ∧ s ≠ cb ∧ PRs R N F a b i i4 v6 s ∧ ∀ s9 : Nat, s9 < s → lo ≤ s9 → (R.1 164 s9).toInt = 3 → s9 ≠ ca → s9 ≠ cb → PR R F a b i i4 v6 s9 (fun y => y = 0)) x) ?_ e ⟨lo, hfm, lo36, Nat.le_refl _, jS, cs, fun s h1 h2 => absurd h1 (by omega)⟩
  clear cs jS e
  rintro ⟨sv, N⟩ r ⟨k, hk, k36, lk9, jN, cs, ih⟩ e
  dsimp only at hk jN cs
  unfold lb_Mod_parts_28 at e
  dsimp only at e
  obtain ⟨x4, e4, e⟩ := bo e
  have e4 := cells_e.symm.trans e4
  obtain rfl := Option.some.inj e4
  have we := wh_ti jN
  rw [show xw N = xw R from congrArg Int32.toInt cs.1, show xh N = xh R from congrArg Int32.toInt cs.2.1, hw] at we
  rcases io e with ⟨g, e⟩ | ⟨g, e⟩
  · have := q_le g
    obtain rfl := Option.some.inj e
    show ∀ s : Nat, s < w → _
    exact fun s hs => ih s (by omega)
  have g1 := q_ng g
  have b1 : (sv + (1 : Int32)).toInt = ((k + 1 : Nat) : Int) := add_ti hk o1 (by omega) (by omega)
  have nx : ∀ K : Mem, J K → CSx R K (fun d => bl v6 d) → ((R.1 164 k).toInt = 3 → k ≠ ca → k ≠ cb → PR R F a b i i4 v6 k (fun y => y = 0)) → ∃ k' : Nat, (sv + (1 : Int32)).toInt = (k' : Int) ∧ k' ≤ 36 ∧ lo ≤ k' ∧ J K ∧ CSx R K (fun d => bl v6 d) ∧ ∀ s' : Nat, s' < k' → lo ≤ s' → (R.1 164 s').toInt = 3 → s' ≠ ca → s' ≠ cb → PR R F a b i i4 v6 s' (fun y => y = 0) := fun K h1 h2 h => ⟨k + 1, b1, by omega, by omega, h1, h2, fun s hs u1 u2 u3 u4 => by
    by_cases q9 : s = k
    · subst q9; exact h u2 u3 u4
    · exact ih s (by omega) u1 u2 u3 u4⟩
  have nk : bl v6 k = false := by
    cases hb : bl v6 k with
    | false => rfl
    | true => have := hb6 k hb; omega
  have ek : N.1 164 k = R.1 164 k := cs.2.2.2.1 k nk
  obtain ⟨_, e⟩ := io_n e
  rw [q_nat hk] at e
  rcases io e with ⟨g2, e⟩ | ⟨g2, e⟩
  rotate_left
  · obtain rfl := Option.some.inj e
    exact nx N jN cs (fun h => absurd (by rw [ek]; exact Int32.toInt_inj.mp (h.trans z3.symm)) g2)
  obtain ⟨_, e⟩ := io_n e
  rw [q_nat hp, cs.2.2.1 p] at e
  obtain ⟨x2, e2, e⟩ := bo e
  have c2 := (whr zq pn).1 x2 e2
  rcases io e with ⟨g3, e⟩ | ⟨g3, e⟩
  · obtain rfl := Option.some.inj e
    refine nx N jN cs (fun _ h => absurd ?_ h)
    rw [g3, c2] at hk; omega
  obtain ⟨_, e⟩ := io_n e
  rw [q_nat hq, cs.2.2.1 q] at e
  obtain ⟨x3, e3, e⟩ := bo e
  have c3 := (whr zq qn).1 x3 e3
  rcases io e with ⟨g4, e⟩ | ⟨g4, e⟩
  · obtain rfl := Option.some.inj e
    refine nx N jN cs (fun _ _ h => absurd ?_ h)
    rw [g4, c3] at hk; omega
  have nca : k ≠ ca := fun h => g3 (Int32.toInt_inj.mp (by rw [c2]; omega))
  have ncb : k ≠ cb := fun h => g4 (Int32.toInt_inj.mp (by rw [c3]; omega))
  have r3 : R.1 164 k = 3 := by rw [← ek]; exact g2
  obtain ⟨_, e⟩ := io_n e
  obtain ⟨M4, m4, e⟩ := mo e
  obtain ⟨_, e⟩ := io_n e
  obtain ⟨M5, m5, e⟩ := mo e
  obtain ⟨x6, e6, e⟩ := bo e
  obtain ⟨_, e⟩ := io_n e
  obtain ⟨M7, m7, e⟩ := mo e
  have j5 : J M5 := by rw [m5]; exact Jw_any ok_164 (by rw [m4]; exact Jw_any ok_184 jN _ _) _ _
  have f5 : ∀ kx j, kx ≠ 184 → ¬ (kx = 164 ∧ j = k) → M5.1 kx j = N.1 kx j := fun kx j h1 h2 => by rw [m5, si_ne (by omega), m4, si_ne (by omega)]
  have cs5 : CSx R M5 (fun d => bl (v6 ||| ((1 : Int64) <<< (sv.toInt64 &&& 63))) d) := by
    refine ⟨(f5 162 2 (by omega) (by omega)).trans cs.1, (f5 162 3 (by omega) (by omega)).trans cs.2.1, fun j => (f5 163 j (by omega) (by omega)).trans (cs.2.2.1 j), fun j hj => ?_, fun j hj => ?_⟩
    · dsimp only at hj
      rw [bl_or, bl_one hk (by omega), Bool.or_eq_false_iff] at hj
      have := of_decide_eq_false hj.2
      exact (f5 164 j (by omega) (by omega)).trans (cs.2.2.2.1 j hj.1)
    · dsimp only at hj
      rw [bl_or, bl_one hk (by omega), Bool.or_eq_true, decide_eq_true_iff] at hj
      by_cases z : j = k
      · subst z
        exact ⟨r3, by rw [m5, si_eq]⟩
      · rcases hj with hj | hj
        · exact ⟨(cs.2.2.2.2 j hj).1, (f5 164 j (by omega) (by omega)).trans (cs.2.2.2.2 j hj).2⟩
        · exact absurd hj z
  have i1 : (i + (1 : Int32)).toInt = i.toInt + 1 := add_ti rfl o1 (by omega) (by omega)
  obtain ⟨j6, g6, _⟩ := some_of (sp_parts a b (by omega) (by omega) F (i + (1 : Int32)) i4 (sv + (1 : Int32)) M5 j5 (by omega) (by omega) i3 (by omega) (by omega) (by omega)) e6
  have cs6 := CS_gd cs5 g6
  have j7 : J M7 := by rw [m7]; exact Jw_any ok_164 j6 _ _
  have f7 : ∀ kx j, ¬ (kx = 164 ∧ j = k) → M7.1 kx j = x6.2.1 kx j := fun kx j h => by rw [m7, si_ne h]
  have cs7 : CSx R M7 (fun d => bl v6 d) := by
    refine ⟨(f7 162 2 (by omega)).trans cs6.1, (f7 162 3 (by omega)).trans cs6.2.1, fun j => (f7 163 j (by omega)).trans (cs6.2.2.1 j), fun j hj => ?_, fun j hj => ?_⟩
    · by_cases z : j = k
      · subst z; rw [m7, si_eq, r3]
      · refine (f7 164 j (by omega)).trans (cs6.2.2.2.1 j ?_)
        dsimp only
        rw [bl_or, bl_one hk (by omega), decide_eq_false z, Bool.or_false]; exact hj
    · have z : j ≠ k := fun h => by subst h; dsimp only at hj; rw [nk] at hj; cases hj
      have := cs6.2.2.2.2 j (by dsimp only; rw [bl_or]; dsimp only at hj; rw [hj]; rfl)
      exact ⟨this.1, (f7 164 j (by omega)).trans this.2⟩
  rcases io e with ⟨g8, e⟩ | ⟨g8, e⟩
  · obtain rfl := Option.some.inj e
    exact nx M7 j7 cs7 (fun _ _ _ => ⟨M5, sv, x6, hk, cs5, j5, e6, g8⟩)
  · obtain rfl := Option.some.inj e
    show ∃ s : Nat, s < w ∧ _
    exact ⟨k, by omega, lk9, by rw [r3]; rfl, nca, ncb, ⟨M5, sv, x6, hk, cs5, j5, e6, g8, by rw [m5, si_ne (by omega), m4]; exact si_eq, fun j => f7 184 j (by omega)⟩, ih⟩
theorem parts_184 (a b i4 : Int32) : ∀ (F : Nat) (i fm : Int32) (S : Mem) (y : Int32 × Mem), 0 ≤ i.toInt → i.toInt ≤ i4.toInt → i4.toInt ≤ 3 → fr_parts F a b i i4 fm S = some y → ∀ j : Nat, (j : Int) < i.toInt → y.2.1 184 j = S.1 184 j := by
  intro F
  induction F with
  | zero => intro i fm S y _ _ _ e; exact nomatch (show (none : Option (Int32 × Mem)) = some y from e)
  | succ F ih =>
    intro i fm S y i0 i4' i3 e j hj
    have e : fb_Mod_parts (fr_parts F) a b i i4 fm S = some y := e
    unfold fb_Mod_parts at e
    rcases io e with ⟨_, e⟩ | ⟨gi, e⟩
    · obtain ⟨x16, e16, e⟩ := bo e
      have fr : Fx (2 ^ 400 - 1 - 2 ^ 184) [] S x16.2 := wf_Mod_findTryst a b S (by decide +kernel) Fx_r e16
      have h := (fr 184 j (by rw [show sl 184 j = 184 from rfl]; decide +kernel) (by simp)).1
      rcases io e with ⟨_, e⟩ | ⟨_, e⟩
      · obtain rfl := Option.some.inj e; exact h
      · obtain rfl := Option.some.inj e; exact h
    · have gg := q_ne gi
      obtain ⟨ii, hi⟩ := ti_ofn i0
      obtain ⟨yl, eyl, e⟩ := bo e
      have L : Sum.elim (fun N : Mem => N.1 184 j = S.1 184 j) (fun N : Mem => N.1 184 j = S.1 184 j) yl := by
        refine it_r (I := fun s : Int32 × Mem => s.2.1 184 j = S.1 184 j) (Q := fun yl : Mem ⊕ Mem => Sum.elim (fun N : Mem => N.1 184 j = S.1 184 j) (fun N : Mem => N.1 184 j = S.1 184 j) yl) ?_ eyl rfl
        rintro ⟨sv, N⟩ r h e
        dsimp only at h
        unfold lb_Mod_parts_28 at e
        dsimp only at e
        obtain ⟨x4, _, e⟩ := bo e
        rcases io e with ⟨_, e⟩ | ⟨_, e⟩
        · obtain rfl := Option.some.inj e; exact h
        obtain ⟨_, e⟩ := io_n e
        rcases io e with ⟨_, e⟩ | ⟨_, e⟩
        rotate_left
        · obtain rfl := Option.some.inj e; exact h
        obtain ⟨_, e⟩ := io_n e
        obtain ⟨x2, _, e⟩ := bo e
        rcases io e with ⟨_, e⟩ | ⟨_, e⟩
        · obtain rfl := Option.some.inj e; exact h
        obtain ⟨_, e⟩ := io_n e
        obtain ⟨x3, _, e⟩ := bo e
        rcases io e with ⟨_, e⟩ | ⟨_, e⟩
        · obtain rfl := Option.some.inj e; exact h
        obtain ⟨_, e⟩ := io_n e
        obtain ⟨M4, m4, e⟩ := mo e
        obtain ⟨_, e⟩ := io_n e
        obtain ⟨M5, m5, e⟩ := mo e
        obtain ⟨x6, e6, e⟩ := bo e
        obtain ⟨_, e⟩ := io_n e
        obtain ⟨M7, m7, e⟩ := mo e
        rw [q_nat hi] at m4
        have i1 : (i + (1 : Int32)).toInt = i.toInt + 1 := add_ti rfl o1 (by omega) (by omega)
        have h6 := ih (i + (1 : Int32)) _ M5 x6 (by omega) (by omega) i3 e6 j (by omega)
        have h7 : M7.1 184 j = S.1 184 j := by rw [m7, si_ne (by omega), h6, m5, si_ne (by omega), m4, si_ne (by omega)]; exact h
        rcases io e with ⟨_, e⟩ | ⟨_, e⟩
        · obtain rfl := Option.some.inj e; exact h7
        · obtain rfl := Option.some.inj e; exact h7
      rcases yl with N | N
      · obtain rfl := Option.some.inj e; exact L
      · obtain rfl := Option.some.inj e; exact L
theorem pby_3 {X R : Mem} {n p q ca cb w : Nat} {a b : Int32} {v3 : Int64} (zq : ZQ X R n) (hp : a.toInt = (p : Int)) (hq : b.toInt = (q : Int)) (pn : p < n) (qn : q < n) (hca : (X.1 12 p).toInt = (ca : Int)) (hcb : (X.1 12 q).toInt = (cb : Int)) (hw : xw R * xh R = (w : Int)) (w36 : w ≤ 36) (hv3 : ∀ d, bl v3 d = true ↔ d < w ∧ (R.1 164 d).toInt = 3 ∧ d ≠ ca ∧ d ≠ cb) :
    ∀ (k F1 F2 lo : Nat) (a5 i i4 fm : Int32) (v6 : Int64) (S : Mem) (x : Int64) (y : Int32 × Mem), a5.toInt = (k : Int) → 0 ≤ i.toInt → i4.toInt = i.toInt + (k : Int) → i4.toInt ≤ 3 → k < F2 → fm.toInt = (lo : Int) → lo ≤ 36 → (∀ d, bl v6 d = true → bl v3 d = true) → (∀ s, lo ≤ s ↔ ∀ d, bl v6 d = true → d < s) → CSx R S (fun d => bl v6 d) → J S → fr_pby F1 a b v3 a5 v6 X = some x → fr_parts F2 a b i i4 fm S = some y → y.1 ≠ 0 → ∃ f : Nat → Nat, (∀ t, t < k → (y.2.1 184 (i.toNatClampNeg + t)).toInt = (f t : Int) ∧ lo ≤ f t ∧ f t < 36) ∧ (∀ t u, t < u → u < k → f t < f u) ∧ (∀ d, bl x d = true ↔ bl v6 d = true ∨ ∃ t, t < k ∧ f t = d) := by
  have zq' := zq
  obtain ⟨n8, jR, ⟨zg, zc, zl⟩, zs, zv, zw⟩ := zq'
  have neg : lg_cmp (-1 : Int64) (0 : Int64) < 0 := by decide
  have z0 := o0
  intro k
  induction k with
  | zero =>
    intro F1 F2 lo a5 i i4 fm v6 S x y h5 i0 hi4 i3 hF hfm l36 hsub hlo cs jS ex ey hy
    have P := (pby_2 zq hp hq pn qn hca hcb hw w36 hv3 0 F1 F2 lo a5 i i4 fm v6 S x y h5 i0 hi4 i3 hF hfm l36 hsub hlo cs jS ex ey).mpr hy
    cases F1 with
    | zero => exact nomatch (show (none : Option Int64) = some x from ex)
    | succ F1 =>
    have ex : fb_Top_partedBy (fr_pby F1) a b v3 a5 v6 X = some x := ex
    unfold fb_Top_partedBy at ex
    rcases io ex with ⟨g, _⟩ | ⟨_, ex⟩
    · have := q_lt g; omega
    obtain ⟨x10, e10, ex⟩ := bo ex
    rcases io ex with ⟨g, ex⟩ | ⟨g, ex⟩
    · have ex9 : v6 = x := Option.some.inj ex
      refine ⟨fun _ => 0, fun t ht => absurd ht (by omega), fun t u _ hu => absurd hu (by omega), fun d => ?_⟩
      rw [← ex9]
      exact ⟨fun h => .inl h, fun h => h.elim id (fun ⟨t, ht, _⟩ => absurd ht (by omega))⟩
    · have ex9 : (-1 : Int64) = x := Option.some.inj ex
      rw [← ex9] at P
      exact absurd neg P
  | succ k ih =>
    intro F1 F2 lo a5 i i4 fm v6 S x y h5 i0 hi4 i3 hF hfm l36 hsub hlo cs jS ex ey hy
    have P := (pby_2 zq hp hq pn qn hca hcb hw w36 hv3 (k + 1) F1 F2 lo a5 i i4 fm v6 S x y h5 i0 hi4 i3 hF hfm l36 hsub hlo cs jS ex ey).mpr hy
    cases F1 with
    | zero => exact nomatch (show (none : Option Int64) = some x from ex)
    | succ F1 =>
    obtain ⟨F, rfl⟩ : ∃ F, F2 = F + 1 := ⟨F2 - 1, by omega⟩
    have ex : fb_Top_partedBy (fr_pby F1) a b v3 a5 v6 X = some x := ex
    have ey : fb_Mod_parts (fr_parts F) a b i i4 fm S = some y := ey
    have b6 : ∀ d, bl v6 d = true → d < 36 := fun d h => by have := ((hv3 d).mp (hsub d h)).1; omega
    unfold fb_Top_partedBy at ex
    rcases io ex with ⟨_, ex⟩ | ⟨g, _⟩
    rotate_left
    · have := q_nl g; omega
    obtain ⟨xl, exl, ex⟩ := bo ex
    unfold fb_Mod_parts at ey
    rcases io ey with ⟨g, _⟩ | ⟨_, ey⟩
    · rw [g] at hi4; omega
    obtain ⟨yl, eyl, ey⟩ := bo ey
    have CL := pbyl_s (rc := fr_pby F1) (w := w) (by rw [zg.2.1]; exact hw) w36 b6 hlo exl
    have RL := partsl_s (F := F) zq hp hq pn qn hca hcb hw w36 i0 (by omega) i3 (by omega) hfm l36 (fun d h => (hlo lo).mp (Nat.le_refl _) d h) cs jS eyl
    have a51 : (a5 - (1 : Int32)).toInt = (k : Int) := by rw [sub_ti h5 o1 (by omega) (by omega)]; omega
    have i1 : (i + (1 : Int32)).toInt = i.toInt + 1 := add_ti rfl o1 (by omega) (by omega)
    rcases xl with u | z
    · have ex9 : (-1 : Int64) = x := Option.some.inj ex
      rw [← ex9] at P
      exact absurd neg P
    rcases yl with N | N
    · have ey9 : ((0 : Int32), N) = y := Option.some.inj ey
      rw [← ey9] at hy
      exact absurd rfl hy
    have ex9 : z = x := Option.some.inj ex
    have ey9 : ((1 : Int32), N) = y := Option.some.inj ey
    rw [← ex9, ← ey9]
    obtain ⟨zn, s, sw, ls, b3, ⟨sv, z', hs, ez, ez'⟩, cf⟩ := CL
    have ez' : z' = z := ez'
    rw [ez'] at ez
    obtain ⟨t, tw, lt, h3, n1, n2, ⟨M5, tv, y', ht, cs5, j5, ey', hy', m184, n184⟩, rf⟩ := RL
    have b3t := (hv3 t).mpr ⟨tw, h3, n1, n2⟩
    obtain ⟨_, h3s, n1s, n2s⟩ := (hv3 s).mp b3
    have st : s = t := by
      rcases Nat.lt_trichotomy s t with q9 | q9 | q9
      · exfalso
        obtain ⟨M6, sv', y6, hs6, cs6, j6, e6, p6⟩ := rf s q9 ls h3s n1s n2s
        have : sv' = sv := Int32.toInt_inj.mp (by omega)
        subst this
        obtain ⟨c1, c2⟩ := cls_1 hv3 w36 hs sw ls b3 hsub hlo
        exact (pby_2 zq hp hq pn qn hca hcb hw w36 hv3 k F1 F (s + 1) _ _ i4 (sv' + (1 : Int32)) _ M6 z y6 a51 (by omega) (by omega) i3 (by omega) (by rw [add_ti hs o1 (by omega) (by omega)]; omega) (by omega) c1 c2 cs6 j6 ez e6).mp zn p6
      · exact q9
      · exfalso
        obtain ⟨sv', z6, hs6, e6, p6⟩ := cf t q9 lt b3t
        have : sv' = tv := Int32.toInt_inj.mp (by omega)
        subst this
        obtain ⟨c1, c2⟩ := cls_1 hv3 w36 hs6 tw lt b3t hsub hlo
        exact (pby_2 zq hp hq pn qn hca hcb hw w36 hv3 k F1 F (t + 1) _ _ i4 (sv' + (1 : Int32)) _ M5 z6 y' a51 (by omega) (by omega) i3 (by omega) (by rw [add_ti hs6 o1 (by omega) (by omega)]; omega) (by omega) c1 c2 cs5 j5 e6 ey').mpr hy' p6
    subst st
    have : tv = sv := Int32.toInt_inj.mp (by omega)
    subst this
    obtain ⟨c1, c2⟩ := cls_1 hv3 w36 hs sw ls b3 hsub hlo
    have t1 : (tv + (1 : Int32)).toInt = ((s + 1 : Nat) : Int) := by rw [add_ti hs o1 (by omega) (by omega)]; omega
    obtain ⟨f, f1, f2, f3⟩ := ih F1 F (s + 1) (a5 - (1 : Int32)) (i + (1 : Int32)) i4 (tv + (1 : Int32)) _ M5 z y' a51 (by omega) (by omega) i3 (by omega) t1 (by omega) c1 c2 cs5 j5 ez ey' hy'
    obtain ⟨ii, hi⟩ := ti_ofn i0
    have k0 : i.toNatClampNeg = ii := q_nat hi
    have k1 : (i + (1 : Int32)).toNatClampNeg = ii + 1 := q_nat (by omega)
    rw [k0] at m184 ⊢
    rw [k1] at f1
    have keep := parts_184 a b i4 F (i + (1 : Int32)) (tv + (1 : Int32)) M5 y' (by omega) (by omega) i3 ey' ii (by omega)
    refine ⟨fun t => if t = 0 then s else f (t - 1), fun t ht => ?_, fun t u htu hu => ?_, fun d => ?_⟩
    · dsimp only
      by_cases g : t = 0
      · subst g
        rw [if_pos rfl]
        refine ⟨?_, ls, by omega⟩
        show (N.1 184 (ii + 0)).toInt = _
        rw [n184, Nat.add_zero, keep, m184]; exact hs
      · rw [if_neg g]
        have := f1 (t - 1) (by omega)
        refine ⟨?_, by omega, this.2.2⟩
        show (N.1 184 (ii + t)).toInt = _
        rw [n184, show ii + t = ii + 1 + (t - 1) by omega]; exact this.1
    · dsimp only
      rw [if_neg (show ¬ u = 0 by omega)]
      by_cases g : t = 0
      · rw [if_pos g]
        have := f1 (u - 1) (by omega)
        omega
      · rw [if_neg g]
        exact f2 (t - 1) (u - 1) (by omega) (by omega)
    · rw [f3 d, bl_or, bl_one hs (by omega), Bool.or_eq_true, decide_eq_true_iff]
      constructor
      · rintro ((h | h) | ⟨t, ht, e⟩)
        · exact .inl h
        · exact .inr ⟨0, by omega, by dsimp only; rw [if_pos rfl]; exact h.symm⟩
        · exact .inr ⟨t + 1, by omega, by dsimp only; rw [if_neg (by omega)]; exact e⟩
      · rintro (h | ⟨t, ht, e⟩)
        · exact .inl (.inl h)
        · dsimp only at e
          by_cases g : t = 0
          · rw [if_pos g] at e; exact .inl (.inr e.symm)
          · rw [if_neg g] at e; exact .inr ⟨t - 1, by omega, e⟩
end
section
/-! part: the row -/
theorem pt_c2 {X : Mem} {a b : Int32} {v3 : Int64} {x : Unit ⊕ (Int32 × Int64)} (e : iter (lb_Top_part_67 a b v3 X) FU (0 : Int32) = some x) : ∀ y, x = .inr y → ∃ s : Nat, s ≤ 3 ∧ y.1.toInt = (s : Int) ∧ f_Top_partedBy a b v3 y.1 (0 : Int64) X = some y.2 := by
  have z3 := o3
  refine it_r (I := fun s : Int32 => ∃ k : Nat, s.toInt = (k : Int) ∧ k ≤ 4) (Q := fun x : Unit ⊕ (Int32 × Int64) => ∀ y, x = .inr y → ∃ s : Nat, s ≤ 3 ∧ y.1.toInt = (s : Int) ∧ f_Top_partedBy a b v3 y.1 (0 : Int64) X = some y.2) ?_ e ⟨0, rfl, by omega⟩
  rintro sv r ⟨k, hk, k4⟩ e
  unfold lb_Top_part_67 at e
  rcases io e with ⟨g, e⟩ | ⟨g, e⟩
  · obtain rfl := Option.some.inj e
    show ∀ y : Int32 × Int64, (Sum.inl () : Unit ⊕ (Int32 × Int64)) = .inr y → _
    intro y h; cases h
  have g1 := q_nl g
  obtain ⟨z, ez, e⟩ := bo e
  rcases io e with ⟨g2, e⟩ | ⟨g2, e⟩
  · obtain rfl := Option.some.inj e
    exact ⟨k + 1, add_ti hk o1 (by omega) (by omega), by omega⟩
  · obtain rfl := Option.some.inj e
    show ∀ y : Int32 × Int64, (Sum.inr (sv, z) : Unit ⊕ (Int32 × Int64)) = .inr y → _
    intro y h
    obtain rfl := Sum.inr.inj h
    exact ⟨k, by omega, hk, ez⟩
theorem pt_r2 {R N0 : Mem} {a b : Int32} (ha : 0 ≤ a.toInt ∧ a.toInt ≤ 7) (hb : 0 ≤ b.toInt ∧ b.toInt ≤ 7) (cs : CSx R N0 (fun d => bl 0 d)) (jN : J N0) {x : Mem ⊕ (Int32 × Mem)} (e : iter (lb_Mod_part_18 a b) FU ((0 : Int32), N0) = some x) : (∀ y, x = .inr y → ∃ s : Nat, s ≤ 3 ∧ y.1.toInt = (s : Int) ∧ ∃ (M5 : Mem) (u : Int32), CSx R M5 (fun d => bl 0 d) ∧ J M5 ∧ f_Mod_parts a b (0 : Int32) y.1 (0 : Int32) M5 = some (u, y.2) ∧ u ≠ 0) ∧ Sum.elim (fun N : Mem => N.1 162 12 = N0.1 162 12 ∧ ∀ i, N.1 168 i = N0.1 168 i) (fun _ => True) x := by
  have z3 := o3
  have z0 := o0
  refine it_r (I := fun s : Int32 × Mem => ∃ k : Nat, s.1.toInt = (k : Int) ∧ k ≤ 4 ∧ J s.2 ∧ CSx R s.2 (fun d => bl 0 d) ∧ s.2.1 162 12 = N0.1 162 12 ∧ ∀ i, s.2.1 168 i = N0.1 168 i)
    (Q := fun x : Mem ⊕ (Int32 × Mem) => (∀ y, x = .inr y → ∃ s : Nat, s ≤ 3 ∧ y.1.toInt = (s : Int) ∧ ∃ (M5 : Mem) (u : Int32), CSx R M5 (fun d => bl 0 d) ∧ J M5 ∧ f_Mod_parts a b (0 : Int32) y.1 (0 : Int32) M5 = some (u, y.2) ∧ u ≠ 0) ∧ Sum.elim (fun N : Mem => N.1 162 12 = N0.1 162 12 ∧ ∀ i, N.1 168 i = N0.1 168 i) (fun _ => True) x) ?_ e ⟨0, rfl, by omega, jN, cs, rfl, fun _ => rfl⟩
  clear cs jN e
  rintro ⟨sv, N⟩ r ⟨k, hk, k4, jN, cs, r1, r2⟩ e
  dsimp only at hk jN cs r1 r2
  unfold lb_Mod_part_18 at e
  dsimp only at e
  rcases io e with ⟨g, e⟩ | ⟨g, e⟩
  · obtain rfl := Option.some.inj e
    show (∀ y : Int32 × Mem, (Sum.inl N : Mem ⊕ (Int32 × Mem)) = .inr y → _) ∧ _
    exact ⟨fun y h => (by cases h), r1, r2⟩
  have g1 := q_nl g
  obtain ⟨y, ey, e⟩ := bo e
  obtain ⟨j3, g3, _⟩ := some_of (sf_Mod_parts a b (0 : Int32) sv (0 : Int32) N ha hb (by omega) (by omega) (by omega) jN) ey
  have fr : Fx (2 ^ 400 - 1 - 2 ^ 212 - 2 ^ 168) [] N y.2 := wf_Mod_parts a b (0 : Int32) sv (0 : Int32) N (by decide +kernel) Fx_r ey
  rcases io e with ⟨g2, e⟩ | ⟨g2, e⟩
  · obtain rfl := Option.some.inj e
    exact ⟨k + 1, add_ti hk o1 (by omega) (by omega), by omega, j3, CS_gd cs g3, by rw [(fr 162 12 (by decide +kernel) (by simp)).1]; exact r1, fun i => by rw [(fr 168 i (by rw [show sl 168 i = 168 from rfl]; decide +kernel) (by simp)).1]; exact r2 i⟩
  · obtain rfl := Option.some.inj e
    show (∀ y9 : Int32 × Mem, (Sum.inr (sv, y.2) : Mem ⊕ (Int32 × Mem)) = .inr y9 → _) ∧ _
    refine ⟨fun y9 h => ?_, trivial⟩
    obtain rfl := Sum.inr.inj h
    exact ⟨k, by omega, hk, N, y.1, cs, jN, ey, g2⟩
/-- the class tells the cells of a set, rising -/
theorem rise_c {m : Nat} {f : Nat → Nat} (m3 : m ≤ 3) (f1 : ∀ t, t < m → f t < 36) (f2 : ∀ t u, t < u → u < m → f t < f u) {v5 : Int32} {v6 : Int64} (hb : ∀ d, bl v6 d = true ↔ ∃ t, t < m ∧ f t = d) {X x : Mem} (h0 : (X.1 0 15).toInt = 0) (e : iter (lb_Top_part_99 v5 v6) FU ((0 : Int32), X) = some x) : (x.1 0 15).toInt = (m : Int) ∧ ∀ t, t < m → (x.1 161 t).toInt = (f t : Int) := by
  have k36 : (36 : Int32).toInt = 36 := rfl
  have z0 := o0
  have z10 : (10 : Int32).toInt = 10 := rfl
  refine it_r (I := fun s : Int32 × Mem => ∃ c t : Nat, c ≤ 36 ∧ t ≤ m ∧ s.1.toInt = (c : Int) ∧ (∀ u, u < t → f u < c) ∧ (∀ u, t ≤ u → u < m → c ≤ f u) ∧ (s.2.1 0 15).toInt = (t : Int) ∧ ∀ u, u < t → (s.2.1 161 u).toInt = (f u : Int)) (Q := fun x : Mem => (x.1 0 15).toInt = (m : Int) ∧ ∀ t, t < m → (x.1 161 t).toInt = (f t : Int)) ?_ e ⟨0, 0, by omega, by omega, rfl, fun u hu => absurd hu (by omega), fun u _ _ => Nat.zero_le _, h0, fun u hu => absurd hu (by omega)⟩
  rintro ⟨cv, N⟩ r ⟨c, t, c36, tm, hc, i1, i2, i3, i4⟩ e
  dsimp only at hc i3 i4
  unfold lb_Top_part_99 at e
  dsimp only at e
  rcases io e with ⟨g, e⟩ | ⟨g, e⟩
  · have := q_le g
    obtain rfl := Option.some.inj e
    have : t = m := by
      rcases Nat.lt_or_ge t m with q | q
      · have a := i2 t (Nat.le_refl _) q
        have b := f1 t q
        omega
      · omega
    subst this
    exact ⟨i3, i4⟩
  have g1 := q_ng g
  have c1 : (cv + (1 : Int32)).toInt = ((c + 1 : Nat) : Int) := add_ti hc o1 (by omega) (by omega)
  rcases io e with ⟨g, e⟩ | ⟨g, e⟩
  · have gb := (bl_cmp hc (by omega)).mp g
    obtain rfl := Option.some.inj e
    refine ⟨c + 1, t, by omega, tm, c1, fun u hu => by have := i1 u hu; omega, fun u h1 h2 => ?_, i3, i4⟩
    have a := i2 u h1 h2
    by_cases q : f u = c
    · have := (hb c).mpr ⟨u, h2, q⟩
      rw [gb] at this; cases this
    · omega
  · have gb : bl v6 c = true := by
      cases hb9 : bl v6 c with
      | true => rfl
      | false => exact absurd ((bl_cmp hc (by omega)).mpr hb9) g
    obtain ⟨x11, e11, e⟩ := bo e
    obtain rfl := Option.some.inj e
    obtain ⟨u, um, hu⟩ := (hb c).mp gb
    have ut : u = t := by
      rcases Nat.lt_trichotomy u t with q | q | q
      · have := i1 u q; omega
      · exact q
      · have a := i2 t (Nat.le_refl _) (by omega)
        have b := f2 t u q um
        omega
    subst ut
    unfold f_Top_note at e11
    rcases io e11 with ⟨c9, _⟩ | ⟨_, e11⟩
    · have := q_lt c9; omega
    rcases io e11 with ⟨c9, _⟩ | ⟨_, e11⟩
    · have := q_le c9; omega
    obtain ⟨_, e11⟩ := io_n e11
    obtain ⟨A1, a1, e11⟩ := mo e11
    obtain ⟨A2, a2, e11⟩ := mo e11
    obtain rfl := Option.some.inj e11
    rw [q_nat i3] at a1
    refine ⟨c + 1, u + 1, by omega, by omega, c1, fun w hw => ?_, fun w h1 h2 => ?_, ?_, fun w hw => ?_⟩
    · by_cases q : w = u
      · subst q; omega
      · have := i1 w (by omega); omega
    · have := f2 u w (by omega) h2; omega
    · show (A2.1 0 15).toInt = _
      rw [a2, si_eq, a1, si_ne (by omega)]; exact add_ti i3 o1 (by omega) (by omega)
    · show (A2.1 161 w).toInt = _
      rw [a2, si_ne (by omega), a1]
      by_cases q : w = u
      · subst q; rw [si_eq, hc, hu]
      · rw [si_ne (by omega)]; exact i4 w (by omega)
theorem rise_r {m : Nat} {f : Nat → Nat} (m3 : m ≤ 3) {v3 : Int32} (hv : v3.toInt = (m : Int)) {R r : Mem} (h0 : (R.1 162 12).toInt = 0) (hf : ∀ t, t < m → (R.1 184 t).toInt = (f t : Int)) (e : iter (lb_Mod_part_46 v3) FU ((0 : Int32), R) = some r) : (r.1 162 12).toInt = (m : Int) ∧ ∀ t, t < m → (r.1 168 t).toInt = (f t : Int) := by
  refine it_r (I := fun s : Int32 × Mem => ∃ t : Nat, t ≤ m ∧ s.1.toInt = (t : Int) ∧ (s.2.1 162 12).toInt = (t : Int) ∧ (∀ u, u < t → (s.2.1 168 u).toInt = (f u : Int)) ∧ ∀ i, s.2.1 184 i = R.1 184 i) (Q := fun r : Mem => (r.1 162 12).toInt = (m : Int) ∧ ∀ t, t < m → (r.1 168 t).toInt = (f t : Int)) ?_ e ⟨0, by omega, rfl, h0, fun u hu => absurd hu (by omega), fun _ => rfl⟩
  rintro ⟨tv, N⟩ r ⟨t, tm, ht, i3, i4, i5⟩ e
  dsimp only at ht i3 i4 i5
  unfold lb_Mod_part_46 at e
  dsimp only at e
  rcases io e with ⟨g, e⟩ | ⟨g, e⟩
  · have := q_le g
    obtain rfl := Option.some.inj e
    have : t = m := by omega
    subst this
    exact ⟨i3, i4⟩
  have g1 := q_ng g
  obtain ⟨_, e⟩ := io_n e
  obtain ⟨x10, e10, e⟩ := bo e
  obtain rfl := Option.some.inj e
  rw [q_nat ht, i5] at e10
  have hp := put_i e10
  unfold f_Mod_put at e10
  obtain ⟨_, e10⟩ := io_n e10
  obtain ⟨A1, a1, e10⟩ := mo e10
  obtain ⟨A2, a2, e10⟩ := mo e10
  obtain rfl := Option.some.inj e10
  rw [q_nat i3] at a1
  refine ⟨t + 1, by omega, add_ti ht o1 (by omega) (by omega), ?_, fun w hw => ?_, fun i => ?_⟩
  · show (A2.1 162 12).toInt = _
    rw [a2, si_eq, a1, si_ne (by omega)]; exact add_ti i3 o1 (by omega) (by omega)
  · show (A2.1 168 w).toInt = _
    rw [a2, si_ne (by omega), a1]
    by_cases q : w = t
    · subst q; rw [si_eq]; exact hf w (by omega)
    · rw [si_ne (by omega)]; exact i4 w (by omega)
  · show A2.1 184 i = _
    rw [hp 184 i (by omega) (by omega)]; exact i5 i
theorem part_r {X R : Mem} {n : Nat} {a b : Int32} {x r : Int32 × Mem} (hJ : J X) (za : ZA X R n) (ex : f_Top_part a b X = some x) (er : f_Mod_part a b R = some r) (hr : RR X R) : RR x.2 r.2 := by
  have A := part_q hJ za ex er
  have z0 := o0
  have ym := om
  have k2 : (-2 : Int32).toInt = -2 := rfl
  unfold f_Mod_part at er
  obtain ⟨M1, m1, er⟩ := mo er
  obtain ⟨zaM, fqM⟩ := ZA_M1 za m1
  have zq := zaM.1
  obtain ⟨n8, jM, ⟨zg, zc, zl⟩, zs, zv, zw⟩ := zaM.1
  have wh := awh jM
  obtain ⟨y2, ey2, er⟩ := bo er
  unfold f_Top_part at ex
  obtain ⟨x1, ex1, ex⟩ := bo ex
  rcases mw_2 zc n8 ex1 ey2 with ⟨h1, h2⟩ | ⟨h1, h2, p, q, hp, hq, pn, qn⟩
  · rw [h1, if_pos rfl] at ex
    rw [h2, if_pos rfl] at er
    obtain rfl := Option.some.inj ex
    obtain rfl := Option.some.inj er
    exact FQ2_RR fqM hr
  rw [h1, if_neg (by decide)] at ex
  rw [h2, if_neg (by decide)] at er
  obtain ⟨la, ca, la2, ca36, hla, hca, hPa, ona⟩ := at_2 n8 zs zv pn
  obtain ⟨lb, cb, lb2, cb36, hlb, hcb, hPb, onb⟩ := at_2 n8 zs zv qn
  obtain ⟨st, es, ex⟩ := bo ex
  obtain ⟨_, ex⟩ := io_n ex
  obtain ⟨_, ex⟩ := io_n ex
  rw [q_nat hp, q_nat hq] at ex
  obtain ⟨x3, ex3, ex⟩ := bo ex
  have sti := stairs_i (.inl rfl) jM zg.2.2.2 zw.1 es
  obtain ⟨w, hw⟩ : ∃ w : Nat, xw M1 * xh M1 = (w : Int) := ⟨(xw M1 * xh M1).toNat, by omega⟩
  have w36 : w ≤ 36 := by omega
  obtain ⟨v3, ev3⟩ : ∃ v3 : Int64, v3 = (st &&& (((1 : Int64) <<< ((X.1 12 p).toInt64 &&& 63)) ^^^ (-1 : Int64))) &&& (((1 : Int64) <<< ((X.1 12 q).toInt64 &&& 63)) ^^^ (-1 : Int64)) := ⟨_, rfl⟩
  rw [← ev3] at ex ex3
  have hv3 : ∀ d, bl v3 d = true ↔ d < w ∧ (M1.1 164 d).toInt = 3 ∧ d ≠ ca ∧ d ≠ cb := by
    intro d
    rw [ev3, bl_and, bl_and, Bool.and_eq_true, Bool.and_eq_true, sti d]
    by_cases d64 : d < 64
    · rw [bl_not d64, bl_not d64, bl_one hca (by omega), bl_one hcb (by omega), Bool.not_eq_true', Bool.not_eq_true', decide_eq_false_iff_not, decide_eq_false_iff_not]
      constructor
      · rintro ⟨⟨⟨u1, u2⟩, u3⟩, u4⟩; exact ⟨by omega, u2, u3, u4⟩
      · rintro ⟨u1, u2, u3, u4⟩; exact ⟨⟨⟨by omega, u2⟩, u3⟩, u4⟩
    · constructor
      · rintro ⟨⟨⟨u1, _⟩, _⟩, _⟩; omega
      · rintro ⟨u1, _⟩; omega
  have hs0 : ∀ d, bl 0 d = true → bl v3 d = true := fun d h => by rw [bl_0] at h; cases h
  have hl0 : ∀ s, 0 ≤ s ↔ ∀ d, bl 0 d = true → d < s := fun s => ⟨fun _ d h => absurd h (by rw [bl_0]; decide), fun _ => Nat.zero_le _⟩
  have cs0 : CSx M1 M1 (fun d => bl 0 d) := ⟨rfl, rfl, fun _ => rfl, fun _ _ => rfl, fun i h => by dsimp only at h; rw [bl_0] at h; cases h⟩
  have a7 : 0 ≤ a.toInt ∧ a.toInt ≤ 7 := by omega
  have b7 : 0 ≤ b.toInt ∧ b.toInt ≤ 7 := by omega
  obtain ⟨yl, eyl, er⟩ := bo er
  obtain ⟨RL, RF⟩ := pt_r2 (R := M1) a7 b7 cs0 jM eyl
  -- the reference finds none
  have none9 : x.1 = -2 → RR x.2 M1 → RR x.2 r.2 := by
    intro h2 hR
    rcases yl with N | y
    · obtain rfl := Option.some.inj er
      exact RR_f rfl (fun _ => rfl) RF.1 RF.2 hR
    · exfalso
      rw [Sum.elim_inr] at er
      obtain ⟨M9, m9, er⟩ := mo er
      obtain ⟨x12, e12, er⟩ := bo er
      obtain rfl := Option.some.inj er
      obtain ⟨s, _, hs, _⟩ := RL y rfl
      have : y.1 = -2 := A.symm.trans h2
      rw [this] at hs; omega
  rcases io ex with ⟨g3, ex⟩ | ⟨g3, ex⟩
  rotate_left
  · obtain rfl := Option.some.inj ex
    exact none9 rfl (FQ2_RR fqM hr)
  obtain ⟨xl, exl, ex⟩ := bo ex
  have CL := pt_c2 exl
  rcases xl with u | y9
  · obtain rfl := Option.some.inj ex
    exact none9 rfl (FQ2_RR fqM hr)
  rw [Sum.elim_inr] at ex
  obtain ⟨x10, e10, ex⟩ := bo ex
  obtain ⟨x14, e14, ex⟩ := bo ex
  obtain rfl := Option.some.inj ex
  obtain ⟨s, s3, hs, ep⟩ := CL y9 rfl
  rcases yl with N | y
  · obtain rfl := Option.some.inj er
    have : y9.1 = -2 := A
    rw [this] at hs; omega
  rw [Sum.elim_inr] at er
  obtain ⟨M9, m9, er⟩ := mo er
  obtain ⟨x12, e12, er⟩ := bo er
  obtain rfl := Option.some.inj er
  obtain ⟨t, t3, ht, M5, u5, cs5, j5, e5, u0⟩ := RL y rfl
  have yy : y9.1 = y.1 := A
  rw [yy] at hs ep
  obtain ⟨f, f1, f2, f3⟩ := pby_3 zq hp hq pn qn hca hcb hw w36 hv3 s 8 8 0 y.1 0 y.1 0 0 M5 y9.2 (u5, y.2) hs (by omega) (by omega) (by omega) (by omega) (by rw [z0]; rfl) (by omega) hs0 hl0 cs5 j5 ep e5 u0
  have hb : ∀ d, bl y9.2 d = true ↔ ∃ t, t < s ∧ f t = d := fun d => by
    rw [f3 d, bl_0]
    exact ⟨fun h => h.elim (fun w => by cases w) id, .inr⟩
  have r0 := RR_0 e10 m9
  obtain ⟨c1, c2⟩ := rise_c s3 (fun t ht => (f1 t ht).2.2) f2 hb r0.1 e14
  obtain ⟨d1, d2⟩ := rise_r (f := f) s3 hs r0.2.1 (fun t ht => by rw [m9, si_ne (by omega)]; have := (f1 t ht).1; rw [show (0 : Int32).toNatClampNeg + t = t from Nat.zero_add t] at this; exact this) e12
  exact ⟨s, by omega, c1, d1, fun i hi => Int32.toInt_inj.mp (by show (x14.1 161 i).toInt = (x12.1 168 i).toInt; rw [c2 i hi, d2 i hi])⟩
end
section
/-! wardrobe: the row -/
theorem ak_v {R : Mem} {u k v : Nat} (h : Ak R u k v) : vst R v := ⟨h.1, by rw [h.2.2.2.1]; exact h.2.1, by rw [h.2.2.2.2]; exact h.2.2.1⟩
theorem ak_cr {R : Mem} (jR : J R) {u k v : Nat} (h : Ak R u k v) : crR R ((u / 5 : Nat) : Int) (sd R u) ((10 * (k / 5) + k % 5 : Nat) : Int) ((phN R v : Nat) : Int) := by
  obtain ⟨v1, v2, v3⟩ := ph_e jR (ak_v h)
  obtain ⟨h1, a, b, c, d⟩ := h
  have e1 : ((10 * (k / 5) + k % 5 : Nat) : Int) / 10 = ((k / 5 : Nat) : Int) := by omega
  have e2 : ((10 * (k / 5) + k % 5 : Nat) : Int) % 10 = ((k % 5 : Nat) : Int) := by omega
  refine ⟨_, _, by rw [e1]; exact tos_pl a, by rw [e2]; exact tos_pl b, .inr (.inr ⟨?_, ?_, ?_, ?_⟩)⟩
  · have := a.1; omega
  · have := b.1; omega
  · rw [← c, ← d]
    exact ne_tos.mpr ⟨((v % 5 : Nat) : Int), by omega, by omega, rfl⟩
  · rw [← c, ← d]; omega
theorem cr_ak {R : Mem} (jR : J R) {u cd y : Nat} (hu : vst R u) (h : crR R ((u / 5 : Nat) : Int) (sd R u) (cd : Int) (y : Int)) (h4 : cd % 10 ≤ 4) : ∃ v, Ak R u (5 * (cd / 10) + cd % 10) v ∧ phN R v = y := by
  obtain ⟨i', j', p1, p2, p3⟩ := h
  have wh := awh jR
  rcases p3 with ⟨_, z⟩ | ⟨_, _, _, z⟩ | ⟨ni, nj, ne, z⟩
  · omega
  · omega
  obtain ⟨ei, oi⟩ := pl_tos hu.2.1 p1 ni
  obtain ⟨ej, oj⟩ := pl_tos hu.2.2 p2 nj
  obtain ⟨q, q0, q4, qe⟩ := ne_tos.mp ne
  have i0 := oi.1
  have i1 := oi.2.1
  have j0 := oj.1
  rw [← ei] at i0 i1
  rw [← ej] at j0
  have d1 : (((5 * i'.toNat + q.toNat) / 5 : Nat) : Int) = i' := by omega
  have d2 : (((5 * i'.toNat + q.toNat) % 5 : Nat) : Int) = q := by omega
  have sv : sd R (5 * i'.toNat + q.toNat) = j' := by unfold sd; rw [d1, d2]; exact qe
  have k1 : (((5 * (cd / 10) + cd % 10) / 5 : Nat) : Int) = (cd : Int) / 10 := by omega
  have k2 : (((5 * (cd / 10) + cd % 10) % 5 : Nat) : Int) = (cd : Int) % 10 := by omega
  refine ⟨5 * i'.toNat + q.toNat, ⟨by omega, by rw [k1]; exact oi, by rw [k2]; exact oj, ?_, ?_⟩, ?_⟩
  · rw [k1, ← ei]; exact d1
  · rw [k2, ← ej]; exact sv
  · unfold phN
    rw [sv]
    have : (5 * i'.toNat + q.toNat) / 5 = i'.toNat := by omega
    rw [this]; omega
theorem opp4 {s : Int} (h : 0 ≤ s ∧ s ≤ 4) : 0 ≤ opp s ∧ opp s ≤ 4 := by
  have : s = 0 ∨ s = 1 ∨ s = 2 ∨ s = 3 ∨ s = 4 := by omega
  rcases this with rfl | rfl | rfl | rfl | rfl <;> decide
theorem A1_sym {R : Mem} (jR : J R) {u v : Nat} (hu : vst R u) (h : Aw1 R u v) : Aw1 R v u := by
  have hv := A1_v h
  obtain ⟨u1, u2, u3⟩ := ph_e jR hu
  obtain ⟨s, t, hs, ht, cr⟩ := A1_cr jR hu h
  have vp : vpR R ((phN R u : Nat) : Int) := ⟨by omega, by omega, by rw [u2]; exact hu.2.1, by rw [u3]; exact hu.2.2, by rw [u2, u3]; exact ne_tos.mpr ⟨((u % 5 : Nat) : Int), by omega, by omega, rfl⟩⟩
  obtain ⟨_, c2⟩ := cr_sym jR vp hs ht cr (by omega)
  obtain ⟨w, w1, w2⟩ := cr_A1 jR hv ⟨opp s, opp t, opp4 hs, opp4 ht, c2⟩
  have := ph_inj jR (A1_v w1) hu w2
  rw [← this]; exact w1
theorem pn_c {X R : Mem} (zg : ZG X R) (jR : J R) {u km vm : Nat} {uv y : Int32} (hu : uv.toInt = (u : Int)) (hv : vst R u) (km25 : km < 25) (am : Ak R u km vm) (dm : Dm X vm < Dm X u) (e : f_Ways_pairNearer uv X = some y) : ∃ k v : Nat, k < 25 ∧ y.toInt = (k : Int) ∧ Ak R u k v ∧ Dm X v < Dm X u ∧ ∀ k' v' : Nat, k' < k → Ak R u k' v' → Dm X u ≤ Dm X v' := by
  have ym := om
  have z25 : (25 : Int32).toInt = 25 := rfl
  unfold f_Ways_pairNearer at e
  obtain ⟨w, ew, e⟩ := bo e
  have key : ∃ (y' : Int32) (k v : Nat), w = .inr y' ∧ k < 25 ∧ y'.toInt = (k : Int) ∧ Ak R u k v ∧ Dm X v < Dm X u ∧ ∀ k' v' : Nat, k' < k → Ak R u k' v' → Dm X u ≤ Dm X v' := by
    refine it_r (I := fun s : Int32 => ∃ k : Nat, s.toInt = (k : Int) ∧ k ≤ km ∧ ∀ k' v' : Nat, k' < k → Ak R u k' v' → Dm X u ≤ Dm X v') (Q := fun w : Unit ⊕ Int32 => ∃ (y' : Int32) (k v : Nat), w = .inr y' ∧ k < 25 ∧ y'.toInt = (k : Int) ∧ Ak R u k v ∧ Dm X v < Dm X u ∧ ∀ k' v' : Nat, k' < k → Ak R u k' v' → Dm X u ≤ Dm X v') ?_ ew ⟨0, rfl, by omega, fun _ _ h => absurd h (by omega)⟩
    rintro s r ⟨k, hk, kk, ih⟩ e
    unfold lb_Ways_pairNearer_2 at e
    rcases io e with ⟨g, _⟩ | ⟨_, e⟩
    · have := q_le g; omega
    obtain ⟨x1, e1, e⟩ := bo e
    have k1 : (s + (1 : Int32)).toInt = ((k + 1 : Nat) : Int) := add_ti hk o1 (by omega) (by omega)
    rcases pair_r zg jR hu hv hk (by omega) e1 with ⟨p1, p2⟩ | ⟨v, p1, p2⟩
    · rw [if_pos (Int32.toInt_inj.mp (by rw [p1]; exact om.symm))] at e
      obtain rfl := Option.some.inj e
      refine ⟨k + 1, k1, ?_, fun k' v' h a => ?_⟩
      · rcases Nat.lt_or_ge k km with q | q
        · exact q
        · have : k = km := by omega
          subst this
          exact absurd am (p2 vm)
      · by_cases q : k' = k
        · subst q; exact absurd a (p2 v')
        · exact ih k' v' (by omega) a
    · rw [if_neg (fun h => by have := q_eq h; omega)] at e
      obtain ⟨_, e⟩ := io_n e
      obtain ⟨_, e⟩ := io_n e
      rw [q_nat p1, q_nat hu] at e
      rcases io e with ⟨g, e⟩ | ⟨g, e⟩
      · have g9 : Dm X u ≤ Dm X v := q_le g
        obtain rfl := Option.some.inj e
        refine ⟨k + 1, k1, ?_, fun k' v' h a => ?_⟩
        · rcases Nat.lt_or_ge k km with q | q
          · exact q
          · have : k = km := by omega
            subst this
            have := Ak_f jR p2 am
            subst this
            omega
        · by_cases q : k' = k
          · subst q
            have := Ak_f jR p2 a
            subst this
            exact g9
          · exact ih k' v' (by omega) a
      · have g9 : Dm X v < Dm X u := q_ng g
        obtain rfl := Option.some.inj e
        exact ⟨s, k, v, rfl, by omega, hk, p2, g9, ih⟩
  obtain ⟨y', k, v, hw, h1, h2, h3⟩ := key
  rw [hw] at e
  have e9 : y' = y := Option.some.inj e
  rw [← e9]
  exact ⟨k, v, h1, h2, h3⟩
theorem pn_r {N R : Mem} (jN : J N) {v4 v5 v6 v7 z : Int32} {a b cm ym : Nat} {q : Int} (h5 : v5.toInt = (a : Int)) (h6 : v6.toInt = (b : Int)) (a36 : a < 36) (b36 : b < 36) (hq : ((v4 - v7) - (1 : Int32)).toInt = q) (hc : ∀ c y : Int, crR N (a : Int) (b : Int) c y ↔ crR R (a : Int) (b : Int) c y) (cm45 : cm < 45) (cm4 : cm % 10 ≤ 4) (gm : crR R (a : Int) (b : Int) (cm : Int) (ym : Int)) (dm : DR N ym = q) (e : iter (lb_Mod_wardrobe_277 v4 v5 v6 v7 N) FU (0 : Int32) = some z) : ∃ cd y : Nat, cd < 45 ∧ cd % 10 ≤ 4 ∧ z.toInt = (cd : Int) ∧ crR R (a : Int) (b : Int) (cd : Int) (y : Int) ∧ DR N y = q ∧ ∀ cd' y' : Nat, cd' < cd → cd' % 10 ≤ 4 → crR R (a : Int) (b : Int) (cd' : Int) (y' : Int) → DR N y' ≠ q := by
  have ym9 := om
  have z4 := o4
  have z10 : (10 : Int32).toInt = 10 := rfl
  refine it_r (I := fun s : Int32 => ∃ k : Nat, s.toInt = (k : Int) ∧ k ≤ cm ∧ ∀ cd' y' : Nat, cd' < k → cd' % 10 ≤ 4 → crR R (a : Int) (b : Int) (cd' : Int) (y' : Int) → DR N y' ≠ q) (Q := fun z : Int32 => ∃ cd y : Nat, cd < 45 ∧ cd % 10 ≤ 4 ∧ z.toInt = (cd : Int) ∧ crR R (a : Int) (b : Int) (cd : Int) (y : Int) ∧ DR N y = q ∧ ∀ cd' y' : Nat, cd' < cd → cd' % 10 ≤ 4 → crR R (a : Int) (b : Int) (cd' : Int) (y' : Int) → DR N y' ≠ q) ?_ e ⟨0, rfl, by omega, fun _ _ h => absurd h (by omega)⟩
  rintro s r ⟨k, hk, kk, ih⟩ e
  unfold lb_Mod_wardrobe_277 at e
  have rm : (s - s / (10 : Int32) * (10 : Int32)).toInt = ((k % 10 : Nat) : Int) := by rw [rem_ti hk z10 (by omega) (by omega)]; omega
  have k1 : (s + (1 : Int32)).toInt = ((k + 1 : Nat) : Int) := add_ti hk o1 (by omega) (by omega)
  have nx : (k % 10 ≤ 4 → ∀ y' : Nat, crR R (a : Int) (b : Int) (k : Int) (y' : Int) → DR N y' ≠ q) → ∃ k' : Nat, (s + (1 : Int32)).toInt = (k' : Int) ∧ k' ≤ cm ∧ ∀ cd' y' : Nat, cd' < k' → cd' % 10 ≤ 4 → crR R (a : Int) (b : Int) (cd' : Int) (y' : Int) → DR N y' ≠ q := by
    intro h
    refine ⟨k + 1, k1, ?_, fun cd' y' h1 h2 h3 => ?_⟩
    · rcases Nat.lt_or_ge k cm with q9 | q9
      · exact q9
      · have : k = cm := by omega
        subst this
        exact absurd dm (h cm4 ym gm)
    · by_cases q9 : cd' = k
      · subst q9; exact h h2 y' h3
      · exact ih cd' y' (by omega) h2 h3
  rcases io e with ⟨g, e⟩ | ⟨g, e⟩
  · have := q_lt g
    obtain rfl := Option.some.inj e
    exact nx (fun h => absurd h (by omega))
  have g1 := q_nl g
  obtain ⟨x25, e25, e⟩ := bo e
  have C := (some_of (fs_carryTo jN v5 v6 s (by omega) (by omega) (by omega)) e25)
  rw [h5, h6, hk] at C
  have C1 := (hc _ _).mp C.1
  rcases io e with ⟨g2, e⟩ | ⟨g2, e⟩
  · obtain rfl := Option.some.inj e
    refine nx (fun _ y' h => ?_)
    have := crR_fun C1 h
    rw [g2] at this; omega
  have g3 := q_ne g2
  obtain ⟨x26, e26, e⟩ := bo e
  rw [e25] at e26
  obtain rfl := Option.some.inj e26
  obtain ⟨y, hy⟩ := ti_ofn (v := x25) (by omega)
  obtain ⟨_, e⟩ := io_n e
  rw [q_nat hy] at e
  rw [hy] at C1
  rcases io e with ⟨g4, e⟩ | ⟨g4, e⟩
  · obtain rfl := Option.some.inj e
    exact ⟨k, y, by omega, by omega, hk, C1, by show (N.1 185 y).toInt = q; rw [g4]; exact hq, ih⟩
  · obtain rfl := Option.some.inj e
    refine nx (fun _ y' h => ?_)
    have := crR_fun C1 h
    have : y = y' := by omega
    subst this
    intro h9
    exact g4 (Int32.toInt_inj.mp (h9.trans hq.symm))
theorem wwalk {X M1 x3 x23 x4 M24 x11 x35 : Mem} {f t a : Nat} {u0 a0 b0 : Int32} {tb : Int} (zg : ZG X M1) (jM : J M1) (fx : QFw X x3) (c : CQ M1 f t (Dm x3) (Qm x3)) (cc : CC M1 t (Dm x3) (Qm x3)) (Q : QC M1 tb x23) (E : ∀ g, vst M1 g → Dm x3 g = DR x23 (phN M1 g) ∨ (1000000 ≤ Dm x3 g ∧ 1000000 ≤ DR x23 (phN M1 g))) (gg : (x3.1 159 (5 * a + 4)).toInt < (1000000 : Int32).toInt) (hm : (x3.1 159 (5 * a + 4)).toInt = (x23.1 185 (37 * a)).toInt)
    (e11 : iter (lb_Top_wardrobe_71 (x3.1 159 (5 * a + 4))) FU (u0, (0 : Int32), x4) = some x11) (e35 : iter (lb_Mod_wardrobe_267 (x23.1 185 (37 * a))) FU (a0, b0, (0 : Int32), M24) = some x35) (r0 : RRn 0 x4 M24) (va : vst M1 (5 * a + 4)) (hu0 : u0.toInt = ((5 * a + 4 : Nat) : Int)) (ha0 : a0.toInt = (((5 * a + 4) / 5 : Nat) : Int)) (hb0 : b0.toInt = sd M1 (5 * a + 4)) (f4 : ∀ kx i, kx ≠ 161 → ¬ (kx = 0 ∧ i = 15) → x4.1 kx i = x3.1 kx i) (q4 : x4.2 = x3.2) (f24 : ∀ kx i, kx ≠ 168 → ¬ (kx = 162 ∧ i = 12) → M24.1 kx i = x23.1 kx i) (j24 : J M24) : RR x11 x35 := by
  have ym := om
  have z5 : (5 : Int32).toInt = 5 := rfl
  have z10 : (10 : Int32).toInt = 10 := rfl
  have z36 : (36 : Int32).toInt = 36 := rfl
  have kF : (1000000 : Int32).toInt = 1000000 := rfl
  have wh := awh jM
  have D0 : ∀ u, u < 180 → 0 ≤ Dm x3 u := fun u hu => (c.2.2.2.1 u hu).1
  have up : ∀ u v, vst M1 u → Dm x3 u < 1000000 → Aw1 M1 u v → Dm x3 u ≤ Dm x3 v + 1 := by
    intro u v hu hd w
    by_cases k : Dm x3 v < 1000000
    · obtain ⟨i, hi, e⟩ := (c.2.2.2.1 v w.1).2 k
      have := cc i hi u (by rw [e]; exact A1_sym jM hu w)
      rw [e] at this
      exact this
    · omega
  have ne : ∀ u, vst M1 u → Dm x3 u < 1000000 → 0 < Dm x3 u → ∃ k v : Nat, k < 25 ∧ Ak M1 u k v ∧ Dm x3 v + 1 = Dm x3 u := by
    intro u hu hd h0
    rcases c.2.2.2.2.2.1 u hu.1 hd with h | ⟨v, v1, v2, v3⟩
    · rw [h, c.2.1] at h0; omega
    · have vv : vst M1 v := by
        obtain ⟨i, hi, e⟩ := (c.2.2.2.1 v v1).2 (by omega)
        rw [← e]; exact (c.2.2.1 i hi).2.2
      obtain ⟨k, hk, ak⟩ := Ak_A.mp (A1_sym jM vv v2)
      exact ⟨k, v, hk, ak, v3⟩
  obtain ⟨m, hm9⟩ := ti_ofn (v := x3.1 159 (5 * a + 4)) (D0 _ va.1)
  have crT : ∀ {T : Mem}, (∀ kx i, kx ≠ 168 → ¬ (kx = 162 ∧ i = 12) → T.1 kx i = x23.1 kx i) → MapEq T M1 := fun {T} h => ⟨(h 162 2 (by omega) (by omega)).trans (Q.2.1 162 2 (by decide)), (h 162 3 (by omega) (by omega)).trans (Q.2.1 162 3 (by decide)), fun i => (h 164 i (by omega) (by omega)).trans (Q.2.1 164 i (by omega))⟩
  refine it_2x (I := fun (s : Int32 × Int32 × Mem) (t : Int32 × Int32 × Int32 × Mem) => ∃ i u : Nat, i ≤ 10 ∧ s.1.toInt = (u : Int) ∧ vst M1 u ∧ t.1.toInt = ((u / 5 : Nat) : Int) ∧ t.2.1.toInt = sd M1 u ∧ s.2.1.toInt = (i : Int) ∧ t.2.2.1 = s.2.1 ∧ Dm x3 u + (i : Int) = (m : Int) ∧ RRn i s.2.2 t.2.2.2 ∧ (∀ kx i, kx ≠ 161 → ¬ (kx = 0 ∧ i = 15) → s.2.2.1 kx i = x3.1 kx i) ∧ s.2.2.2 = x3.2 ∧ (∀ kx i, kx ≠ 168 → ¬ (kx = 162 ∧ i = 12) → t.2.2.2.1 kx i = x23.1 kx i) ∧ J t.2.2.2) (K := fun (x : Mem) (t : Int32 × Int32 × Int32 × Mem) => RRn 10 x t.2.2.2 ∧ ∃ j : Nat, 10 ≤ j ∧ t.2.2.1.toInt = (j : Int)) (Q := fun (x y : Mem) => RR x y) ?_ ?_ e11 e35 ⟨0, 5 * a + 4, by omega, hu0, va, ha0, hb0, rfl, rfl, by show (x3.1 159 (5 * a + 4)).toInt + _ = _; omega, r0, f4, q4, f24, j24⟩
  · rintro ⟨uv, iv, N⟩ ⟨av, bv, iv', T⟩ A B ⟨i, u, i10, hu, vu, hav, hbv, hi, hii, hd, hR, fN, qN, fT, jT⟩ eA eB
    dsimp only at hu hav hbv hi hii hR fN qN fT jT
    subst hii
    unfold lb_Top_wardrobe_71 at eA
    unfold lb_Mod_wardrobe_267 at eB
    dsimp only at eA eB
    rcases io eA with ⟨g1, eA⟩ | ⟨g1, eA⟩
    · have h1 := q_le g1
      rw [if_pos (Int32.le_iff_toInt_le.mpr (by omega))] at eB
      exact .inr (.inl ⟨_, _, (Option.some.inj eA).symm, (Option.some.inj eB).symm, RRn_r i10 hR⟩)
    have h1 := q_ng g1
    rw [if_neg (fun h => by have := q_le h; omega)] at eB
    obtain ⟨z, ez, eB⟩ := bo eB
    rcases io eA with ⟨g2, eA⟩ | ⟨g2, eA⟩
    · rw [if_pos g2] at eB
      have h2 := q_le g2
      unfold j_Mod_wardrobe_344_267 at eB
      obtain ⟨w, _, eB⟩ := bo eB
      have : i = 10 := by omega
      subst this
      exact .inr (.inr ⟨_, _, (Option.some.inj eA).symm, (Option.some.inj eB).symm, hR, 11, by omega, add_ti hi o1 (by omega) (by omega)⟩)
    rw [if_neg g2] at eB
    have h2 := q_ng g2
    rcases io eA with ⟨g3, _⟩ | ⟨_, eA⟩
    · have := q_eq g3; omega
    obtain ⟨y, ey, eA⟩ := bo eA
    obtain ⟨N', eN, eA⟩ := bo eA
    obtain ⟨to, eto, eA⟩ := bo eA
    obtain ⟨T', eT, eB⟩ := bo eB
    unfold j_Mod_wardrobe_344_267 at eB
    obtain ⟨x31, e31, eB⟩ := bo eB
    have zgN : ∀ {P : Mem}, (∀ kx i, kx ≠ 161 → ¬ (kx = 0 ∧ i = 15) → P.1 kx i = x3.1 kx i) → ZG P M1 := fun {P} h => ⟨by rw [h 3 2 (by omega) (by omega), fx.1 3 2 (by omega) (by omega)]; exact zg.1, by rw [h 3 3 (by omega) (by omega), fx.1 3 3 (by omega) (by omega)]; exact zg.2.1, fun j hj => by rw [h 4 j (by omega) (by omega), fx.1 4 j (by omega) (by omega)]; exact zg.2.2.1 j hj, zg.2.2.2⟩
    have DN : ∀ w, Dm N w = Dm x3 w := fun w => by unfold Dm; rw [fN 159 w (by omega) (by omega)]
    have DT : ∀ w, DR T w = DR x23 w := fun w => by unfold DR; rw [fT 185 w (by omega) (by omega)]
    have du : Dm x3 u < 1000000 := by omega
    have du0 : 0 < Dm x3 u := by omega
    obtain ⟨km, vm, km25, akm, dvm⟩ := ne u vu du du0
    obtain ⟨k, v, k25, hy, ak, dv, mk9⟩ := pn_c (zgN fN) jM hu vu km25 akm (by rw [DN, DN]; omega) ey
    rw [DN, DN] at dv
    have u36 : u / 5 < 36 := by have := vu.1; omega
    have s0 := vu.2.2.1
    have s1 := vu.2.2.2.1
    obtain ⟨sb, hsb⟩ : ∃ sb : Nat, sd M1 u = (sb : Int) := ⟨(sd M1 u).toNat, by omega⟩
    have vv := ak_v ak
    have vvm := ak_v akm
    have eqv : ∀ w, vst M1 w → Dm x3 w < 1000000 → DR x23 (phN M1 w) = Dm x3 w := fun w hw hd9 => by
      rcases E w hw with q | q
      · exact q.symm
      · omega
    have hq : (((x23.1 185 (37 * a)) - iv') - (1 : Int32)).toInt = Dm x3 u - 1 := by
      have hm8 : (x23.1 185 (37 * a)).toInt = (m : Int) := by rw [← hm]; exact hm9
      have a1 : ((x23.1 185 (37 * a)) - iv').toInt = Dm x3 u := by rw [sub_ti hm8 hi (by omega) (by omega)]; omega
      rw [sub_ti a1 o1 (by omega) (by omega)]
    have dv0 := D0 v vv.1
    have dvu := up u v vu du (Ak_A.mpr ⟨k, k25, ak⟩)
    have akc := ak_cr jM ak
    have akcm := ak_cr jM akm
    rw [hsb] at akc akcm hbv
    obtain ⟨cd, y', cd45, cd4, hz, crz, dz, mz⟩ := pn_r (R := M1) jT hav hbv u36 (by omega) hq (fun c y => crR_c (crT fT)) (cm := 10 * (km / 5) + km % 5) (by omega) (by omega) akcm (by rw [DT, eqv vm vvm (by omega)]; omega) ez
    have cdk : cd = 10 * (k / 5) + k % 5 := by
      rcases Nat.lt_trichotomy cd (10 * (k / 5) + k % 5) with q | q | q
      · exfalso
        obtain ⟨w, w1, w2⟩ := cr_ak jM vu (by rw [hsb]; exact crz) cd4
        have := mk9 (5 * (cd / 10) + cd % 10) w (by omega) w1
        rw [DN, DN] at this
        rw [DT, ← w2] at dz
        rcases E w (ak_v w1) with e9 | e9
        · omega
        · omega
      · exact q
      · exfalso
        exact mz (10 * (k / 5) + k % 5) (phN M1 v) q (by omega) akc (by rw [DT, eqv v vv (by omega)]; omega)
    subst cdk
    have yv := crR_fun crz akc
    have nI := note_i eN
    have pI := put_i eT
    have jT' : J T' := (some_of (fs_put jT z (by have := hR.2.1; omega)) eT).1
    have fN' : ∀ kx i, kx ≠ 161 → ¬ (kx = 0 ∧ i = 15) → N'.1 kx i = x3.1 kx i := fun kx i h h' => by rw [nI.1 kx i h h']; exact fN kx i h h'
    have qN' : N'.2 = x3.2 := by rw [nI.2]; exact qN
    have fT' : ∀ kx i, kx ≠ 168 → ¬ (kx = 162 ∧ i = 12) → T'.1 kx i = x23.1 kx i := fun kx i h h' => by rw [pI kx i h h']; exact fT kx i h h'
    have code : ((y / (5 : Int32)) * (10 : Int32) + (y - y / (5 : Int32) * (5 : Int32))).toInt = z.toInt := by
      have a1 : (y / (5 : Int32)).toInt = ((k / 5 : Nat) : Int) := by rw [div_ti hy z5 (by omega) (by omega)]; omega
      have a2 : (y - y / (5 : Int32) * (5 : Int32)).toInt = ((k % 5 : Nat) : Int) := by rw [rem_ti hy z5 (by omega) (by omega)]; omega
      rw [add_ti (mul_ti a1 z10 (by omega) (by omega)) a2 (by omega) (by omega), hz]; omega
    have R1 := RR_n hR (by omega) (Int32.toInt_inj.mp code) eN eT
    have hto : to.toInt = (v : Int) := by
      rcases pair_r (zgN fN') jM hu vu hy k25 eto with ⟨p1, p2⟩ | ⟨v', p1, p2⟩
      · exact absurd ak (p2 v)
      · have := Ak_f jM p2 ak
        subst this
        exact p1
    have C := (some_of (fs_carryTo jT' av bv z (by omega) (by omega) (by omega)) e31).1
    rw [hav, hbv, hz] at C
    have x31e : x31.toInt = ((phN M1 v : Nat) : Int) := crR_fun ((crR_c (crT fT')).mp C) akc
    obtain ⟨w1, w2, w3⟩ := ph_e jM vv
    have i1 : (iv' + (1 : Int32)).toInt = ((i + 1 : Nat) : Int) := add_ti hi o1 (by omega) (by omega)
    exact .inl ⟨_, _, (Option.some.inj eA).symm, (Option.some.inj eB).symm, i + 1, v, by omega, hto, vv, by
      show (x31 / (36 : Int32)).toInt = _
      rw [div_ti x31e z36 (by omega) (by omega)]; omega, by
      show (x31 - x31 / (36 : Int32) * (36 : Int32)).toInt = _
      rw [rem_ti x31e z36 (by omega) (by omega)]; exact w3, i1, rfl, by omega, R1, fN', qN', fT', jT'⟩
  · rintro x9 ⟨av, bv, iv, T⟩ B ⟨hR, j, j10, hj⟩ eB
    dsimp only at hR hj
    unfold lb_Mod_wardrobe_267 at eB
    dsimp only at eB
    rcases io eB with ⟨g1, eB⟩ | ⟨g1, eB⟩
    · exact .inr ⟨_, (Option.some.inj eB).symm, RRn_r (k := 10) (by omega) hR⟩
    have h1 := q_ng g1
    obtain ⟨z, _, eB⟩ := bo eB
    rw [if_pos (Int32.le_iff_toInt_le.mpr (by omega))] at eB
    unfold j_Mod_wardrobe_344_267 at eB
    obtain ⟨w, _, eB⟩ := bo eB
    exact .inl ⟨_, (Option.some.inj eB).symm, hR, j + 1, by omega, add_ti hj o1 (by omega) (by omega)⟩
theorem wardrobe_r {X R : Mem} {n : Nat} {v1 v2 : Int32} {x r : Int32 × Mem} (za : ZA X R n) (ex : f_Top_wardrobe v1 v2 X = some x) (er : f_Mod_wardrobe v1 v2 R = some r) (hr : RR X R) : RR x.2 r.2 := by
  have z0 := o0
  have z3 := o3
  have z4 := o4
  have z5 : (5 : Int32).toInt = 5 := rfl
  have z36 : (36 : Int32).toInt = 36 := rfl
  have kF : (1000000 : Int32).toInt = 1000000 := rfl
  unfold f_Mod_wardrobe at er
  obtain ⟨M1, m1, er⟩ := mo er
  obtain ⟨zaM, fqM⟩ := ZA_M1 za m1
  obtain ⟨n8, jM, ⟨zg, zc, zl⟩, zs, zv, zw⟩ := zaM.1
  have wh := awh jM
  unfold f_Top_wardrobe at ex
  obtain ⟨x1, ex1, ex⟩ := bo ex
  have s1 := stairC zg jM ex1
  obtain ⟨y2, ey2, er⟩ := bo er
  have c2 : (y2 = 1 ∧ 0 ≤ v1.toInt ∧ v1.toInt < xw M1 * xh M1) ∨ (y2 = 0 ∧ ¬ (0 ≤ v1.toInt ∧ v1.toInt < xw M1 * xh M1)) := isCell_i jM ey2
  by_cases hb : stN M1 v1.toInt ∧ stN M1 v2.toInt
  rotate_left
  · have eX : x.2 = X := by
      rcases io ex with ⟨_, ex⟩ | ⟨g, ex⟩
      · obtain rfl := Option.some.inj ex; rfl
      rcases s1 with ⟨_, s1⟩ | ⟨h, _⟩
      rotate_left
      · exact absurd h g
      obtain ⟨x2, ex2, ex⟩ := bo ex
      have s2 := stairC zg jM ex2
      rcases io ex with ⟨_, ex⟩ | ⟨g, ex⟩
      · obtain rfl := Option.some.inj ex; rfl
      rcases s2 with ⟨_, s2⟩ | ⟨h, _⟩
      · exact absurd ⟨s1, s2⟩ hb
      · exact absurd h g
    have eR : r.2 = M1 := by
      rcases io er with ⟨_, er⟩ | ⟨g, er⟩
      · obtain rfl := Option.some.inj er; rfl
      rcases c2 with ⟨_, c2⟩ | ⟨h, _⟩
      rotate_left
      · exact absurd h g
      obtain ⟨y3, ey3, er⟩ := bo er
      have c3 : (y3 = 1 ∧ 0 ≤ v2.toInt ∧ v2.toInt < xw M1 * xh M1) ∨ (y3 = 0 ∧ ¬ (0 ≤ v2.toInt ∧ v2.toInt < xw M1 * xh M1)) := isCell_i jM ey3
      rcases io er with ⟨_, er⟩ | ⟨g, er⟩
      · obtain rfl := Option.some.inj er; rfl
      rcases c3 with ⟨_, c3⟩ | ⟨h, _⟩
      rotate_left
      · exact absurd h g
      obtain ⟨_, er⟩ := io_n er
      rcases io er with ⟨g1, er⟩ | ⟨_, er⟩
      rotate_left
      · obtain rfl := Option.some.inj er; rfl
      obtain ⟨_, er⟩ := io_n er
      rcases io er with ⟨g2, er⟩ | ⟨_, er⟩
      rotate_left
      · obtain rfl := Option.some.inj er; rfl
      refine absurd ⟨⟨c2.1, c2.2, ?_⟩, c3.1, c3.2, ?_⟩ hb
      · have := q_eq g1; rw [tcn'] at this; omega
      · have := q_eq g2; rw [tcn'] at this; omega
    rw [eX, eR]
    exact FQ2_RR fqM hr
  obtain ⟨hb1, hb2⟩ := hb
  obtain ⟨a, ha⟩ := ti_ofn hb1.1
  obtain ⟨b, hv⟩ := ti_ofn hb2.1
  have a36 : a < 36 := by have := hb1.2.1; omega
  have b36 : b < 36 := by have := hb2.2.1; omega
  -- the class
  rcases io ex with ⟨g, _⟩ | ⟨_, ex⟩
  · rcases s1 with ⟨h, _⟩ | ⟨_, h⟩
    · rw [h] at g; exact absurd g (by decide)
    · exact absurd hb1 h
  obtain ⟨x2, ex2, ex⟩ := bo ex
  have s2 := stairC zg jM ex2
  rcases io ex with ⟨g, _⟩ | ⟨_, ex⟩
  · rcases s2 with ⟨h, _⟩ | ⟨_, h⟩
    · rw [h] at g; exact absurd g (by decide)
    · exact absurd hb2 h
  obtain ⟨x3, ex3, ex⟩ := bo ex
  rw [ha] at hb1
  rw [hv] at hb2
  have on1 := st_on hb1
  have on2 := st_on hb2
  obtain ⟨va, pa⟩ := st_v jM hb1
  obtain ⟨vb, pb⟩ := st_v jM hb2
  obtain ⟨fx, t, c, cc⟩ := mp_r zg jM hv on2.1 on2.2 ex3
  obtain ⟨_, ex⟩ := io_n ex
  have i4 : (v1 * (5 : Int32) + (4 : Int32)).toInt = ((5 * a + 4 : Nat) : Int) := by rw [add_ti (mul_ti ha z5 (by omega) (by omega)) z4 (by omega) (by omega)]; omega
  rw [q_nat i4] at ex
  -- the reference
  rcases io er with ⟨g, _⟩ | ⟨_, er⟩
  · rcases c2 with ⟨h, _⟩ | ⟨_, h⟩
    · rw [h] at g; exact absurd g (by decide)
    · exact absurd ⟨by omega, by rw [ha]; exact hb1.2.1⟩ h
  obtain ⟨y3, ey3, er⟩ := bo er
  have c3 : (y3 = 1 ∧ 0 ≤ v2.toInt ∧ v2.toInt < xw M1 * xh M1) ∨ (y3 = 0 ∧ ¬ (0 ≤ v2.toInt ∧ v2.toInt < xw M1 * xh M1)) := isCell_i jM ey3
  rcases io er with ⟨g, _⟩ | ⟨_, er⟩
  · rcases c3 with ⟨h, _⟩ | ⟨_, h⟩
    · rw [h] at g; exact absurd g (by decide)
    · exact absurd ⟨by omega, by rw [hv]; exact hb2.2.1⟩ h
  obtain ⟨_, er⟩ := io_n er
  rcases io er with ⟨_, er⟩ | ⟨g, _⟩
  rotate_left
  · refine absurd (Int32.toInt_inj.mp ?_) g
    rw [q_nat ha, z3]; exact hb1.2.2
  obtain ⟨_, er⟩ := io_n er
  rcases io er with ⟨_, er⟩ | ⟨g, _⟩
  rotate_left
  · refine absurd (Int32.toInt_inj.mp ?_) g
    rw [q_nat hv, z3]; exact hb2.2.2
  obtain ⟨x6, e6, er⟩ := bo er
  obtain ⟨_, er⟩ := io_n er
  obtain ⟨M7, m7, er⟩ := mo er
  obtain ⟨x23, e23, er⟩ := bo er
  obtain ⟨_, er⟩ := io_n er
  have ib : ((36 : Int32) * v2 + v2).toInt = ((37 * b : Nat) : Int) := by rw [add_ti (mul_ti z36 hv (by omega) (by omega)) hv (by omega) (by omega)]; omega
  have ia : ((36 : Int32) * v1 + v1).toInt = ((37 * a : Nat) : Int) := by rw [add_ti (mul_ti z36 ha (by omega) (by omega)) ha (by omega) (by omega)]; omega
  rw [q_nat ib] at m7
  rw [q_nat ia] at er
  obtain ⟨q1, q2, q3, q4⟩ := w45_r jM e6
  have tb : (37 * (b : Int)).toNat = 37 * b := by omega
  have vpb : vpR M1 (37 * (b : Int)) := by
    have d1 : (37 * (b : Int)) / 36 = (b : Int) := by omega
    have d2 : (37 * (b : Int)) % 36 = (b : Int) := by omega
    exact ⟨by omega, by omega, by rw [d1]; exact on2.1, by rw [d2]; exact on2.2, by rw [d1, d2]; exact .inl rfl⟩
  have qc : QC M1 (b : Int) M7 := by
    refine ⟨by rw [m7]; exact Jw_185 q1 _ _ (by decide) (by decide), by rw [m7]; exact q2.i rfl, by rw [m7]; exact q3, by rw [tb, m7, si_eq]; rfl, fun y hy hd => ?_⟩
    by_cases w : y = 37 * b
    · have : (y : Int) = 37 * (b : Int) := by omega
      rw [this]; exact ⟨vpb, .inl rfl⟩
    · rw [m7, si_ne (fun z => w z.2), q4 y hy] at hd; omega
  obtain ⟨Q, cl⟩ := w84_r jM ⟨by omega, by omega⟩ qc (fun y hy hd => by
    have hd : (M7.1 185 y).toInt < 1000000 := hd
    show (M7.1 185 y).toInt = 0
    by_cases w : y = 37 * b
    · rw [w, m7, si_eq]; rfl
    · rw [m7, si_ne (fun z => w z.2), q4 y hy] at hd; omega) e23
  have E := fun (g9 : Nat) (vg : vst M1 g9) => dist_eq (D1 := Dm x3) (D2 := DR x23) jM vb vg c.2.1 (fun u hu => (c.2.2.2.1 u hu).1) c.2.2.2.2.2.1
    (fun u hu hd => by
      obtain ⟨i, hi, e⟩ := (c.2.2.2.1 u hu).2 hd
      rw [← e]; exact (c.2.2.1 i hi).2.2)
    (fun u hu hd v w => by
      obtain ⟨i, hi, e⟩ := (c.2.2.2.1 u hu).2 hd
      rw [← e] at w ⊢; exact cc i hi v w)
    (by rw [pb]; have := Q.2.2.2.1; rw [tb] at this; exact this)
    (fun y _ => (Jr_185 Q.1 y).1)
    (fun y hy hd => by
      rcases (Q.2.2.2.2 y hy hd).2 with z | ⟨y', h1, s, u, h2, h3, h4, h5⟩
      · exact .inl (by rw [pb]; omega)
      · exact .inr ⟨y', h1, ⟨s, u, h2, h3, h4⟩, h5⟩)
    (fun y hy hd y' _ ⟨s, u, h2, h3, h4⟩ => by
      have k1 : (((10 * s + u).toNat : Nat) : Int) = 10 * s + u := by omega
      exact cl y hy hd (10 * s + u).toNat (by omega) (by omega) y' (by rw [k1]; exact h4))
  have E' : (x3.1 159 (5 * a + 4)).toInt = (x23.1 185 (37 * a)).toInt ∨ (1000000 ≤ (x3.1 159 (5 * a + 4)).toInt ∧ 1000000 ≤ (x23.1 185 (37 * a)).toInt) := by
    have := E (5 * a + 4) va
    rw [pa] at this
    exact this
  have jx : J x23 := Q.1
  have rr3 : RR x3 x23 := RR_f (fx.1 0 15 (by omega) (by omega)) (fun i => fx.1 161 i (by omega) (by omega)) (Q.2.1 162 12 (by decide)) (fun i => Q.2.1 168 i (by omega)) (FQ2_RR fqM hr)
  rcases io ex with ⟨g, ex⟩ | ⟨g, ex⟩
  rotate_left
  · have gg := q_nl g
    obtain rfl := Option.some.inj ex
    rcases io er with ⟨h, er⟩ | ⟨h, er⟩
    · have := q_lt h; omega
    · obtain rfl := Option.some.inj er
      exact rr3
  have gg := q_lt g
  obtain ⟨x4, e4, ex⟩ := bo ex
  obtain ⟨x11, e11, ex⟩ := bo ex
  obtain rfl := Option.some.inj ex
  rcases io er with ⟨h, er⟩ | ⟨h, er⟩
  rotate_left
  · have := q_nl h; omega
  obtain ⟨M24, m24, er⟩ := mo er
  obtain ⟨x35, e35, er⟩ := bo er
  obtain rfl := Option.some.inj er
  have em := empty_i e4
  have sd4 : sd M1 (5 * a + 4) = (a : Int) := by
    unfold sd tos
    rw [show (5 * a + 4) % 5 = 4 by omega, show (5 * a + 4) / 5 = a by omega, if_pos (show ((4 : Nat) : Int) = 4 from rfl)]
  exact wwalk zg jM fx c cc Q E gg (by omega) e11 e35 (RR_0 e4 m24) va (by rw [i4]) (by rw [ha]; omega) (by rw [ha, sd4]) (fun kx i _ h => em.1 kx i h) em.2 (fun kx i _ h => by rw [m24, si_ne h]) (by rw [m24]; exact Jw_162_12 jx _ (by decide) (by decide))
end
