/-! part -/
def PN (X : Mem) (a b : Int32) (v3 : Int64) (s : Nat) (P : Int64 → Prop) : Prop := ∃ (sv : Int32) (z : Int64), sv.toInt = (s : Int) ∧ f_Top_partedBy a b v3 sv (0 : Int64) X = some z ∧ P z
def PT (R : Mem) (a b : Int32) (s : Nat) (P : Int32 → Prop) : Prop := ∃ (M5 : Mem) (sv : Int32) (y : Int32 × Mem), sv.toInt = (s : Int) ∧ CSx R M5 (fun d => bl 0 d) ∧ J M5 ∧ f_Mod_parts a b (0 : Int32) sv (0 : Int32) M5 = some y ∧ P y.1
theorem pt_c {X : Mem} {a b : Int32} {v3 : Int64} {x : Unit ⊕ (Int32 × Int64)} (e : iter (lb_Top_part_67 a b v3 X) FU (0 : Int32) = some x) : Sum.elim (fun _ : Unit => ∀ s : Nat, s ≤ 3 → PN X a b v3 s (fun z => lg_cmp z (0 : Int64) < 0)) (fun y : Int32 × Int64 => ∃ s : Nat, s ≤ 3 ∧ y.1.toInt = (s : Int) ∧ PN X a b v3 s (fun z => ¬ lg_cmp z (0 : Int64) < 0) ∧ ∀ s' : Nat, s' < s → PN X a b v3 s' (fun z => lg_cmp z (0 : Int64) < 0)) x := by
  have z3 := o3
  refine it_r (I := fun s : Int32 => ∃ k : Nat, s.toInt = (k : Int) ∧ k ≤ 4 ∧ ∀ s' : Nat, s' < k → PN X a b v3 s' (fun z => lg_cmp z (0 : Int64) < 0))
    (Q := fun x : Unit ⊕ (Int32 × Int64) => Sum.elim (fun _ : Unit => ∀ s : Nat, s ≤ 3 → PN X a b v3 s (fun z => lg_cmp z (0 : Int64) < 0)) (fun y : Int32 × Int64 => ∃ s : Nat, s ≤ 3 ∧ y.1.toInt = (s : Int) ∧ PN X a b v3 s (fun z => ¬ lg_cmp z (0 : Int64) < 0) ∧ ∀ s' : Nat, s' < s → PN X a b v3 s' (fun z => lg_cmp z (0 : Int64) < 0)) x) ?_ e ⟨0, rfl, by omega, fun s h => absurd h (by omega)⟩
  rintro sv r ⟨k, hk, k4, ih⟩ e
  unfold lb_Top_part_67 at e
  rcases io e with ⟨g, e⟩ | ⟨g, e⟩
  · have := q_lt g
    obtain rfl := Option.some.inj e
    show ∀ s : Nat, s ≤ 3 → PN X a b v3 s (fun z => lg_cmp z (0 : Int64) < 0)
    exact fun s hs => ih s (by omega)
  have g1 := q_nl g
  obtain ⟨z, ez, e⟩ := bo e
  rcases io e with ⟨g2, e⟩ | ⟨g2, e⟩
  · obtain rfl := Option.some.inj e
    refine ⟨k + 1, add_ti hk o1 (by omega) (by omega), by omega, fun s hs => ?_⟩
    by_cases q : s = k
    · subst q; exact ⟨sv, z, hk, ez, g2⟩
    · exact ih s (by omega)
  · obtain rfl := Option.some.inj e
    show ∃ s : Nat, s ≤ 3 ∧ _
    exact ⟨k, by omega, hk, ⟨sv, z, hk, ez, g2⟩, ih⟩
theorem pt_r {R N0 : Mem} {a b : Int32} (ha : 0 ≤ a.toInt ∧ a.toInt ≤ 7) (hb : 0 ≤ b.toInt ∧ b.toInt ≤ 7) (cs : CSx R N0 (fun d => bl 0 d)) (jN : J N0) {x : Mem ⊕ (Int32 × Mem)} (e : iter (lb_Mod_part_18 a b) FU ((0 : Int32), N0) = some x) : Sum.elim (fun _ : Mem => ∀ s : Nat, s ≤ 3 → PT R a b s (fun y => y = 0)) (fun y : Int32 × Mem => ∃ s : Nat, s ≤ 3 ∧ y.1.toInt = (s : Int) ∧ PT R a b s (fun y => y ≠ 0) ∧ ∀ s' : Nat, s' < s → PT R a b s' (fun y => y = 0)) x := by
  have z3 := o3
  have z0 := o0
  refine it_r (I := fun s : Int32 × Mem => ∃ k : Nat, s.1.toInt = (k : Int) ∧ k ≤ 4 ∧ J s.2 ∧ CSx R s.2 (fun d => bl 0 d) ∧ ∀ s' : Nat, s' < k → PT R a b s' (fun y => y = 0))
    (Q := fun x : Mem ⊕ (Int32 × Mem) => Sum.elim (fun _ : Mem => ∀ s : Nat, s ≤ 3 → PT R a b s (fun y => y = 0)) (fun y : Int32 × Mem => ∃ s : Nat, s ≤ 3 ∧ y.1.toInt = (s : Int) ∧ PT R a b s (fun y => y ≠ 0) ∧ ∀ s' : Nat, s' < s → PT R a b s' (fun y => y = 0)) x) ?_ e ⟨0, rfl, by omega, jN, cs, fun s h => absurd h (by omega)⟩
  clear cs jN e
  rintro ⟨sv, N⟩ r ⟨k, hk, k4, jN, cs, ih⟩ e
  dsimp only at hk jN cs
  unfold lb_Mod_part_18 at e
  dsimp only at e
  rcases io e with ⟨g, e⟩ | ⟨g, e⟩
  · have := q_lt g
    obtain rfl := Option.some.inj e
    show ∀ s : Nat, s ≤ 3 → PT R a b s (fun y => y = 0)
    exact fun s hs => ih s (by omega)
  have g1 := q_nl g
  obtain ⟨y, ey, e⟩ := bo e
  obtain ⟨j3, g3, _⟩ := some_of (sf_Mod_parts a b (0 : Int32) sv (0 : Int32) N ha hb (by omega) (by omega) (by omega) jN) ey
  rcases io e with ⟨g2, e⟩ | ⟨g2, e⟩
  · obtain rfl := Option.some.inj e
    refine ⟨k + 1, add_ti hk o1 (by omega) (by omega), by omega, j3, CS_gd cs g3, fun s hs => ?_⟩
    by_cases q : s = k
    · subst q; exact ⟨N, sv, y, hk, cs, jN, ey, g2⟩
    · exact ih s (by omega)
  · obtain rfl := Option.some.inj e
    show ∃ s : Nat, s ≤ 3 ∧ _
    exact ⟨k, by omega, hk, ⟨N, sv, y, hk, cs, jN, ey, g2⟩, ih⟩
theorem part_q {X R : Mem} {n : Nat} {a b : Int32} {x r : Int32 × Mem} (hJ : J X) (za : ZA X R n) (ex : f_Top_part a b X = some x) (er : f_Mod_part a b R = some r) : x.1 = r.1 := by
  have z0 := o0
  have z3 := o3
  unfold f_Mod_part at er
  obtain ⟨M1, m1, er⟩ := mo er
  obtain ⟨zaM, fqM⟩ := ZA_M1 za m1
  have zq := zaM.1
  obtain ⟨n8, jM, ⟨zg, zc, zl⟩, zs, zv, zw⟩ := zaM.1
  have wh := awh jM
  obtain ⟨y2, ey2, er⟩ := bo er
  unfold f_Top_part at ex
  obtain ⟨x1, ex1, ex⟩ := bo ex
  rcases mw_2 zc n8 ex1 ey2 with ⟨h1, h2⟩ | ⟨h1, h2, p, q, hp, hq, pn, qn⟩
  · rw [h1, if_pos rfl] at ex
    rw [h2, if_pos rfl] at er
    obtain rfl := Option.some.inj ex
    obtain rfl := Option.some.inj er
    rfl
  rw [h1, if_neg (by decide)] at ex
  rw [h2, if_neg (by decide)] at er
  obtain ⟨la, ca, la2, ca36, hla, hca, hPa, ona⟩ := at_2 n8 zs zv pn
  obtain ⟨lb, cb, lb2, cb36, hlb, hcb, hPb, onb⟩ := at_2 n8 zs zv qn
  obtain ⟨st, es, ex⟩ := bo ex
  obtain ⟨_, ex⟩ := io_n ex
  obtain ⟨_, ex⟩ := io_n ex
  rw [q_nat hp, q_nat hq] at ex
  obtain ⟨x3, ex3, ex⟩ := bo ex
  have sti := stairs_i (.inl rfl) jM zg.2.2.2 zw.1 es
  obtain ⟨w, hw⟩ : ∃ w : Nat, xw M1 * xh M1 = (w : Int) := ⟨(xw M1 * xh M1).toNat, by omega⟩
  have w36 : w ≤ 36 := by omega
  obtain ⟨v3, ev3⟩ : ∃ v3 : Int64, v3 = (st &&& (((1 : Int64) <<< ((X.1 12 p).toInt64 &&& 63)) ^^^ (-1 : Int64))) &&& (((1 : Int64) <<< ((X.1 12 q).toInt64 &&& 63)) ^^^ (-1 : Int64)) := ⟨_, rfl⟩
  rw [← ev3] at ex ex3
  have hv3 : ∀ d, bl v3 d = true ↔ d < w ∧ (M1.1 164 d).toInt = 3 ∧ d ≠ ca ∧ d ≠ cb := by
    intro d
    rw [ev3, bl_and, bl_and, Bool.and_eq_true, Bool.and_eq_true, sti d]
    by_cases d64 : d < 64
    · rw [bl_not d64, bl_not d64, bl_one hca (by omega), bl_one hcb (by omega), Bool.not_eq_true', Bool.not_eq_true', decide_eq_false_iff_not, decide_eq_false_iff_not]
      constructor
      · rintro ⟨⟨⟨u1, u2⟩, u3⟩, u4⟩; exact ⟨by omega, u2, u3, u4⟩
      · rintro ⟨u1, u2, u3, u4⟩; exact ⟨⟨⟨by omega, u2⟩, u3⟩, u4⟩
    · constructor
      · rintro ⟨⟨⟨u1, _⟩, _⟩, _⟩; omega
      · rintro ⟨u1, _⟩; omega
  have hs0 : ∀ d, bl 0 d = true → bl v3 d = true := fun d h => by rw [bl_0] at h; cases h
  have hl0 : ∀ s, 0 ≤ s ↔ ∀ d, bl 0 d = true → d < s := fun s => ⟨fun _ d h => absurd h (by rw [bl_0]; decide), fun _ => Nat.zero_le _⟩
  have cs0 : CSx M1 M1 (fun d => bl 0 d) := ⟨rfl, rfl, fun _ => rfl, fun _ _ => rfl, fun i h => by dsimp only at h; rw [bl_0] at h; cases h⟩
  have EQ : ∀ (s : Nat) (P : Int64 → Prop) (P' : Int32 → Prop), s ≤ 3 → PN X a b v3 s P → PT M1 a b s P' → ∃ z y, P z ∧ P' y ∧ (¬ lg_cmp z (0 : Int64) < 0 ↔ y ≠ 0) := by
    rintro s P P' s3 ⟨sv, z, hs, ez, pz⟩ ⟨M5, sv', y, hs', cs5, j5, ey, py⟩
    have : sv' = sv := Int32.toInt_inj.mp (by omega)
    subst this
    exact ⟨z, y.1, pz, py, pby_2 zq hp hq pn qn hca hcb hw w36 hv3 s 8 8 0 sv' 0 sv' 0 0 M5 z y hs (by omega) (by omega) (by omega) (by omega) (by rw [z0]; rfl) (by omega) hs0 hl0 cs5 j5 ez ey⟩
  have a7 : 0 ≤ a.toInt ∧ a.toInt ≤ 7 := by omega
  have b7 : 0 ≤ b.toInt ∧ b.toInt ≤ 7 := by omega
  obtain ⟨yl, eyl, er⟩ := bo er
  have RL := pt_r (R := M1) a7 b7 cs0 jM eyl
  have eR : (∃ N, yl = .inl N ∧ r.1 = -2) ∨ ∃ y, yl = .inr y ∧ r.1 = y.1 := by
    rcases yl with N | y
    · obtain rfl := Option.some.inj er
      exact .inl ⟨N, rfl, rfl⟩
    · rw [Sum.elim_inr] at er
      obtain ⟨M9, m9, er⟩ := mo er
      obtain ⟨x12, e12, er⟩ := bo er
      obtain rfl := Option.some.inj er
      exact .inr ⟨y, rfl, rfl⟩
  rcases io ex with ⟨g3, ex⟩ | ⟨g3, ex⟩
  · obtain ⟨xl, exl, ex⟩ := bo ex
    have CL := pt_c exl
    rcases xl with u | y9
    · obtain rfl := Option.some.inj ex
      rcases eR with ⟨N, rfl, e2⟩ | ⟨y, rfl, e2⟩
      · exact e2.symm
      · exfalso
        obtain ⟨s, s3, hs, pt, _⟩ := RL
        obtain ⟨z, y', c1, c2, c3⟩ := EQ s _ _ s3 (CL s s3) pt
        exact c3.mpr c2 c1
    · rw [Sum.elim_inr] at ex
      obtain ⟨x10, e10, ex⟩ := bo ex
      obtain ⟨x14, e14, ex⟩ := bo ex
      obtain rfl := Option.some.inj ex
      obtain ⟨s, s3, hs, pn9, lo9⟩ := CL
      rcases eR with ⟨N, rfl, e2⟩ | ⟨y, rfl, e2⟩
      · exfalso
        obtain ⟨z, y', c1, c2, c3⟩ := EQ s _ _ s3 pn9 (RL s s3)
        exact c3.mp c1 c2
      · obtain ⟨t, t3, ht, pt, lt⟩ := RL
        rw [e2]
        show y9.1 = y.1
        rcases Nat.lt_trichotomy s t with z | z | z
        · exfalso
          obtain ⟨z', y', c1, c2, c3⟩ := EQ s _ _ s3 pn9 (lt s z)
          exact c3.mp c1 c2
        · exact Int32.toInt_inj.mp (by omega)
        · exfalso
          obtain ⟨z', y', c1, c2, c3⟩ := EQ t _ _ t3 (lo9 t z) pt
          exact c3.mpr c2 c1
  · obtain rfl := Option.some.inj ex
    rcases eR with ⟨N, rfl, e2⟩ | ⟨y, rfl, e2⟩
    · exact e2.symm
    · exfalso
      obtain ⟨s, s3, hs, pt, _⟩ := RL
      obtain ⟨M5, sv, y', hs', cs5, j5, ey', py⟩ := pt
      obtain ⟨z, ez, _⟩ := sf_Top_partedBy a b v3 sv (0 : Int64) X a7 b7 (by omega) hJ
      have ng := pby_neg zq hp hq pn qn hw w36 hv3 ex3 g3 s 8 0 sv 0 z hs' s3 hs0 hl0 ez
      obtain ⟨z', y'', c1, c2, c3⟩ := EQ s (fun z => lg_cmp z (0 : Int64) < 0) (fun y => y ≠ 0) s3 ⟨sv, z, hs', ez, ng⟩ ⟨M5, sv, y', hs', cs5, j5, ey', py⟩
      exact c3.mpr c2 c1
