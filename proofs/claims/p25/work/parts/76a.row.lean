/-! the row told last, both sides; minutes to come -/
def RR (X R : Mem) : Prop := ∃ k : Nat, k ≤ 10 ∧ (X.1 0 15).toInt = (k : Int) ∧ (R.1 162 12).toInt = (k : Int) ∧ ∀ i, i < k → X.1 161 i = R.1 168 i
theorem RR_f {X Y R S : Mem} (a : Y.1 0 15 = X.1 0 15) (b : ∀ i, Y.1 161 i = X.1 161 i) (c : S.1 162 12 = R.1 162 12) (d : ∀ i, S.1 168 i = R.1 168 i) (h : RR X R) : RR Y S := by
  obtain ⟨k, k10, h1, h2, h3⟩ := h
  exact ⟨k, k10, by rw [a]; exact h1, by rw [c]; exact h2, fun i hi => by rw [b, d]; exact h3 i hi⟩
def RRn (k : Nat) (X R : Mem) : Prop := (X.1 0 15).toInt = (k : Int) ∧ (R.1 162 12).toInt = (k : Int) ∧ ∀ i, i < k → X.1 161 i = R.1 168 i
theorem RRn_r {k : Nat} {X R : Mem} (k10 : k ≤ 10) (h : RRn k X R) : RR X R := ⟨k, k10, h⟩
theorem RR_0 {X x R r : Mem} (e : f_Top_emptyRow X = some x) (er : r = s_i R 162 12 (0 : Int32)) : RRn 0 x r := by
  unfold f_Top_emptyRow at e
  obtain ⟨M1, e1, e⟩ := mo e
  obtain rfl := Option.some.inj e
  exact ⟨by rw [e1, si_eq]; rfl, by rw [er, si_eq]; rfl, fun i hi => by omega⟩
theorem RR_n {X x R r : Mem} {v w : Int32} {k : Nat} (h : RRn k X R) (k10 : k < 10) (hv : v = w) (e : f_Top_note v X = some x) (er : f_Mod_put w R = some r) : RRn (k + 1) x r := by
  subst hv
  have z0 := o0
  have z10 : (10 : Int32).toInt = 10 := rfl
  obtain ⟨h1, h2, h3⟩ := h
  unfold f_Top_note at e
  rcases io e with ⟨c, _⟩ | ⟨_, e⟩
  · have := q_lt c; omega
  rcases io e with ⟨c, _⟩ | ⟨_, e⟩
  · have := q_le c; omega
  obtain ⟨_, e⟩ := io_n e
  obtain ⟨M1, m1, e⟩ := mo e
  obtain ⟨M2, m2, e⟩ := mo e
  obtain rfl := Option.some.inj e
  unfold f_Mod_put at er
  obtain ⟨_, er⟩ := io_n er
  obtain ⟨N1, n1, er⟩ := mo er
  obtain ⟨N2, n2, er⟩ := mo er
  obtain rfl := Option.some.inj er
  rw [q_nat h1] at m1
  rw [q_nat h2] at n1
  refine ⟨?_, ?_, fun i hi => ?_⟩
  · rw [m2, si_eq, m1, si_ne (by omega)]; exact add_ti h1 o1 (by omega) (by omega)
  · rw [n2, si_eq, n1, si_ne (by omega)]; exact add_ti h2 o1 (by omega) (by omega)
  · have eX : M2.1 161 i = (s_i X 161 k v).1 161 i := by rw [m2, si_ne (by omega), m1]
    have eR : N2.1 168 i = (s_i R 168 k v).1 168 i := by rw [n2, si_ne (by omega), n1]
    rw [eX, eR]
    rcases Nat.lt_or_ge i k with g | g
    · rw [si_ne (by omega), si_ne (by omega)]; exact h3 i g
    · have : i = k := by omega
      subst this
      rw [si_eq, si_eq]
/-- the town as it will be: the spare scene and the row that goes ahead -/
def ZT (X R : Mem) (n : Nat) : Prop := n ≤ 8 ∧ J R ∧ ZB X R n ∧ ZS (scn X 25) (R.1 176) n ∧ ZV R (R.1 176) n ∧ ZW X R 176
def mG176 : Nat := 6120724063703626647367292593586058256162792417800388184993935573123072
def mP25 : Nat := 71098737063784989085461767434649766220228279869903869167057116519632229632726926570288747756118151681540096
def FQ2 (X R x r : Mem) : Prop := Fz X x ∧ (∀ kx i, CRr kx i → r.1 kx i = R.1 kx i) ∧ (x.1 0 15 = X.1 0 15 ∧ ∀ i, x.1 161 i = X.1 161 i) ∧ (r.1 162 12 = R.1 162 12 ∧ ∀ i, r.1 168 i = R.1 168 i)
theorem FQ2_r {X R : Mem} : FQ2 X R X R := ⟨Fz_r, fun _ _ _ => rfl, ⟨rfl, fun _ => rfl⟩, rfl, fun _ => rfl⟩
theorem Fz_t {A B C : Mem} (h : Fz A B) (g : Fz B C) : Fz A C := ⟨fun kx i w => (g.1 kx i w).trans (h.1 kx i w), fun i => (g.2.1 i).trans (h.2.1 i), fun i => (g.2.2.1 i).trans (h.2.2.1 i), fun i => (g.2.2.2.1 i).trans (h.2.2.2.1 i), fun i => (g.2.2.2.2 i).trans (h.2.2.2.2 i)⟩
theorem FQ2_t {X R x r y s : Mem} (h : FQ2 X R x r) (g : FQ2 x r y s) : FQ2 X R y s := ⟨Fz_t h.1 g.1, fun kx i w => (g.2.1 kx i w).trans (h.2.1 kx i w), ⟨g.2.2.1.1.trans h.2.2.1.1, fun i => (g.2.2.1.2 i).trans (h.2.2.1.2 i)⟩, g.2.2.2.1.trans h.2.2.2.1, fun i => (g.2.2.2.2 i).trans (h.2.2.2.2 i)⟩
theorem FQ2_RR {X R x r : Mem} (h : FQ2 X R x r) (k : RR X R) : RR x r := RR_f h.2.2.1.1 h.2.2.1.2 h.2.2.2.1 h.2.2.2.2 k
theorem FQ2_ZA {X R x r : Mem} {n : Nat} (h : FQ2 X R x r) (jr : J r) (za : ZA X R n) : ZA x r n := ZA_z za jr h.1.1 h.1.2.1 h.1.2.2.1 h.1.2.2.2.1 h.1.2.2.2.2 h.2.1
theorem pass_t {X R x r : Mem} {n : Nat} (zt : ZT X R n) (ex : f_Clock_pass 25 32 X = some x) (er : f_Mod_goMinute 176 R = some r) : ZT x r n ∧ PP X R 25 176 n x r ∧ FQ2 X R x r := by
  obtain ⟨n8, jR, zb, zs, zv, zw⟩ := zt
  have P := pass_2 (.inr rfl) (.inr (.inr rfl)) jR n8 zb zs zv zw ex er
  have fx : Fx mP25 [] X x := wf_Clock_pass 25 32 X (by decide +kernel) (oc_c (sb_r _) (by decide +kernel)) (oc_c (sb_r _) (by decide +kernel)) (oc_c (sb_r _) (by decide +kernel)) (oc_c (sb_r _) (by decide +kernel)) Fx_r ex
  have fr : Fx mG176 [] R r := wf_Mod_goMinute 176 R (by decide +kernel) (oc_c (sb_r _) (by decide +kernel)) Fx_r er
  have P' := P
  obtain ⟨p1, p2, p3, p4, p5, p6, p7, p8, p9, p10, p11⟩ := P
  exact ⟨⟨n8, p1, ZB_a p2 p3 zb, p4, p5, ZW_a p2 p3 (plk_c p9 zv.2.1.2) zw⟩, P', cx_f (by decide +kernel) fx, cr_f (by decide +kernel) fr, ⟨(fx 0 15 (by decide +kernel) (by simp)).1, fun i => (fx 161 i (by rw [show sl 161 i = 161 from rfl]; decide +kernel) (by simp)).1⟩, (fr 162 12 (by decide +kernel) (by simp)).1, fun i => (fr 168 i (by rw [show sl 168 i = 168 from rfl]; decide +kernel) (by simp)).1⟩
theorem lay_t {R R1 : Mem} (jR : J R) (er : f_Mod_lay 163 176 (0 : Int32) R = some R1) : J R1 ∧ (∀ i, i < 96 → R1.1 176 i = R.1 163 i) ∧ (∀ kx i, kx ≠ 176 → R1.1 kx i = R.1 kx i) := by
  have FL := fs_lay 163 176 (0 : Int32) jR (.inl rfl) (by decide) (by decide +kernel) (by decide) (by decide) (by decide +kernel) (by decide +kernel) (by decide)
  obtain ⟨jL, l1, l2⟩ := some_of FL er
  refine ⟨jL, fun i hi => ?_, fun kx i h => l2 kx i (fun w => h w.1)⟩
  have := l1 i hi
  rw [show (0 : Int32).toInt.toNat + i = i by rw [o0]; simp] at this
  exact this
theorem begin_t {X R X1 R1 : Mem} {n : Nat} (zq : ZQ X R n) (e : f_Scene_copy 25 11 X = some X1) (er : f_Mod_lay 163 176 (0 : Int32) R = some R1) : ZT X1 R1 n ∧ FQ2 X R X1 R1 := by
  obtain ⟨zq1, agx, zs1⟩ := copy_q (.inr rfl) zq e
  obtain ⟨c1, c2, c3⟩ := copy_i (v0 := 25) (v1 := 11) (by omega) e
  obtain ⟨n8, jR, zb, zs, zv, zw⟩ := zq
  obtain ⟨j1, l1, l2⟩ := lay_t jR er
  have agr : AgR R R1 := ⟨l2 162 2 (by omega), l2 162 3 (by omega), l2 162 4 (by omega), l2 162 5 (by omega), l2 162 23 (by omega), fun i => l2 164 i (by omega), fun i => l2 165 i (by omega), fun i => l2 166 i (by omega), fun i => l2 172 i (by omega)⟩
  refine ⟨⟨n8, j1, ZB_a agx agr zb, ZS_c n8 SEq_r (fun i hi => (l1 i hi).symm) zs1, ZV_a n8 agr (fun i hi => l1 i hi) zv, ZW_a agx agr (plk_c (fun i _ _ => l1 i (by omega)) zv.2.1.2) zw⟩, ⟨fun kx i h => c2 kx i (by unfold CXr CX at h; omega), fun i => by rw [c3], fun i => by rw [c3], fun i => by rw [c3], fun i => by rw [c3]⟩, fun kx i h => l2 kx i (by unfold CRr CR at h; omega), ⟨c2 0 15 (by omega), fun i => c2 161 i (by omega)⟩, l2 162 12 (by omega), fun i => l2 168 i (by omega)⟩
/-- where one is, as it will be -/
theorem whr_t {X R : Mem} {n p : Nat} (zt : ZT X R n) (hp : p < n) : (∀ x, f_Mod_cellOf (R.1 176 p) = some x → x = X.1 26 p) ∧ (0 ≤ (X.1 26 p).toInt ∧ (X.1 26 p).toInt ≤ 35 ∧ (X.1 26 p).toInt < xw R * xh R) := by
  obtain ⟨n8, jR, zb, zs, zv, zw⟩ := zt
  obtain ⟨s1, s2, s3, s4, s5, _⟩ := zs.1 p hp
  have v1 := (zv.1 p hp).1
  have e0 : scn X 25 0 p = X.1 26 p := rfl
  have e1 : scn X 25 1 p = X.1 27 p := rfl
  rw [e0, e1] at s1
  rw [e0] at s2 s3
  rw [e1] at s4 s5
  obtain ⟨_, _, on⟩ := v1
  have md : (R.1 176 p).toInt % 36 = (X.1 26 p).toInt := by omega
  refine ⟨fun x hx => Int32.toInt_inj.mp (by rw [(place_i (v := R.1 176 p) (by omega) (by omega)).1 hx, md]), s2, s3, ?_⟩
  have := on.2.1
  rw [md] at this
  exact this
theorem ZA_M1 {X R M1 : Mem} {n : Nat} (za : ZA X R n) (m1 : M1 = s_i R 162 13 (0 : Int32)) : ZA X M1 n ∧ FQ2 X R X M1 := by
  have f : ∀ kx i, ¬ (kx = 162 ∧ i = 13) → M1.1 kx i = R.1 kx i := fun kx i h => by rw [m1, si_ne h]
  refine ⟨ZA_13 (by rw [m1]; exact Jw_fld okf_162_13 za.1.2.1 _) (fun kx i h _ _ => f kx i (by omega)) za, Fz_r, fun kx i h => f kx i (by unfold CRr CR at h; omega), ⟨rfl, fun _ => rfl⟩, f 162 12 (by omega), fun i => f 168 i (by omega)⟩
/-! met -/
theorem two_i {X R : Mem} {n : Nat} {a b x y : Int32} (zc : ZC X R n) (n8 : n ≤ 8) (ex : f_Top_areTwo a b X = some x) (ey : f_Mod_areTwo a b R = some y) : (x = 0 ∧ y = 0) ∨ (x = 1 ∧ y = 1 ∧ ∃ p q : Nat, a.toInt = (p : Int) ∧ b.toInt = (q : Int) ∧ p < n ∧ q < n ∧ p ≠ q) := by
  unfold f_Top_areTwo at ex
  unfold f_Mod_areTwo at ey
  obtain ⟨x1, ex1, ex⟩ := bo ex
  obtain ⟨y1, ey1, ey⟩ := bo ey
  have h1 := crowd_has (n := n) (by rw [zc.2.1]; exact zc.1) n8 ex1
  have g1 := isOne_i zc.1 n8 ey1
  rcases h1 with ⟨a1, b1⟩ | ⟨a1, b1⟩
  rotate_left
  · rcases g1 with ⟨_, c⟩ | ⟨c, _⟩
    · exact absurd c b1
    rw [a1, if_pos rfl] at ex
    rw [c, if_pos rfl] at ey
    exact .inl ⟨(Option.some.inj ex).symm, (Option.some.inj ey).symm⟩
  rcases g1 with ⟨c1, _⟩ | ⟨_, c⟩
  rotate_left
  · exact absurd b1 c
  rw [a1, if_neg (by decide)] at ex
  rw [c1, if_neg (by decide)] at ey
  obtain ⟨x2, ex2, ex⟩ := bo ex
  obtain ⟨y2, ey2, ey⟩ := bo ey
  have h2 := crowd_has (n := n) (by rw [zc.2.1]; exact zc.1) n8 ex2
  have g2 := isOne_i zc.1 n8 ey2
  rcases h2 with ⟨a2, b2⟩ | ⟨a2, b2⟩
  rotate_left
  · rcases g2 with ⟨_, c⟩ | ⟨c, _⟩
    · exact absurd c b2
    rw [a2, if_pos rfl] at ex
    rw [c, if_pos rfl] at ey
    exact .inl ⟨(Option.some.inj ex).symm, (Option.some.inj ey).symm⟩
  rcases g2 with ⟨c2, _⟩ | ⟨_, c⟩
  rotate_left
  · exact absurd b2 c
  rw [a2, if_neg (by decide)] at ex
  rw [c2, if_neg (by decide)] at ey
  rcases io ex with ⟨g, ex⟩ | ⟨g, ex⟩
  · rw [if_pos g] at ey
    exact .inl ⟨(Option.some.inj ex).symm, (Option.some.inj ey).symm⟩
  · rw [if_neg g] at ey
    obtain ⟨p, hp⟩ := ti_ofn b1.1
    obtain ⟨q, hq⟩ := ti_ofn b2.1
    exact .inr ⟨(Option.some.inj ex).symm, (Option.some.inj ey).symm, p, q, hp, hq, by omega, by omega, fun h => by
      have := q_ne g
      omega⟩
theorem met_q {X R : Mem} {n : Nat} {a b : Int32} {x : Int32} {r : Int32 × Mem} (za : ZA X R n) (ex : f_Top_met a b X = some x) (er : f_Mod_met a b R = some r) : x = r.1 ∧ (RR X R → RR X r.2) := by
  have n8 := za.1.1
  unfold f_Mod_met at er
  obtain ⟨M1, m1, er⟩ := mo er
  obtain ⟨zaM, fq⟩ := ZA_M1 za m1
  unfold f_Top_met at ex
  obtain ⟨x1, ex1, ex⟩ := bo ex
  obtain ⟨y2, ey2, er⟩ := bo er
  have zs := zaM.1.2.2.2.1
  rcases two_i zaM.1.2.2.1.2.1 n8 ex1 ey2 with ⟨h1, h2⟩ | ⟨h1, h2, p, q, hp, hq, pn, qn, pq⟩
  · rw [h1, if_pos rfl] at ex
    rw [h2, if_pos rfl] at er
    obtain rfl := Option.some.inj ex
    obtain rfl := Option.some.inj er
    exact ⟨rfl, FQ2_RR fq⟩
  · rw [h1, if_neg (by decide)] at ex
    rw [h2, if_neg (by decide)] at er
    obtain ⟨x2, ex2, ex⟩ := bo ex
    obtain rfl := Option.some.inj ex
    obtain ⟨_, er⟩ := io_n er
    obtain rfl := Option.some.inj er
    refine ⟨?_, FQ2_RR fq⟩
    unfold f_Scene_meetingsOfTwo at ex2
    obtain ⟨_, ex2⟩ := io_n ex2
    obtain ⟨_, ex2⟩ := io_n ex2
    obtain ⟨_, ex2⟩ := io_n ex2
    obtain rfl := Option.some.inj ex2
    have k8 : (8 : Int32).toInt = 8 := rfl
    have k16 : (16 : Int32).toInt = 16 := rfl
    have i1 : (a * (8 : Int32) + b).toInt = ((8 * p + q : Nat) : Int) := by rw [add_ti (mul_ti hp k8 (by omega) (by omega)) hq (by omega) (by omega)]; omega
    have i2 : (b * (8 : Int32) + a).toInt = ((8 * q + p : Nat) : Int) := by rw [add_ti (mul_ti hq k8 (by omega) (by omega)) hp (by omega) (by omega)]; omega
    have i3 : ((16 : Int32) + (8 : Int32) * a + b).toInt = ((16 + 8 * p + q : Nat) : Int) := by rw [add_ti (add_ti k16 (mul_ti k8 hp (by omega) (by omega)) (by omega) (by omega)) hq (by omega) (by omega)]; omega
    have r3 : rf 11 3 = 15 := by decide +kernel
    rw [q_nat i1, q_nat i2, r3]
    show _ = M1.1 163 ((16 : Int32) + (8 : Int32) * a + b).toNatClampNeg
    rw [q_nat i3]
    exact (zs.2.1 p q pn qn).symm
/-! ahead -/
theorem mins_t {X R : Mem} {n : Nat} {v : Int32} {x : Mem} {y : Int32 × Mem} (zt : ZT X R n) (h4 : X.1 45 4 = 0) (ex : iter (lb_Top_ahead_32 v) FU ((0 : Int32), X) = some x) (ey : iter (lb_Mod_ahead_33 v) FU ((0 : Int32), (0 : Int32), R) = some y) : ZT x y.2 n ∧ FQ2 X R x y.2 ∧ y.1 = x.1 45 4 := by
  refine it_2 (I := fun (s : Int32 × Mem) (t : Int32 × Int32 × Mem) => s.1 = t.2.1 ∧ ZT s.2 t.2.2 n ∧ FQ2 X R s.2 t.2.2 ∧ t.1 = s.2.1 45 4) (Q := fun (x : Mem) (y : Int32 × Mem) => ZT x y.2 n ∧ FQ2 X R x y.2 ∧ y.1 = x.1 45 4) ?_ ex ey ⟨rfl, zt, FQ2_r, h4.symm⟩
  rintro ⟨i, N⟩ ⟨m, i', T⟩ A B ⟨hi, z, fq, h5⟩ eA eB
  dsimp only at hi z fq h5
  subst hi
  unfold lb_Top_ahead_32 at eA
  unfold lb_Mod_ahead_33 at eB
  dsimp only at eA eB
  rcases io eA with ⟨g, eA⟩ | ⟨g, eA⟩
  · rw [if_pos g] at eB
    obtain rfl := Option.some.inj eA
    obtain rfl := Option.some.inj eB
    exact .inr ⟨_, _, rfl, rfl, z, fq, h5⟩
  · rw [if_neg g] at eB
    obtain ⟨z3, ez3, eA⟩ := bo eA
    obtain rfl := Option.some.inj eA
    obtain ⟨w3, ew3, eB⟩ := bo eB
    obtain rfl := Option.some.inj eB
    obtain ⟨zt2, pp, fq2⟩ := pass_t z ez3 ew3
    refine .inl ⟨_, _, rfl, rfl, rfl, zt2, FQ2_t fq fq2, ?_⟩
    show m + w3.1 162 31 = z3.1 45 4
    rw [pp.2.2.2.2.2.2.2.2.2.2, ← pp.2.2.2.2.2.2.2.1, h5]
theorem FQ_note {X R x r : Mem} {v w : Int32} (e : f_Top_note v X = some x) (er : f_Mod_put w R = some r) : Fz X x ∧ (∀ kx i, CRr kx i → r.1 kx i = R.1 kx i) := by
  have n1 := note_i e
  have p1 := put_i er
  exact ⟨⟨fun kx i h => n1.1 kx i (by unfold CXr CX at h; omega) (by unfold CXr CX at h; omega), fun i => by rw [n1.2], fun i => by rw [n1.2], fun i => by rw [n1.2], fun i => by rw [n1.2]⟩, fun kx i h => p1 kx i (by unfold CRr CR at h; omega) (by unfold CRr CR at h; omega)⟩
theorem ahead_q {X R : Mem} {n : Nat} {v : Int32} {x r : Int32 × Mem} (za : ZA X R n) (ex : f_Top_ahead v X = some x) (er : f_Mod_ahead v R = some r) : x.1 = r.1 ∧ (RR X R → RR x.2 r.2) := by
  have n8 := za.1.1
  have z0 := o0
  have z60 : (60 : Int32).toInt = 60 := rfl
  unfold f_Mod_ahead at er
  obtain ⟨M1, m1, er⟩ := mo er
  obtain ⟨zaM, fqM⟩ := ZA_M1 za m1
  obtain ⟨y2, ey2, er⟩ := bo er
  have h2 := some_of (sp_in v 0 60) ey2
  rw [o0, z60] at h2
  unfold f_Top_ahead at ex
  have out : ¬ (0 ≤ v.toInt ∧ v.toInt ≤ 60) → some ((-1 : Int32), X) = some x → x.1 = r.1 ∧ (RR X R → RR x.2 r.2) := by
    intro hn e
    rcases h2 with ⟨_, h⟩ | ⟨h, _⟩
    · exact absurd h hn
    rw [h, if_pos rfl] at er
    obtain rfl := Option.some.inj e
    obtain rfl := Option.some.inj er
    exact ⟨rfl, FQ2_RR fqM⟩
  rcases io ex with ⟨c, ex⟩ | ⟨c, ex⟩
  · exact out (by have := q_lt c; omega) ex
  have c1 := q_nl c
  rcases io ex with ⟨c, ex⟩ | ⟨c, ex⟩
  rotate_left
  · exact out (by have := q_ng c; omega) ex
  have c2 := q_le c
  rcases h2 with ⟨h, _⟩ | ⟨_, h⟩
  rotate_left
  · exact absurd ⟨by omega, by omega⟩ h
  rw [h, if_neg (by decide)] at er
  obtain ⟨X1, e1, ex⟩ := bo ex
  obtain ⟨X2, e2, ex⟩ := bo ex
  obtain ⟨x5, e5, ex⟩ := bo ex
  obtain ⟨x6, e6, ex⟩ := bo ex
  obtain ⟨x9, e9, ex⟩ := bo ex
  obtain rfl := Option.some.inj ex
  obtain ⟨R3, r3, er⟩ := bo er
  obtain ⟨y6, r6, er⟩ := bo er
  obtain ⟨M7, m7, er⟩ := mo er
  obtain ⟨y11, r11, er⟩ := bo er
  obtain rfl := Option.some.inj er
  obtain ⟨zt1, fq1⟩ := begin_t zaM.1 e1 r3
  unfold f_Clock_reset at e2
  obtain ⟨C1, d1, e2⟩ := mo e2
  obtain ⟨C2, d2, e2⟩ := mo e2
  have e2 := Option.some.inj e2
  subst e2
  have fC : ∀ kx i, kx ≠ 45 → C2.1 kx i = X1.1 kx i := fun kx i h => by rw [d2, si_ne (by omega), d1, si_ne (by omega)]
  have fC2 : C2.2 = X1.2 := by rw [d2, si_2, d1, si_2]
  have agC : AgX X1 C2 := ⟨fC 3 2 (by omega), fC 3 3 (by omega), fun q => fC 4 q (by omega), fC 6 4 (by omega), fC 6 5 (by omega), fun q => fC 7 q (by omega), fun q => fC 8 q (by omega), fC 40 4 (by omega), fun q => fC 41 q (by omega), fun q => fC 35 q (by omega), fun q => by rw [fC2], fun q => by rw [fC2]⟩
  have ztC : ZT C2 R3 n := by
    obtain ⟨_, j0, zb, zs, zv, zw⟩ := zt1
    exact ⟨n8, j0, ZB_a agC AgR_r zb, ZS_c n8 (scn_f (fun kx i a b => fC kx i (by omega))) (fun _ _ => rfl) zs, zv, ZW_a agC AgR_r (fun _ _ => Iff.rfl) zw⟩
  obtain ⟨zt5, fq5, h45⟩ := mins_t ztC (by rw [d2, si_eq]) e5 r6
  have em := empty_i e6
  have R0 := RR_0 e6 m7
  have f7 : ∀ kx i, ¬ (kx = 162 ∧ i = 12) → M7.1 kx i = y6.2.1 kx i := fun kx i h => by rw [m7, si_ne h]
  have key : x9.1 45 4 = x6.1 45 4 ∧ RRn n x9 y11 := by
    refine it_2 (I := fun (s t : Int32 × Mem) => ∃ p : Nat, p ≤ n ∧ s.1.toInt = (p : Int) ∧ t.1 = s.1 ∧ RRn p s.2 t.2 ∧ (∀ kx i, kx ≠ 161 → ¬ (kx = 0 ∧ i = 15) → s.2.1 kx i = x6.1 kx i) ∧ (∀ kx i, kx ≠ 168 → ¬ (kx = 162 ∧ i = 12) → t.2.1 kx i = M7.1 kx i)) (Q := fun (x y : Mem) => x.1 45 4 = x6.1 45 4 ∧ RRn n x y) ?_ e9 r11 ⟨0, by omega, rfl, rfl, R0, fun _ _ _ _ => rfl, fun _ _ _ _ => rfl⟩
    rintro ⟨i, N⟩ ⟨i', T⟩ A B ⟨p, pn, hp, hi, rr, fN, fT⟩ eA eB
    dsimp only at hp hi rr fN fT
    subst hi
    unfold lb_Top_ahead_76 at eA
    unfold lb_Mod_ahead_66 at eB
    dsimp only at eA eB
    have n64 : N.1 6 4 = T.1 162 4 := by
      rw [fN 6 4 (by omega) (by omega), em.1 6 4 (by omega), fT 162 4 (by omega) (by omega), f7 162 4 (by omega)]
      exact zt5.2.2.1.2.1.2.1
    have nn : (T.1 162 4).toInt = (n : Int) := by rw [fT 162 4 (by omega) (by omega), f7 162 4 (by omega)]; exact zt5.2.2.1.2.1.1
    rw [n64] at eA
    rcases io eA with ⟨g, eA⟩ | ⟨g, eA⟩
    · rw [if_pos g] at eB
      have := q_le g
      have : p = n := by omega
      subst this
      obtain rfl := Option.some.inj eA
      obtain rfl := Option.some.inj eB
      exact .inr ⟨_, _, rfl, rfl, fN 45 4 (by omega) (by omega), rr⟩
    · rw [if_neg g] at eB
      have g1 := q_ng g
      obtain ⟨_, eA⟩ := io_n eA
      obtain ⟨x7, e7, eA⟩ := bo eA
      obtain rfl := Option.some.inj eA
      obtain ⟨_, eB⟩ := io_n eB
      obtain ⟨y8, ey8, eB⟩ := bo eB
      obtain ⟨y9, ey9, eB⟩ := bo eB
      obtain rfl := Option.some.inj eB
      rw [q_nat hp] at e7 ey8
      rw [fT 176 p (by omega) (by omega), f7 176 p (by omega)] at ey8
      have w := (whr_t zt5 (show p < n by omega)).1 y8 ey8
      have nA := note_i e7
      have nB := put_i ey9
      exact .inl ⟨_, _, rfl, rfl, p + 1, by omega, add_ti hp o1 (by omega) (by omega), rfl, RR_n rr (by omega) (by rw [w, fN 26 p (by omega) (by omega), em.1 26 p (by omega)]) e7 ey9, fun kx i h1 h2 => by show x7.1 kx i = _; rw [nA.1 kx i h1 h2]; exact fN kx i h1 h2, fun kx i h1 h2 => by show y9.1 kx i = _; rw [nB kx i h1 h2]; exact fT kx i h1 h2⟩
  refine ⟨?_, fun _ => RRn_r (by omega) key.2⟩
  show x9.1 45 4 = y6.1
  rw [key.1, em.1 45 4 (by omega), h45]
