/-! a minute -/
def PH (X R : Mem) (k a : Nat) (x S : Mem) : Prop := AgX X x ∧ AgR R S ∧ (∀ j i, j ≠ 8 → j < 10 → scn x k j i = scn X k j i) ∧ x.1 k 8 = S.1 a 93 ∧ (∀ i, i ≠ 93 → S.1 a i = R.1 a i) ∧ (∀ j, x.1 45 j = X.1 45 j) ∧ (∀ i, S.1 162 i = R.1 162 i)
theorem ZS_n {f f' : Nat → Nat → Int32} {g g' : Nat → Int32} {n : Nat} (n8 : n ≤ 8) (hf : ∀ j i, j ≠ 8 → j < 10 → f' j i = f j i) (h8 : f' 8 0 = g' 93) (hg : ∀ i, i ≠ 93 → g' i = g i) (h : ZS f g n) : ZS f' g' n := by
  obtain ⟨h1, h2, h3, h4, h5, h6, h7, h8'⟩ := h
  refine ⟨fun p hp => ?_, fun p q hp hq => ?_, fun p q hp hq hh => ?_, ?_, fun j hj hl => ?_, ?_, h8, ?_⟩
  · rw [hg p (by omega), hf 0 p (by omega) (by omega), hf 1 p (by omega) (by omega), hg (8 + p) (by omega), hf 2 p (by omega) (by omega)]; exact h1 p hp
  · rw [hg _ (by omega), hf 3 _ (by omega) (by omega), hf 3 _ (by omega) (by omega)]; exact h2 p q hp hq
  · rw [hf 3 _ (by omega) (by omega)]; exact h3 p q hp hq hh
  · rw [hf 6 0 (by omega) (by omega), hg 92 (by omega)]; exact h4
  · rw [hg 92 (by omega)] at hl
    rw [hf 4 j (by omega) (by omega), hf 5 j (by omega) (by omega), hg _ (by omega), hg _ (by omega)]; exact h5 j hj hl
  · rw [hf 7 0 (by omega) (by omega), hg 95 (by omega)]; exact h6
  · rw [hf 9 0 (by omega) (by omega), hg 94 (by omega)]; exact h8'
theorem loopC {X R x r : Mem} {k a n : Nat} {kn : Int32} (hk : isK k) (ha : St a) (jR : J R) (n8 : n ≤ 8) (zb : ZB X R n) (zs : ZS (scn X k) (R.1 a) n) (zv : ZV R (R.1 a) n) (ex : iter (lb_Clock_pass_87 k kn) FU ((0 : Int32), X) = some x) (er : iter (lb_Mod_goMinute_226 a kn) FU ((0 : Int32), R) = some r) : J r ∧ PH X R k a x r := by
  have kk : k = 11 ∨ k = 25 := hk
  have aa : a = 163 ∨ a = 174 ∨ a = 176 := ha
  refine it_2 (I := fun (s t : Int32 × Mem) => s.1 = t.1 ∧ (∃ i : Nat, s.1.toInt = (i : Int) ∧ i ≤ n) ∧ J t.2 ∧ PH X R k a s.2 t.2) (Q := fun x r => J r ∧ PH X R k a x r) ?_ ex er ⟨rfl, ⟨0, rfl, by omega⟩, jR, AgX_r, AgR_r, fun _ _ _ _ => rfl, zs.2.2.2.2.2.2.1, fun _ _ => rfl, fun _ => rfl, fun _ => rfl⟩
  rintro ⟨v, N⟩ ⟨v', T⟩ A B ⟨hv, ⟨i, hi, li⟩, jT, g1, g2, g3, g4, g5, g6, g7⟩ eA eB
  dsimp only at hv hi jT g1 g2 g3 g4 g5 g6 g7
  subst hv
  have zb' := ZB_a g1 AgR_r zb
  have zsN : ZS (scn N k) (T.1 a) n := ZS_n n8 g3 g4 g5 zs
  have hn := zb.2.1.1
  unfold lb_Clock_pass_87 at eA
  unfold lb_Mod_goMinute_226 at eB
  dsimp only at eA eB
  rw [zb'.2.1.2.1] at eA
  rw [g7 4] at eB
  rcases io eA with ⟨c, eA⟩ | ⟨c, eA⟩
  · rw [if_pos c] at eB
    obtain rfl := Option.some.inj eA
    obtain rfl := Option.some.inj eB
    exact .inr ⟨N, T, rfl, rfl, jT, g1, g2, g3, g4, g5, g6, g7⟩
  rw [if_neg c] at eB
  have c1 := q_ng c
  have v1 : (v + (1 : Int32)).toInt = ((i + 1 : Nat) : Int) := add_ti hi o1 (by omega) (by omega)
  left
  obtain ⟨z26, ez26, eB⟩ := bo eB
  have h26 := hasR hi (by omega) ez26
  rw [bt_shr hi (by omega)] at eA
  cases hb : bt kn i with
  | false =>
    rw [hb, if_neg (show ¬ (false = true) by decide), if_pos rfl] at eA
    rw [if_pos (h26.mpr hb)] at eB
    obtain rfl := Option.some.inj eA
    obtain rfl := Option.some.inj eB
    exact ⟨_, _, rfl, rfl, rfl, ⟨i + 1, v1, by omega⟩, jT, g1, g2, g3, g4, g5, g6, g7⟩
  | true =>
    rw [hb, if_pos rfl, if_neg (by decide)] at eA
    rw [if_neg (fun h => by rw [h26.mp h] at hb; cases hb)] at eB
    obtain ⟨x11, e11, eA⟩ := bo eA
    obtain ⟨M12, e12, eA⟩ := mo eA
    obtain rfl := Option.some.inj eA
    obtain ⟨_, eB⟩ := io_n eB
    obtain ⟨x27, e27, eB⟩ := bo eB
    obtain ⟨_, eB⟩ := io_n eB
    obtain ⟨M28, e28, eB⟩ := mo eB
    obtain rfl := Option.some.inj eB
    have j28 : J M28 := by rw [e28]; exact Jws93 jT ha _
    rw [show (93 : Int32).toNatClampNeg = 93 from rfl] at e28
    have zvT : ZV T (T.1 a) n := ZV_b n8 g2 (fun i hi => g5 i (by omega)) zv
    have eq := hear_2 hk ha jT n8 (ZB_a AgX_r g2 zb') zsN zvT hi (by omega) e11 e27
    have xf : ∀ kx q, ¬ (kx = k ∧ q = 8) → M12.1 kx q = N.1 kx q := fun kx q h => by rw [e12, si_ne h]
    have sf : ∀ kx q, ¬ (kx = a ∧ q = 93) → M28.1 kx q = T.1 kx q := fun kx q h => by rw [e28, si_ne h]
    have x22 : M12.2 = N.2 := by rw [e12]; rfl
    have agx : AgX N M12 := ⟨xf 3 2 (by omega), xf 3 3 (by omega), fun q => xf 4 q (by omega), xf 6 4 (by omega), xf 6 5 (by omega), fun q => xf 7 q (by omega), fun q => xf 8 q (by omega), xf 40 4 (by omega), fun q => xf 41 q (by omega), fun q => xf 35 q (by omega), fun q => by rw [x22], fun q => by rw [x22]⟩
    have agr : AgR T M28 := ⟨sf 162 2 (by omega), sf 162 3 (by omega), sf 162 4 (by omega), sf 162 5 (by omega), sf 162 23 (by omega), fun q => sf 164 q (by omega), fun q => sf 165 q (by omega), fun q => sf 166 q (by omega), fun q => sf 172 q (by omega)⟩
    refine ⟨_, _, rfl, rfl, rfl, ⟨i + 1, v1, by omega⟩, j28, AgX_t g1 agx, AgR_t g2 agr, fun j q h1 h2 => ?_, ?_, fun q hq => ?_, fun j => ?_, fun q => ?_⟩
    · show scn M12 k j q = _
      rw [← g3 j q h1 h2]
      unfold scn
      by_cases g : j < 6
      · rw [if_pos g, if_pos g]; exact xf _ _ (by omega)
      · rw [if_neg g, if_neg g]; exact xf _ _ (by omega)
    · show M12.1 k 8 = M28.1 a 93
      rw [e12, si_eq, e28, si_eq, eq, g4]
    · show M28.1 a q = _
      rw [sf a q (by omega)]; exact g5 q hq
    · show M12.1 45 j = _
      rw [xf 45 j (by omega)]; exact g6 j
    · show M28.1 162 q = _
      rw [sf 162 q (by omega)]; exact g7 q
/-- what a minute leaves -/
def PP (X R : Mem) (k a n : Nat) (x r : Mem) : Prop := J r ∧ AgX X x ∧ AgR R r ∧ ZS (scn x k) (r.1 a) n ∧ ZV r (r.1 a) n ∧ x.1 45 0 = r.1 162 29 ∧ x.1 45 1 = r.1 162 30 ∧ x.1 45 2 = r.1 162 31 ∧ (∀ i, 80 ≤ i → i < 93 → r.1 a i = R.1 a i) ∧ (∃ b, f_JInteger_bitCount (x.1 45 0) = some b ∧ x.1 45 3 = X.1 45 3 + b) ∧ x.1 45 4 = X.1 45 4 + x.1 45 2
theorem pass_2 {X R x r : Mem} {k a n : Nat} (hk : isK k) (ha : St a) (jR : J R) (n8 : n ≤ 8) (zb : ZB X R n) (zs : ZS (scn X k) (R.1 a) n) (zv : ZV R (R.1 a) n) (zw : ZW X R a) (ex : f_Clock_pass k 32 X = some x) (er : f_Mod_goMinute a R = some r) : PP X R k a n x r := by
  have kk : k = 11 ∨ k = 25 := hk
  have aa : a = 163 ∨ a = 174 ∨ a = 176 := ha
  have jr := (some_of (sf_Mod_goMinute a R ha jR) er).1
  unfold f_Clock_pass at ex
  obtain ⟨_, ex⟩ := io_n ex
  obtain ⟨_, ex⟩ := io_n ex
  obtain ⟨M1, m1, exa⟩ := mo ex
  obtain ⟨x6, ex6, exb⟩ := bo exa
  obtain ⟨M7, m7, exc⟩ := mo exb
  obtain ⟨x10, ex10, exd⟩ := bo exc
  obtain ⟨x15, ex15, exe⟩ := bo exd
  obtain ⟨M16, m16, exf⟩ := mo exe
  obtain ⟨M17, m17, exg⟩ := mo exf
  obtain ⟨x18, ex18, exh⟩ := bo exg
  obtain ⟨M19, m19, exi⟩ := mo exh
  obtain ⟨M20, m20, exj⟩ := mo exi
  have exj := Option.some.inj exj
  subst exj
  unfold f_Mod_goMinute at er
  obtain ⟨_, er⟩ := io_n er
  obtain ⟨S1, s1, era⟩ := mo er
  obtain ⟨S2, s2, erb⟩ := mo era
  obtain ⟨y12, ey12, erc⟩ := bo erb
  obtain ⟨y25, ey25, erd⟩ := bo erc
  obtain ⟨_, ere⟩ := io_n erd
  obtain ⟨y31, ey31, erf⟩ := bo ere
  obtain ⟨_, erg⟩ := io_n erf
  obtain ⟨S32, s32, erh⟩ := mo erg
  obtain ⟨_, eri⟩ := io_n erh
  obtain ⟨_, erj⟩ := io_n eri
  obtain ⟨S33, s33, erk⟩ := mo erj
  have erk := Option.some.inj erk
  subst erk
  rw [show (93 : Int32).toNatClampNeg = 93 from rfl] at ey31 s32
  rw [show (95 : Int32).toNatClampNeg = 95 from rfl] at s33
  -- people go
  have fX1 : ∀ kx i, ¬ (kx = 45 ∧ i = 0) → M1.1 kx i = X.1 kx i := fun kx i h => by rw [m1, si_ne h]
  have fS2 : ∀ kx i, ¬ (kx = 162 ∧ (i = 29 ∨ i = 31)) → S2.1 kx i = R.1 kx i := fun kx i h => by rw [s2, si_ne (by omega), s1, si_ne (by omega)]
  have mkX : ∀ {A B : Mem}, (∀ kx i, kx ≠ 45 → B.1 kx i = A.1 kx i) → B.2 = A.2 → AgX A B := fun h h2 => ⟨h 3 2 (by omega), h 3 3 (by omega), fun q => h 4 q (by omega), h 6 4 (by omega), h 6 5 (by omega), fun q => h 7 q (by omega), fun q => h 8 q (by omega), h 40 4 (by omega), fun q => h 41 q (by omega), fun q => h 35 q (by omega), fun q => by rw [h2], fun q => by rw [h2]⟩
  have mkR : ∀ {A B : Mem}, (∀ kx i, ¬ (kx = 162 ∧ (i = 29 ∨ i = 30 ∨ i = 31)) → kx ≠ a → B.1 kx i = A.1 kx i) → AgR A B := fun h => ⟨h 162 2 (by omega) (by omega), h 162 3 (by omega) (by omega), h 162 4 (by omega) (by omega), h 162 5 (by omega) (by omega), h 162 23 (by omega) (by omega), fun q => h 164 q (by omega) (by omega), fun q => h 165 q (by omega) (by omega), fun q => h 166 q (by omega) (by omega), fun q => h 172 q (by omega) (by omega)⟩
  have scE : ∀ {A B : Mem}, (∀ kx i, kx ≠ 45 → B.1 kx i = A.1 kx i) → SEq (scn A k) (scn B k) := fun h => scn_e (fun j i hj => by
    unfold scn
    by_cases g : j < 6
    · rw [if_pos g, if_pos g, h _ _ (by omega)]
    · rw [if_neg g, if_neg g, h _ _ (by omega)])
  have ax1 : AgX X M1 := mkX (fun kx i h => fX1 kx i (by omega)) (by rw [m1]; rfl)
  have ar2 : AgR R S2 := mkR (fun kx i h _ => fS2 kx i (by omega))
  have j2 : J S2 := by rw [s2]; refine Jw_fld okf_162_31 ?_ _; rw [s1]; exact Jw_fld okf_162_29 jR _
  have ra2 : ∀ i, S2.1 a i = R.1 a i := fun i => fS2 a i (by omega)
  have h6 : (R.1 a 92).toInt ≤ 6 := zv.2.1.2
  have A := loopA hk ha j2 n8 (ZB_a ax1 ar2 zb) (ZS_c n8 (scE (fun kx i h => fX1 kx i (by omega))) (fun i _ => (ra2 i).symm) zs) (ZV_a n8 ar2 (fun i _ => ra2 i) zv) (ZW_a ax1 ar2 (plk_c (fun i _ _ => ra2 i) h6) zw) (by rw [m1, si_eq, s2, si_ne (by omega), s1, si_eq]) ex6 ey12
  obtain ⟨a1, a2, a3, a4, a5, a6, a7, a8, a9⟩ := A
  -- they meet
  have fX7 : ∀ kx i, ¬ (kx = 45 ∧ i = 2) → M7.1 kx i = x6.1 kx i := fun kx i h => by rw [m7, si_ne h]
  have ax7 : AgX x6 M7 := mkX (fun kx i h => fX7 kx i (by omega)) (by rw [m7]; rfl)
  have y31' : y12.1 162 31 = 0 := by
    have fr := it_r (I := fun s : Int32 × Mem => Fx (2 ^ 400 - 1 - 2 ^ 231) [] S2 s.2) (Q := fun r : Mem => Fx (2 ^ 400 - 1 - 2 ^ 231) [] S2 r) (fun s r hs er => by
      rcases aa with rfl | rfl | rfl
      · exact wl_Mod_goMinute_12 163 s (by decide +kernel) (oc_c (sb_r _) (by decide +kernel)) hs er
      · exact wl_Mod_goMinute_12 174 s (by decide +kernel) (oc_c (sb_r _) (by decide +kernel)) hs er
      · exact wl_Mod_goMinute_12 176 s (by decide +kernel) (oc_c (sb_r _) (by decide +kernel)) hs er) ey12 Fx_r
    rw [(fr 162 31 (by decide +kernel) (by simp)).1, s2, si_eq]
  have zb7 := ZB_a (AgX_t (AgX_t ax1 a2) ax7) (AgR_t ar2 a3) zb
  have B := loopB hk ha a1 n8 zb7 (ZS_c n8 (scE (fun kx i h => fX7 kx i (by omega))) (fun _ _ => rfl) a4) a5 (by rw [m7, si_eq, y31']) ex10 ey25
  obtain ⟨jb, b1, b2, b3, b4, b5, b6, b7, b8⟩ := B
  -- they talk
  have kn : x10.1 k 8 = y25.1 a 93 := b3.2.2.2.2.2.2.1
  rw [← kn] at ey31
  have zv25 : ZV y25 (y25.1 a) n := ZV_b n8 b2 (fun i hi => b4 i (by omega)) a5
  have C := loopC hk ha jb n8 (ZB_a b1 b2 zb7) b3 zv25 ex15 ey31
  obtain ⟨jc, c1, c2, c3, c4, c5, c6, c7⟩ := C
  have zs15 : ZS (scn x15 k) (y31.1 a) n := ZS_n n8 c3 c4 c5 b3
  have zv15 : ZV y31 (y31.1 a) n := ZV_b n8 c2 (fun i hi => c5 i (by omega)) zv25
  -- the end
  have fE : ∀ kx i, kx ≠ 45 → ¬ (kx = k ∧ i = 7) → M20.1 kx i = x15.1 kx i := fun kx i h1 h2 => by
    rw [m20, si_ne (by omega), m19, si_ne (by omega), m17, si_ne h2, m16, si_ne (by omega)]
  have e22 : M20.2 = x15.2 := by
    rw [m20]; show M19.2 = _
    rw [m19]; show M17.2 = _
    rw [m17]; show M16.2 = _
    rw [m16]; rfl
  have axE : AgX x15 M20 := ⟨fE 3 2 (by omega) (by omega), fE 3 3 (by omega) (by omega), fun q => fE 4 q (by omega) (by omega), fE 6 4 (by omega) (by omega), fE 6 5 (by omega) (by omega), fun q => fE 7 q (by omega) (by omega), fun q => fE 8 q (by omega) (by omega), fE 40 4 (by omega) (by omega), fun q => fE 41 q (by omega) (by omega), fun q => fE 35 q (by omega) (by omega), fun q => by rw [e22], fun q => by rw [e22]⟩
  have fF : ∀ kx i, ¬ (kx = 162 ∧ i = 30) → ¬ (kx = a ∧ i = 95) → S33.1 kx i = y31.1 kx i := fun kx i h1 h2 => by rw [s33, si_ne h2, s32, si_ne h1]
  have arE : AgR y31 S33 := ⟨fF 162 2 (by omega) (by omega), fF 162 3 (by omega) (by omega), fF 162 4 (by omega) (by omega), fF 162 5 (by omega) (by omega), fF 162 23 (by omega) (by omega), fun q => fF 164 q (by omega) (by omega), fun q => fF 165 q (by omega) (by omega), fun q => fF 166 q (by omega) (by omega), fun q => fF 172 q (by omega) (by omega)⟩
  have m45 : ∀ j, j ≠ 1 → j ≠ 3 → j ≠ 4 → M20.1 45 j = x15.1 45 j := fun j h1 h3 h4 => by
    rw [m20, si_ne (by omega), m19, si_ne (by omega), m17, si_ne (by omega), m16, si_ne (by omega)]
  have x15_0 : x15.1 45 0 = x6.1 45 0 := by rw [c6 0, b6 0 (by omega), fX7 45 0 (by omega)]
  have sc7 : ∀ j i, j ≠ 7 → j < 10 → scn M20 k j i = scn x15 k j i := by
    intro j i h7 h10
    unfold scn
    by_cases g : j < 6
    · rw [if_pos g, if_pos g]; exact fE _ _ (by omega) (by omega)
    · rw [if_neg g, if_neg g]; exact fE _ _ (by omega) (by omega)
  obtain ⟨d1, d2, d3, d4, d5, d6, d7, d8⟩ := zs15
  refine ⟨jr, AgX_t (AgX_t (AgX_t (AgX_t (AgX_t ax1 a2) ax7) b1) c1) axE, AgR_t (AgR_t (AgR_t (AgR_t ar2 a3) b2) c2) arE, ⟨fun p hp => ?_, fun p q hp hq => ?_, fun p q hp hq hh => ?_, ?_, fun j hj hl => ?_, ?_, ?_, ?_⟩, ZV_b n8 arE (fun i hi => fF a i (by omega) (by omega)) zv15, ?_, ?_, ?_, fun i h1 h2 => ?_, ⟨x18, ?_, ?_⟩, ?_⟩
  · rw [fF a p (by omega) (by omega), fF a (8 + p) (by omega) (by omega), sc7 0 p (by omega) (by omega), sc7 1 p (by omega) (by omega), sc7 2 p (by omega) (by omega)]; exact d1 p hp
  · rw [fF a _ (by omega) (by omega), sc7 3 _ (by omega) (by omega), sc7 3 _ (by omega) (by omega)]; exact d2 p q hp hq
  · rw [sc7 3 _ (by omega) (by omega)]; exact d3 p q hp hq hh
  · rw [sc7 6 0 (by omega) (by omega), fF a 92 (by omega) (by omega)]; exact d4
  · rw [fF a 92 (by omega) (by omega)] at hl
    rw [sc7 4 j (by omega) (by omega), sc7 5 j (by omega) (by omega), fF a _ (by omega) (by omega), fF a _ (by omega) (by omega)]; exact d5 j hj hl
  · show M20.1 k 7 = S33.1 a 95
    have : x15.1 k 7 = y31.1 a 95 := d6
    rw [m20, si_ne (by omega), m19, si_ne (by omega), m17, si_eq, m16, si_ne (by omega), s33, si_eq, s32, si_ne (by omega), this]
  · rw [sc7 8 0 (by omega) (by omega), fF a 93 (by omega) (by omega)]; exact d7
  · rw [sc7 9 0 (by omega) (by omega), fF a 94 (by omega) (by omega)]; exact d8
  · rw [m45 0 (by omega) (by omega) (by omega), x15_0, a6, fF 162 29 (by omega) (by omega), c7 29, b7]
  · rw [m20, si_ne (by omega), m19, si_ne (by omega), m17, si_ne (by omega), m16, si_eq, s33, si_ne (by omega), s32, si_eq, ← c4, kn]
  · rw [m45 2 (by omega) (by omega) (by omega), c6 2, b5, fF 162 31 (by omega) (by omega), c7 31]
  · rw [fF a i (by omega) (by omega), c5 i (by omega), b4 i (by omega), a7 i (by omega), ra2]
  · have : M20.1 45 0 = M17.1 45 0 := by rw [m20, si_ne (by omega), m19, si_ne (by omega)]
    rw [this]; exact ex18
  · rw [m20, si_ne (by omega), m19, si_eq, m17, si_ne (by omega), m16, si_ne (by omega), c6 3, b6 3 (by omega), fX7 45 3 (by omega), a8, fX1 45 3 (by omega)]
  · rw [m20, si_eq, si_ne (by omega), m19, si_ne (by omega), si_ne (by omega), m17, si_ne (by omega), si_ne (by omega), m16, si_ne (by omega), si_ne (by omega), c6 4, b6 4 (by omega), fX7 45 4 (by omega), a9, fX1 45 4 (by omega)]
