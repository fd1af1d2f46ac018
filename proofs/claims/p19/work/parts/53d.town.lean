/-! the reference: town; safety -/
theorem J166 {M : Mem} (h : J M) (i : Nat) (v : Int32) (h1 : 1 ≤ v.toInt) (h2 : v.toInt ≤ 9) : J (s_i M 166 i v) := by
  refine ⟨Jr_si h.1 (show (0 : Int) ≤ v.toInt by omega) h2, K1_si h.2.1 (by decide), h.2.2.1, ?_, h.2.2.2.2.1, fun p hp => ?_⟩
  · rw [si_ne (by intro e; exact absurd e.1 (by decide)), si_ne (by intro e; exact absurd e.1 (by decide))]; exact h.2.2.2.1
  · rw [si_ne (by intro e; exact absurd e.1 (by decide))] at hp
    by_cases e : p = i
    · rw [e, si_eq]; exact h1
    · rw [si_ne (fun w => e w.2)]; exact h.2.2.2.2.2 p hp
theorem JP {M : Mem} (h : J M) (v : Int32) (h1 : 0 ≤ v.toInt) (h2 : v.toInt ≤ 8) (hr : ∀ p : Nat, (p : Int) < v.toInt → 1 ≤ (M.1 166 p).toInt) : J (s_i M 162 4 v) := by
  refine ⟨Jr_si h.1 h1 h2, K1_si h.2.1 (by decide), h.2.2.1, ?_, h.2.2.2.2.1, fun p hp => ?_⟩
  · rw [si_ne (by decide), si_ne (by decide)]; exact h.2.2.2.1
  · rw [si_eq] at hp
    rw [si_ne (by intro e; exact absurd e.1 (by decide))]
    exact hr p hp
theorem reg_has0 (i : Nat) : (reg i).1 ≤ 0 ∧ 0 ≤ (reg i).2 := by
  unfold reg FUL
  split
  · decide
  split
  · decide
  split
  · decide
  split
  · decide
  split
  · decide
  split <;> decide
theorem Jst_0 {M : Mem} (h : J M) {k : Nat} (hs : stb k = true) (i : Nat) : J (s_i M k i 0) := Jwreg h hs i 0 (reg_has0 _).1 (reg_has0 _).2
theorem cnt_r {X : Type} {f : Int32 × Mem → Option ((Int32 × Mem) ⊕ X)} (Q : X → Prop) (I : Int → Mem → Prop) (n : Int) (hn2 : n ≤ 1000000) (hs : ∀ (k : Int32) (N : Mem), 0 ≤ k.toInt → k.toInt ≤ n → I k.toInt N → ∃ r, f (k, N) = some r ∧ ((∃ x, r = .inr x ∧ Q x) ∨ (k.toInt < n ∧ ∃ N', r = .inl (k + (1 : Int32), N') ∧ I (k.toInt + 1) N'))) (M : Mem) (h0 : I 0 M) (hn : 0 ≤ n) : ∃ x, iter f FU ((0 : Int32), M) = some x ∧ Q x := by
  refine iter_r (fun s : Int32 × Mem => 0 ≤ s.1.toInt ∧ s.1.toInt ≤ n ∧ I s.1.toInt s.2) (fun s : Int32 × Mem => (n - s.1.toInt).toNat) Q ?_ FU _ ⟨by show (0 : Int) ≤ (0 : Int32).toInt; decide, hn, h0⟩ (by show (n - 0).toNat < FU; rw [FU_v]; omega)
  rintro ⟨k, N⟩ ⟨i1, i2, i3⟩
  obtain ⟨r, e, hr⟩ := hs k N i1 i2 i3
  refine ⟨r, e, ?_⟩
  rcases hr with ⟨x, rfl, hx⟩ | ⟨h1, N', rfl, h2⟩
  · exact hx
  · have i1' : (0 : Int) ≤ k.toInt := i1
    have ek : (k + (1 : Int32)).toInt = k.toInt + 1 := add_ti rfl rfl (by omega) (by omega)
    refine ⟨⟨?_, ?_, ?_⟩, ?_⟩
    · show 0 ≤ (k + (1 : Int32)).toInt; omega
    · show (k + (1 : Int32)).toInt ≤ n; omega
    · show I (k + (1 : Int32)).toInt N'; rw [ek]; exact h2
    · show (n - (k + (1 : Int32)).toInt).toNat < (n - k.toInt).toNat; omega
abbrev WT (k i : Nat) : Prop := (k = 162 ∧ (i = 17 ∨ i = 18)) ∨ k = 169
theorem PF.wt {M N : Mem} (h : PF M N) : Fr WT M N := h.fr (.inl ⟨rfl, .inl rfl⟩) (.inl ⟨rfl, .inr rfl⟩)
def mE (M : Mem) : Int := 2 * (82 - xA M) + (if xW M = -1 then 1 else 0)
theorem mE_lt {M N : Mem} (h : (xW M = -1 ∧ xW N ≠ -1 ∧ xA N = xA M) ∨ xA N = xA M + 1) (ha : xA M ≤ 81) (hn : xA N ≤ 81) : (mE N).toNat < (mE M).toNat := by
  unfold mE
  rcases h with ⟨h1, h2, h3⟩ | h
  · rw [if_pos h1, if_neg h2, h3]; omega
  · rw [h]; split <;> split <;> omega
theorem sl_town58 {M : Mem} (h : PI M) (w y : Int32) (hw : 0 ≤ w.toInt ∧ w.toInt ≤ 6) (hy : 0 ≤ y.toInt) (hf : xW M = -1 → y.toInt ≤ 5 ∧ (0 < y.toInt → 1 ≤ w.toInt)) :
    ∃ x, iter (lb_Mod_town_58 w y) FU ((0 : Int32), M) = some x ∧ (PI x.2 ∧ Fr WT M x.2 ∧ x.2.2 = M.2 ∧ 0 ≤ x.1.toInt ∧ x.1.toInt ≤ 6 ∧ (xW x.2 = -1 → xW M = -1)) := by
  refine iter_r (fun s : Int32 × Mem => PI s.2 ∧ Fr WT M s.2 ∧ s.2.2 = M.2 ∧ 0 ≤ s.1.toInt ∧ s.1.toInt ≤ 6 ∧ (xW s.2 = -1 → xW M = -1) ∧ (y.toInt ≠ 0 → s.1.toInt ≤ w.toInt)) (fun s : Int32 × Mem => (mE s.2).toNat) _ ?_ FU _ ⟨h, Fr.r, rfl, (by show (0 : Int) ≤ (0 : Int32).toInt; decide), (by show (0 : Int32).toInt ≤ 6; decide), fun e => e, fun _ => hw.1⟩ (by have := aA h.1; show (mE M).toNat < FU; rw [FU_v]; unfold mE; split <;> omega)
  rintro ⟨n, N⟩ ⟨i1, i2, i3, i4, i5, i6, i7⟩
  dsimp only at i1 i2 i3 i4 i5 i6 i7
  have z1 := aA i1.1
  have z2 := aL i1.1
  unfold lb_Mod_town_58
  dsimp only
  refine bind_i (sp_fine N) (fun x1 _ q1 => ?_)
  rcases q1 with ⟨q1, rfl⟩ | ⟨q1, rfl⟩
  · refine if_i (fun c => absurd c (by decide)) (fun _ => ?_)
    refine bind_i (sp_here i1.1) (fun x2 ex2 q2 => ?_)
    refine bind_i (sp_kindOf x2) (fun x3 ex3 q3 => ?_)
    refine if_i (fun c => ⟨_, rfl, i1, i2, i3, i4, i5, i6⟩) (fun c => ?_)
    rcases q3 with q3 | ⟨q3, q4, q5⟩
    · exact absurd q3 c
    have hl := q2 q3
    have hlt := i1.2 q1
    obtain ⟨y5, yw⟩ := hf (i6 q1)
    have key : ∀ lim : Int32, lim.toInt ≤ 6 → n.toInt ≤ lim.toInt → (y.toInt ≠ 0 → lim.toInt = w.toInt) → ∃ r, j_Mod_town_88_58 w y n lim n N = some r ∧ LPq (fun s : Int32 × Mem => PI s.2 ∧ Fr WT M s.2 ∧ s.2.2 = M.2 ∧ 0 ≤ s.1.toInt ∧ s.1.toInt ≤ 6 ∧ (xW s.2 = -1 → xW M = -1) ∧ (y.toInt ≠ 0 → s.1.toInt ≤ w.toInt)) (fun s : Int32 × Mem => (mE s.2).toNat) (fun x : Int32 × Mem => PI x.2 ∧ Fr WT M x.2 ∧ x.2.2 = M.2 ∧ 0 ≤ x.1.toInt ∧ x.1.toInt ≤ 6 ∧ (xW x.2 = -1 → xW M = -1)) (mE N).toNat r := by
      intro lim l1 l2 l3
      unfold j_Mod_town_88_58
      refine if_i (fun c9 => ?_) (fun c9 => ?_)
      · refine bind_i (sp_faultA i1.1) (fun u _ q => ⟨_, rfl, ⟨q.1, i2.t q.2.1.wt, q.2.1.2.trans i3, i4, i5, fun e => absurd e q.2.2.2, i7⟩, ?_⟩)
        exact mE_lt (.inl ⟨q1, q.2.2.2, q.2.2.1⟩) z1.2 (by have := q.2.2.1; show xA u ≤ 81; omega)
      · have d9 := neqi.mp c9
        refine bind_i (Q := fun u => u = x2) ⟨x2, ex2, rfl⟩ (fun x4 _ e4 => ?_)
        subst e4
        refine bind_i (Q := fun u => u = x3) ⟨x3, ex3, rfl⟩ (fun x5 _ e5 => ?_)
        subst e5
        have hm : 0 ≤ w.toInt * y.toInt ∧ w.toInt * y.toInt + n.toInt < 36 := by
          have : y.toInt = 0 ∨ y.toInt = 1 ∨ y.toInt = 2 ∨ y.toInt = 3 ∨ y.toInt = 4 ∨ y.toInt = 5 := by omega
          rcases this with e | e | e | e | e | e <;> rw [e] at l3 ⊢ <;> omega
        have e1 : (w * y).toInt = w.toInt * y.toInt := mul_ti rfl rfl (by omega) (by omega)
        have e2 : ((w * y) + n).toInt = w.toInt * y.toInt + n.toInt := add_ti e1 rfl (by omega) (by omega)
        refine inb_i (by omega) (by omega) ?_
        refine mem_i (fun M6 e6 => mem_i (fun M7 e7 => ⟨_, rfl, ?_⟩))
        have j6 : J M6 := by rw [e6]; exact Jw_any ok_169 i1.1 _ _
        have A6 : xA M6 = xA N := by rw [xA, e6, si_ne (by intro e; exact absurd e.1 (by decide))]
        have W6 : xW M6 = xW N := by rw [xW, e6, si_ne (by intro e; exact absurd e.1 (by decide))]
        have L6 : xL M6 = xL N := by rw [xL, e6, si_ne (by intro e; exact absurd e.1 (by decide))]
        obtain ⟨g1, g2⟩ := at1 j6 (by omega)
        rw [← e7] at g1 g2
        have W7 : xW M7 = xW N := by rw [e7]; exact (at1W _).trans W6
        have L7 : xL M7 = xL N := by rw [e7]; exact (at1L _).trans L6
        have en : (n + (1 : Int32)).toInt = n.toInt + 1 := add_ti rfl rfl (by omega) (by omega)
        have f6 : Fr WT M M6 := by rw [e6]; exact i2.i (.inr rfl)
        refine ⟨⟨⟨g1, fun _ => by show xA M7 ≤ xL M7; omega⟩, ?_, ?_, ?_, ?_, ?_, ?_⟩, ?_⟩
        · show Fr _ M M7; rw [e7]; exact f6.i (.inl ⟨rfl, .inl rfl⟩)
        · show M7.2 = M.2; rw [e7, e6]; exact i3
        · show 0 ≤ (n + (1 : Int32)).toInt; omega
        · show (n + (1 : Int32)).toInt ≤ 6; omega
        · intro _; exact i6 q1
        · intro e; show (n + (1 : Int32)).toInt ≤ w.toInt; have := l3 e; omega
        · exact mE_lt (.inr (by show xA M7 = xA N + 1; omega)) z1.2 (by show xA M7 ≤ 81; omega)
    refine if_i (fun c0 => ?_) (fun c0 => ?_)
    · have d0 : y.toInt = 0 := eqi.mp c0
      exact key 6 (by decide) (by have : (6 : Int32).toInt = 6 := rfl; omega) (fun e => absurd d0 e)
    · have d0 : ¬ y.toInt = 0 := neqi.mp c0
      exact key w hw.2 (i7 d0) (fun _ => rfl)
  · refine if_i (fun _ => ⟨_, rfl, i1, i2, i3, i4, i5, i6⟩) (fun c => absurd rfl c)
/-- one turn of town's outer loop keeps this -/
def TI (M0_ : Mem) (s : Int32 × Int32 × Int32 × Mem) : Prop := PI s.2.2.2 ∧ Fr WT M0_ s.2.2.2 ∧ s.2.2.2.2 = M0_.2 ∧ (0 ≤ s.1.toInt ∧ s.1.toInt ≤ 6) ∧ (0 ≤ s.2.1.toInt ∧ s.2.1.toInt ≤ 7) ∧ (xW s.2.2.2 = -1 → s.2.1.toInt ≤ 6 ∧ (0 < s.2.1.toInt → 1 ≤ s.1.toInt)) ∧ (s.2.2.1 = 0 → xW s.2.2.2 = -1 → 0 < s.2.1.toInt)
def TQ (M0_ : Mem) (x : Int32 × Int32 × Mem) : Prop := PI x.2.2 ∧ Fr WT M0_ x.2.2 ∧ x.2.2.2 = M0_.2 ∧ (xW x.2.2 = -1 → (1 ≤ x.1.toInt ∧ x.1.toInt ≤ 6) ∧ (1 ≤ x.2.1.toInt ∧ x.2.1.toInt ≤ 6))
theorem sp_town166 {M0_ M : Mem} (h : PI M) (f : Fr WT M0_ M) (q : M.2 = M0_.2) (w y : Int32) (m0 : Nat) (hw : 0 ≤ w.toInt ∧ w.toInt ≤ 6) (hy : 0 ≤ y.toInt ∧ y.toInt ≤ 6) (hf : xW M = -1 → y.toInt ≤ 5 ∧ 1 ≤ w.toInt) (hm : (6 - y.toInt).toNat < m0) : ∃ r, j_Mod_town_166_30 w y M = some r ∧ LPq (TI M0_) (fun s => (7 - s.2.1.toInt).toNat) (TQ M0_) m0 r := by
  unfold j_Mod_town_166_30
  refine bind_i (sp_passes h 47 (by decide)) (fun x _ p => ⟨_, rfl, ?_⟩)
  obtain ⟨p1, p2, p3⟩ := p
  have ey : (y + (1 : Int32)).toInt = y.toInt + 1 := add_ti rfl rfl (by omega) (by omega)
  have hx : xW x.2 = -1 → xW M = -1 := by
    rcases p3 with ⟨_, e⟩ | ⟨_, _, _, e, _⟩
    · rw [e]; exact fun e => e
    · exact fun _ => e
  refine ⟨⟨p1, f.t p2.wt, p2.2.trans q, hw, ?_, fun e => ?_, fun _ e => ?_⟩, ?_⟩
  · show 0 ≤ (y + (1 : Int32)).toInt ∧ (y + (1 : Int32)).toInt ≤ 7; omega
  · have := hf (hx e); show (y + (1 : Int32)).toInt ≤ 6 ∧ (0 < (y + (1 : Int32)).toInt → 1 ≤ w.toInt); omega
  · show 0 < (y + (1 : Int32)).toInt; omega
  · show (7 - (y + (1 : Int32)).toInt).toNat < m0; rw [ey]; omega
theorem sp_town136 {M0_ M : Mem} (h : PI M) (f : Fr WT M0_ M) (q : M.2 = M0_.2) (w y n : Int32) (m0 : Nat) (hw : 0 ≤ w.toInt ∧ w.toInt ≤ 6) (hy : 0 ≤ y.toInt ∧ y.toInt ≤ 6) (hn : 0 ≤ n.toInt ∧ n.toInt ≤ 6) (hf : xW M = -1 → y.toInt ≤ 5 ∧ (0 < y.toInt → 1 ≤ w.toInt)) (hm : (6 - y.toInt).toNat < m0) : ∃ r, j_Mod_town_136_30 w y n M = some r ∧ LPq (TI M0_) (fun s => (7 - s.2.1.toInt).toNat) (TQ M0_) m0 r := by
  have k159 : ∀ N : Mem, PI N → Fr WT M0_ N → N.2 = M0_.2 → (xW N = -1 → y.toInt ≤ 5 ∧ (0 < y.toInt → 1 ≤ w.toInt) ∧ 1 ≤ n.toInt) → ∃ r, j_Mod_town_159_30 w y n N = some r ∧ LPq (TI M0_) (fun s => (7 - s.2.1.toInt).toNat) (TQ M0_) m0 r := by
    intro N n1 n2 n3 n4
    unfold j_Mod_town_159_30
    refine if_i (fun c => sp_town166 n1 n2 n3 n y m0 hn hy (fun e => ?_) hm) (fun c => sp_town166 n1 n2 n3 w y m0 hw hy (fun e => ?_) hm)
    · have := n4 e; omega
    · have d : ¬ y.toInt = 0 := neqi.mp c
      have := n4 e; omega
  have k151 : ∃ r, j_Mod_town_151_30 w y n M = some r ∧ LPq (TI M0_) (fun s => (7 - s.2.1.toInt).toNat) (TQ M0_) m0 r := by
    unfold j_Mod_town_151_30
    refine bind_i (sp_faultA h.1) (fun x _ p => k159 x p.1 (f.t p.2.1.wt) (p.2.1.2.trans q) (fun e => absurd e p.2.2.2))
  unfold j_Mod_town_136_30
  refine if_i (fun c => k151) (fun c => ?_)
  have d : ¬ n.toInt = 0 := neqi.mp c
  refine if_i (fun c => k159 M h f q (fun e => ?_)) (fun c => if_i (fun c => k159 M h f q (fun e => ?_)) (fun c => k151))
  all_goals (have := hf e; omega)
theorem sl_town30 {M : Mem} (h : PI M) : ∃ x, iter lb_Mod_town_30 FU ((0 : Int32), (0 : Int32), (1 : Int32), M) = some x ∧ TQ M x := by
  refine iter_r (TI M) (fun s => (7 - s.2.1.toInt).toNat) (TQ M) ?_ FU _ ⟨h, Fr.r, rfl, (by show (0 : Int) ≤ (0 : Int32).toInt ∧ (0 : Int32).toInt ≤ 6; decide), (by show (0 : Int) ≤ (0 : Int32).toInt ∧ (0 : Int32).toInt ≤ 7; decide), fun _ => (by show (0 : Int32).toInt ≤ 6 ∧ (0 < (0 : Int32).toInt → (1 : Int) ≤ (0 : Int32).toInt); decide), fun e => absurd (show (1 : Int32) = 0 from e) (by decide)⟩ (by show (7 - (0 : Int)).toNat < FU; rw [FU_v]; decide)
  rintro ⟨w, y, m, N⟩ ⟨i1, i2, i3, i4, i5, i6, i7⟩
  dsimp only at i1 i2 i3 i4 i5 i6 i7
  unfold lb_Mod_town_30
  dsimp only
  refine if_i (fun c => ⟨_, rfl, i1, i2, i3, fun e => ?_⟩) (fun c => ?_)
  · have a1 := i7 c e
    have a2 := i6 e
    show (1 ≤ w.toInt ∧ w.toInt ≤ 6) ∧ (1 ≤ y.toInt ∧ y.toInt ≤ 6)
    omega
  refine bind_i (sp_fine N) (fun x1 _ q1 => ?_)
  rcases q1 with ⟨q1, rfl⟩ | ⟨q1, rfl⟩
  · refine if_i (fun c => absurd c (by decide)) (fun _ => ?_)
    have a2 := i6 q1
    refine if_i (fun c => ?_) (fun c => ?_)
    · have d : y.toInt = 6 := eqi.mp c
      refine bind_i (sp_faultA i1.1) (fun x24 _ p => ?_)
      refine bind_i (sl_town58 p.1 w y i4 i5.1 (fun e => absurd e p.2.2.2)) (fun x25 _ q => ?_)
      obtain ⟨b1, b2, b3, b4, b5, b6⟩ := q
      refine sp_town136 b1 (i2.t (p.2.1.wt.t b2)) (b3.trans (p.2.1.2.trans i3)) w y x25.1 _ i4 (by omega) ⟨b4, b5⟩ (fun e => absurd (b6 e) p.2.2.2) ?_
      show (6 - y.toInt).toNat < (7 - y.toInt).toNat; omega
    · have d : ¬ y.toInt = 6 := neqi.mp c
      refine bind_i (sl_town58 i1 w y i4 i5.1 (fun _ => ⟨by omega, a2.2⟩)) (fun x25 _ q => ?_)
      obtain ⟨b1, b2, b3, b4, b5, b6⟩ := q
      refine sp_town136 b1 (i2.t b2) (b3.trans i3) w y x25.1 _ i4 (by omega) ⟨b4, b5⟩ (fun e => ⟨by omega, a2.2⟩) ?_
      show (6 - y.toInt).toNat < (7 - y.toInt).toNat; omega
  · refine if_i (fun _ => ⟨_, rfl, i1, i2, i3, fun e => absurd e q1⟩) (fun c => absurd rfl c)
/-! the reference: town, folk, route; safety -/
theorem sl_town225 (w y : Int32) {M : Mem} (h : J M) : ∃ x, iter (lb_Mod_town_225 w y) FU ((0 : Int32), M) = some x ∧ (J x ∧ Fr (fun k _ => k = 164) M x ∧ x.2 = M.2) := by
  refine cnt_r _ (fun _ N => J N ∧ Fr (fun k _ => k = 164) M N ∧ N.2 = M.2) 36 (by decide) ?_ M ⟨h, Fr.r, rfl⟩ (by decide)
  intro k N k0 k1 hI
  have c36 : (36 : Int32).toInt = 36 := rfl
  unfold lb_Mod_town_225
  dsimp only
  refine if_i (fun c => ⟨_, rfl, .inl ⟨_, rfl, hI⟩⟩) (fun c => ?_)
  have d := nlei.mp c
  refine if_i (fun c => ?_) (fun c => ?_)
  · refine inb_i k0 (by omega) ?_
    refine mem_i (fun m e => ⟨_, rfl, .inr ⟨by omega, m, rfl, ?_⟩⟩)
    rw [e]; exact ⟨Jw_any ok_164 hI.1 _ _, hI.2.1.i rfl, hI.2.2⟩
  · refine inb_i k0 (by omega) (inb_i k0 (by omega) ?_)
    refine mem_i (fun m e => ⟨_, rfl, .inr ⟨by omega, m, rfl, ?_⟩⟩)
    rw [e]; exact ⟨Jw_any ok_164 hI.1 _ _, hI.2.1.i rfl, hI.2.2⟩
theorem sl_town282 (w y : Int32) {M : Mem} (h : J M) : ∃ x, iter (lb_Mod_town_282 w y) FU ((0 : Int32), M) = some x ∧ (J x ∧ Fr (fun k _ => k = 163) M x ∧ x.2 = M.2 ∧ ∀ i : Nat, (i : Int) < 96 → x.1 163 i = 0) := by
  refine cnt_r _ (fun c N => J N ∧ Fr (fun k _ => k = 163) M N ∧ N.2 = M.2 ∧ ∀ i : Nat, (i : Int) < c → N.1 163 i = 0) 96 (by decide) ?_ M ⟨h, Fr.r, rfl, fun i hi => absurd hi (by omega)⟩ (by decide)
  intro k N k0 k1 hI
  have c36 : (96 : Int32).toInt = 96 := rfl
  unfold lb_Mod_town_282
  dsimp only
  refine if_i (fun c => ⟨_, rfl, .inl ⟨_, rfl, hI.1, hI.2.1, hI.2.2.1, fun i hi => hI.2.2.2 i (by have := lei.mp c; omega)⟩⟩) (fun c => ?_)
  have d := nlei.mp c
  refine inb_i k0 (by omega) ?_
  refine mem_i (fun m e => ⟨_, rfl, .inr ⟨by omega, m, rfl, ?_⟩⟩)
  rw [e]; refine ⟨Jst_0 hI.1 (St_b St_163) _, hI.2.1.i rfl, hI.2.2.1, fun i hi => ?_⟩
  by_cases w : i = k.toNatClampNeg
  · rw [w, si_eq]
  · rw [si_ne (fun z => w z.2)]
    rw [tcn'] at w
    exact hI.2.2.2 i (by omega)
theorem narb0 : vp_nar .boolean (0 : Int32) = 0 := by decide +kernel
theorem narb1 : vp_nar .boolean (1 : Int32) = 1 := by decide +kernel
theorem sl_town311 (w y : Int32) {M : Mem} (h : J M) : ∃ x, iter (lb_Mod_town_311 w y) FU ((0 : Int32), M) = some x ∧ (J x ∧ Fr (fun k _ => k = 190) M x ∧ x.2 = M.2 ∧ ∀ i : Nat, (i : Int) < 2 → x.1 190 i = 0) := by
  refine cnt_r _ (fun c N => J N ∧ Fr (fun k _ => k = 190) M N ∧ N.2 = M.2 ∧ ∀ i : Nat, (i : Int) < c → N.1 190 i = 0) 2 (by decide) ?_ M ⟨h, Fr.r, rfl, fun i hi => absurd hi (by omega)⟩ (by decide)
  intro k N k0 k1 hI
  have c36 : (2 : Int32).toInt = 2 := rfl
  unfold lb_Mod_town_311
  dsimp only
  refine if_i (fun c => ⟨_, rfl, .inl ⟨_, rfl, hI.1, hI.2.1, hI.2.2.1, fun i hi => hI.2.2.2 i (by have := lei.mp c; omega)⟩⟩) (fun c => ?_)
  have d := nlei.mp c
  refine inb_i k0 (by omega) ?_
  refine mem_i (fun m e => ⟨_, rfl, .inr ⟨by omega, m, rfl, ?_⟩⟩)
  rw [e, narb0]; refine ⟨Jw_190 hI.1 _ _ (by decide) (by decide), hI.2.1.i rfl, hI.2.2.1, fun i hi => ?_⟩
  by_cases w : i = k.toNatClampNeg
  · rw [w, si_eq]
  · rw [si_ne (fun z => w z.2)]
    rw [tcn'] at w
    exact hI.2.2.2 i (by omega)
/-- where a call that reads THE TEXT leaves it empty -/
def kq (k i : Nat) : Bool := (k == 162 && (i == 2 || (i == 3 || (i == 27 || i == 48)))) || (k == 163 || (k == 164 || (k == 173 || (k == 189 || (k == 190 || k == 191)))))
/-- all that PLANKS, what can be undone and what is kept rest on is as it was, or cleared -/
def KC (M N : Mem) : Prop := (∀ k i, kq k i = true → N.1 k i = M.1 k i) ∨ (N.1 163 92 = 0 ∧ N.1 162 27 = 0 ∧ (∀ t : Nat, (t : Int) < 2 → N.1 190 t = 0) ∧ (∀ i, N.1 191 i = M.1 191 i) ∧ N.1 162 48 = M.1 162 48)
theorem sp_town198 {M : Mem} (h : J M) (w y : Int32) (hq : xW M = -1 → (1 ≤ w.toInt ∧ w.toInt ≤ 6) ∧ (1 ≤ y.toInt ∧ y.toInt ≤ 6)) : ∃ r, j_Mod_town_198 w y M = some r ∧ J r.2 ∧ (∀ k i, k < 162 → r.2.1 k i = M.1 k i) ∧ r.2.1 162 10 = M.1 162 10 ∧ KC M r.2 := by
  unfold j_Mod_town_198
  refine bind_i (sp_fine M) (fun x _ q => ?_)
  rcases q with ⟨q1, rfl⟩ | ⟨q1, rfl⟩
  · refine if_i (fun c => absurd c (by decide)) (fun _ => ?_)
    obtain ⟨⟨a1, a2⟩, a3, a4⟩ := hq q1
    refine mem_i (fun M31 e31 => mem_i (fun M32 e32 => ?_))
    have j31 : J M31 := by rw [e31]; exact Jw_162_2 h _ a1 a2
    have j32 : J M32 := by rw [e32]; exact Jw_162_3 j31 _ a3 a4
    refine bind_i (sl_town225 w y j32) (fun x37 _ q => ?_)
    obtain ⟨j37, f37, -⟩ := q
    refine mem_i (fun M38 e38 => mem_i (fun M39 e39 => mem_i (fun M40 e40 => ?_)))
    have j38 : J M38 := by rw [e38]; exact JP j37 _ (by decide) (by decide) (fun p hp => absurd hp (by have z : (0 : Int32).toInt = 0 := rfl; omega))
    have j39 : J M39 := by rw [e39]; exact Jw_fld okf_162_5 j38 _
    have j40 : J M40 := by rw [e40]; exact Jw_162_8 j39 _ (by decide) (by decide)
    refine bind_i (sl_town282 w y j40) (fun x43 _ q => ?_)
    obtain ⟨j43, f43, -, z43⟩ := q
    refine mem_i (fun M44 e44 => ?_)
    have j44 : J M44 := by rw [e44]; exact Jw_162_27 j43 _ (by decide) (by decide)
    refine bind_i (sl_town311 w y j44) (fun x47 _ q => ?_)
    obtain ⟨j47, f47, -, z47⟩ := q
    have fin : ∀ k i, k ≠ 163 → k ≠ 164 → k ≠ 190 → ¬ (k = 162 ∧ (i = 2 ∨ i = 3 ∨ i = 4 ∨ i = 5 ∨ i = 8 ∨ i = 27)) → x47.1 k i = M.1 k i := by
      intro k i n1 n2 n3 n4
      rw [f47 k i n3, e44, si_ne (fun e => n4 ⟨e.1, by omega⟩), f43 k i n1, e40, si_ne (fun e => n4 ⟨e.1, by omega⟩), e39, si_ne (fun e => n4 ⟨e.1, by omega⟩), e38, si_ne (fun e => n4 ⟨e.1, by omega⟩), f37 k i n2, e32, si_ne (fun e => n4 ⟨e.1, by omega⟩), e31, si_ne (fun e => n4 ⟨e.1, by omega⟩)]
    refine ⟨_, rfl, j47, fun k i hk => fin k i (by omega) (by omega) (by omega) (by omega), fin 162 10 (by decide) (by decide) (by decide) (by decide), .inr ⟨?_, ?_, z47, fun i => fin 191 i (by decide) (by decide) (by decide) (by omega), fin 162 48 (by decide) (by decide) (by decide) (by decide)⟩⟩
    · show x47.1 163 92 = 0
      rw [f47 163 92 (by decide), e44, si_ne (by decide)]; exact z43 92 (by decide)
    · show x47.1 162 27 = 0
      rw [f47 162 27 (by decide), e44, si_eq]
  · refine if_i (fun _ => ⟨_, rfl, h, fun _ _ _ => rfl, rfl, .inl (fun _ _ _ => rfl)⟩) (fun c => absurd rfl c)
theorem sf_Mod_town (M : Mem) (hJ : J M) : ∃ r : Int32 × Mem, f_Mod_town M = some r ∧ (J r.2 ∧ (∀ k i, k < 162 → r.2.1 k i = M.1 k i) ∧ r.2.1 162 10 = 0 ∧ KC M r.2) := by
  unfold f_Mod_town
  refine mem_i (fun M1 e1 => ?_)
  have j1 : J M1 := by rw [e1]; exact Jw_fld okf_162_13 hJ _
  have t1 := Jr_162_10 j1
  refine bind_i (sp_begin j1 167 (M1.1 162 10) 80 (.inl ⟨rfl, t1.1, t1.2, by decide, by decide⟩)) (fun x2 _ q => ?_)
  obtain ⟨b1, b2, b3, b4, b5, -⟩ := q
  refine mem_i (fun M3 e3 => ?_)
  have j3 : J M3 := by rw [e3]; exact Jw_162_10 b1.1 _ (by decide) (by decide)
  have A3 : xA M3 = xA x2 := by rw [xA, e3, si_ne (by decide)]
  have W3 : xW M3 = xW x2 := by rw [xW, e3, si_ne (by decide)]
  have L3 : xL M3 = xL x2 := by rw [xL, e3, si_ne (by decide)]
  have p3 : PI M3 := ⟨j3, fun e => by rw [A3, L3]; exact b1.2 (W3 ▸ e)⟩
  refine bind_i (sl_town30 p3) (fun x29 _ q => ?_)
  obtain ⟨c1, c2, c3, c4⟩ := q
  have kc0 : ∀ (N r : Mem), (∀ k i, ¬ WT k i → N.1 k i = x29.2.2.1 k i) → KC N r → KC M r := by
    intro N r hN hr
    have a : ∀ k i, kq k i = true → N.1 k i = M.1 k i := by
      intro k i hk
      have nw : ¬ WT k i ∧ ¬ (k = 162 ∧ i = 10) ∧ ¬ W18 k i ∧ ¬ (k = 162 ∧ i = 13) := by
        simp only [kq, Bool.or_eq_true, Bool.and_eq_true, beq_iff_eq] at hk
        refine ⟨?_, ?_, ?_, ?_⟩ <;> intro w <;> omega
      rw [hN k i nw.1, c2 k i nw.1, e3, si_ne nw.2.1, b2 k i nw.2.2.1, e1, si_ne nw.2.2.2]
    rcases hr with hr | ⟨r1, r2, r3, r4, r5⟩
    · exact .inl (fun k i hk => (hr k i hk).trans (a k i hk))
    · exact .inr ⟨r1, r2, r3, fun i => (r4 i).trans (a 191 i rfl), r5.trans (a 162 48 (by decide))⟩
  have fin0 : ∀ N : Mem, (∀ k i, ¬ WT k i → N.1 k i = x29.2.2.1 k i) → (∀ k i, k < 162 → N.1 k i = M.1 k i) ∧ N.1 162 10 = 0 := by
    intro N hN
    refine ⟨fun k i hk => ?_, ?_⟩
    · rw [hN k i (by intro w; rcases w with w | w <;> omega), c2 k i (by intro w; rcases w with w | w <;> omega), e3, si_ne (by intro w; omega), b2 k i (by intro w; omega), e1, si_ne (by intro w; omega)]
    · rw [hN 162 10 (by decide), c2 162 10 (by decide), e3, si_eq]
  unfold j_Mod_town_179
  refine if_i (fun _ => ?_) (fun _ => ?_)
  · obtain ⟨r, er, r1, r2, r3, r4⟩ := sp_town198 c1.1 x29.1 x29.2.1 c4
    obtain ⟨g1, g2⟩ := fin0 x29.2.2 (fun _ _ _ => rfl)
    exact ⟨r, er, r1, fun k i hk => (r2 k i hk).trans (g1 k i hk), r3.trans g2, kc0 x29.2.2 r.2 (fun _ _ _ => rfl) r4⟩
  · refine bind_i (sp_faultA c1.1) (fun y _ q => ?_)
    obtain ⟨r, er, r1, r2, r3, r4⟩ := sp_town198 q.1.1 x29.1 x29.2.1 (fun e => absurd e q.2.2.2)
    obtain ⟨g1, g2⟩ := fin0 y (fun k i hk => q.2.1.wt k i hk)
    exact ⟨r, er, r1, fun k i hk => (r2 k i hk).trans (g1 k i hk), r3.trans g2, kc0 y r.2 (fun k i hk => q.2.1.wt k i hk) r4⟩
