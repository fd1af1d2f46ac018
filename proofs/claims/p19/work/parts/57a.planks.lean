abbrev WM (k i : Nat) : Prop := k = 173 ∨ (k = 162 ∧ i = 27)
/-! PLANKS end on roofs, in now, in what can be undone, in what is kept -/
theorem KP_c {M N : Mem} {k k' o o' : Nat} (hm : MapEq N M) (h6 : (M.1 k (o + 92)).toInt ≤ 6) (hc : ∀ i, 80 ≤ i → i ≤ 92 → N.1 k' (o' + i) = M.1 k (o + i)) (h : KP M k o) : KP N k' o' := by
  intro j hj
  rw [hc 92 (by omega) (by omega)] at hj
  have := h j hj
  have e1 : N.1 k' (o' + 80 + 2 * j) = M.1 k (o + 80 + 2 * j) := by rw [Nat.add_assoc, Nat.add_assoc]; exact hc _ (by omega) (by omega)
  have e2 : N.1 k' (o' + 81 + 2 * j) = M.1 k (o + 81 + 2 * j) := by rw [Nat.add_assoc, Nat.add_assoc]; exact hc _ (by omega) (by omega)
  rw [e1, e2]
  exact ⟨(onN_c hm).mpr this.1, (onN_c hm).mpr this.2⟩
theorem J92 {M : Mem} (h : J M) {k : Nat} (hs : stb k = true) (u : Nat) : (0 : Int) ≤ (M.1 k (96 * u + 92)).toInt ∧ (M.1 k (96 * u + 92)).toInt ≤ 6 := by
  have := Jreg h hs (96 * u + 92)
  have e : (96 * u + 92) % 96 = 92 := by omega
  rw [e] at this
  exact this
def KK (M : Mem) : Prop := KP M 163 0 ∧ (∀ u : Nat, (u : Int) < (M.1 162 27).toInt → KP M 173 (96 * u)) ∧ (∀ t : Nat, t < 2 → (0 ≤ (M.1 191 t).toInt ∧ (M.1 191 t).toInt ≤ (M.1 162 48).toInt) ∧ ((M.1 190 t).toInt ≠ 0 → M.1 191 t = M.1 162 48 → KP M 189 (96 * t)))
theorem j92_163 {M : Mem} (h : J M) : (M.1 163 (0 + 92)).toInt ≤ 6 := (J92 h (k := 163) (by decide) 0).2
/-- what KK looks at is as it was -/
def Gk (M N : Mem) : Prop := MapEq N M ∧ N.1 162 27 = M.1 162 27 ∧ N.1 162 48 = M.1 162 48 ∧ (∀ i, 80 ≤ i → i ≤ 92 → N.1 163 i = M.1 163 i) ∧ (∀ i, N.1 173 i = M.1 173 i) ∧ (∀ i, N.1 189 i = M.1 189 i) ∧ (∀ i, N.1 190 i = M.1 190 i) ∧ (∀ i, N.1 191 i = M.1 191 i)
theorem KK_c {M N : Mem} (h : J M) (g : Gk M N) (hk : KK M) : KK N := by
  obtain ⟨g1, g2, g3, g4, g5, g6, g7, g8⟩ := g
  obtain ⟨k1, k2, k3⟩ := hk
  refine ⟨KP_c g1 (j92_163 h) (fun i h1 h2 => by rw [Nat.zero_add]; exact g4 i h1 h2) k1, fun u hu => ?_, fun t ht => ?_⟩
  · rw [g2] at hu
    exact KP_c g1 (J92 h (by decide) u).2 (fun i _ _ => g5 _) (k2 u hu)
  · obtain ⟨a, b⟩ := k3 t ht
    rw [g8, g3, g7]
    exact ⟨a, fun e1 e2 => KP_c g1 (J92 h (by decide) t).2 (fun i _ _ => g6 _) (b e1 e2)⟩
theorem Gk_Gd {v : Nat} (hv : v = 1000 ∨ v = 163) {M N : Mem} (h : Gd v M N) : Gk M N := by
  have a : ∀ k i, pq k i = true → k ≠ 163 → N.1 k i = M.1 k i := fun k i h1 h2 => by
    refine h k i (.inl ⟨h1, ?_⟩)
    rcases hv with rfl | rfl
    · rintro rfl; exact absurd h1 (by
        have : pq 1000 i = false := rfl
        rw [this]; decide)
    · exact h2
  exact ⟨⟨a 162 2 (by decide) (by decide), a 162 3 (by decide) (by decide), fun i => a 164 i rfl (by decide)⟩, a 162 27 (by decide) (by decide), a 162 48 (by decide) (by decide), fun i h1 h2 => h 163 i (.inr ⟨rfl, h1, h2⟩), fun i => a 173 i rfl (by decide), fun i => a 189 i rfl (by decide), fun i => a 190 i rfl (by decide), fun i => a 191 i rfl (by decide)⟩
/-- the reference between two calls; n: how many there were -/
def RI (n : Int) (M : Mem) : Prop := J M ∧ KK M ∧ 0 ≤ (M.1 162 48).toInt ∧ (M.1 162 48).toInt ≤ n
/-- what a call of the reference leaves: the class's cells; THE TEXT's length becomes t -/
def RO (n : Int) (M : Mem) (t : Int32) (N : Mem) : Prop := RI (n + 1) N ∧ (∀ k i, k < 162 → N.1 k i = M.1 k i) ∧ N.1 162 10 = t
theorem RO_Gd {n : Int} {M N : Mem} (h : RI n M) (j : J N) (g : Gd 1000 M N) : RO n M (M.1 162 10) N := by
  have a : ∀ k i, pq k i = true → N.1 k i = M.1 k i := fun k i h1 => g k i (.inl ⟨h1, by
    rintro rfl; exact absurd h1 (by
      have : pq 1000 i = false := rfl
      rw [this]; decide)⟩)
  refine ⟨⟨j, KK_c h.1 (Gk_Gd (.inl rfl) g) h.2.1, ?_, ?_⟩, fun k i hk => a k i ?_, a 162 10 (by decide)⟩
  · rw [a 162 48 (by decide)]; exact h.2.2.1
  · rw [a 162 48 (by decide)]; have := h.2.2.2; omega
  · have : decide (k < 162) = true := decide_eq_true hk
    unfold pq pqc
    rw [this]; rfl
/-- a row of 96 laid into another row -/
theorem fs_lay (v0 v1 : Nat) (v2 : Int32) {M : Mem} (h : J M) (hs0 : St v0) (hs1 : stb v1 = true) (hk1 : kd v1 = 1) (hne : v0 ≠ v1) (h2 : 0 ≤ v2.toInt) (hl : v2.toInt + 96 ≤ ln v1) (hl2 : ln v1 ≤ 2000) (hm : v2.toInt % 96 = 0) : ∃ r : Mem, f_Mod_lay v0 v1 v2 M = some r ∧ (J r ∧ (∀ i, i < 96 → r.1 v1 (v2.toInt.toNat + i) = M.1 v0 i) ∧ (∀ k i, ¬ (k = v1 ∧ v2.toInt.toNat ≤ i ∧ i < v2.toInt.toNat + 96) → r.1 k i = M.1 k i)) := by
  have l0 := St_ln hs0
  have hL : ∃ x, iter (lb_Mod_lay_2 v0 v1 v2) FU ((0 : Int32), M) = some x ∧ (J x ∧ (∀ i, i < 96 → x.1 v1 (v2.toInt.toNat + i) = M.1 v0 i) ∧ (∀ k i, ¬ (k = v1 ∧ v2.toInt.toNat ≤ i ∧ i < v2.toInt.toNat + 96) → x.1 k i = M.1 k i)) := by
    refine cnt_r _ (fun c N => J N ∧ (∀ i : Nat, (i : Int) < c → N.1 v1 (v2.toInt.toNat + i) = M.1 v0 i) ∧ (∀ k i, ¬ (k = v1 ∧ v2.toInt.toNat ≤ i ∧ i < v2.toInt.toNat + 96) → N.1 k i = M.1 k i)) 96 (by decide) ?_ M ⟨h, fun i hi => absurd hi (by omega), fun _ _ _ => rfl⟩ (by decide)
    intro k N k0 k1 hI
    obtain ⟨i1, i2, i3⟩ := hI
    have c36 : (96 : Int32).toInt = 96 := rfl
    unfold lb_Mod_lay_2
    dsimp only
    refine if_i (fun c => ⟨_, rfl, .inl ⟨_, rfl, i1, fun i hi => i2 i (by have := lei.mp c; omega), i3⟩⟩) (fun c => ?_)
    have d := nlei.mp c
    have es : (v2 + k).toInt = v2.toInt + k.toInt := add_ti rfl rfl (by omega) (by omega)
    have ts : (v2 + k).toNatClampNeg = v2.toInt.toNat + k.toInt.toNat := by rw [tcn', es]; omega
    refine inb_i k0 (by omega) (inb_i (by omega) (by omega) ?_)
    refine mem_i (fun m e => ⟨_, rfl, .inr ⟨by omega, m, rfl, ?_, fun i hi => ?_, fun a b hn => ?_⟩⟩)
    · rw [e]
      refine Jwcopy i1 hs1 (St_b hs0) _ _ ?_
      rw [ts, tcn']; omega
    · rw [e, ts]
      by_cases w : i = k.toInt.toNat
      · rw [w, si_eq]; exact i3 v0 _ (fun z => hne z.1)
      · rw [si_ne (fun z => by omega)]
        exact i2 i (by omega)
    · rw [e, ts, si_ne (fun z => hn ⟨z.1, by omega, by omega⟩)]
      exact i3 a b hn
  unfold f_Mod_lay
  exact c_i (St_kd hs0) (c_i hk1 (bind_i hL (fun x _ q => ⟨_, rfl, q⟩)))
theorem fs_shift (v1 : Nat) {M : Mem} (h : J M) : ∃ x, iter (lb_Mod_remember_11 v1) FU ((0 : Int32), M) = some x ∧ (J x ∧ (∀ i, i < 1056 → x.1 173 i = M.1 173 (i + 96)) ∧ (∀ k i, k ≠ 173 → x.1 k i = M.1 k i)) := by
  refine cnt_r _ (fun c N => J N ∧ (∀ i : Nat, (i : Int) < c → N.1 173 i = M.1 173 (i + 96)) ∧ (∀ i : Nat, c ≤ (i : Int) → N.1 173 i = M.1 173 i) ∧ (∀ k i, k ≠ 173 → N.1 k i = M.1 k i)) 1056 (by decide) ?_ M ⟨h, fun i hi => absurd hi (by omega), fun _ _ => rfl, fun _ _ _ => rfl⟩ (by decide)
  intro k N k0 k1 hI
  obtain ⟨i1, i2, i3, i4⟩ := hI
  have c36 : (1056 : Int32).toInt = 1056 := rfl
  unfold lb_Mod_remember_11
  dsimp only
  refine if_i (fun c => ⟨_, rfl, .inl ⟨_, rfl, i1, fun i hi => i2 i (by have := lei.mp c; omega), i4⟩⟩) (fun c => ?_)
  have d := nlei.mp c
  have es : (k + (96 : Int32)).toInt = k.toInt + 96 := add_ti rfl rfl (by omega) (by omega)
  have ts : (k + (96 : Int32)).toNatClampNeg = k.toInt.toNat + 96 := by rw [tcn', es]; omega
  refine inb_i (by omega) (by omega) (inb_i k0 (by omega) ?_)
  refine mem_i (fun m e => ⟨_, rfl, .inr ⟨by omega, m, rfl, ?_, fun i hi => ?_, fun i hi => ?_, fun a b hn => ?_⟩⟩)
  · rw [e]
    refine Jwcopy i1 (by decide) (by decide) _ _ ?_
    rw [ts, tcn']; omega
  · rw [e, ts]
    by_cases w : i = k.toInt.toNat
    · rw [w]; show (s_i N 173 k.toInt.toNat _).1 173 k.toInt.toNat = _; rw [si_eq]; exact i3 _ (by omega)
    · show (s_i N 173 k.toInt.toNat _).1 173 i = _; rw [si_ne (fun z => w z.2)]; exact i2 i (by omega)
  · rw [e]; show (s_i N 173 k.toInt.toNat _).1 173 i = _; rw [si_ne (fun z => by omega)]; exact i3 i (by omega)
  · rw [e, si_ne (fun z => hn z.1)]; exact i4 a b hn
/-- remember: KK stands, if the state that is laid has its PLANKS on roofs -/
theorem fs_remember (v : Nat) {M : Mem} (h : J M) (hk : KK M) (hs : St v) (hv : KP M v 0) : ∃ r : Mem, f_Mod_remember v M = some r ∧ (J r ∧ KK r ∧ Fr WM M r) := by
  have z := Jr_162_27 h
  have hne : v ≠ 173 := by rcases hs with rfl | rfl | rfl <;> decide
  have k49 : ∀ N : Mem, J N → (N.1 162 27).toInt ≤ 11 → (∀ u : Nat, (u : Int) < (N.1 162 27).toInt → KP N 173 (96 * u)) → Fr WM M N → ∃ r : Mem, j_Mod_remember_49 v N = some r ∧ (J r ∧ KK r ∧ Fr WM M r) := by
    intro N hN hn hu f
    have zN := Jr_162_27 hN
    have l : ln 173 = 1152 := by decide +kernel
    have m1 : ((96 : Int32) * (N.1 162 27)).toInt = 96 * (N.1 162 27).toInt := mul_ti rfl rfl (by omega) (by omega)
    have mN : MapEq N M := ⟨f 162 2 (by decide), f 162 3 (by decide), fun i => f 164 i (by omega)⟩
    have tt : ((96 : Int32) * (N.1 162 27)).toInt.toNat = 96 * (N.1 162 27).toInt.toNat := by rw [m1]; omega
    unfold j_Mod_remember_49
    refine bind_i (fs_lay v 173 _ hN hs (by decide) (by decide +kernel) hne (by omega) (by omega) (by omega) (by omega)) (fun x1 _ p => mem_i (fun M2 e2 => ⟨_, rfl, ?_⟩))
    obtain ⟨p1, p2, p3⟩ := p
    rw [tt] at p2 p3
    have e27 : x1.1 162 27 = N.1 162 27 := p3 162 27 (by omega)
    have ea : ((x1.1 162 27) + (1 : Int32)).toInt = (N.1 162 27).toInt + 1 := add_ti (by rw [e27]) rfl (by omega) (by omega)
    have o2 : ∀ k i, ¬ (k = 162 ∧ i = 27) → M2.1 k i = x1.1 k i := fun k i hh => by rw [e2, si_ne hh]
    have oN : ∀ k i, k ≠ 173 → ¬ (k = 162 ∧ i = 27) → M2.1 k i = N.1 k i := fun k i a b => (o2 k i b).trans (p3 k i (by omega))
    have F2 : Fr WM M M2 := fun k i w => (oN k i (by omega) (by omega)).trans (f k i w)
    have mp2 : MapEq M2 M := ⟨F2 162 2 (by decide), F2 162 3 (by decide), fun i => F2 164 i (by omega)⟩
    have u27 : (M2.1 162 27).toInt = (N.1 162 27).toInt + 1 := by rw [e2, si_eq]; exact ea
    refine ⟨by rw [e2]; exact Jw_162_27 p1 _ (by omega) (by omega), ⟨?_, fun u hu2 => ?_, fun t ht => ?_⟩, F2⟩
    · exact KP_c mp2 (j92_163 h) (fun i _ _ => F2 163 _ (by omega)) hk.1
    · rw [u27] at hu2
      by_cases w : (u : Int) < (N.1 162 27).toInt
      · refine KP_c (M := N) ⟨oN 162 2 (by decide) (by decide), oN 162 3 (by decide) (by decide), fun i => oN 164 i (by decide) (by omega)⟩ (J92 hN (by decide) u).2 (fun i h1 h2 => ?_) (hu u w)
        rw [o2 173 _ (by omega), p3 173 _ (by omega)]
      · have eu : u = (N.1 162 27).toInt.toNat := by omega
        subst eu
        refine KP_c (M := M) (k := v) (o := 0) mp2 (by rw [Nat.zero_add]; exact (Jst92 h hs).2) (fun i h1 h2 => ?_) hv
        rw [o2 173 _ (by omega), p2 i (by omega), Nat.zero_add]
        refine f v i ?_
        rcases hs with rfl | rfl | rfl <;> omega
    · obtain ⟨a, b⟩ := hk.2.2 t ht
      rw [F2 191 t (by omega), F2 162 48 (by omega), F2 190 t (by omega)]
      exact ⟨a, fun e1 e3 => KP_c mp2 (J92 h (by decide) t).2 (fun i _ _ => F2 189 _ (by omega)) (b e1 e3)⟩
  have c12 : (12 : Int32).toInt = 12 := rfl
  unfold f_Mod_remember
  refine c_i (St_kd hs) (if_i (fun c => ?_) (fun c => k49 M h (by have := neqi.mp c; omega) hk.2.1 Fr.r))
  refine bind_i (fs_shift v h) (fun x5 _ p => mem_i (fun M6 e6 => ?_))
  obtain ⟨p1, p2, p3⟩ := p
  have e27 : x5.1 162 27 = M.1 162 27 := p3 162 27 (by decide)
  have d : (M.1 162 27).toInt = 12 := eqi.mp c
  have ea : ((x5.1 162 27) - (1 : Int32)).toInt = 12 - 1 := sub_ti (by rw [e27]; exact d) rfl (by omega) (by omega)
  have o6 : ∀ k i, ¬ (k = 162 ∧ i = 27) → M6.1 k i = x5.1 k i := fun k i hh => by rw [e6, si_ne hh]
  have F6 : Fr WM M M6 := fun k i w => (o6 k i (by omega)).trans (p3 k i (by omega))
  have u27 : (M6.1 162 27).toInt = 11 := by rw [e6, si_eq]; exact ea
  refine k49 M6 (by rw [e6]; exact Jw_162_27 p1 _ (by omega) (by omega)) (by omega) (fun u hu => ?_) F6
  rw [u27] at hu
  refine KP_c (M := M) (o := 96 * (u + 1)) ⟨F6 162 2 (by decide), F6 162 3 (by decide), fun i => F6 164 i (by omega)⟩ (J92 h (by decide) (u + 1)).2 (fun i h1 h2 => ?_) (hk.2.1 (u + 1) (by omega))
  rw [o6 173 _ (by omega), p2 _ (by omega)]
  have : 96 * u + i + 96 = 96 * (u + 1) + i := by omega
  rw [this]
