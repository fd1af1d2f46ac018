/-! the reference: folk, route; safety -/
abbrev WC (k i : Nat) : Prop := (k = 163 ∧ i < 80) ∨ k = 165 ∨ k = 166 ∨ (k = 162 ∧ (i = 4 ∨ i = 5))
theorem sl_come57 (v1 v2 : Int32) {M : Mem} (h : J M) (h2 : 0 ≤ v2.toInt ∧ v2.toInt ≤ 7) : ∃ x, iter (lb_Mod_come_57 v1 v2) FU ((0 : Int32), M) = some x ∧ (J x ∧ Fr (fun k i => k = 163 ∧ i < 80) M x ∧ x.2 = M.2) := by
  refine cnt_r _ (fun _ N => J N ∧ Fr (fun k i => k = 163 ∧ i < 80) M N ∧ N.2 = M.2) 8 (by decide) ?_ M ⟨h, Fr.r, rfl⟩ (by decide)
  intro k N k0 k1 hI
  have c36 : (8 : Int32).toInt = 8 := rfl
  unfold lb_Mod_come_57
  dsimp only
  refine if_i (fun c => ⟨_, rfl, .inl ⟨_, rfl, hI⟩⟩) (fun c => ?_)
  have d := nlei.mp c
  have m1 : ((8 : Int32) * v2).toInt = 8 * v2.toInt := mul_ti rfl rfl (by omega) (by omega)
  have m2 : ((16 : Int32) + ((8 : Int32) * v2)).toInt = 16 + 8 * v2.toInt := add_ti rfl m1 (by omega) (by omega)
  have m3 : (((16 : Int32) + ((8 : Int32) * v2)) + k).toInt = 16 + 8 * v2.toInt + k.toInt := add_ti m2 rfl (by omega) (by omega)
  have n1 : ((8 : Int32) * k).toInt = 8 * k.toInt := mul_ti rfl rfl (by omega) (by omega)
  have n2 : ((16 : Int32) + ((8 : Int32) * k)).toInt = 16 + 8 * k.toInt := add_ti rfl n1 (by omega) (by omega)
  have n3 : (((16 : Int32) + ((8 : Int32) * k)) + v2).toInt = 16 + 8 * k.toInt + v2.toInt := add_ti n2 rfl (by omega) (by omega)
  refine inb_i (by omega) (by omega) ?_
  refine mem_i (fun M5 e5 => ?_)
  refine inb_i (by omega) (by omega) ?_
  refine mem_i (fun m e => ⟨_, rfl, .inr ⟨by omega, m, rfl, ?_⟩⟩)
  have j5 : J M5 := by rw [e5]; exact Jst_0 hI.1 (St_b St_163) _
  rw [e, e5]; exact ⟨by rw [← e5]; exact Jst_0 j5 (St_b St_163) _, (hI.2.1.i ⟨rfl, by rw [tcn', m3]; omega⟩).i ⟨rfl, by rw [tcn', n3]; omega⟩, hI.2.2⟩
theorem sl_come115 (v1 v2 : Int32) {M : Mem} (h : J M) (h1 : 0 ≤ v1.toInt ∧ v1.toInt ≤ 84) (h2 : 0 ≤ v2.toInt ∧ v2.toInt ≤ 7) (hc : 0 ≤ (M.1 170 (v1.toInt.toNat + 2)).toInt ∧ (M.1 170 (v1.toInt.toNat + 2)).toInt ≤ 9) : ∃ x, iter (lb_Mod_come_115 v1 v2) FU ((0 : Int32), M) = some x ∧ (J x ∧ Fr (fun k _ => k = 165) M x ∧ x.2 = M.2) := by
  refine cnt_r _ (fun _ N => J N ∧ Fr (fun k _ => k = 165) M N ∧ N.2 = M.2) 9 (by decide) ?_ M ⟨h, Fr.r, rfl⟩ (by decide)
  intro k N k0 k1 hI
  unfold lb_Mod_come_115
  dsimp only
  have t2 : (v1 + (2 : Int32)).toNatClampNeg = v1.toInt.toNat + 2 := tc_add rfl h1.1 (by omega) (by omega)
  have e2 : (v1 + (2 : Int32)).toInt = v1.toInt + 2 := add_ti rfl rfl (by omega) (by omega)
  have e3 : (v1 + (3 : Int32)).toInt = v1.toInt + 3 := add_ti rfl rfl (by omega) (by omega)
  have e4 : ((v1 + (3 : Int32)) + k).toInt = v1.toInt + 3 + k.toInt := add_ti e3 rfl (by omega) (by omega)
  have m1 : ((9 : Int32) * v2).toInt = 9 * v2.toInt := mul_ti rfl rfl (by omega) (by omega)
  have m2 : (((9 : Int32) * v2) + k).toInt = 9 * v2.toInt + k.toInt := add_ti m1 rfl (by omega) (by omega)
  refine inb_i (by omega) (by omega) ?_
  refine if_i (fun c => ⟨_, rfl, .inl ⟨_, rfl, hI⟩⟩) (fun c => ?_)
  have d := nlei.mp c
  rw [t2, hI.2.1 170 _ (by intro w; exact absurd w (by decide))] at d
  refine inb_i (by omega) (by omega) (inb_i (by omega) (by omega) ?_)
  refine mem_i (fun m e => ⟨_, rfl, .inr ⟨by omega, m, rfl, ?_⟩⟩)
  rw [e]; exact ⟨Jw_any ok_165 hI.1 _ _, hI.2.1.i rfl, hI.2.2⟩
theorem sp_come {M : Mem} (h : J M) (v : Int32) (h1 : 0 ≤ v.toInt ∧ v.toInt ≤ 84) (hp : xP M ≤ 7) (hc : Cm M v.toInt.toNat) : ∃ r, f_Mod_come v M = some r ∧ J r ∧ Fr WC M r ∧ r.2 = M.2 ∧ xP r = xP M + 1 := by
  have zp := aP h
  obtain ⟨⟨c1, c2⟩, ⟨c3, c4⟩, c5, c6⟩ := hc
  have t0 : v.toNatClampNeg = v.toInt.toNat := rfl
  have t1 : (v + (1 : Int32)).toNatClampNeg = v.toInt.toNat + 1 := tc_add rfl h1.1 (by omega) (by omega)
  have t2 : (v + (2 : Int32)).toNatClampNeg = v.toInt.toNat + 2 := tc_add rfl h1.1 (by omega) (by omega)
  have e1 : (v + (1 : Int32)).toInt = v.toInt + 1 := add_ti rfl rfl (by omega) (by omega)
  have e2 : (v + (2 : Int32)).toInt = v.toInt + 2 := add_ti rfl rfl (by omega) (by omega)
  have pe : (M.1 162 4).toInt = xP M := rfl
  have e8 : ((8 : Int32) + (M.1 162 4)).toInt = 8 + xP M := add_ti rfl pe (by omega) (by omega)
  unfold f_Mod_come f_Mod_placeOf
  refine inb_i h1.1 (by omega) (inb_i (by omega) (by omega) ?_)
  rw [Option.bind_some]
  have p1 : ((36 : Int32) * (M.1 170 v.toNatClampNeg)).toInt = 36 * (M.1 170 v.toInt.toNat).toInt := mul_ti rfl rfl (by omega) (by omega)
  have p2 : (((36 : Int32) * (M.1 170 v.toNatClampNeg)) + (M.1 170 (v + (1 : Int32)).toNatClampNeg)).toInt = 36 * (M.1 170 v.toInt.toNat).toInt + (M.1 170 (v.toInt.toNat + 1)).toInt := add_ti p1 (by rw [t1]) (by omega) (by omega)
  refine inb_i (by omega) (by omega) ?_
  refine mem_i (fun M2 q2 => inb_i h1.1 (by omega) (mem_i (fun M3 q3 => inb_i (by omega) (by omega) (mem_i (fun M4 q4 => ?_)))))
  have j2 : J M2 := by rw [q2]; exact Jws0 h St_163 (by omega) (by omega) _ (by omega) (by omega)
  have j3 : J M3 := by rw [q3]; exact Jw_fld okf_162_5 j2 _
  have j4 : J M4 := by rw [q4]; exact Jst_0 j3 (St_b St_163) _
  have f4 : Fr WC M M4 := by
    rw [q4, q3, q2]
    exact ((Fr.r.i (.inl ⟨rfl, by rw [tcn', pe]; omega⟩)).i (.inr (.inr (.inr ⟨rfl, .inr rfl⟩)))).i (.inl ⟨rfl, by rw [tcn', e8]; omega⟩)
  have s4 : M4.2 = M.2 := by rw [q4, q3, q2]; rfl
  refine bind_i (sl_come57 v _ j4 ⟨zp.1, hp⟩) (fun x8 _ q => ?_)
  obtain ⟨j8, f8, s8⟩ := q
  have F8 : Fr WC M x8 := f4.t (f8.m (fun k i w => .inl w))
  have c8 : x8.1 170 (v.toInt.toNat + 2) = M.1 170 (v.toInt.toNat + 2) := F8 170 _ (by omega)
  refine inb_i (by omega) (by omega) (inb_i (by omega) (by omega) (mem_i (fun M9 q9 => ?_)))
  rw [t2, c8] at q9
  have j9 : J M9 := by rw [q9]; exact J166 j8 _ _ c5 c6
  have F9 : Fr WC M M9 := by rw [q9]; exact F8.i (.inr (.inr (.inl rfl)))
  refine bind_i (sl_come115 v _ j9 h1 ⟨zp.1, hp⟩ (by rw [F9 170 _ (by omega)]; omega)) (fun x12 _ q => ?_)
  obtain ⟨j12, f12, s12⟩ := q
  have F12 : Fr WC M x12 := F9.t (f12.m (fun k i w => .inr (.inl w)))
  have P12 : x12.1 162 4 = M.1 162 4 := by
    rw [f12 162 4 (by decide), q9, si_ne (by intro e; exact absurd e.1 (by decide)), f8 162 4 (by intro w; exact absurd w.1 (by decide)), q4, si_ne (by intro e; exact absurd e.1 (by decide)), q3, si_ne (by decide), q2, si_ne (by intro e; exact absurd e.1 (by decide))]
  have e13 : ((x12.1 162 4) + (1 : Int32)).toInt = xP M + 1 := add_ti (by rw [P12]) rfl (by omega) (by omega)
  have r166 : ∀ p : Nat, (p : Int) < xP M + 1 → 1 ≤ (x12.1 166 p).toInt := by
    intro p hp
    rw [f12 166 p (by intro w; exact absurd w (by decide)), q9]
    by_cases w : p = (M.1 162 4).toNatClampNeg
    · rw [w, si_eq]; exact c5
    · rw [si_ne (fun z => w z.2)]
      have : xP x8 = xP M := by rw [xP, f8 162 4 (by intro w; exact absurd w.1 (by decide)), q4, si_ne (by intro e; exact absurd e.1 (by decide)), q3, si_ne (by decide), q2, si_ne (by intro e; exact absurd e.1 (by decide))]
      refine j8.2.2.2.2.2 p ?_
      show (p : Int) < xP x8
      rw [tcn', pe] at w
      omega
  refine mem_i (fun M13 q13 => ⟨_, rfl, ?_, ?_, ?_, ?_⟩)
  · rw [q13]; exact JP j12 _ (by omega) (by omega) (fun p hp => r166 p (by omega))
  · rw [q13]; exact F12.i (.inr (.inr (.inr ⟨rfl, .inl rfl⟩)))
  · rw [q13]; show x12.2 = _; rw [s12, q9]; show x8.2 = _; rw [s8, s4]
  · rw [xP, q13, si_eq, e13]
abbrev WF (k i : Nat) : Prop := (k = 162 ∧ (i = 17 ∨ i = 18)) ∨ k = 170
theorem PF.wf {M N : Mem} (h : PF M N) : Fr WF M N := h.fr (.inl ⟨rfl, .inl rfl⟩) (.inl ⟨rfl, .inr rfl⟩)
def Cms (M : Mem) (n : Int) : Prop := ∀ j : Nat, (j : Int) < n → Cm M (12 * j)
theorem Cms.t {M N : Mem} {n : Int} (h : Cms M n) (g : ∀ i : Nat, (i : Int) < 12 * n → N.1 170 i = M.1 170 i) : Cms N n := by
  intro j hj
  obtain ⟨a, b, c⟩ := h j hj
  refine ⟨?_, ?_, ?_⟩
  · rw [g _ (by omega)]; exact a
  · rw [g _ (by omega)]; exact b
  · rw [g _ (by omega)]; exact c
def FI (M0_ : Mem) (s : Int32 × Int32 × Mem) : Prop := PI s.2.2 ∧ Fr WF M0_ s.2.2 ∧ s.2.2.2 = M0_.2 ∧ (0 ≤ s.1.toInt ∧ s.1.toInt ≤ 9) ∧ (xW s.2.2 = -1 → xP M0_ + s.1.toInt ≤ 8 ∧ Cms s.2.2 s.1.toInt)
def FQ (M0_ : Mem) (x : Int32 × Mem) : Prop := PI x.2 ∧ Fr WF M0_ x.2 ∧ x.2.2 = M0_.2 ∧ (xW x.2 = -1 → 0 ≤ x.1.toInt ∧ xP M0_ + x.1.toInt ≤ 8 ∧ Cms x.2 x.1.toInt)
theorem sl_folk37 {M : Mem} (h : PI M) : ∃ x, iter lb_Mod_folk_37 FU ((0 : Int32), (1 : Int32), M) = some x ∧ FQ M x := by
  have zp := aP h.1
  refine iter_r (FI M) (fun s => (9 - s.1.toInt).toNat) (FQ M) ?_ FU _ ⟨h, Fr.r, rfl, (by show (0 : Int) ≤ (0 : Int32).toInt ∧ (0 : Int32).toInt ≤ 9; decide), fun _ => ⟨(by show xP M + (0 : Int) ≤ 8; omega), fun j hj => absurd (show (j : Int) < 0 from hj) (by omega)⟩⟩ (by show (9 - (0 : Int)).toNat < FU; rw [FU_v]; decide)
  rintro ⟨n, m, N⟩ ⟨i1, i2, i3, i4, i5⟩
  dsimp only at i1 i2 i3 i4 i5
  unfold lb_Mod_folk_37
  dsimp only
  refine if_i (fun c => ⟨_, rfl, i1, i2, i3, fun e => ⟨i4.1, i5 e⟩⟩) (fun c => ?_)
  refine bind_i (sp_fine N) (fun x1 _ q1 => ?_)
  rcases q1 with ⟨q1, rfl⟩ | ⟨q1, rfl⟩
  · refine if_i (fun c => absurd c (by decide)) (fun _ => ?_)
    obtain ⟨a1, a2⟩ := i5 q1
    have pn : xP N = xP M := congrArg Int32.toInt (i2 162 4 (by decide))
    have en : (n + (1 : Int32)).toInt = n.toInt + 1 := add_ti rfl rfl (by omega) (by omega)
    have es : ((N.1 162 4) + n).toInt = xP M + n.toInt := add_ti pn rfl (by omega) (by omega)
    have key : ∀ K : Mem, PI K → Fr WF M K → K.2 = M.2 → (xW K = -1 → xP M + n.toInt + 1 ≤ 8 ∧ Cms K (n.toInt + 1)) → n.toInt ≤ 8 → ∃ r, j_Mod_folk_78_37 n K = some r ∧ LPq (FI M) (fun s => (9 - s.1.toInt).toNat) (FQ M) (9 - n.toInt).toNat r := by
      intro K k1 k2 k3 k4 k5
      unfold j_Mod_folk_78_37
      refine bind_i (sp_passes k1 59 (by decide)) (fun x _ p => ⟨_, rfl, ?_⟩)
      obtain ⟨p1, p2, p3⟩ := p
      have hx : xW x.2 = -1 → xW K = -1 := by
        rcases p3 with ⟨_, e⟩ | ⟨_, _, _, e, _⟩
        · rw [e]; exact fun e => e
        · exact fun _ => e
      refine ⟨⟨p1, k2.t p2.wf, p2.2.trans k3, ?_, fun e => ?_⟩, ?_⟩
      · show 0 ≤ (n + (1 : Int32)).toInt ∧ (n + (1 : Int32)).toInt ≤ 9; omega
      · obtain ⟨b1, b2⟩ := k4 (hx e)
        show xP M + (n + (1 : Int32)).toInt ≤ 8 ∧ Cms x.2 (n + (1 : Int32)).toInt
        rw [en]
        exact ⟨by omega, b2.t (fun i _ => p2.1 170 i (by omega))⟩
      · show (9 - (n + (1 : Int32)).toInt).toNat < (9 - n.toInt).toNat; rw [en]; omega
    refine if_i (fun c => ?_) (fun c => ?_)
    · have d : xP M + n.toInt = 8 := by rw [← es]; exact eqi.mp c
      refine bind_i (sp_faultA i1.1) (fun x7 _ p => ?_)
      exact key x7 p.1 (i2.t p.2.1.wf) (p.2.1.2.trans i3) (fun e => absurd e p.2.2.2) (by omega)
    · have d : ¬ xP M + n.toInt = 8 := by rw [← es]; exact neqi.mp c
      have e12 : ((12 : Int32) * n).toInt = 12 * n.toInt := mul_ti rfl rfl (by omega) (by omega)
      refine bind_i (sp_readOne i1 ((12 : Int32) * n) (by omega) (by omega) q1) (fun x5 _ p => ?_)
      obtain ⟨p1, p2, p3, p4, p5⟩ := p
      rw [e12] at p2 p5
      refine key x5 p1 (i2.t (p2.m (fun k i w => by rcases w with w | ⟨w, _⟩; exact .inl w; exact .inr w))) (p3.trans i3) (fun e => ⟨by omega, ?_⟩) (by omega)
      intro j hj
      by_cases ej : (j : Int) < n.toInt
      · exact (a2.t (N := x5) (fun i hi => p2 170 i (by rintro (w | w) <;> omega))) j ej
      · have : (12 * n.toInt).toNat = 12 * j := by omega
        rw [this] at p5
        exact p5 e
  · refine if_i (fun _ => ⟨_, rfl, i1, i2, i3, fun e => absurd e q1⟩) (fun c => absurd rfl c)
theorem sl_folk126 (v1 : Int32) {M : Mem} (h : J M) (hv : 0 ≤ v1.toInt) (hp : xP M + v1.toInt ≤ 8) (hc : Cms M v1.toInt) : ∃ x, iter (lb_Mod_folk_126 v1) FU ((0 : Int32), M) = some x ∧ (J x ∧ Fr WC M x ∧ x.2 = M.2 ∧ xP x = xP M + v1.toInt) := by
  have zp := aP h
  refine cnt_r _ (fun i N => J N ∧ Fr WC M N ∧ N.2 = M.2 ∧ xP N = xP M + i) v1.toInt (by omega) ?_ M ⟨h, Fr.r, rfl, by omega⟩ hv
  intro k N k0 k1 hI
  obtain ⟨i1, i2, i3, i4⟩ := hI
  unfold lb_Mod_folk_126
  dsimp only
  refine if_i (fun c => ⟨_, rfl, .inl ⟨_, rfl, i1, i2, i3, ?_⟩⟩) (fun c => ?_)
  · have := lei.mp c; omega
  have d := nlei.mp c
  have e12 : ((12 : Int32) * k).toInt = 12 * k.toInt := mul_ti rfl rfl (by omega) (by omega)
  have hc2 : Cm N ((12 : Int32) * k).toInt.toNat := by
    have := (hc.t (N := N) (fun i _ => i2 170 i (by omega))) k.toInt.toNat (by omega)
    rw [e12]
    have e : (12 * k.toInt).toNat = 12 * k.toInt.toNat := by omega
    rw [e]; exact this
  refine bind_i (sp_come i1 _ (by omega) (by omega) hc2) (fun x _ p => ⟨_, rfl, .inr ⟨d, x, rfl, p.1, i2.t p.2.1, p.2.2.1.trans i3, ?_⟩⟩)
  have := p.2.2.2; omega
/-- as it was, or one came, and what can be undone is forgotten -/
def KB (M N : Mem) : Prop := (∀ k i, kq k i = true → N.1 k i = M.1 k i) ∨ ((∀ k i, kq k i = true → ¬ (k = 163 ∧ i < 80) → ¬ (k = 162 ∧ (i = 27 ∨ i = 48)) → N.1 k i = M.1 k i) ∧ N.1 162 27 = 0 ∧ N.1 162 48 = M.1 162 48 + 1)
theorem sf_Mod_folk (M : Mem) (hJ : J M) : ∃ r : Int32 × Mem, f_Mod_folk M = some r ∧ (J r.2 ∧ (∀ k i, k < 162 → r.2.1 k i = M.1 k i) ∧ r.2.1 162 10 = 0 ∧ KB M r.2) := by
  unfold f_Mod_folk
  refine mem_i (fun M1 e1 => ?_)
  have j1 : J M1 := by rw [e1]; exact Jw_fld okf_162_13 hJ _
  have t1 := Jr_162_10 j1
  refine bind_i (sp_begin j1 167 (M1.1 162 10) 76 (.inl ⟨rfl, t1.1, t1.2, by decide, by decide⟩)) (fun x2 _ q => ?_)
  obtain ⟨b1, b2, b3, b4, b5, -⟩ := q
  refine mem_i (fun M3 e3 => ?_)
  have j3 : J M3 := by rw [e3]; exact Jw_162_10 b1.1 _ (by decide) (by decide)
  have A3 : xA M3 = xA x2 := by rw [xA, e3, si_ne (by decide)]
  have W3 : xW M3 = xW x2 := by rw [xW, e3, si_ne (by decide)]
  have L3 : xL M3 = xL x2 := by rw [xL, e3, si_ne (by decide)]
  have p3 : PI M3 := ⟨j3, fun e => by rw [A3, L3]; exact b1.2 (W3 ▸ e)⟩
  have g3 : (∀ k i, k < 162 → M3.1 k i = M.1 k i) ∧ M3.1 162 10 = 0 := by
    refine ⟨fun k i hk => ?_, by rw [e3, si_eq]⟩
    rw [e3, si_ne (by intro w; omega), b2 k i (by intro w; omega), e1, si_ne (by intro w; omega)]
  have q3 : ∀ k i, kq k i = true → M3.1 k i = M.1 k i := by
    intro k i hk
    have nw : ¬ (k = 162 ∧ i = 10) ∧ ¬ W18 k i ∧ ¬ (k = 162 ∧ i = 13) := by
      simp only [kq, Bool.or_eq_true, Bool.and_eq_true, beq_iff_eq] at hk
      refine ⟨?_, ?_, ?_⟩ <;> intro w <;> omega
    rw [e3, si_ne nw.1, b2 k i nw.2.1, e1, si_ne nw.2.2]
  refine if_i (fun _ => ⟨_, rfl, j3, g3.1, g3.2, .inl q3⟩) (fun _ => ?_)
  refine bind_i (sl_folk37 p3) (fun x11 _ q => ?_)
  obtain ⟨c1, c2, c3, c4⟩ := q
  have P11 : xP x11.2 = xP M3 := congrArg Int32.toInt (c2 162 4 (by decide))
  have k110 : ∀ N : Mem, J N → Fr WF M3 N → (xW N = -1 → 0 ≤ x11.1.toInt ∧ xP M3 + x11.1.toInt ≤ 8 ∧ Cms N x11.1.toInt) → ∃ r, j_Mod_folk_110 x11.1 N = some r ∧ (J r.2 ∧ (∀ k i, k < 162 → r.2.1 k i = M.1 k i) ∧ r.2.1 162 10 = 0 ∧ KB M r.2) := by
    intro N n1 n2 n3
    have qN : ∀ k i, kq k i = true → N.1 k i = M.1 k i := fun k i hk => (n2 k i (by
      simp only [kq, Bool.or_eq_true, Bool.and_eq_true, beq_iff_eq] at hk
      intro w; omega)).trans (q3 k i hk)
    have g : (∀ k i, k < 162 → N.1 k i = M.1 k i) ∧ N.1 162 10 = 0 := ⟨fun k i hk => (n2 k i (by intro w; rcases w with w | w <;> omega)).trans (g3.1 k i hk), (n2 162 10 (by decide)).trans g3.2⟩
    unfold j_Mod_folk_110
    refine bind_i (sp_fine N) (fun x _ q => ?_)
    rcases q with ⟨q1, rfl⟩ | ⟨q1, rfl⟩
    · refine if_i (fun c => absurd c (by decide)) (fun _ => ?_)
      obtain ⟨a1, a2, a3⟩ := n3 q1
      have PN : xP N = xP M3 := congrArg Int32.toInt (n2 162 4 (by decide))
      refine bind_i (sl_folk126 x11.1 n1 a1 (by omega) a3) (fun x15 _ p => ?_)
      obtain ⟨p1, p2, p3, p4⟩ := p
      refine mem_i (fun M16 e16 => mem_i (fun M17 e17 => ⟨_, rfl, ?_, fun k i hk => ?_, ?_, .inr ⟨fun k i hk n1 n2 => ?_, ?_, ?_⟩⟩))
      · rw [e17]; refine Jw_fld okf_162_48 ?_ _; rw [e16]; exact Jw_162_27 p1 _ (by decide) (by decide)
      · rw [e17, si_ne (by intro w; omega), e16, si_ne (by intro w; omega), p2 k i (by intro w; omega)]; exact g.1 k i hk
      · rw [e17, si_ne (by decide), e16, si_ne (by decide), p2 162 10 (by decide)]; exact g.2
      · show M17.1 k i = _
        rw [e17, si_ne (fun w => n2 ⟨w.1, .inr w.2⟩), e16, si_ne (fun w => n2 ⟨w.1, .inl w.2⟩), p2 k i (by
          simp only [kq, Bool.or_eq_true, Bool.and_eq_true, beq_iff_eq] at hk
          intro w; omega)]
        exact qN k i hk
      · show M17.1 162 27 = 0
        rw [e17, si_ne (by decide), e16, si_eq]
      · show M17.1 162 48 = _
        rw [e17, si_eq, e16, si_ne (by decide), p2 162 48 (by decide), qN 162 48 (by decide)]
    · refine if_i (fun _ => ⟨_, rfl, n1, g.1, g.2, .inl qN⟩) (fun c => absurd rfl c)
  unfold j_Mod_folk_91
  refine if_i (fun _ => k110 x11.2 c1.1 c2 c4) (fun _ => ?_)
  refine bind_i (sp_faultA c1.1) (fun y _ q => k110 y q.1.1 (c2.t q.2.1.wf) (fun e => absurd e q.2.2.2))
theorem sp_isOne {M : Mem} (h : J M) (v : Int32) : ∃ r, f_Mod_isOne v M = some r ∧ ((r = 1 ∧ 0 ≤ v.toInt ∧ v.toInt < xP M ∧ v.toInt ≤ 7) ∨ (r = 0 ∧ ¬ (0 ≤ v.toInt ∧ v.toInt < xP M))) := by
  have a := aP h
  unfold f_Mod_isOne
  have e : ((M.1 162 4) - (1 : Int32)).toInt = xP M - 1 := sub_ti rfl rfl (by show _ ≤ xP M - 1; omega) (by show xP M - 1 ≤ _; omega)
  refine bind_i (sp_in v 0 _) (fun x _ q => ?_)
  have z : (0 : Int32).toInt = 0 := rfl
  rcases q with ⟨rfl, q1, q2⟩ | ⟨rfl, q⟩
  · refine c_i (.inr rfl) ⟨_, rfl, .inl ⟨rfl, ?_⟩⟩
    omega
  · refine c_i (.inl rfl) ⟨_, rfl, .inr ⟨rfl, ?_⟩⟩
    omega
theorem sl_route87 (v1 v2 : Int32) {M : Mem} (h : J M) (h1 : 0 ≤ v1.toInt ∧ v1.toInt ≤ 7) (h2 : 0 ≤ v2.toInt ∧ v2.toInt ≤ 9) : ∃ x, iter (lb_Mod_route_87 v1 v2) FU ((0 : Int32), M) = some x ∧ (J x ∧ Fr (fun k _ => k = 165) M x ∧ x.2 = M.2) := by
  refine cnt_r _ (fun _ N => J N ∧ Fr (fun k _ => k = 165) M N ∧ N.2 = M.2) v2.toInt (by omega) ?_ M ⟨h, Fr.r, rfl⟩ h2.1
  intro k N k0 k1 hI
  unfold lb_Mod_route_87
  dsimp only
  have m1 : ((9 : Int32) * v1).toInt = 9 * v1.toInt := mul_ti rfl rfl (by omega) (by omega)
  have m2 : (((9 : Int32) * v1) + k).toInt = 9 * v1.toInt + k.toInt := add_ti m1 rfl (by omega) (by omega)
  refine if_i (fun c => ⟨_, rfl, .inl ⟨_, rfl, hI⟩⟩) (fun c => ?_)
  have d := nlei.mp c
  refine inb_i k0 (by omega) (inb_i (by omega) (by omega) ?_)
  refine mem_i (fun m e => ⟨_, rfl, .inr ⟨by omega, m, rfl, ?_⟩⟩)
  rw [e]; exact ⟨Jw_any ok_165 hI.1 _ _, hI.2.1.i rfl, hI.2.2⟩
theorem sf_Mod_route (v1 : Int32) (M : Mem) (hJ : J M) : ∃ r : Int32 × Mem, f_Mod_route v1 M = some r ∧ (J r.2 ∧ (∀ k i, k < 162 → r.2.1 k i = M.1 k i) ∧ r.2.1 162 10 = 0 ∧ KB M r.2) := by
  unfold f_Mod_route
  refine mem_i (fun M1 e1 => ?_)
  have j1 : J M1 := by rw [e1]; exact Jw_fld okf_162_13 hJ _
  have t1 := Jr_162_10 j1
  refine bind_i (sp_begin j1 167 (M1.1 162 10) 80 (.inl ⟨rfl, t1.1, t1.2, by decide, by decide⟩)) (fun x2 _ q => ?_)
  obtain ⟨b1, b2, b3, b4, b5, -⟩ := q
  refine mem_i (fun M3 e3 => ?_)
  have j3 : J M3 := by rw [e3]; exact Jw_162_10 b1.1 _ (by decide) (by decide)
  have A3 : xA M3 = xA x2 := by rw [xA, e3, si_ne (by decide)]
  have W3 : xW M3 = xW x2 := by rw [xW, e3, si_ne (by decide)]
  have L3 : xL M3 = xL x2 := by rw [xL, e3, si_ne (by decide)]
  have p3 : PI M3 := ⟨j3, fun e => by rw [A3, L3]; exact b1.2 (W3 ▸ e)⟩
  have g3 : (∀ k i, k < 162 → M3.1 k i = M.1 k i) ∧ M3.1 162 10 = 0 := by
    refine ⟨fun k i hk => ?_, by rw [e3, si_eq]⟩
    rw [e3, si_ne (by intro w; omega), b2 k i (by intro w; omega), e1, si_ne (by intro w; omega)]
  have q3 : ∀ k i, kq k i = true → M3.1 k i = M.1 k i := by
    intro k i hk
    have nw : ¬ (k = 162 ∧ i = 10) ∧ ¬ W18 k i ∧ ¬ (k = 162 ∧ i = 13) := by
      simp only [kq, Bool.or_eq_true, Bool.and_eq_true, beq_iff_eq] at hk
      refine ⟨?_, ?_, ?_⟩ <;> intro w <;> omega
    rw [e3, si_ne nw.1, b2 k i nw.2.1, e1, si_ne nw.2.2]
  refine bind_i (sp_isOne j3 v1) (fun x4 _ q4 => ?_)
  rcases q4 with ⟨rfl, u1, u2, u3⟩ | ⟨rfl, -⟩
  · refine if_i (fun c => absurd c (by decide)) (fun _ => ?_)
    have l171 : ln 171 = 9 := by decide +kernel
    refine bind_i (sp_readRoute p3 171 (.inr rfl) 0 (by decide) (by rw [l171]; decide) (by rw [l171]; decide)) (fun x5 _ q => ?_)
    obtain ⟨c1, c2, c3, c4, c5, c6, c7⟩ := q
    have W5 : ∀ k i, k ≠ 171 → ¬ (k = 162 ∧ (i = 17 ∨ i = 18)) → x5.2.1 k i = M3.1 k i := fun k i n1 n2 => c2 k i (by rintro (w | w); exact n2 w; exact n1 w.1)
    have k64 : ∀ N : Mem, J N → (∀ k i, ¬ (k = 162 ∧ (i = 17 ∨ i = 18)) → N.1 k i = x5.2.1 k i) → (xW N = -1 → xW x5.2 = -1) → ∃ r, j_Mod_route_64 v1 x5.1 N = some r ∧ (J r.2 ∧ (∀ k i, k < 162 → r.2.1 k i = M.1 k i) ∧ r.2.1 162 10 = 0 ∧ KB M r.2) := by
      intro N n1 n2 n3
      have qN : ∀ k i, kq k i = true → N.1 k i = M.1 k i := fun k i hk => by
        have nw : k ≠ 171 ∧ ¬ (k = 162 ∧ (i = 17 ∨ i = 18)) := by
          simp only [kq, Bool.or_eq_true, Bool.and_eq_true, beq_iff_eq] at hk
          refine ⟨?_, ?_⟩ <;> intro w <;> omega
        exact (n2 k i nw.2).trans ((W5 k i nw.1 nw.2).trans (q3 k i hk))
      have g : (∀ k i, k < 162 → N.1 k i = M.1 k i) ∧ N.1 162 10 = 0 := ⟨fun k i hk => (n2 k i (by omega)).trans ((W5 k i (by omega) (by omega)).trans (g3.1 k i hk)), (n2 162 10 (by decide)).trans ((W5 162 10 (by decide) (by decide)).trans g3.2)⟩
      unfold j_Mod_route_64
      refine bind_i (sp_fine N) (fun x _ q => ?_)
      rcases q with ⟨q1, rfl⟩ | ⟨q1, rfl⟩
      · refine if_i (fun c => absurd c (by decide)) (fun _ => ?_)
        obtain ⟨-, a2, -⟩ := c7 (n3 q1)
        refine inb_i u1 (by omega) (mem_i (fun M7 e7 => ?_))
        have j7 : J M7 := by rw [e7]; exact J166 n1 _ _ a2 c6
        refine bind_i (sl_route87 v1 x5.1 j7 ⟨u1, u3⟩ ⟨c5, c6⟩) (fun x10 _ p => ?_)
        obtain ⟨p1, p2, p3⟩ := p
        have e8 : ((8 : Int32) + v1).toInt = 8 + v1.toInt := add_ti rfl rfl (by omega) (by omega)
        refine inb_i (by omega) (by omega) (mem_i (fun M11 e11 => mem_i (fun M12 e12 => mem_i (fun M13 e13 => ⟨_, rfl, ?_, fun k i hk => ?_, ?_, .inr ⟨fun k i hk m1 m2 => ?_, ?_, ?_⟩⟩))))
        · rw [e13]; refine Jw_fld okf_162_48 ?_ _; rw [e12]; refine Jw_162_27 ?_ _ (by decide) (by decide); rw [e11]; exact Jst_0 p1 (St_b St_163) _
        · rw [e13, si_ne (by intro w; omega), e12, si_ne (by intro w; omega), e11, si_ne (by intro w; omega), p2 k i (by omega), e7, si_ne (by intro w; omega)]; exact g.1 k i hk
        · rw [e13, si_ne (by decide), e12, si_ne (by decide), e11, si_ne (by intro w; omega), p2 162 10 (by decide), e7, si_ne (by intro w; omega)]; exact g.2
        · have nw : k ≠ 165 ∧ k ≠ 166 := by
            simp only [kq, Bool.or_eq_true, Bool.and_eq_true, beq_iff_eq] at hk
            refine ⟨?_, ?_⟩ <;> intro w <;> omega
          show M13.1 k i = _
          rw [e13, si_ne (fun w => m2 ⟨w.1, .inr w.2⟩), e12, si_ne (fun w => m2 ⟨w.1, .inl w.2⟩), e11, si_ne (fun w => m1 ⟨w.1, by rw [w.2, tcn', e8]; omega⟩), p2 k i nw.1, e7, si_ne (fun w => nw.2 w.1)]
          exact qN k i hk
        · show M13.1 162 27 = 0
          rw [e13, si_ne (by decide), e12, si_eq]
        · show M13.1 162 48 = _
          rw [e13, si_eq, e12, si_ne (by decide), e11, si_ne (by intro w; omega), p2 162 48 (by decide), e7, si_ne (by intro w; omega), qN 162 48 (by decide)]
      · refine if_i (fun _ => ⟨_, rfl, n1, g.1, g.2, .inl qN⟩) (fun c => absurd rfl c)
    refine if_i (fun _ => k64 x5.2 c1.1 (fun _ _ _ => rfl) (fun e => e)) (fun _ => ?_)
    refine bind_i (sp_faultA c1.1) (fun y _ q => k64 y q.1.1 q.2.1.1 (fun e => absurd e q.2.2.2))
  · refine if_i (fun _ => ⟨_, rfl, j3, g3.1, g3.2, .inl q3⟩) (fun c => absurd rfl c)
