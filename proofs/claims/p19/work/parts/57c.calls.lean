abbrev WA (k i : Nat) : Prop := (k = 162 ∧ (i = 17 ∨ i = 18)) ∨ k = 175
theorem pf_wa {M N : Mem} (h : PF M N) : Fr WA M N := h.fr (.inl ⟨rfl, .inl rfl⟩) (.inl ⟨rfl, .inr rfl⟩)
theorem w175 {M N : Mem} (h : PI M) (i : Nat) (v : Int32) (e : N = s_i M 175 i v) : PI N ∧ Fr WA M N ∧ N.2 = M.2 ∧ xA N = xA M ∧ xW N = xW M ∧ xL N = xL M := by
  have A : xA N = xA M := by rw [xA, e, si_ne (by intro e; exact absurd e.1 (by decide))]
  have W : xW N = xW M := by rw [xW, e, si_ne (by intro e; exact absurd e.1 (by decide))]
  have L : xL N = xL M := by rw [xL, e, si_ne (by intro e; exact absurd e.1 (by decide))]
  exact ⟨⟨by rw [e]; exact Jw_any ok_175 h.1 _ _, fun w => by rw [A, L]; exact h.2 (W ▸ w)⟩, by rw [e]; exact Fr.i (W := WA) Fr.r (.inr rfl), by rw [e]; rfl, A, W, L⟩
theorem sp_readAct110 {M : Mem} (h : PI M) (v1 v2 : Int32) (hv : 0 ≤ v1.toInt ∧ v1.toInt ≤ 237) (hA : v2 = 110 → xA M ≤ 80) : ∃ r, j_Mod_readAct_110 v1 v2 M = some r ∧ PI r ∧ Fr WA M r ∧ r.2 = M.2 ∧ xA M ≤ xA r := by
  have e1 : (v1 + (1 : Int32)).toInt = v1.toInt + 1 := add_ti rfl rfl (by omega) (by omega)
  unfold j_Mod_readAct_110
  refine if_i (fun c => ?_) (fun _ => ⟨_, rfl, h, Fr.r, rfl, Int.le_refl _⟩)
  have a80 := hA c
  refine bind_i (sp_here h.1) (fun x6 _ _ => inb_i (by omega) (by omega) (mem_i (fun M7 e7 => ?_)))
  obtain ⟨p7, f7, s7, A7, W7, L7⟩ := w175 h _ _ e7
  refine bind_i (sp_here p7.1) (fun x8 _ q8 => bind_i (sp_in x8 97 104) (fun x9 _ q9 => ?_))
  have k97 : (97 : Int32).toInt = 97 := rfl
  rcases q9 with ⟨rfl, q1, q2⟩ | ⟨rfl, -⟩
  · refine if_i (fun c => absurd c (by decide)) (fun _ => mem_i (fun M10 e10 => ⟨_, rfl, ?_⟩))
    have hl := q8 (by omega)
    obtain ⟨g1, g2⟩ := at1 p7.1 (by omega)
    rw [← e10] at g1 g2
    have W10 : xL M10 = xL M7 := by rw [e10]; exact at1L _
    refine ⟨⟨g1, fun _ => by omega⟩, ?_, ?_, by omega⟩
    · rw [e10]; exact f7.i (.inl ⟨rfl, .inl rfl⟩)
    · rw [e10]; exact s7
  · refine if_i (fun _ => ?_) (fun c => absurd rfl c)
    refine bind_i (sp_faultA p7.1) (fun x11 _ p => mem_i (fun M12 e12 => ⟨_, rfl, ?_⟩))
    obtain ⟨p1, p2, p3, p4⟩ := p
    obtain ⟨g1, g2⟩ := at1 p1.1 (by omega)
    rw [← e12] at g1 g2
    have W12 : xW M12 = xW x11 := by rw [e12]; exact at1W _
    refine ⟨PI_of_bad g1 (by rw [W12]; exact p4), ?_, ?_, by omega⟩
    · rw [e12]; exact (f7.t (pf_wa p2)).i (.inl ⟨rfl, .inl rfl⟩)
    · rw [e12]; exact p2.2.trans s7
theorem sp_readAct85 {M : Mem} (h : PI M) (v1 v2 : Int32) (hv : 0 ≤ v1.toInt ∧ v1.toInt ≤ 237) (hA : v2 = 110 → xA M ≤ 80) : ∃ r, j_Mod_readAct_85 v1 v2 M = some r ∧ PI r ∧ Fr WA M r ∧ r.2 = M.2 ∧ xA M ≤ xA r := by
  have e2 : (v1 + (2 : Int32)).toInt = v1.toInt + 2 := add_ti rfl rfl (by omega) (by omega)
  unfold j_Mod_readAct_85
  refine if_i (fun c => ?_) (fun _ => sp_readAct110 h v1 v2 hv hA)
  refine bind_i (sp_need h 45 (by decide)) (fun x15 _ p => bind_i (sp_number p.1 2 (by decide) (by decide)) (fun x16 _ q => inb_i (by omega) (by omega) (mem_i (fun M17 e17 => ?_))))
  obtain ⟨p1, p2, p3, p4, p5⟩ := p
  obtain ⟨q1, q2, q3, q4, q5, q6, q7⟩ := q
  obtain ⟨a, b, s, A, W, L⟩ := w175 q1 _ _ e17
  obtain ⟨r, er, r1, r2, r3, r4⟩ := sp_readAct110 a v1 v2 hv (fun e => absurd (c.symm.trans e) (by decide))
  exact ⟨r, er, r1, (((pf_wa p2).t (pf_wa q2)).t b).t r2, r3.trans (s.trans (q2.2.trans p2.2)), by omega⟩
theorem sp_readAct72 {M : Mem} (h : PI M) (v1 v2 : Int32) (hv : 0 ≤ v1.toInt ∧ v1.toInt ≤ 237) (hA : v2 ≠ 110) : ∃ r, j_Mod_readAct_72 v1 v2 M = some r ∧ PI r ∧ Fr WA M r ∧ r.2 = M.2 ∧ xA M ≤ xA r := by
  have e1 : (v1 + (1 : Int32)).toInt = v1.toInt + 1 := add_ti rfl rfl (by omega) (by omega)
  unfold j_Mod_readAct_72
  refine bind_i (sp_number h 2 (by decide) (by decide)) (fun x4 _ q => inb_i (by omega) (by omega) (mem_i (fun M5 e5 => ?_)))
  obtain ⟨q1, q2, q3, q4, q5, q6, q7⟩ := q
  obtain ⟨a, b, s, A, W, L⟩ := w175 q1 _ _ e5
  obtain ⟨r, er, r1, r2, r3, r4⟩ := sp_readAct85 a v1 v2 hv (fun e => absurd e hA)
  exact ⟨r, er, r1, ((pf_wa q2).t b).t r2, r3.trans (s.trans q2.2), by omega⟩
theorem sp_readAct43 {M : Mem} (h : J M) (v1 v2 : Int32) (hv : 0 ≤ v1.toInt ∧ v1.toInt ≤ 237) (h80 : xA M ≤ 80) (hA : xW M = -1 → xA M < xL M) (h110 : v2 = 110 → xA M < xL M) : ∃ r, j_Mod_readAct_43 v1 v2 M = some r ∧ PI r ∧ Fr WA M r ∧ r.2 = M.2 ∧ xA M < xA r := by
  unfold j_Mod_readAct_43
  refine mem_i (fun M2 e2 => inb_i hv.1 (by omega) (mem_i (fun M3 e3 => ?_)))
  obtain ⟨g1, g2⟩ := at1 h h80
  rw [← e2] at g1 g2
  have zl := aL h
  have W2 : xW M2 = xW M := by rw [e2]; exact at1W _
  have L2 : xL M2 = xL M := by rw [e2]; exact at1L _
  have p2 : PI M2 := ⟨g1, fun w => by have := hA (W2 ▸ w); omega⟩
  have f2 : Fr WA M M2 := by rw [e2]; exact Fr.i (W := WA) Fr.r (.inl ⟨rfl, .inl rfl⟩)
  have s2 : M2.2 = M.2 := by rw [e2]; rfl
  obtain ⟨a, b, s, A, W, L⟩ := w175 p2 _ _ e3
  have fin : ∀ r : Mem, PI r ∧ Fr WA M3 r ∧ r.2 = M3.2 ∧ xA M3 ≤ xA r → PI r ∧ Fr WA M r ∧ r.2 = M.2 ∧ xA M < xA r := by
    rintro r ⟨r1, r2, r3, r4⟩
    exact ⟨r1, (f2.t b).t r2, r3.trans (s.trans s2), by omega⟩
  refine if_i (fun c => ?_) (fun _ => if_i (fun c => ?_) (fun _ => ?_))
  · obtain ⟨r, er, hr⟩ := sp_readAct72 a v1 v2 hv (fun e => absurd (c.symm.trans e) (by decide)); exact ⟨r, er, fin r hr⟩
  · obtain ⟨r, er, hr⟩ := sp_readAct72 a v1 v2 hv (fun e => absurd (c.symm.trans e) (by decide)); exact ⟨r, er, fin r hr⟩
  · obtain ⟨r, er, hr⟩ := sp_readAct85 a v1 v2 hv (fun e => by have := h110 e; omega); exact ⟨r, er, fin r hr⟩
theorem sp_readAct {M : Mem} (h : PI M) (v1 : Int32) (hv : 0 ≤ v1.toInt ∧ v1.toInt ≤ 237) (hw : xW M = -1) : ∃ r, f_Mod_readAct v1 M = some r ∧ PI r ∧ Fr WA M r ∧ r.2 = M.2 ∧ xA M < xA r := by
  have zl := aL h.1
  have za := h.2 hw
  unfold f_Mod_readAct
  refine bind_i (sp_here h.1) (fun x1 _ q => ?_)
  have k := fun (e : x1.toInt ≠ -1) => sp_readAct43 h.1 v1 x1 hv (by omega) (fun _ => (q e).1) (fun _ => (q e).1)
  refine if_i (fun e => k (by subst e; decide)) (fun n1 => if_i (fun e => k (by subst e; decide)) (fun n2 => if_i (fun e => k (by subst e; decide)) (fun n3 => if_i (fun e => k (by subst e; decide)) (fun n4 => if_i (fun e => k (by subst e; decide)) (fun n5 => ?_)))))
  refine bind_i (sp_faultA h.1) (fun x21 _ p => ?_)
  obtain ⟨p1, p2, p3, p4⟩ := p
  obtain ⟨r, er, r1, r2, r3, r4⟩ := sp_readAct43 p1.1 v1 x1 hv (by omega) (fun e => absurd e p4) (fun e => absurd e n2)
  exact ⟨r, er, r1, (pf_wa p2).t r2, r3.trans p2.2, by omega⟩
def EI (M0_ : Mem) (s : Int32 × Int32 × Mem) : Prop := PI s.2.2 ∧ Fr WA M0_ s.2.2 ∧ s.2.2.2 = M0_.2 ∧ 0 ≤ s.1.toInt ∧ s.1.toInt ≤ xA s.2.2 ∧ (s.2.1 ≠ 0 → 2 * s.1.toInt ≤ xA s.2.2)
def EQ (M0_ : Mem) (x : Int32 × Mem) : Prop := PI x.2 ∧ Fr WA M0_ x.2 ∧ x.2.2 = M0_.2 ∧ 0 ≤ x.1.toInt ∧ x.1.toInt ≤ xA x.2
theorem sl_evening39 {M : Mem} (h : PI M) (h0 : xA M = 0) (b : Int32) : ∃ x, iter lb_Mod_evening_39 FU ((0 : Int32), b, M) = some x ∧ EQ M x := by
  refine iter_r (EI M) (fun s => (82 - s.1.toInt).toNat) (EQ M) ?_ FU _ ⟨h, Fr.r, rfl, (by show (0 : Int) ≤ (0 : Int32).toInt; decide), (by show (0 : Int) ≤ xA M; omega), fun _ => (by show 2 * (0 : Int) ≤ xA M; omega)⟩ (by show (82 - (0 : Int)).toNat < FU; rw [FU_v]; decide)
  rintro ⟨n, m, N⟩ ⟨i1, i2, i3, i4, i5, i6⟩
  dsimp only at i1 i2 i3 i4 i5 i6
  have za := aA i1.1
  have zl := aL i1.1
  unfold lb_Mod_evening_39
  dsimp only
  refine if_i (fun c => ⟨_, rfl, i1, i2, i3, i4, i5⟩) (fun c => ?_)
  refine bind_i (sp_fine N) (fun x1 _ q1 => ?_)
  rcases q1 with ⟨q1, rfl⟩ | ⟨q1, rfl⟩
  · refine if_i (fun c => absurd c (by decide)) (fun _ => ?_)
    have a1 := i6 c
    have a2 := i1.2 q1
    have en : (n + (1 : Int32)).toInt = n.toInt + 1 := add_ti rfl rfl (by omega) (by omega)
    have e3 : ((3 : Int32) * n).toInt = 3 * n.toInt := mul_ti rfl rfl (by omega) (by omega)
    refine bind_i (sp_readAct i1 ((3 : Int32) * n) (by omega) q1) (fun x5 _ p => ?_)
    obtain ⟨p1, p2, p3, p4⟩ := p
    refine bind_i (sp_passes p1 59 (by decide)) (fun x6 _ s => ⟨_, rfl, ?_⟩)
    obtain ⟨s1, s2, s3⟩ := s
    have A6 : xA x5 ≤ xA x6.2 ∧ (x6.1 ≠ 0 → xA x6.2 = xA x5 + 1) := by
      rcases s3 with ⟨e, e'⟩ | ⟨e, e', _⟩
      · rw [e']; exact ⟨Int.le_refl _, fun w => absurd e w⟩
      · exact ⟨by omega, fun _ => e'⟩
    refine ⟨⟨s1, (i2.t p2).t (pf_wa s2), s2.2.trans (p3.trans i3), ?_, ?_, fun w => ?_⟩, ?_⟩
    · show 0 ≤ (n + (1 : Int32)).toInt; omega
    · show (n + (1 : Int32)).toInt ≤ xA x6.2; have := A6.1; omega
    · have := A6.2 w; show 2 * (n + (1 : Int32)).toInt ≤ xA x6.2; omega
    · show (82 - (n + (1 : Int32)).toInt).toNat < (82 - n.toInt).toNat; omega
  · refine if_i (fun _ => ⟨_, rfl, i1, i2, i3, i4, i5⟩) (fun c => absurd rfl c)
/-! the reference's calls, on: evening, build, texts, fire -/
/-- what an ACT leaves: the map and what was laid aside -/
def Ax (A N : Mem) : Prop := MapEq N A ∧ ∀ i, N.1 174 i = A.1 174 i
theorem Ax_r {A : Mem} : Ax A A := ⟨⟨rfl, rfl, fun _ => rfl⟩, fun _ => rfl⟩
theorem Ax_t {A B C : Mem} (h : Ax A B) (g : Ax B C) : Ax A C := ⟨⟨g.1.1.trans h.1.1, g.1.2.1.trans h.1.2.1, fun i => (g.1.2.2 i).trans (h.1.2.2 i)⟩, fun i => (g.2 i).trans (h.2 i)⟩
theorem Ax_g {v : Nat} (hv : v = 1000 ∨ v = 163) {A B : Mem} (g : Gd v A B) : Ax A B := by
  have a : ∀ k i, pq k i = true → k ≠ 163 → B.1 k i = A.1 k i := fun k i h1 h2 => by
    refine g k i (.inl ⟨h1, ?_⟩)
    rcases hv with rfl | rfl
    · rintro rfl; exact absurd h1 (by
        have : pq 1000 i = false := rfl
        rw [this]; decide)
    · exact h2
  exact ⟨⟨a 162 2 (by decide) (by decide), a 162 3 (by decide) (by decide), fun i => a 164 i rfl (by decide)⟩, fun i => a 174 i rfl (by decide)⟩
theorem Ax_f {A B : Mem} (f : ∀ k i, k ≠ 163 → B.1 k i = A.1 k i) : Ax A B := ⟨⟨f 162 2 (by decide), f 162 3 (by decide), fun i => f 164 i (by decide)⟩, fun i => f 174 i (by decide)⟩
theorem Rx_act {M A : Mem} (h : Rx M A) (v1 : Int32) (hv : (0 : Int) ≤ v1.toInt ∧ v1.toInt ≤ (237 : Int)) : ∃ r, f_Mod_act v1 A = some r ∧ (Rx M r.2 ∧ Ax A r.2) := by
  have t92 : (92 : Int32).toNatClampNeg = 92 := rfl
  have e1 : (v1 + (1 : Int32)).toInt = v1.toInt + 1 := add_ti rfl rfl (by omega) (by omega)
  have e2 : (v1 + (2 : Int32)).toInt = v1.toInt + 2 := add_ti rfl rfl (by omega) (by omega)
  unfold f_Mod_act
  rw [t92]
  refine inb_i (by omega) (by omega) (inb_i hv.1 (by omega) ?_)
  refine if_i (fun _ => ?_) (fun _ => ?_)
  · refine if_i (fun c => ?_) (fun _ => ⟨_, rfl, h, Ax_r⟩)
    have c60 : (60 : Int32).toInt = 60 := rfl
    have le60 := lei.mp c
    generalize (A.1 175 (v1 + (1 : Int32)).toNatClampNeg) = w at le60 ⊢
    have hl : ∃ x, iter (lb_Mod_act_66 w) FU ((0 : Int32), A) = some x ∧ (Rx M x ∧ Ax A x) := by
      refine cnt_r _ (fun _ N => Rx M N ∧ Ax A N) 60 (by decide) ?_ A ⟨h, Ax_r⟩ (by decide)
      intro k N k0 k1 hI
      unfold lb_Mod_act_66
      dsimp only
      refine if_i (fun c => ⟨_, rfl, .inl ⟨_, rfl, hI⟩⟩) (fun c => ?_)
      have d := nlei.mp c
      refine bind_i (sf_Mod_goMinute 163 N St_163 hI.1.1) (fun x4 _ q => mem_i (fun m e => ⟨_, rfl, .inr ⟨by omega, m, rfl, ?_, ?_⟩⟩))
      · exact Rx_g (v := 1000) (.inl rfl) (Rx_g (.inr rfl) hI.1 q.1 q.2) (by rw [e]; exact Jw_fld okf_162_33 q.1 _) (Gd_i Gd_r e (by decide))
      · exact Ax_t (Ax_t hI.2 (Ax_g (.inr rfl) q.2)) (Ax_g (v := 1000) (.inl rfl) (Gd_i Gd_r e (by decide)))
    exact bind_i hl (fun x _ q => ⟨_, rfl, q⟩)
  refine if_i (fun _ => ?_) (fun _ => ?_)
  · refine bind_i (sf_Mod_canTell _ A h.1) (fun x10 _ _ => if_i (fun _ => ⟨_, rfl, h, Ax_r⟩) (fun _ => mem_i (fun m e => ⟨_, rfl, ?_, ?_⟩)))
    · exact Rx_g (v := 163) (.inr rfl) h (by rw [e]; exact Jws93 h.1 St_163 _) (Gd_st Gd_r e (by decide))
    · exact Ax_g (v := 163) (.inr rfl) (Gd_st Gd_r e (by decide))
  refine if_i (fun _ => ?_) (fun _ => ?_)
  · refine inb_i (by omega) (by omega) (bind_i (fs_plankRefusal _ _ h.1) (fun x14 _ q => ?_))
    refine if_i (fun c => inb_i (by omega) (by omega) ?_) (fun _ => ⟨_, rfl, h, Ax_r⟩)
    obtain ⟨q1, q2, q3, q4, q5⟩ := q (lei.mp c)
    exact bind_i (fs_layPlank _ _ h.1 q1 q2 q3 h.2.1.1 q4 q5) (fun x _ s => ⟨_, rfl, Rx_163 h s.1 s.2.1 s.2.2, Ax_f s.2.2⟩)
  refine if_i (fun _ => ?_) (fun _ => ?_)
  · refine if_i (fun _ => ⟨_, rfl, h, Ax_r⟩) (fun c => mem_i (fun m e => ⟨_, rfl, Rx_takeoff h (neqi.mp c) e, ?_⟩))
    exact Ax_f (fun k i hk => by rw [e, si_ne (fun z => hk z.1)])
  · refine bind_i (sf_Mod_canFeast _ A h.1) (fun x1 _ q => if_i (fun _ => ⟨_, rfl, h, Ax_r⟩) (fun c => ?_))
    exact bind_i (sf_Mod_goFeast _ A (q.2.2 (neqi.mp c)) h.1) (fun x2 _ s => ⟨_, rfl, Rx_g (.inr rfl) h s.1 s.2, Ax_g (.inr rfl) s.2⟩)
/-- texts: at, wrong, a row that is read into: none of it is looked at -/
theorem Rx_fr {W : Nat → Nat → Prop} {M A B : Mem} (h : Rx M A) (j : J B) (f : Fr W A B) (hw : ∀ k i, W k i → (pq k i || k == 163) = false) : Rx M B := Rx_g (v := 1000) (.inl rfl) h j (Gd_fr f hw)
theorem w1718 {k i : Nat} (w : k = 162 ∧ (i = 17 ∨ i = 18)) : (pq k i || k == 163) = false := by
  obtain ⟨rfl, rfl | rfl⟩ := w <;> decide
theorem wany {k : Nat} (i : Nat) (h : (pqc k || (k == 162 || k == 163)) = false) : (pq k i || k == 163) = false := by
  simp only [Bool.or_eq_false_iff] at h
  unfold pq
  rw [h.1, h.2.1, h.2.2]; rfl
/-- how a call begins that reads THE TEXT -/
theorem Rx_text {n : Int} {M M1 x2 M3 : Mem} (h : RI n M) (e1 : M1 = s_i M 162 13 (0 : Int32)) (j2 : J x2) (b2 : Fr W18 M1 x2) (e3 : M3 = s_i x2 162 10 (0 : Int32)) : Rx M3 M3 ∧ (∀ k i, k < 162 → M3.1 k i = M.1 k i) ∧ M3.1 162 10 = 0 ∧ M3.1 162 48 = M.1 162 48 := by
  have f : ∀ k i, ¬ (k = 162 ∧ (i = 10 ∨ i = 13 ∨ (14 ≤ i ∧ i ≤ 18))) → M3.1 k i = M.1 k i := fun k i w => by
    rw [e3, si_ne (fun z => w ⟨z.1, .inl z.2⟩), b2 k i (fun z => w ⟨z.1, .inr (.inr z.2)⟩), e1, si_ne (fun z => w ⟨z.1, .inr (.inl z.2)⟩)]
  have j3 : J M3 := by rw [e3]; exact Jw_162_10 j2 _ (by decide) (by decide)
  refine ⟨Rx_r j3 (KK_c h.1 ⟨⟨f 162 2 (by decide), f 162 3 (by decide), fun i => f 164 i (by omega)⟩, f 162 27 (by decide), f 162 48 (by decide), fun i _ _ => f 163 i (by omega), fun i => f 173 i (by omega), fun i => f 189 i (by omega), fun i => f 190 i (by omega), fun i => f 191 i (by omega)⟩ h.2.1), fun k i hk => f k i (by omega), by rw [e3, si_eq], f 162 48 (by decide)⟩
theorem RO_text {n : Int} {M M3 N : Mem} (h : RI n M) (g : ∀ k i, k < 162 → M3.1 k i = M.1 k i) (z : M3.1 162 10 = 0) (c : M3.1 162 48 = M.1 162 48) (r : Rx M3 N) : RO n M 0 N := by
  obtain ⟨r1, r2, r3, r4, r5⟩ := r
  refine ⟨⟨r1, r2, ?_, ?_⟩, fun k i hk => (r3 k i hk).trans (g k i hk), r4.trans z⟩
  · rw [r5, c]; exact h.2.2.1
  · rw [r5, c]; have := h.2.2.2; omega
theorem mr_evening {n : Int} {M : Mem} (h : RI n M) : ∃ r, f_Mod_evening M = some r ∧ RO n M 0 r.2 := by
  unfold f_Mod_evening
  refine mem_i (fun M1 e1 => ?_)
  have j1 : J M1 := by rw [e1]; exact Jw_fld okf_162_13 h.1 _
  have t1 := Jr_162_10 j1
  refine bind_i (sp_begin j1 167 (M1.1 162 10) 60 (.inl ⟨rfl, t1.1, t1.2, by decide, by decide⟩)) (fun x2 _ q => ?_)
  obtain ⟨b1, b2, b3, b4, b5, -⟩ := q
  refine mem_i (fun M3 e3 => ?_)
  obtain ⟨X3, g3, z3, c3⟩ := Rx_text h e1 b1.1 b2 e3
  have A3 : xA M3 = xA x2 := by rw [xA, e3, si_ne (by decide)]
  have W3 : xW M3 = xW x2 := by rw [xW, e3, si_ne (by decide)]
  have L3 : xL M3 = xL x2 := by rw [xL, e3, si_ne (by decide)]
  have p3 : PI M3 := ⟨X3.1, fun e => by rw [A3, L3]; exact b1.2 (W3 ▸ e)⟩
  have k171 : ∀ (v3 w0 : Int32) (N : Mem), Rx M3 N → (N.1 162 12).toInt = 0 → ∃ r, j_Mod_evening_171 v3 w0 N = some r ∧ RO n M 0 r.2 := by
    intro v3 w0 N n1 n2
    unfold j_Mod_evening_171
    exact bind_i (Rx_put n1 _ (by omega)) (fun x18 _ p => bind_i (Rx_put p.1 _ (by omega)) (fun x19 _ q => ⟨_, rfl, RO_text h g3 z3 c3 q.1⟩))
  have k155 : ∀ (v1 v3 : Int32) (N : Mem), Rx M3 N → ∃ r, j_Mod_evening_155 v1 v3 N = some r ∧ RO n M 0 r.2 := by
    intro v1 v3 N n1
    unfold j_Mod_evening_155
    refine mem_i (fun M17 e17 => ?_)
    obtain ⟨x17, z17⟩ := Rx_row0 n1 e17
    exact if_i (fun _ => k171 _ _ _ x17 z17) (fun _ => k171 _ _ _ x17 z17)
  have k89 : ∀ (v1 : Int32) (N : Mem), Rx M3 N → (xW N = -1 → v1.toInt ≤ 80) → ∃ r, j_Mod_evening_89 v1 N = some r ∧ RO n M 0 r.2 := by
    intro v1 N n1 n2
    unfold j_Mod_evening_89
    refine bind_i (sp_fine N) (fun x10 _ q => ?_)
    rcases q with ⟨q1, rfl⟩ | ⟨q1, rfl⟩
    · refine if_i (fun c => absurd c (by decide)) (fun _ => ?_)
      have l : ln 174 = 96 := by decide +kernel
      have z0 : (0 : Int32).toInt = 0 := rfl
      have z0n : (0 : Int32).toInt.toNat = 0 := rfl
      refine bind_i (fs_lay 163 174 0 n1.1 St_163 (by decide) (by decide +kernel) (by decide) (by omega) (by omega) (by omega) (by omega)) (fun x11 _ p => mem_i (fun M12 e12 => ?_))
      obtain ⟨p1, p2, p3⟩ := p
      rw [z0n] at p2 p3
      have f11 : ∀ k i, k ≠ 174 → x11.1 k i = N.1 k i := fun k i hk => p3 k i (fun z => hk z.1)
      have m11 : MapEq x11 N := ⟨f11 162 2 (by decide), f11 162 3 (by decide), fun i => f11 164 i (by decide)⟩
      obtain ⟨a1, a2, a3, a4, a5⟩ := n1
      have X11 : Rx M3 x11 := ⟨p1, KK_c a1 ⟨m11, f11 162 27 (by decide), f11 162 48 (by decide), fun i _ _ => f11 163 i (by decide), fun i => f11 173 i (by decide), fun i => f11 189 i (by decide), fun i => f11 190 i (by decide), fun i => f11 191 i (by decide)⟩ a2, fun k i hk => (f11 k i (by omega)).trans (a3 k i hk), (f11 162 10 (by decide)).trans a4, (f11 162 48 (by decide)).trans a5⟩
      have K174 : KP x11 174 0 := by
        refine KP_c (M := N) (k := 163) (o := 0) m11 (j92_163 a1) (fun i h1 h2 => ?_) a2.1
        rw [p2 i (by omega), Nat.zero_add]
      have X12 : Rx M3 M12 := Rx_g (v := 1000) (.inl rfl) X11 (by rw [e12]; exact Jw_fld okf_162_33 p1 _) (Gd_i Gd_r e12 (by decide))
      have A12 : Ax x11 M12 := Ax_g (v := 1000) (.inl rfl) (Gd_i Gd_r e12 (by decide))
      have hl : ∃ x, iter (lb_Mod_evening_122 v1) FU ((0 : Int32), M12) = some x ∧ (Rx M3 x.2 ∧ Ax x11 x.2) := by
        refine cnt_r _ (fun _ K => Rx M3 K ∧ Ax x11 K) 80 (by decide) ?_ M12 ⟨X12, A12⟩ (by decide)
        intro k K k0 k1 hI
        unfold lb_Mod_evening_122
        dsimp only
        refine if_i (fun c => ⟨_, rfl, .inl ⟨_, rfl, hI⟩⟩) (fun c => ?_)
        have d := nlei.mp c
        have d80 := n2 q1
        have e3' : ((3 : Int32) * k).toInt = 3 * k.toInt := mul_ti rfl rfl (by omega) (by omega)
        refine bind_i (Rx_act hI.1 ((3 : Int32) * k) (by omega)) (fun x _ q => ?_)
        exact if_i (fun _ => ⟨_, rfl, .inl ⟨_, rfl, q.1, Ax_t hI.2 q.2⟩⟩) (fun _ => ⟨_, rfl, .inr ⟨by omega, _, rfl, q.1, Ax_t hI.2 q.2⟩⟩)
      refine bind_i hl (fun x16 _ s => ?_)
      unfold j_Mod_evening_143
      refine if_i (fun _ => k155 _ _ _ s.1) (fun _ => ?_)
      have K16 : KP x16.2 174 0 := KP_c (M := x11) s.2.1 (by rw [Nat.zero_add]; exact (Jst92 p1 St_174).2) (fun i _ _ => s.2.2 _) K174
      exact bind_i (Rx_rem s.1 174 St_174 K16) (fun x21 _ t => k155 _ _ _ t.1)
    · exact if_i (fun _ => ⟨_, rfl, RO_text h g3 z3 c3 n1⟩) (fun c => absurd rfl c)
  have hWA : ∀ k i, WA k i → (pq k i || k == 163) = false := fun k i w => by
    rcases w with w | rfl
    · exact w1718 w
    · exact wany i (by decide)
  have k70 : ∀ (v1 : Int32) (N : Mem), PI N → Rx M3 N → v1.toInt ≤ xA N → ∃ r, j_Mod_evening_70 v1 N = some r ∧ RO n M 0 r.2 := by
    intro v1 N n1 nx n2
    unfold j_Mod_evening_70
    refine if_i (fun _ => k89 v1 N nx (fun e => by have := n1.2 e; have := aL n1.1; omega)) (fun _ => ?_)
    exact bind_i (sp_faultA n1.1) (fun x _ p => k89 v1 x (Rx_fr nx p.1.1 (pf_wa p.2.1) hWA) (fun e => absurd e p.2.2.2))
  refine if_i (fun _ => ?_) (fun _ => ?_)
  · exact bind_i (sl_evening39 p3 (by omega) 0) (fun x _ q => k70 _ _ q.1 (Rx_fr X3 q.1.1 q.2.1 hWA) q.2.2.2.2)
  · exact bind_i (sl_evening39 p3 (by omega) 1) (fun x _ q => k70 _ _ q.1 (Rx_fr X3 q.1.1 q.2.1 hWA) q.2.2.2.2)
theorem Gk_kq {M N : Mem} (h : ∀ k i, kq k i = true → N.1 k i = M.1 k i) : Gk M N := ⟨⟨h 162 2 (by decide), h 162 3 (by decide), fun i => h 164 i (by unfold kq; rfl)⟩, h 162 27 (by decide), h 162 48 (by decide), fun i _ _ => h 163 i (by unfold kq; rfl), fun i => h 173 i (by unfold kq; rfl), fun i => h 189 i (by unfold kq; rfl), fun i => h 190 i (by unfold kq; rfl), fun i => h 191 i (by unfold kq; rfl)⟩
theorem mr_town {n : Int} {M : Mem} (h : RI n M) : ∃ r, f_Mod_town M = some r ∧ RO n M 0 r.2 := by
  obtain ⟨r, e, r1, r2, r3, r4⟩ := sf_Mod_town M h.1
  refine ⟨r, e, ⟨r1, ?_⟩, r2, r3⟩
  have hn := h.2.2
  rcases r4 with r4 | ⟨a1, a2, a3, a4, a5⟩
  · refine ⟨KK_c h.1 (Gk_kq r4) h.2.1, ?_⟩
    rw [r4 162 48 (by decide)]; omega
  · refine ⟨⟨fun j hj => ?_, fun u hu => ?_, fun t ht => ?_⟩, by rw [a5]; omega⟩
    · rw [Nat.zero_add, a1] at hj
      exact absurd (show (j : Int) < 0 from hj) (by omega)
    · rw [a2] at hu
      exact absurd (show (u : Int) < 0 from hu) (by omega)
    · rw [a4, a5]
      refine ⟨(h.2.1.2.2 t ht).1, fun w => absurd ?_ w⟩
      rw [a3 t (by omega)]; rfl
theorem KK_KB {n : Int} (hn : n ≤ 1000000) {M N : Mem} (h : RI n M) (j : J N) (b : KB M N) : KK N ∧ 0 ≤ (N.1 162 48).toInt ∧ (N.1 162 48).toInt ≤ n + 1 := by
  have h4 := h.2.2
  rcases b with b | ⟨b1, b2, b3⟩
  · refine ⟨KK_c h.1 (Gk_kq b) h.2.1, ?_⟩
    rw [b 162 48 (by decide)]; omega
  · have ec : (N.1 162 48).toInt = (M.1 162 48).toInt + 1 := by rw [b3]; exact add_ti rfl rfl (by omega) (by omega)
    have mp : MapEq N M := ⟨b1 162 2 (by decide) (by decide) (by decide), b1 162 3 (by decide) (by decide) (by decide), fun i => b1 164 i (by unfold kq; rfl) (by omega) (by omega)⟩
    refine ⟨⟨KP_c mp (j92_163 h.1) (fun i h1 h2 => b1 163 _ (by unfold kq; rfl) (by omega) (by omega)) h.2.1.1, fun u hu => ?_, fun t ht => ?_⟩, by omega⟩
    · rw [b2] at hu
      exact absurd (show (u : Int) < 0 from hu) (by omega)
    · obtain ⟨c1, c2⟩ := h.2.1.2.2 t ht
      rw [b1 191 t (by unfold kq; rfl) (by omega) (by omega)]
      refine ⟨by omega, fun _ e => ?_⟩
      have := congrArg Int32.toInt e
      omega
theorem mr_folk {n : Int} (hn : n ≤ 1000000) {M : Mem} (h : RI n M) : ∃ r, f_Mod_folk M = some r ∧ RO n M 0 r.2 := by
  obtain ⟨r, e, r1, r2, r3, r4⟩ := sf_Mod_folk M h.1
  exact ⟨r, e, ⟨r1, KK_KB hn h r1 r4⟩, r2, r3⟩
theorem mr_route {n : Int} (hn : n ≤ 1000000) {M : Mem} (h : RI n M) (v1 : Int32) : ∃ r, f_Mod_route v1 M = some r ∧ RO n M 0 r.2 := by
  obtain ⟨r, e, r1, r2, r3, r4⟩ := sf_Mod_route v1 M h.1
  exact ⟨r, e, ⟨r1, KK_KB hn h r1 r4⟩, r2, r3⟩
theorem mr_rule {n : Int} {M : Mem} (h : RI n M) : ∃ r, f_Mod_rule M = some r ∧ RO n M 0 r.2 := by
  obtain ⟨r, e, r1, r2, r3, r4⟩ := sf_Mod_rule M h.1
  have hn := h.2.2
  refine ⟨r, e, ⟨r1, KK_c h.1 (Gk_kq r4) h.2.1, ?_⟩, r2, r3⟩
  rw [r4 162 48 (by decide)]; omega
theorem mr_fire {n : Int} {M : Mem} (h : RI n M) (v1 : Int32) : ∃ r, f_Mod_fire v1 M = some r ∧ RO n M (M.1 162 10) r.2 := by
  unfold f_Mod_fire
  refine mem_i (fun M1 e1 => ?_)
  have x1 := Rx_13 h.1 h.2.1 e1
  have n1 : (-1 : Int32).toInt = -1 := rfl
  have key : (-1 ≤ v1.toInt ∧ v1.toInt ≤ 35) → ∃ r, j_Mod_fire_21 v1 M1 = some r ∧ RO n M (M.1 162 10) r.2 := by
    intro hv
    unfold j_Mod_fire_21
    refine mem_i (fun M2 e2 => ⟨_, rfl, Rx_RO h ?_⟩)
    obtain ⟨a1, a2, a3, a4, a5⟩ := x1
    have f : ∀ k i, ¬ (k = 162 ∧ i = 8) → M2.1 k i = M1.1 k i := fun k i w => by rw [e2, si_ne w]
    exact ⟨by rw [e2]; exact Jw_162_8 a1 _ hv.1 hv.2, KK_c a1 ⟨⟨f 162 2 (by decide), f 162 3 (by decide), fun i => f 164 i (by omega)⟩, f 162 27 (by decide), f 162 48 (by decide), fun i _ _ => f 163 i (by omega), fun i => f 173 i (by omega), fun i => f 189 i (by omega), fun i => f 190 i (by omega), fun i => f 191 i (by omega)⟩ a2, fun k i hk => (f k i (by omega)).trans (a3 k i hk), (f 162 10 (by decide)).trans a4, (f 162 48 (by decide)).trans a5⟩
  refine if_i (fun e => key (by have := eqi.mp e; omega)) (fun _ => bind_i (sp_isCell x1.1 v1) (fun x3 _ q => ?_))
  rcases q with ⟨rfl, q1, q2, -⟩ | ⟨rfl, -⟩
  · exact if_i (fun c => absurd c (by decide)) (fun _ => key (by omega))
  · exact if_i (fun _ => ⟨_, rfl, Rx_RO h x1⟩) (fun c => absurd rfl c)
theorem mr_build {n : Int} (hn : n ≤ 1000000) {M : Mem} (h : RI n M) (v1 v2 : Int32) : ∃ r, f_Mod_build v1 v2 M = some r ∧ RO n M (M.1 162 10) r.2 := by
  unfold f_Mod_build
  refine mem_i (fun M1 e1 => ?_)
  have x1 := Rx_13 h.1 h.2.1 e1
  have o1 : ∃ r : Int32 × Mem, some ((-1 : Int32), M1) = some r ∧ RO n M (M.1 162 10) r.2 := ⟨_, rfl, Rx_RO h x1⟩
  refine bind_i (sp_isCell x1.1 v1) (fun x2 _ q2 => ?_)
  rcases q2 with ⟨rfl, a1, a2, a3⟩ | ⟨rfl, -⟩
  · refine if_i (fun c => absurd c (by decide)) (fun _ => bind_i (sp_in v2 0 3) (fun x3 _ q3 => ?_))
    have c2 : (2 : Int32).toInt = 2 := rfl
    have c3 : (3 : Int32).toInt = 3 := rfl
    have t92 : (92 : Int32).toNatClampNeg = 92 := rfl
    rcases q3 with ⟨rfl, b1, b2⟩ | ⟨rfl, -⟩
    · have p : (0 : Int) ≤ (M1.1 163 92).toInt ∧ (M1.1 163 92).toInt ≤ 6 := Jst92 x1.1 St_163
      -- it is built
      have k141 : ((v2.toInt = 2 ∨ v2.toInt = 3) ∨ ∀ s : Nat, (s : Int) < 2 * (M1.1 163 92).toInt → (M1.1 163 (80 + s)).toInt ≠ v1.toInt) → ∃ r, j_Mod_build_141 v1 v2 M1 = some r ∧ RO n M (M.1 162 10) r.2 := by
        intro hok
        unfold j_Mod_build_141
        refine inb_i a1 (by omega) (inb_i a1 (by omega) (mem_i (fun M12 e12 => mem_i (fun M13 e13 => mem_i (fun M14 e14 => ⟨_, rfl, ?_⟩)))))
        obtain ⟨y1, y2, y3, y4, y5⟩ := x1
        have tv : v1.toNatClampNeg = v1.toInt.toNat := rfl
        rw [tv] at e12
        have j12 : J M12 := by rw [e12]; exact Jw_any ok_164 y1 _ _
        have j13 : J M13 := by rw [e13]; exact Jw_162_27 j12 _ (by decide) (by decide)
        have f : ∀ k i, ¬ (k = 164 ∧ i = v1.toInt.toNat) → ¬ (k = 162 ∧ (i = 27 ∨ i = 48)) → M14.1 k i = M1.1 k i := fun k i w z => by
          rw [e14, si_ne (fun u => z ⟨u.1, .inr u.2⟩), e13, si_ne (fun u => z ⟨u.1, .inl u.2⟩), e12, si_ne w]
        have v164 : M14.1 164 v1.toInt.toNat = v2 := by rw [e14, si_ne (by intro u; omega), e13, si_ne (by intro u; omega), e12, si_eq]
        have v27 : M14.1 162 27 = 0 := by rw [e14, si_ne (by decide), e13, si_eq]
        have v48 : M14.1 162 48 = M1.1 162 48 + 1 := by rw [e14, si_eq, e13, si_ne (by decide), e12, si_ne (by intro u; omega)]
        have h4 := h.2.2
        have ec : (M14.1 162 48).toInt = (M.1 162 48).toInt + 1 := by rw [v48, y5]; exact add_ti rfl rfl (by omega) (by omega)
        have onk : ∀ c : Int, onN M1 1 c → (c = v1.toInt → v2.toInt = 2 ∨ v2.toInt = 3) → onN M14 1 c := by
          intro c hc hv
          obtain ⟨c0, c1, c2'⟩ := hc
          have ew : xw M14 = xw M1 := congrArg Int32.toInt (f 162 2 (by omega) (by omega))
          have eh : xh M14 = xh M1 := congrArg Int32.toInt (f 162 3 (by omega) (by omega))
          refine ⟨c0, by rw [ew, eh]; exact c1, ?_⟩
          rw [if_neg (by decide)] at c2' ⊢
          by_cases w : c = v1.toInt
          · rw [w, v164]; exact hv w
          · rw [f 164 c.toNat (by omega) (by omega)]; exact c2'
        refine ⟨⟨by rw [e14]; exact Jw_fld okf_162_48 j13 _, ⟨fun j hj => ?_, fun u hu => ?_, fun t ht => ?_⟩, by show 0 ≤ (M14.1 162 48).toInt; omega, by show (M14.1 162 48).toInt ≤ n + 1; omega⟩, fun k i hk => (f k i (by omega) (by omega)).trans (y3 k i hk), (f 162 10 (by omega) (by omega)).trans y4⟩
        · have hj' : (j : Int) < (M1.1 163 92).toInt := by
            have : M14.1 163 (0 + 92) = M1.1 163 92 := f 163 92 (by omega) (by omega)
            rw [← this]; exact hj
          have kk := y2.1 j (by rw [Nat.zero_add]; exact hj')
          have g1 : M14.1 163 (0 + 80 + 2 * j) = M1.1 163 (0 + 80 + 2 * j) := f 163 _ (by omega) (by omega)
          have g2 : M14.1 163 (0 + 81 + 2 * j) = M1.1 163 (0 + 81 + 2 * j) := f 163 _ (by omega) (by omega)
          show onN M14 1 (M14.1 163 (0 + 80 + 2 * j)).toInt ∧ onN M14 1 (M14.1 163 (0 + 81 + 2 * j)).toInt
          rw [g1, g2]
          refine ⟨onk _ kk.1 (fun w => hok.elim id (fun z => absurd w ?_)), onk _ kk.2 (fun w => hok.elim id (fun z => absurd w ?_))⟩
          · have := z (2 * j) (by omega)
            have e : 80 + 2 * j = 0 + 80 + 2 * j := by omega
            rw [e] at this; exact this
          · have := z (2 * j + 1) (by omega)
            have e : 80 + (2 * j + 1) = 0 + 81 + 2 * j := by omega
            rw [e] at this; exact this
        · have : (M14.1 162 27).toInt = 0 := by rw [v27]; rfl
          have hu' : (u : Int) < (M14.1 162 27).toInt := hu
          omega
        · obtain ⟨z1, z2⟩ := y2.2.2 t ht
          have g191 : M14.1 191 t = M1.1 191 t := f 191 t (by omega) (by omega)
          show (0 ≤ (M14.1 191 t).toInt ∧ (M14.1 191 t).toInt ≤ (M14.1 162 48).toInt) ∧ ((M14.1 190 t).toInt ≠ 0 → M14.1 191 t = M14.1 162 48 → KP M14 189 (96 * t))
          rw [g191]
          have e48 : (M1.1 162 48).toInt = (M.1 162 48).toInt := by rw [y5]
          refine ⟨by omega, fun _ e => ?_⟩
          have := congrArg Int32.toInt e
          omega
      -- the PLANKS that end there
      have lp : ∀ v3 : Int32, ∃ x, iter (lb_Mod_build_87 v1 v2 v3 M1) FU (0 : Int32) = some x ∧ SQ (fun _ : Unit => v3 = 0 → ∀ s : Nat, (s : Int) < 2 * (M1.1 163 92).toInt → (M1.1 163 (80 + s)).toInt ≠ v1.toInt) (fun _ : Unit => True) x := by
        intro v3
        refine iter_r (fun s : Int32 => 0 ≤ s.toInt ∧ s.toInt ≤ 12 ∧ (v3 = 0 → ∀ t : Nat, (t : Int) < s.toInt → (M1.1 163 (80 + t)).toInt ≠ v1.toInt)) (fun s : Int32 => (12 - s.toInt).toNat) _ ?_ FU _ ⟨by decide, by decide, fun _ t ht => absurd (show (t : Int) < 0 from ht) (by omega)⟩ (by show (12 - (0 : Int)).toNat < FU; rw [FU_v]; decide)
        rintro s ⟨i1, i2, i3⟩
        unfold lb_Mod_build_87
        rw [t92]
        have m1 : ((2 : Int32) * (M1.1 163 92)).toInt = 2 * (M1.1 163 92).toInt := mul_ti rfl rfl (by omega) (by omega)
        refine if_i (fun c => ⟨_, rfl, fun e t ht => i3 e t (by have := lei.mp c; omega)⟩) (fun c => ?_)
        have d := nlei.mp c
        have es : (s + (1 : Int32)).toInt = s.toInt + 1 := add_ti rfl rfl (by omega) (by omega)
        have e8 : ((80 : Int32) + s).toInt = 80 + s.toInt := add_ti rfl rfl (by omega) (by omega)
        have t8 : ((80 : Int32) + s).toNatClampNeg = 80 + s.toInt.toNat := by rw [tcn', e8]; omega
        have on : (v3 = 0 → (M1.1 163 (80 + s.toInt.toNat)).toInt ≠ v1.toInt) → LPq (fun s : Int32 => 0 ≤ s.toInt ∧ s.toInt ≤ 12 ∧ (v3 = 0 → ∀ t : Nat, (t : Int) < s.toInt → (M1.1 163 (80 + t)).toInt ≠ v1.toInt)) (fun s : Int32 => (12 - s.toInt).toNat) (SQ (fun _ : Unit => v3 = 0 → ∀ s : Nat, (s : Int) < 2 * (M1.1 163 92).toInt → (M1.1 163 (80 + s)).toInt ≠ v1.toInt) (fun _ : Unit => True)) (12 - s.toInt).toNat (.inl (s + (1 : Int32))) := by
          intro hne
          refine ⟨⟨by omega, by omega, fun e t ht => ?_⟩, ?_⟩
          · by_cases w : (t : Int) < s.toInt
            · exact i3 e t w
            · have : t = s.toInt.toNat := by omega
              rw [this]; exact hne e
          · show (12 - (s + (1 : Int32)).toInt).toNat < (12 - s.toInt).toNat; omega
        rw [t8]
        refine inb_i (by omega) (by omega) (if_i (fun _ => if_i (fun _ => ⟨_, rfl, trivial⟩) (fun c3 => ⟨_, rfl, on (fun e => absurd e c3)⟩)) (fun c3 => ⟨_, rfl, on (fun _ => neqi.mp c3)⟩))
      have k62 : ∀ v3 : Int32, (v3 = 0 ∨ (v2.toInt = 2 ∨ v2.toInt = 3)) → ∃ r, j_Mod_build_62 v1 v2 v3 M1 = some r ∧ RO n M (M.1 162 10) r.2 := by
        intro v3 hv3
        have arm : ∃ r, (Option.bind (iter (lb_Mod_build_87 v1 v2 v3 M1) FU (0 : Int32)) (Sum.elim (fun y11 : Unit => if v3 = 0 then j_Mod_build_141 v1 v2 M1 else Option.bind (f_Mod_isUnder v1 M1) fun x15 => if x15 = 0 then j_Mod_build_141 v1 v2 M1 else some ((-1 : Int32), M1)) (fun y18 : Unit => some ((-1 : Int32), M1)))) = some r ∧ RO n M (M.1 162 10) r.2 := by
          refine bind_i (lp v3) (fun x _ q => ?_)
          rcases x with y | y
          · show ∃ r, (if v3 = 0 then j_Mod_build_141 v1 v2 M1 else Option.bind (f_Mod_isUnder v1 M1) fun x15 => if x15 = 0 then j_Mod_build_141 v1 v2 M1 else some ((-1 : Int32), M1)) = some r ∧ _
            refine if_i (fun e => k141 (.inr (q e))) (fun e => ?_)
            refine bind_i (sf_Mod_isUnder v1 M1 ⟨a1, a2⟩ x1.1) (fun x15 _ _ => if_i (fun _ => k141 (.inl (hv3.elim (fun w => absurd w e) id))) (fun _ => o1))
          · exact o1
        unfold j_Mod_build_62 f_Mod_placeOf
        rw [Option.bind_some]
        exact bind_i (sf_Mod_onPlace 163 _ M1 St_163 x1.1) (fun x6 _ _ => if_i (fun _ => arm) (fun _ => if_i (fun _ => o1) (fun _ => arm)))
      have k39 : ∀ w0 : Int32, (w0 = 0 ∨ (v2.toInt = 2 ∨ v2.toInt = 3)) → ∃ r, j_Mod_build_39 v1 v2 w0 M1 = some r ∧ RO n M (M.1 162 10) r.2 := by
        intro w0 hw
        unfold j_Mod_build_39
        exact bind_i (sf_Mod_onPlace 163 v1 M1 St_163 x1.1) (fun x4 _ _ => if_i (fun _ => k62 w0 hw) (fun _ => if_i (fun _ => k62 w0 hw) (fun _ => if_i (fun _ => k62 w0 hw) (fun _ => o1))))
      refine if_i (fun c => absurd c (by decide)) (fun _ => if_i (fun e => k39 1 (.inr (.inl ((eqi.mp e).trans c2)))) (fun _ => if_i (fun e => k39 1 (.inr (.inr ((eqi.mp e).trans c3)))) (fun _ => k39 0 (.inl rfl))))
    · exact if_i (fun _ => o1) (fun c => absurd rfl c)
  · exact if_i (fun _ => o1) (fun c => absurd rfl c)
