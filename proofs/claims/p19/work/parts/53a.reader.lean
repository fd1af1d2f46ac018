/-! the reference's reader: at, length, top, wrong; safety -/
abbrev xA (M : Mem) : Int := (M.1 162 17).toInt
abbrev xL (M : Mem) : Int := (M.1 162 15).toInt
abbrev xT (M : Mem) : Int := (M.1 162 16).toInt
abbrev xW (M : Mem) : Int := (M.1 162 18).toInt
abbrev xP (M : Mem) : Int := (M.1 162 4).toInt
def PF (M N : Mem) : Prop := (∀ k i, ¬ (k = 162 ∧ (i = 17 ∨ i = 18)) → N.1 k i = M.1 k i) ∧ N.2 = M.2
theorem PF.r {M : Mem} : PF M M := ⟨fun _ _ _ => rfl, rfl⟩
theorem PF.t {A B C : Mem} (h : PF A B) (g : PF B C) : PF A C := ⟨fun k i hk => (g.1 k i hk).trans (h.1 k i hk), g.2.trans h.2⟩
theorem PF_17 {M : Mem} (v : Int32) : PF M (s_i M 162 17 v) := ⟨fun k i hk => si_ne (fun e => hk ⟨e.1, .inl e.2⟩), rfl⟩
theorem PF_18 {M : Mem} (v : Int32) : PF M (s_i M 162 18 v) := ⟨fun k i hk => si_ne (fun e => hk ⟨e.1, .inr e.2⟩), rfl⟩
theorem PF.L {M N : Mem} (h : PF M N) : xL N = xL M := congrArg Int32.toInt (h.1 162 15 (by decide))
theorem PF.P {M N : Mem} (h : PF M N) : xP N = xP M := congrArg Int32.toInt (h.1 162 4 (by decide))
def PI (M : Mem) : Prop := J M ∧ (xW M = -1 → xA M ≤ xL M)
theorem aA {M : Mem} (h : J M) : 0 ≤ xA M ∧ xA M ≤ 81 := Jr_162_17 h
theorem aL {M : Mem} (h : J M) : 0 ≤ xL M ∧ xL M ≤ 80 := Jr_162_15 h
theorem aT {M : Mem} (h : J M) : 0 ≤ xT M ∧ xT M ≤ 80 := Jr_162_16 h
theorem aP {M : Mem} (h : J M) : 0 ≤ xP M ∧ xP M ≤ 8 := Jr_162_4 h
theorem m1i : (-1 : Int32).toInt = -1 := rfl
theorem z0i : (0 : Int32).toInt = 0 := rfl
theorem o1i : (1 : Int32).toInt = 1 := rfl
/-- reading: a sign is there only below length -/
theorem sp_here {M : Mem} (h : J M) : ∃ r, f_Mod_here M = some r ∧ (r.toInt ≠ -1 → xA M < xL M ∧ xA M < xT M) := by
  have a1 := Jr_162_17 h
  have a2 := Jr_162_15 h
  unfold f_Mod_here
  refine if_i (fun c => ⟨_, rfl, fun h => absurd m1i h⟩) (fun c => ?_)
  refine if_i (fun c => ⟨_, rfl, fun h => absurd m1i h⟩) (fun c2 => ?_)
  have d1 := nlei.mp c
  have d2 := nlei.mp c2
  rcases h.2.2.2.1 with e | ⟨e, e2⟩ | ⟨e, e2⟩
  · rw [e, Option.bind_some]
    refine c_i (show kd 167 = 2 by decide +kernel) ?_
    refine inb_i (by omega) (by have : ln 167 = 80 := by decide +kernel
                                omega) ?_
    exact ⟨_, rfl, fun _ => ⟨d1, d2⟩⟩
  · rw [e, Option.bind_some]
    refine c_i (show kd 172 = 2 by decide +kernel) ?_
    refine inb_i (by omega) (by have : ln 172 = 40 := by decide +kernel
                                omega) ?_
    exact ⟨_, rfl, fun _ => ⟨d1, d2⟩⟩
  · omega
theorem sp_fine (M : Mem) : ∃ r, f_Mod_fine M = some r ∧ ((xW M = -1 ∧ r = 1) ∨ (xW M ≠ -1 ∧ r = 0)) := by
  unfold f_Mod_fine
  refine if_i (fun c => ⟨_, rfl, .inl ⟨eqi.mp c, rfl⟩⟩) (fun c => ⟨_, rfl, .inr ⟨neqi.mp c, rfl⟩⟩)
theorem sp_fault {M : Mem} (h : J M) (v : Int32) (hv : v.toInt ≠ -1) : ∃ r, f_Mod_fault v M = some r ∧ J r ∧ PF M r ∧ xA r = xA M ∧ xW r ≠ -1 := by
  unfold f_Mod_fault
  refine bind_i (sp_fine M) (fun x _ q => ?_)
  rcases q with ⟨q1, rfl⟩ | ⟨q1, rfl⟩
  · refine if_i (fun c => absurd c (by decide)) (fun c => ?_)
    refine mem_i (fun m e => ⟨_, rfl, ?_⟩)
    subst e
    refine ⟨Jw_fld okf_162_18 h v, PF_18 v, congrArg Int32.toInt (si_ne (by decide)), ?_⟩
    rw [xW, si_eq]; exact hv
  · refine if_i (fun c => ?_) (fun c => absurd rfl c)
    exact ⟨_, rfl, h, PF.r, rfl, q1⟩
theorem PI_of_bad {M : Mem} (h : J M) (hw : xW M ≠ -1) : PI M := ⟨h, fun e => absurd e hw⟩
theorem sp_faultA {M : Mem} (h : J M) : ∃ r, f_Mod_fault (M.1 162 17) M = some r ∧ PI r ∧ PF M r ∧ xA r = xA M ∧ xW r ≠ -1 := by
  have a1 := Jr_162_17 h
  obtain ⟨r, e, h1, h2, h3, h4⟩ := sp_fault h (M.1 162 17) (by omega)
  exact ⟨r, e, PI_of_bad h1 h4, h2, h3, h4⟩
theorem at1 {M : Mem} (h : J M) (hl : xA M ≤ 80) : J (s_i M 162 17 ((M.1 162 17) + (1 : Int32))) ∧ xA (s_i M 162 17 ((M.1 162 17) + (1 : Int32))) = xA M + 1 := by
  have a1 := Jr_162_17 h
  have e : ((M.1 162 17) + (1 : Int32)).toInt = (M.1 162 17).toInt + 1 := add_ti rfl rfl (by omega) (by omega)
  refine ⟨Jw_162_17 h _ (by omega) (by have : xA M = (M.1 162 17).toInt := rfl; omega), ?_⟩
  rw [xA, si_eq, e]
theorem at1W {M : Mem} (v : Int32) : xW (s_i M 162 17 v) = xW M := congrArg Int32.toInt (si_ne (by decide))
theorem at1L {M : Mem} (v : Int32) : xL (s_i M 162 17 v) = xL M := congrArg Int32.toInt (si_ne (by decide))
theorem sp_passes {M : Mem} (h : PI M) (c : Int32) (hc : c.toInt ≠ -1) : ∃ r, f_Mod_passes c M = some r ∧ PI r.2 ∧ PF M r.2 ∧ ((r.1 = 0 ∧ r.2 = M) ∨ (r.1 = 1 ∧ xA r.2 = xA M + 1 ∧ xW r.2 = -1 ∧ xW M = -1 ∧ xA M < xL M)) := by
  have a2 := Jr_162_15 h.1
  unfold f_Mod_passes
  refine bind_i (sp_fine M) (fun x _ q => ?_)
  rcases q with ⟨q1, rfl⟩ | ⟨q1, rfl⟩
  · refine if_i (fun c => absurd c (by decide)) (fun _ => ?_)
    refine bind_i (sp_here h.1) (fun y _ hy => ?_)
    refine if_i (fun e => ?_) (fun e => ⟨_, rfl, h, PF.r, .inl ⟨rfl, rfl⟩⟩)
    subst e
    have hl := hy hc
    have hx : xL M = (M.1 162 15).toInt := rfl
    obtain ⟨g1, g2⟩ := at1 h.1 (by omega)
    refine mem_i (fun m e => ⟨_, rfl, ?_⟩)
    subst e
    refine ⟨⟨g1, fun _ => ?_⟩, PF_17 _, .inr ⟨rfl, g2, (at1W _).trans q1, q1, hl.1⟩⟩
    rw [g2, at1L]; omega
  · refine if_i (fun c => ⟨_, rfl, h, PF.r, .inl ⟨rfl, rfl⟩⟩) (fun c => absurd rfl c)
theorem sp_need {M : Mem} (h : PI M) (c : Int32) (hc : c.toInt ≠ -1) : ∃ r, f_Mod_need c M = some r ∧ PI r ∧ PF M r ∧ xA M ≤ xA r ∧ xA r ≤ xA M + 1 ∧ (xW r = -1 → xW M = -1 ∧ xA r = xA M + 1 ∧ xA M < xL M) := by
  unfold f_Mod_need
  refine bind_i (sp_passes h c hc) (fun x _ q => ?_)
  obtain ⟨q1, q2, q3⟩ := q
  rcases q3 with ⟨e1, e2⟩ | ⟨e1, e2, e3, e4, e5⟩
  · rw [e1]
    refine if_i (fun _ => ?_) (fun c => absurd rfl c)
    rw [e2]
    refine bind_i (sp_faultA h.1) (fun y _ q => ⟨_, rfl, q.1, q.2.1, ?_⟩)
    obtain ⟨-, -, w3, w4⟩ := q
    exact ⟨by omega, by omega, fun e => absurd e w4⟩
  · rw [e1]
    refine if_i (fun c => absurd c (by decide)) (fun _ => ⟨_, rfl, q1, q2, by omega, by omega, fun _ => ⟨e4, e2, e5⟩⟩)
theorem sp_in (a lo hi : Int32) : ∃ r, f_Mod_in a lo hi = some r ∧ ((r = 1 ∧ lo.toInt ≤ a.toInt ∧ a.toInt ≤ hi.toInt) ∨ (r = 0 ∧ ¬ (lo.toInt ≤ a.toInt ∧ a.toInt ≤ hi.toInt))) := by
  unfold f_Mod_in
  refine if_i (fun c => ⟨_, rfl, .inr ⟨rfl, by have := lti.mp c; omega⟩⟩) (fun c => ?_)
  have d := nlti.mp c
  refine if_i (fun c => ⟨_, rfl, .inr ⟨rfl, by have := lti.mp c; omega⟩⟩) (fun c => ⟨_, rfl, .inl ⟨rfl, d, nlti.mp c⟩⟩)
theorem sl_number (v1 v2 : Int32) (M0_ : Mem) (hd0 : 0 ≤ v1.toInt) (hd : v1.toInt ≤ 3) (h0 : PI M0_) (hv2 : v2 = M0_.1 162 17) (hf : xW M0_ = -1) :
    ∃ x, iter (lb_Mod_number_16 v1 v2) FU ((0 : Int32), M0_) = some x ∧ (PI x.2 ∧ PF M0_ x.2 ∧ xW x.2 = -1 ∧ xA M0_ ≤ xA x.2 ∧ xA x.2 ≤ xA M0_ + 3 ∧ 0 ≤ x.1.toInt ∧ x.1.toInt ≤ 999 ∧ (v1.toInt = 2 → x.1.toInt ≤ 99)) := by
  have w2 : v2.toInt = xA M0_ := by rw [hv2]
  have z0 := aA h0.1
  have zl := aL h0.1
  refine iter_r (fun s : Int32 × Mem => PI s.2 ∧ PF M0_ s.2 ∧ xW s.2 = -1 ∧ xA M0_ ≤ xA s.2 ∧ xA s.2 ≤ xA M0_ + v1.toInt ∧ 0 ≤ s.1.toInt ∧ (xA s.2 = xA M0_ → s.1.toInt = 0) ∧ (xA s.2 = xA M0_ + 1 → s.1.toInt ≤ 9) ∧ (xA s.2 = xA M0_ + 2 → s.1.toInt ≤ 99) ∧ (xA s.2 = xA M0_ + 3 → s.1.toInt ≤ 999)) (fun s : Int32 × Mem => (xA M0_ + 3 - xA s.2).toNat) _ ?_ FU _ ⟨h0, PF.r, hf, Int.le_refl _, (by show xA M0_ ≤ _; omega), (by show (0 : Int) ≤ (0 : Int32).toInt; decide), fun _ => rfl, (fun _ => by show (0 : Int32).toInt ≤ 9; decide), (fun _ => by show (0 : Int32).toInt ≤ 99; decide), (fun _ => by show (0 : Int32).toInt ≤ 999; decide)⟩ (by show (xA M0_ + 3 - xA M0_).toNat < FU; rw [FU_v]; omega)
  rintro ⟨v, N⟩ ⟨i1, i2, i3, i4, i5, i6, i7, i8, i9, i10⟩
  dsimp only at i1 i2 i3 i4 i5 i6 i7 i8 i9 i10
  have a1 := aA i1.1
  have al := i2.L
  have al2 := aL i1.1
  have ai := i1.2 i3
  have hx : xA N = (N.1 162 17).toInt := rfl
  have hxl : xL N = (N.1 162 15).toInt := rfl
  unfold lb_Mod_number_16
  dsimp only
  have ex : (v2 + v1).toInt = v2.toInt + v1.toInt := add_ti rfl rfl (by omega) (by omega)
  refine if_i (fun c => ⟨_, rfl, i1, i2, i3, i4, ?_, i6, ?_, ?_⟩) (fun c => ?_)
  · show xA N ≤ _; omega
  · show v.toInt ≤ 999; omega
  · intro e2; show v.toInt ≤ 99; omega
  have d := nlei.mp c
  rw [ex] at d
  refine bind_i (sp_here i1.1) (fun x2 ex2 q2 => ?_)
  refine bind_i (sp_in x2 48 57) (fun x3 _ q3 => ?_)
  rcases q3 with ⟨rfl, q31, q32⟩ | ⟨rfl, q3⟩
  · refine if_i (fun c => absurd c (by decide)) (fun _ => ?_)
    have k48 : (48 : Int32).toInt = 48 := rfl
    have k57 : (57 : Int32).toInt = 57 := rfl
    have hl := q2 (by omega)
    refine bind_i (Q := fun _ => True) ⟨x2, ex2, trivial⟩ (fun x4 ex4 _ => ?_)
    have e4 : x4 = x2 := Option.some.inj (ex4.symm.trans ex2)
    subst e4
    obtain ⟨g1, g2⟩ := at1 i1.1 (by omega)
    refine mem_i (fun m e => ⟨_, rfl, ?_⟩)
    subst e
    have t1 : ((10 : Int32) * v).toInt = 10 * v.toInt := mul_ti rfl rfl (by omega) (by omega)
    have t2 : (((10 : Int32) * v) + x4).toInt = 10 * v.toInt + x4.toInt := add_ti t1 rfl (by omega) (by omega)
    have t3 : ((((10 : Int32) * v) + x4) - (48 : Int32)).toInt = 10 * v.toInt + x4.toInt - 48 := sub_ti t2 rfl (by omega) (by omega)
    refine ⟨⟨⟨g1, fun _ => ?_⟩, i2.t (PF_17 _), (at1W _).trans i3, ?_, ?_, ?_, ?_, ?_, ?_, ?_⟩, ?_⟩
    · rw [g2, at1L]; omega
    all_goals (try dsimp only) <;> (try rw [g2]) <;> (try rw [t3]) <;> omega
  · refine if_i (fun _ => ⟨_, rfl, i1, i2, i3, i4, ?_, i6, ?_, ?_⟩) (fun c => absurd rfl c)
    · show xA N ≤ _; omega
    · show v.toInt ≤ 999; omega
    · intro e2; show v.toInt ≤ 99; omega
theorem sp_number {M : Mem} (h : PI M) (d : Int32) (hd0 : 0 ≤ d.toInt) (hd : d.toInt ≤ 3) : ∃ r, f_Mod_number d M = some r ∧ PI r.2 ∧ PF M r.2 ∧ xA M ≤ xA r.2 ∧ xA r.2 ≤ xA M + 3 ∧ 0 ≤ r.1.toInt ∧ r.1.toInt ≤ 999 ∧ (xW r.2 = -1 → xW M = -1 ∧ xA M < xA r.2) := by
  unfold f_Mod_number
  refine bind_i (sp_fine M) (fun x _ q => ?_)
  rcases q with ⟨q1, rfl⟩ | ⟨q1, rfl⟩
  · refine if_i (fun c => absurd c (by decide)) (fun _ => ?_)
    refine bind_i (sl_number d _ M hd0 hd h rfl q1) (fun x _ q => ?_)
    obtain ⟨w1, w2, w3, w4, w5, w6, w7, -⟩ := q
    unfold j_Mod_number_66
    refine if_i (fun c => ?_) (fun c => ⟨_, rfl, w1, w2, w4, w5, w6, w7, fun _ => ⟨q1, ?_⟩⟩)
    · refine bind_i (sp_faultA w1.1) (fun y _ q => ⟨_, rfl, q.1, w2.t q.2.1, ?_⟩)
      obtain ⟨-, -, e3, e4⟩ := q
      exact ⟨by show xA M ≤ xA y; omega, by show xA y ≤ _; omega, w6, w7, fun e => absurd e e4⟩
    · have := neqi.mp c
      show xA M < xA x.2
      have h1 : xA M = (M.1 162 17).toInt := rfl
      have h2 : xA x.2 = (x.2.1 162 17).toInt := rfl
      omega
  · refine if_i (fun _ => ⟨_, rfl, h, PF.r, Int.le_refl _, by show xA M ≤ _; omega, (by show (0 : Int) ≤ (0 : Int32).toInt; decide), (by show (0 : Int32).toInt ≤ 999; decide), fun e => absurd e q1⟩) (fun c => absurd rfl c)
/-! the reference: begin, routes, people that come; safety -/
def Fr (W : Nat → Nat → Prop) (M N : Mem) : Prop := ∀ k i, ¬ W k i → N.1 k i = M.1 k i
theorem Fr.r {W : Nat → Nat → Prop} {M : Mem} : Fr W M M := fun _ _ _ => rfl
theorem Fr.t {W : Nat → Nat → Prop} {A B C : Mem} (h : Fr W A B) (g : Fr W B C) : Fr W A C := fun k i hk => (g k i hk).trans (h k i hk)
theorem Fr.m {W V : Nat → Nat → Prop} {A B : Mem} (h : Fr W A B) (g : ∀ k i, W k i → V k i) : Fr V A B := fun k i hk => h k i (fun w => hk (g k i w))
theorem Fr.i {W : Nat → Nat → Prop} {A B : Mem} (h : Fr W A B) {k i : Nat} {v : Int32} (hw : W k i) : Fr W A (s_i B k i v) := fun a b hk => (si_ne (fun e => hk (by rw [e.1, e.2]; exact hw))).trans (h a b hk)
theorem PF.fr {W : Nat → Nat → Prop} {M N : Mem} (h : PF M N) (g1 : W 162 17) (g2 : W 162 18) : Fr W M N := fun k i hk => h.1 k i (fun e => hk (by rcases e with ⟨rfl, rfl | rfl⟩ <;> assumption))
theorem Fr.ti {W : Nat → Nat → Prop} {M N : Mem} (h : Fr W M N) {k i : Nat} (hk : ¬ W k i) : (N.1 k i).toInt = (M.1 k i).toInt := congrArg Int32.toInt (h k i hk)
abbrev W18 (k i : Nat) : Prop := k = 162 ∧ 14 ≤ i ∧ i ≤ 18
theorem sp_begin {M : Mem} (h : J M) (v1 : Nat) (n top : Int32) (hv : (v1 = 167 ∧ 0 ≤ n.toInt ∧ n.toInt ≤ 80 ∧ 0 ≤ top.toInt ∧ top.toInt ≤ 80) ∨ (v1 = 172 ∧ 0 ≤ n.toInt ∧ n.toInt ≤ 40 ∧ 0 ≤ top.toInt ∧ top.toInt ≤ 40)) :
    ∃ r, f_Mod_begin v1 n top M = some r ∧ PI r ∧ Fr W18 M r ∧ xA r = 0 ∧ xW r = -1 ∧ xL r = n.toInt ∧ xT r = top.toInt := by
  unfold f_Mod_begin
  refine c_i (by rcases hv with ⟨rfl, _⟩ | ⟨rfl, _⟩ <;> decide +kernel) ?_
  refine mem_i (fun M1 e1 => mem_i (fun M2 e2 => mem_i (fun M3 e3 => mem_i (fun M4 e4 => mem_i (fun M5 e5 => ⟨_, rfl, ?_⟩)))))
  have j1 : Jr M1 := by rw [e1]; exact h.1
  have j2 : Jr M2 := by rw [e2]; exact Jr_si j1 (show (0 : Int) ≤ n.toInt by rcases hv with hv | hv <;> omega) (show n.toInt ≤ 80 by rcases hv with hv | hv <;> omega)
  have j3 : Jr M3 := by rw [e3]; exact Jr_si j2 (show (0 : Int) ≤ top.toInt by rcases hv with hv | hv <;> omega) (show top.toInt ≤ 80 by rcases hv with hv | hv <;> omega)
  have j4 : Jr M4 := by rw [e4]; exact Jr_si j3 (show (0 : Int) ≤ (0 : Int32).toInt by decide) (show (0 : Int32).toInt ≤ 81 by decide)
  have j5 : Jr M5 := by rw [e5]; exact Jr_si j4 (i32lo _) (i32hi _)
  have f1 : Fr W18 M M1 := by rw [e1]; exact fun _ _ _ => rfl
  have f2 : Fr W18 M M2 := by rw [e2]; exact f1.i ⟨rfl, by decide, by decide⟩
  have f3 : Fr W18 M M3 := by rw [e3]; exact f2.i ⟨rfl, by decide, by decide⟩
  have f4 : Fr W18 M M4 := by rw [e4]; exact f3.i ⟨rfl, by decide, by decide⟩
  have f5 : Fr W18 M M5 := by rw [e5]; exact f4.i ⟨rfl, by decide, by decide⟩
  have q5 : M5.2.2 = M1.2.2 := by rw [e5, e4, e3, e2]; rfl
  have q14 : M5.2.2 162 14 = some v1 := by rw [q5, e1]; simp [s_q]
  have qo : ∀ k i, ¬ (k = 162 ∧ i = 14) → M5.2.2 k i = M.2.2 k i := by
    intro k i hk; rw [q5, e1]; simp only [s_q, if_neg hk]
  have t16 : xT M5 = top.toInt := by rw [xT, e5, si_ne (by decide), e4, si_ne (by decide), e3, si_eq]
  have t15 : xL M5 = n.toInt := by rw [xL, e5, si_ne (by decide), e4, si_ne (by decide), e3, si_ne (by decide), e2, si_eq]
  have t17 : xA M5 = 0 := by rw [xA, e5, si_ne (by decide), e4, si_eq]; rfl
  have t18 : xW M5 = -1 := by rw [xW, e5, si_eq]; rfl
  have hJ : J M5 := by
    refine ⟨j5, ?_, ?_, ?_, ?_, ?_⟩
    · obtain ⟨z, hz⟩ := h.2.1
      exact ⟨z, by rw [f5 3 3 (by decide), f5 3 2 (by decide), hz]⟩
    · refine ⟨fun i hi => ?_, fun i hi => ?_⟩
      · rw [qo 47 i (by omega)]; exact h.2.2.1.1 i hi
      · rw [qo 48 i (by omega)]; exact h.2.2.1.2 i hi
    · rcases hv with ⟨rfl, _⟩ | ⟨rfl, _, _, _, _⟩
      · exact .inl q14
      · exact .inr (.inl ⟨q14, by have : xT M5 ≤ 40 := by omega
                                  exact this⟩)
    · rw [qo 162 24 (by decide)]; exact h.2.2.2.2.1
    · intro p hp
      rw [f5 162 4 (by decide)] at hp
      rw [f5 166 p (by intro e; exact absurd e.1 (by decide))]
      exact h.2.2.2.2.2 p hp
  exact ⟨⟨hJ, fun _ => by rcases hv with hv | hv <;> omega⟩, f5, t17, t18, t15, t16⟩
theorem sp_stepOf (c : Int32) : ∃ r, f_Mod_stepOf c = some r ∧ (r = -1 ∨ (c.toInt ≠ -1 ∧ 0 ≤ r.toInt ∧ r.toInt ≤ 4)) := by
  unfold f_Mod_stepOf
  refine if_i (fun c => ⟨_, rfl, .inr ?_⟩) (fun _ => if_i (fun c => ⟨_, rfl, .inr ?_⟩) (fun _ => if_i (fun c => ⟨_, rfl, .inr ?_⟩) (fun _ => if_i (fun c => ⟨_, rfl, .inr ?_⟩) (fun _ => if_i (fun c => ⟨_, rfl, .inr ?_⟩) (fun _ => ⟨_, rfl, .inl rfl⟩)))))
  all_goals (subst c; decide)
theorem sp_kindOf (c : Int32) : ∃ r, f_Mod_kindOf c = some r ∧ (r = -1 ∨ (c.toInt ≠ -1 ∧ 0 ≤ r.toInt ∧ r.toInt ≤ 3)) := by
  unfold f_Mod_kindOf
  refine if_i (fun c => ⟨_, rfl, .inr ?_⟩) (fun _ => if_i (fun c => ⟨_, rfl, .inr ?_⟩) (fun _ => if_i (fun c => ⟨_, rfl, .inr ?_⟩) (fun _ => if_i (fun c => ⟨_, rfl, .inr ?_⟩) (fun _ => ⟨_, rfl, .inl rfl⟩))))
  all_goals (subst c; decide)
/-- where readRoute writes: at, wrong, nine of the row -/
abbrev WR (a : Nat) (b : Int) (k i : Nat) : Prop := (k = 162 ∧ (i = 17 ∨ i = 18)) ∨ (k = a ∧ b ≤ i ∧ i < b + 9)
theorem tcn' (i : Int32) : i.toNatClampNeg = i.toInt.toNat := rfl
theorem sl_readRoute {M : Mem} (h : PI M) (a : Nat) (ha : a = 170 ∨ a = 171) (b : Int32) (hb : 0 ≤ b.toInt) (hl : b.toInt + 9 ≤ ln a) (hln : ln a ≤ 96) :
    ∃ x, iter (lb_Mod_readRoute_2 a b) FU ((0 : Int32), M) = some x ∧ (PI x.2 ∧ Fr (WR a b.toInt) M x.2 ∧ x.2.2 = M.2 ∧ xA M ≤ xA x.2 ∧ 0 ≤ x.1.toInt ∧ x.1.toInt ≤ 9 ∧ (xW x.2 = -1 → xW M = -1) ∧ (xW x.2 = -1 → xA x.2 = xA M + x.1.toInt)) := by
  refine iter_r (fun s : Int32 × Mem => PI s.2 ∧ Fr (WR a b.toInt) M s.2 ∧ s.2.2 = M.2 ∧ xA M ≤ xA s.2 ∧ 0 ≤ s.1.toInt ∧ s.1.toInt ≤ 9 ∧ (xW s.2 = -1 → xW M = -1) ∧ (xW s.2 = -1 → xA s.2 = xA M + s.1.toInt)) (fun s : Int32 × Mem => (2 * (82 - xA s.2) + (if xW s.2 = -1 then 1 else 0)).toNat) _ ?_ FU _ ⟨h, Fr.r, rfl, Int.le_refl _, (by show (0 : Int) ≤ (0 : Int32).toInt; decide), (by show (0 : Int32).toInt ≤ 9; decide), fun e => e, fun _ => (by show xA M = xA M + 0; omega)⟩ (by have := aA h.1; show (2 * (82 - xA M) + (if xW M = -1 then 1 else 0)).toNat < FU; rw [FU_v]; split <;> omega)
  rintro ⟨n, N⟩ ⟨i1, i2, i3, i4, i5, i6, i7, i8⟩
  dsimp only at i1 i2 i3 i4 i5 i6 i7 i8
  have z1 := aA i1.1
  have z2 := aL i1.1
  unfold lb_Mod_readRoute_2
  dsimp only
  refine bind_i (sp_fine N) (fun x1 _ q1 => ?_)
  rcases q1 with ⟨q1, rfl⟩ | ⟨q1, rfl⟩
  · refine if_i (fun c => absurd c (by decide)) (fun _ => ?_)
    refine bind_i (sp_here i1.1) (fun x2 ex2 q2 => ?_)
    refine bind_i (sp_stepOf x2) (fun x3 ex3 q3 => ?_)
    refine if_i (fun c => ⟨_, rfl, i1, i2, i3, i4, i5, i6, i7, i8⟩) (fun c => ?_)
    rcases q3 with q3 | ⟨q3, q4, q5⟩
    · exact absurd q3 c
    have hl2 := q2 q3
    refine if_i (fun c9 => ?_) (fun c9 => ?_)
    · refine bind_i (sp_faultA i1.1) (fun y _ q => ⟨_, rfl, ⟨q.1, i2.t (q.2.1.fr (.inl ⟨rfl, .inl rfl⟩) (.inl ⟨rfl, .inr rfl⟩)), q.2.1.2.trans i3, ?_, i5, i6, fun e => absurd e q.2.2.2, fun e => absurd e q.2.2.2⟩, ?_⟩)
      · show xA M ≤ xA y; have := q.2.2.1; omega
      · show (2 * (82 - xA y) + (if xW y = -1 then 1 else 0)).toNat < (2 * (82 - xA N) + (if xW N = -1 then 1 else 0)).toNat
        rw [if_neg q.2.2.2, if_pos q1, q.2.2.1]; omega
    · have d9 := neqi.mp c9
      have k9 : (9 : Int32).toInt = 9 := rfl
      rw [k9] at d9
      refine bind_i (Q := fun y => y = x2) ⟨x2, ex2, rfl⟩ (fun x4 _ e4 => ?_)
      subst e4
      refine bind_i (Q := fun y => y = x3) ⟨x3, ex3, rfl⟩ (fun x5 _ e5 => ?_)
      subst e5
      have es : (b + n).toInt = b.toInt + n.toInt := add_ti rfl rfl (by omega) (by omega)
      refine inb_i (by omega) (by omega) ?_
      refine mem_i (fun M6 e6 => mem_i (fun M7 e7 => ⟨_, rfl, ?_⟩))
      have j6 : J M6 := by rw [e6]; exact Jw_any (by rcases ha with rfl | rfl <;> decide +kernel) i1.1 _ _
      have hne : a ≠ 162 := by rcases ha with rfl | rfl <;> decide
      have A6 : xA M6 = xA N := by rw [xA, e6, si_ne (fun e => hne e.1.symm)]
      have W6 : xW M6 = xW N := by rw [xW, e6, si_ne (fun e => hne e.1.symm)]
      have L6 : xL M6 = xL N := by rw [xL, e6, si_ne (fun e => hne e.1.symm)]
      obtain ⟨g1, g2⟩ := at1 j6 (by omega)
      rw [← e7] at g1 g2
      have W7 : xW M7 = xW N := by rw [e7]; exact (at1W _).trans W6
      have L7 : xL M7 = xL N := by rw [e7]; exact (at1L _).trans L6
      have en : (n + (1 : Int32)).toInt = n.toInt + 1 := add_ti rfl rfl (by omega) (by omega)
      have f6 : Fr (WR a b.toInt) M M6 := by
        rw [e6]; refine i2.i (.inr ⟨rfl, ?_, ?_⟩) <;> rw [tcn', es] <;> omega
      refine ⟨⟨⟨g1, fun _ => by show xA M7 ≤ xL M7; omega⟩, ?_, ?_, ?_, ?_, ?_, ?_, ?_⟩, ?_⟩
      · show Fr _ M M7; rw [e7]; exact f6.i (.inl ⟨rfl, .inl rfl⟩)
      · show M7.2 = M.2; rw [e7, e6]; exact i3
      · show xA M ≤ xA M7; omega
      · show 0 ≤ (n + (1 : Int32)).toInt; omega
      · show (n + (1 : Int32)).toInt ≤ 9; omega
      · intro _; exact i7 q1
      · intro _; show xA M7 = xA M + (n + (1 : Int32)).toInt; have := i8 q1; omega
      · show (2 * (82 - xA M7) + (if xW M7 = -1 then 1 else 0)).toNat < (2 * (82 - xA N) + (if xW N = -1 then 1 else 0)).toNat
        rw [W7, if_pos q1, g2, A6]; omega
  · refine if_i (fun _ => ⟨_, rfl, i1, i2, i3, i4, i5, i6, i7, i8⟩) (fun c => absurd rfl c)
theorem sp_readRoute {M : Mem} (h : PI M) (a : Nat) (ha : a = 170 ∨ a = 171) (b : Int32) (hb : 0 ≤ b.toInt) (hl : b.toInt + 9 ≤ ln a) (hln : ln a ≤ 96) :
    ∃ r, f_Mod_readRoute a b M = some r ∧ PI r.2 ∧ Fr (WR a b.toInt) M r.2 ∧ r.2.2 = M.2 ∧ xA M ≤ xA r.2 ∧ 0 ≤ r.1.toInt ∧ r.1.toInt ≤ 9 ∧ (xW r.2 = -1 → xW M = -1 ∧ 1 ≤ r.1.toInt ∧ xA r.2 = xA M + r.1.toInt) := by
  unfold f_Mod_readRoute
  refine c_i (by rcases ha with rfl | rfl <;> decide +kernel) ?_
  refine bind_i (sl_readRoute h a ha b hb hl hln) (fun x _ q => ?_)
  obtain ⟨q1, q2, q3, q4, q5, q6, q7, q8⟩ := q
  unfold j_Mod_readRoute_65
  refine if_i (fun c => ?_) (fun c => ⟨_, rfl, q1, q2, q3, q4, q5, q6, fun e => ⟨q7 e, ?_, q8 e⟩⟩)
  · refine bind_i (sp_faultA q1.1) (fun y _ q => ⟨_, rfl, q.1, q2.t (q.2.1.fr (.inl ⟨rfl, .inl rfl⟩) (.inl ⟨rfl, .inr rfl⟩)), q.2.1.2.trans q3, ?_, q5, q6, fun e => absurd e q.2.2.2⟩)
    show xA M ≤ xA y; have := q.2.2.1; omega
  · have := neqi.mp c
    have z : (0 : Int32).toInt = 0 := rfl
    show 1 ≤ x.1.toInt
    omega
/-! the reference: cells, a LINE of THE FOLK; safety -/
abbrev xw (M : Mem) : Int := (M.1 162 2).toInt
abbrev xh (M : Mem) : Int := (M.1 162 3).toInt
theorem aw {M : Mem} (h : J M) : 1 ≤ xw M ∧ xw M ≤ 6 := Jr_162_2 h
theorem ah {M : Mem} (h : J M) : 1 ≤ xh M ∧ xh M ≤ 6 := Jr_162_3 h
theorem mul66 {a b : Int} (h1 : 1 ≤ a) (h2 : a ≤ 6) (h3 : 1 ≤ b) (h4 : b ≤ 6) : 1 ≤ a * b ∧ a * b ≤ 36 := by
  have : b = 1 ∨ b = 2 ∨ b = 3 ∨ b = 4 ∨ b = 5 ∨ b = 6 := by omega
  rcases this with rfl | rfl | rfl | rfl | rfl | rfl <;> omega
theorem awh {M : Mem} (h : J M) : 1 ≤ xw M * xh M ∧ xw M * xh M ≤ 36 := mul66 (aw h).1 (aw h).2 (ah h).1 (ah h).2
theorem wh_ti {M : Mem} (h : J M) : ((M.1 162 2) * (M.1 162 3)).toInt = xw M * xh M := mul_ti rfl rfl (by have := awh h; show -2147483648 ≤ xw M * xh M; omega) (by have := awh h; show xw M * xh M ≤ 2147483647; omega)
theorem sp_isCell {M : Mem} (h : J M) (v : Int32) : ∃ r, f_Mod_isCell v M = some r ∧ ((r = 1 ∧ 0 ≤ v.toInt ∧ v.toInt ≤ 35 ∧ v.toInt < xw M * xh M) ∨ (r = 0 ∧ ¬ (0 ≤ v.toInt ∧ v.toInt < xw M * xh M))) := by
  have a := awh h
  unfold f_Mod_isCell f_Mod_cells
  rw [Option.bind_some]
  have e : ((M.1 162 2) * (M.1 162 3) - (1 : Int32)).toInt = xw M * xh M - 1 := sub_ti (wh_ti h) rfl (by omega) (by omega)
  refine bind_i (sp_in v 0 _) (fun x _ q => ?_)
  have z : (0 : Int32).toInt = 0 := rfl
  rcases q with ⟨rfl, q1, q2⟩ | ⟨rfl, q⟩
  · refine c_i (.inr rfl) ⟨_, rfl, .inl ⟨rfl, ?_⟩⟩
    omega
  · refine c_i (.inl rfl) ⟨_, rfl, .inr ⟨rfl, ?_⟩⟩
    omega
theorem sp_isOf {M : Mem} (h : J M) (l v : Int32) : ∃ r, f_Mod_isOf l v M = some r ∧ ((r = 1 ∧ 0 ≤ v.toInt ∧ v.toInt ≤ 35 ∧ v.toInt < xw M * xh M) ∨ r = 0) := by
  unfold f_Mod_isOf
  refine bind_i (sp_isCell h v) (fun x _ q => ?_)
  rcases q with ⟨rfl, q1, q2, q3⟩ | ⟨rfl, q⟩
  · refine if_i (fun c => absurd c (by decide)) (fun _ => ?_)
    refine if_i (fun _ => ?_) (fun _ => ?_)
    all_goals
      refine inb_i q1 (by omega) ?_
      refine if_i (fun _ => ⟨_, rfl, .inl ⟨rfl, q1, q2, q3⟩⟩) (fun _ => ?_)
      refine inb_i q1 (by omega) ?_
      refine if_i (fun _ => ⟨_, rfl, .inl ⟨rfl, q1, q2, q3⟩⟩) (fun _ => ⟨_, rfl, .inr rfl⟩)
  · exact if_i (fun _ => ⟨_, rfl, .inr rfl⟩) (fun c => absurd rfl c)
abbrev WO (b : Int) (k i : Nat) : Prop := (k = 162 ∧ (i = 17 ∨ i = 18)) ∨ (k = 170 ∧ b ≤ i ∧ i < b + 12)
theorem tc_add {v c : Int32} {n : Nat} (hc : c.toInt = n) (h1 : 0 ≤ v.toInt) (h2 : v.toInt ≤ 2000) (hn : n ≤ 2000) : (v + c).toNatClampNeg = v.toInt.toNat + n := by
  have e : (v + c).toInt = v.toInt + n := add_ti rfl hc (by omega) (by omega)
  rw [tcn', e]; omega
/-- what a LINE left in 'comes' at b -/
def Cm (M : Mem) (b : Nat) : Prop := (0 ≤ (M.1 170 b).toInt ∧ (M.1 170 b).toInt ≤ 1) ∧ (0 ≤ (M.1 170 (b + 1)).toInt ∧ (M.1 170 (b + 1)).toInt ≤ 35) ∧ (1 ≤ (M.1 170 (b + 2)).toInt ∧ (M.1 170 (b + 2)).toInt ≤ 9)
theorem sp_readOne107 {M : Mem} (h : PI M) (v : Int32) (hv : 0 ≤ v.toInt) (hv2 : v.toInt ≤ 84) : ∃ r, j_Mod_readOne_107 v M = some r ∧ PI r ∧ Fr (WO v.toInt) M r ∧ r.2 = M.2 ∧ xA M ≤ xA r ∧ (∀ i, i < v.toInt.toNat + 2 → r.1 170 i = M.1 170 i) ∧ (xW r = -1 → xW M = -1 ∧ 1 ≤ (r.1 170 (v.toInt.toNat + 2)).toInt ∧ (r.1 170 (v.toInt.toNat + 2)).toInt ≤ 9) := by
  unfold j_Mod_readOne_107
  refine bind_i (sp_need h 58 (by decide)) (fun x8 _ q => ?_)
  obtain ⟨a1, a2, a3, a4, a5⟩ := q
  have e3 : (v + (3 : Int32)).toInt = v.toInt + 3 := add_ti rfl rfl (by omega) (by omega)
  have l170 : ln 170 = 96 := by decide +kernel
  refine bind_i (sp_readRoute a1 170 (.inl rfl) (v + (3 : Int32)) (by omega) (by omega) (by omega)) (fun x9 _ q => ?_)
  obtain ⟨b1, b2, b3, b4, b5, b6, b7⟩ := q
  have e2 : (v + (2 : Int32)).toInt = v.toInt + 2 := add_ti rfl rfl (by omega) (by omega)
  refine inb_i (by omega) (by omega) ?_
  refine mem_i (fun m e => ⟨_, rfl, ?_⟩)
  have t2 : (v + (2 : Int32)).toNatClampNeg = v.toInt.toNat + 2 := tc_add rfl hv (by omega) (by omega)
  have A : xA m = xA x9.2 := by rw [xA, e, si_ne (by intro e; exact absurd e.1 (by decide))]
  have Wm : xW m = xW x9.2 := by rw [xW, e, si_ne (by intro e; exact absurd e.1 (by decide))]
  have L : xL m = xL x9.2 := by rw [xL, e, si_ne (by intro e; exact absurd e.1 (by decide))]
  have f9 : Fr (WO v.toInt) M x9.2 := (a2.fr (.inl ⟨rfl, .inl rfl⟩) (.inl ⟨rfl, .inr rfl⟩)).t (b2.m (fun k i w => by
    rcases w with w | ⟨rfl, w1, w2⟩
    · exact .inl w
    · exact .inr ⟨rfl, by omega, by omega⟩))
  refine ⟨⟨by rw [e]; exact Jw_any ok_170 b1.1 _ _, fun w => by rw [A, L]; exact b1.2 (Wm ▸ w)⟩, ?_, ?_, by omega, ?_, ?_⟩
  · rw [e]; exact f9.i (.inr ⟨rfl, by rw [t2]; omega, by rw [t2]; omega⟩)
  · rw [e]; show x9.2.2 = _; rw [b3]; exact a2.2
  · intro i hi
    rw [e, si_ne (by rw [t2]; intro w; omega)]
    rw [b2 170 i (by rintro (w | w) <;> omega)]
    exact a2.1 170 i (by omega)
  · intro w
    obtain ⟨w1, w2, w3⟩ := b7 (Wm ▸ w)
    obtain ⟨w4, w5⟩ := a5 w1
    refine ⟨w4, ?_⟩
    rw [e, t2, si_eq]
    exact ⟨w2, b6⟩
theorem sp_readOne46 {M : Mem} (h : J M) (v : Int32) (hv : 0 ≤ v.toInt) (hv2 : v.toInt ≤ 84) (ha : xW M = -1 → xA M < xL M) (hA : xA M ≤ 80) : ∃ r, j_Mod_readOne_46 v M = some r ∧ PI r ∧ Fr (WO v.toInt) M r ∧ r.2 = M.2 ∧ xA M < xA r ∧ r.1 170 v.toInt.toNat = M.1 170 v.toInt.toNat ∧ (xW r = -1 → xW M = -1 ∧ (0 ≤ (r.1 170 (v.toInt.toNat + 1)).toInt ∧ (r.1 170 (v.toInt.toNat + 1)).toInt ≤ 35) ∧ 1 ≤ (r.1 170 (v.toInt.toNat + 2)).toInt ∧ (r.1 170 (v.toInt.toNat + 2)).toInt ≤ 9) := by
  have t0 : v.toNatClampNeg = v.toInt.toNat := rfl
  have t1 : (v + (1 : Int32)).toNatClampNeg = v.toInt.toNat + 1 := tc_add rfl hv (by omega) (by omega)
  have e1 : (v + (1 : Int32)).toInt = v.toInt + 1 := add_ti rfl rfl (by omega) (by omega)
  unfold j_Mod_readOne_46
  refine mem_i (fun M4 e4 => ?_)
  obtain ⟨g1, g2⟩ := at1 h hA
  rw [← e4] at g1 g2
  have W4 : xW M4 = xW M := by rw [e4]; exact at1W _
  have L4 : xL M4 = xL M := by rw [e4]; exact at1L _
  have h4 : PI M4 := ⟨g1, fun w => by have := ha (W4 ▸ w); omega⟩
  have f4 : Fr (WO v.toInt) M M4 := by rw [e4]; exact Fr.r.i (.inl ⟨rfl, .inl rfl⟩)
  have q4 : M4.2 = M.2 := by rw [e4]; rfl
  refine bind_i (sp_number h4 2 (by decide) (by decide)) (fun x5 _ q => ?_)
  obtain ⟨a1, a2, a3, a4, a5, a6, a7⟩ := q
  refine inb_i (by omega) (by omega) ?_
  refine mem_i (fun M6 e6 => ?_)
  have A6 : xA M6 = xA x5.2 := by rw [xA, e6, si_ne (by intro e; exact absurd e.1 (by decide))]
  have W6 : xW M6 = xW x5.2 := by rw [xW, e6, si_ne (by intro e; exact absurd e.1 (by decide))]
  have L6 : xL M6 = xL x5.2 := by rw [xL, e6, si_ne (by intro e; exact absurd e.1 (by decide))]
  have h6 : PI M6 := ⟨by rw [e6]; exact Jw_any ok_170 a1.1 _ _, fun w => by rw [A6, L6]; exact a1.2 (W6 ▸ w)⟩
  have f6 : Fr (WO v.toInt) M M6 := by
    rw [e6]
    exact (f4.t (a2.fr (.inl ⟨rfl, .inl rfl⟩) (.inl ⟨rfl, .inr rfl⟩))).i (.inr ⟨rfl, by rw [t1]; omega, by rw [t1]; omega⟩)
  have q6 : M6.2 = M.2 := by rw [e6]; show x5.2.2 = _; rw [a2.2, q4]
  have c0 : M6.1 170 v.toInt.toNat = M.1 170 v.toInt.toNat := by
    rw [e6, si_ne (by rw [t1]; intro w; omega), a2.1 170 _ (by omega), e4, si_ne (by intro e; exact absurd e.1 (by decide))]
  have c1 : M6.1 170 (v.toInt.toNat + 1) = x5.1 := by rw [e6, t1, si_eq]
  have fin : ∀ N, PI N → Fr (WO v.toInt) M N → N.2 = M.2 → xA M < xA N → N.1 170 v.toInt.toNat = M.1 170 v.toInt.toNat → (xW N = -1 → xW M = -1 ∧ (0 ≤ (N.1 170 (v.toInt.toNat + 1)).toInt ∧ (N.1 170 (v.toInt.toNat + 1)).toInt ≤ 35)) → ∃ r, j_Mod_readOne_107 v N = some r ∧ PI r ∧ Fr (WO v.toInt) M r ∧ r.2 = M.2 ∧ xA M < xA r ∧ r.1 170 v.toInt.toNat = M.1 170 v.toInt.toNat ∧ (xW r = -1 → xW M = -1 ∧ (0 ≤ (r.1 170 (v.toInt.toNat + 1)).toInt ∧ (r.1 170 (v.toInt.toNat + 1)).toInt ≤ 35) ∧ 1 ≤ (r.1 170 (v.toInt.toNat + 2)).toInt ∧ (r.1 170 (v.toInt.toNat + 2)).toInt ≤ 9) := by
    intro N n1 n2 n3 n4 n5 n6
    obtain ⟨r, er, b1, b2, b3, b4, b5, b6⟩ := sp_readOne107 n1 v hv hv2
    refine ⟨r, er, b1, n2.t b2, b3.trans n3, by omega, (b5 _ (by omega)).trans n5, fun w => ?_⟩
    obtain ⟨w1, w2⟩ := b6 w
    rw [b5 (v.toInt.toNat + 1) (by omega)]
    exact ⟨(n6 w1).1, (n6 w1).2, w2⟩
  refine bind_i (sp_fine M6) (fun x7 _ q => ?_)
  rcases q with ⟨q1, rfl⟩ | ⟨q1, rfl⟩
  · refine if_i (fun c => absurd c (by decide)) (fun _ => ?_)
    refine inb_i hv (by omega) ?_
    refine inb_i (by omega) (by omega) ?_
    refine bind_i (sp_isOf h6.1 _ _) (fun x11 _ q => ?_)
    rw [t1, c1] at q
    rcases q with ⟨rfl, s1, s2, s3⟩ | rfl
    · refine if_i (fun c => absurd c (by decide)) (fun _ => ?_)
      exact fin M6 h6 f6 q6 (by omega) c0 (fun _ => ⟨W4 ▸ (a7 (W6 ▸ q1)).1, by rw [c1]; exact ⟨s1, s2⟩⟩)
    · refine if_i (fun _ => ?_) (fun c => absurd rfl c)
      have zA := aA h6.1
      have es : ((M6.1 162 17) - (1 : Int32)).toInt = xA M6 - 1 := sub_ti rfl rfl (by show -2147483648 ≤ xA M6 - 1; omega) (by show xA M6 - 1 ≤ _; omega)
      refine bind_i (sp_fault h6.1 ((M6.1 162 17) - (1 : Int32)) (by have := aA h; omega)) (fun y _ q => ?_)
      obtain ⟨s1, s2, s3, s4⟩ := q
      exact fin y (PI_of_bad s1 s4) (f6.t (s2.fr (.inl ⟨rfl, .inl rfl⟩) (.inl ⟨rfl, .inr rfl⟩))) (s2.2.trans q6) (by omega) ((s2.1 170 _ (by omega)).trans c0) (fun w => absurd w s4)
  · refine if_i (fun _ => fin M6 h6 f6 q6 (by omega) c0 (fun w => absurd w q1)) (fun c => absurd rfl c)
theorem sp_readOne {M : Mem} (h : PI M) (v : Int32) (hv : 0 ≤ v.toInt) (hv2 : v.toInt ≤ 84) (hw : xW M = -1) : ∃ r, f_Mod_readOne v M = some r ∧ PI r ∧ Fr (WO v.toInt) M r ∧ r.2 = M.2 ∧ xA M < xA r ∧ (xW r = -1 → Cm r v.toInt.toNat) := by
  have t0 : v.toNatClampNeg = v.toInt.toNat := rfl
  have zl := aL h.1
  have za := h.2 hw
  have key : ∀ w0 : Int32, 0 ≤ w0.toInt → w0.toInt ≤ 1 → ∃ r, j_Mod_readOne_19 v w0 v M = some r ∧ PI r ∧ Fr (WO v.toInt) M r ∧ r.2 = M.2 ∧ xA M < xA r ∧ (xW r = -1 → Cm r v.toInt.toNat) := by
    intro w0 u1 u2
    unfold j_Mod_readOne_19
    refine inb_i hv (by omega) ?_
    refine mem_i (fun M2 e2 => ?_)
    have A2 : xA M2 = xA M := by rw [xA, e2, si_ne (by intro e; exact absurd e.1 (by decide))]
    have W2 : xW M2 = xW M := by rw [xW, e2, si_ne (by intro e; exact absurd e.1 (by decide))]
    have L2 : xL M2 = xL M := by rw [xL, e2, si_ne (by intro e; exact absurd e.1 (by decide))]
    have h2 : J M2 := by rw [e2]; exact Jw_any ok_170 h.1 _ _
    have f2 : Fr (WO v.toInt) M M2 := by rw [e2]; exact Fr.r.i (.inr ⟨rfl, by rw [t0]; omega, by rw [t0]; omega⟩)
    have q2 : M2.2 = M.2 := by rw [e2]; rfl
    have c0 : M2.1 170 v.toInt.toNat = w0 := by rw [e2, t0, si_eq]
    have fin : ∀ N, J N → Fr (WO v.toInt) M N → N.2 = M.2 → xA N = xA M → (xW N = -1 → xA N < xL N) → N.1 170 v.toInt.toNat = w0 → ∃ r, j_Mod_readOne_46 v N = some r ∧ PI r ∧ Fr (WO v.toInt) M r ∧ r.2 = M.2 ∧ xA M < xA r ∧ (xW r = -1 → Cm r v.toInt.toNat) := by
      intro N n1 n2 n3 n4 n5 n6
      obtain ⟨r, er, b1, b2, b3, b4, b5, b6⟩ := sp_readOne46 n1 v hv hv2 n5 (by omega)
      refine ⟨r, er, b1, n2.t b2, b3.trans n3, by omega, fun w => ?_⟩
      obtain ⟨w1, w2, w3⟩ := b6 w
      exact ⟨by rw [b5, n6]; exact ⟨u1, u2⟩, w2, w3⟩
    refine bind_i (sp_here h2) (fun x3 _ s3 => ?_)
    refine if_i (fun c => fin M2 h2 f2 q2 A2 (fun _ => (s3 (by subst c; decide)).1) c0) (fun _ => ?_)
    refine bind_i (sp_here h2) (fun x15 _ s15 => ?_)
    refine if_i (fun c => fin M2 h2 f2 q2 A2 (fun _ => (s15 (by subst c; decide)).1) c0) (fun _ => ?_)
    refine bind_i (sp_faultA h2) (fun y _ q => ?_)
    obtain ⟨s1, s2, s3, s4⟩ := q
    exact fin y s1.1 (f2.t (s2.fr (.inl ⟨rfl, .inl rfl⟩) (.inl ⟨rfl, .inr rfl⟩))) (s2.2.trans q2) (by omega) (fun w => absurd w s4) ((s2.1 170 _ (by omega)).trans c0)
  unfold f_Mod_readOne
  refine bind_i (sp_here h.1) (fun x1 _ _ => ?_)
  exact if_i (fun _ => key 1 (by decide) (by decide)) (fun _ => key 0 (by decide) (by decide))
