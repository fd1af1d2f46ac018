/-! the reference: THE RULE read and asked; safety -/
theorem sl_letter156 (v2 : Nat) (v3 : Int32) {M : Mem} (h : J M) (hs : St v2) (h3 : 0 ≤ v3.toInt ∧ v3.toInt ≤ 7) : ∃ x, iter (lb_Mod_letter_156 v2 v3 M) FU ((0 : Int32), (0 : Int32)) = some x ∧ True := by
  have l := St_ln hs
  have zp := aP h
  refine iter_r (fun s : Int32 × Int32 => 0 ≤ s.2.toInt ∧ s.2.toInt ≤ 8) (fun s : Int32 × Int32 => (8 - s.2.toInt).toNat) (fun _ => True) ?_ FU _ (by show (0 : Int) ≤ (0 : Int32).toInt ∧ (0 : Int32).toInt ≤ 8; decide) (by show (8 - (0 : Int)).toNat < FU; rw [FU_v]; decide)
  rintro ⟨a, k⟩ ⟨i1, i2⟩
  dsimp only at i1 i2
  unfold lb_Mod_letter_156
  dsimp only
  refine if_i (fun c => ⟨_, rfl, trivial⟩) (fun c => ?_)
  have d : k.toInt < xP M := nlei.mp c
  have ek : (k + (1 : Int32)).toInt = k.toInt + 1 := add_ti rfl rfl (by omega) (by omega)
  have fin : ∀ b : Int32, LPq (fun s : Int32 × Int32 => 0 ≤ s.2.toInt ∧ s.2.toInt ≤ 8) (fun s : Int32 × Int32 => (8 - s.2.toInt).toNat) (fun _ : Int32 => True) (8 - k.toInt).toNat (.inl (b, k + (1 : Int32))) := by
    intro b
    refine ⟨⟨?_, ?_⟩, ?_⟩
    · show 0 ≤ (k + (1 : Int32)).toInt; omega
    · show (k + (1 : Int32)).toInt ≤ 8; omega
    · show (8 - (k + (1 : Int32)).toInt).toNat < (8 - k.toInt).toNat; omega
  refine if_i (fun c => ⟨_, rfl, fin _⟩) (fun c => ?_)
  refine inb_i i1 (by rw [l]; omega) (inb_i h3.1 (by rw [l]; omega) ?_)
  exact if_i (fun c => ⟨_, rfl, fin _⟩) (fun c => ⟨_, rfl, fin _⟩)
theorem sp_letter (c : Int32) (v2 : Nat) (v3 : Int32) {M : Mem} (h : J M) (hs : St v2) (h3 : 0 ≤ v3.toInt ∧ v3.toInt ≤ 7) : ∃ x, f_Mod_letter c v2 v3 M = some x ∧ True := by
  have l := St_ln hs
  have w := aw h
  have r := Jst0 h hs h3.1 h3.2
  have rm : ((M.1 v2 v3.toNatClampNeg) - (M.1 v2 v3.toNatClampNeg) / (36 : Int32) * (36 : Int32)).toInt = (M.1 v2 v3.toNatClampNeg).toInt % 36 := rem_ti rfl rfl r.1 (by decide)
  have wn : ¬ (M.1 162 2) = 0 := nz_of (by have : xw M = (M.1 162 2).toInt := rfl; omega)
  have i93 : inb (93 : Int32) (ln v2) = true := by rw [l]; decide
  have i95 : inb (95 : Int32) (ln v2) = true := by rw [l]; decide
  unfold f_Mod_letter f_Mod_cellOf
  refine c_i (St_kd hs) (inb_i h3.1 (by rw [l]; omega) ?_)
  rw [Option.bind_some]
  refine if_i (fun _ => ⟨_, rfl, trivial⟩) (fun _ => ?_)
  refine if_i (fun _ => c_i i93 ⟨_, rfl, trivial⟩) (fun _ => ?_)
  refine if_i (fun _ => c_i i95 ⟨_, rfl, trivial⟩) (fun _ => ?_)
  refine if_i (fun _ => inb_i (by omega) (by omega) (if_i (fun _ => ⟨_, rfl, trivial⟩) (fun _ => ⟨_, rfl, trivial⟩))) (fun _ => ?_)
  refine if_i (fun _ => ⟨_, rfl, trivial⟩) (fun _ => ?_)
  refine if_i (fun _ => z_i wn ⟨_, rfl, trivial⟩) (fun _ => ?_)
  refine if_i (fun _ => z_i wn ⟨_, rfl, trivial⟩) (fun _ => ?_)
  exact bind_i (sl_letter156 v2 v3 h hs h3) (fun x _ _ => ⟨_, rfl, trivial⟩)
def PE (M : Mem) : Prop := PI M ∧ xA M ≤ 40 ∧ xT M ≤ 40
theorem PF.T {M N : Mem} (h : PF M N) : xT N = xT M := congrArg Int32.toInt (h.1 162 16 (by decide))
/-- one step on, behind a sign that is there -/
theorem pe_at1 {M : Mem} (h : PE M) (hl : xA M < xL M ∧ xA M < xT M) : PE (s_i M 162 17 ((M.1 162 17) + (1 : Int32))) ∧ xA (s_i M 162 17 ((M.1 162 17) + (1 : Int32))) = xA M + 1 := by
  obtain ⟨g1, g2⟩ := at1 h.1.1 (by have := h.2.1; omega)
  refine ⟨⟨⟨g1, fun _ => ?_⟩, ?_, ?_⟩, g2⟩
  · rw [g2, at1L]; omega
  · have := h.2.2; omega
  · rw [(PF_17 _).T]; exact h.2.2
theorem pe_passes {M : Mem} (h : PE M) (c : Int32) (hc : c.toInt ≠ -1) : ∃ r, f_Mod_passes c M = some r ∧ PE r.2 ∧ PF M r.2 ∧ ((r.1 = 0 ∧ r.2 = M) ∨ (r.1 = 1 ∧ xA r.2 = xA M + 1)) := by
  unfold f_Mod_passes
  refine bind_i (sp_fine M) (fun x _ q => ?_)
  rcases q with ⟨q1, rfl⟩ | ⟨q1, rfl⟩
  · refine if_i (fun c => absurd c (by decide)) (fun _ => ?_)
    refine bind_i (sp_here h.1.1) (fun y _ hy => ?_)
    refine if_i (fun e => ?_) (fun e => ⟨_, rfl, h, PF.r, .inl ⟨rfl, rfl⟩⟩)
    subst e
    obtain ⟨g1, g2⟩ := pe_at1 h (hy hc)
    refine mem_i (fun m e => ⟨_, rfl, ?_⟩)
    subst e
    exact ⟨g1, PF_17 _, .inr ⟨rfl, g2⟩⟩
  · refine if_i (fun c => ⟨_, rfl, h, PF.r, .inl ⟨rfl, rfl⟩⟩) (fun c => absurd rfl c)
theorem PE.f {M N : Mem} (h : PE M) (j : PI N) (f : PF M N) (ha : xA N ≤ 40) : PE N := ⟨j, ha, by rw [f.T]; exact h.2.2⟩
theorem pe_number {M : Mem} (h : PE M) : ∃ r, f_Mod_number 3 M = some r ∧ PE r.2 ∧ PF M r.2 ∧ xA M ≤ xA r.2 := by
  unfold f_Mod_number
  refine bind_i (sp_fine M) (fun x _ q => ?_)
  rcases q with ⟨q1, rfl⟩ | ⟨q1, rfl⟩
  · refine if_i (fun c => absurd c (by decide)) (fun _ => ?_)
    have hl : ∃ x, iter (lb_Mod_number_16 3 (M.1 162 17)) FU ((0 : Int32), M) = some x ∧ (PE x.2 ∧ PF M x.2 ∧ xA M ≤ xA x.2) := by
      refine iter_r (fun s : Int32 × Mem => PE s.2 ∧ PF M s.2 ∧ xA M ≤ xA s.2) (fun s : Int32 × Mem => (41 - xA s.2).toNat) _ ?_ FU _ ⟨h, PF.r, Int.le_refl _⟩ (by have := aA h.1.1; show (41 - xA M).toNat < FU; rw [FU_v]; omega)
      rintro ⟨v, N⟩ ⟨i1, i2, i3⟩
      dsimp only at i1 i2 i3
      unfold lb_Mod_number_16
      dsimp only
      refine if_i (fun _ => ⟨_, rfl, i1, i2, i3⟩) (fun _ => ?_)
      refine bind_i (sp_here i1.1.1) (fun x2 ex2 q2 => ?_)
      refine bind_i (sp_in x2 48 57) (fun x3 _ q3 => ?_)
      rcases q3 with ⟨rfl, q31, q32⟩ | ⟨rfl, q3⟩
      · refine if_i (fun c => absurd c (by decide)) (fun _ => ?_)
        have k48 : (48 : Int32).toInt = 48 := rfl
        obtain ⟨g1, g2⟩ := pe_at1 i1 (q2 (by omega))
        refine bind_i (Q := fun y => y = x2) ⟨x2, ex2, rfl⟩ (fun x4 _ _ => ?_)
        refine mem_i (fun m e => ⟨_, rfl, ?_⟩)
        subst e
        refine ⟨⟨g1, i2.t (PF_17 _), ?_⟩, ?_⟩
        · show xA M ≤ xA (s_i N 162 17 ((N.1 162 17) + (1 : Int32))); omega
        · have := i1.2.1; show (41 - xA (s_i N 162 17 ((N.1 162 17) + (1 : Int32)))).toNat < (41 - xA N).toNat; omega
      · exact if_i (fun _ => ⟨_, rfl, i1, i2, i3⟩) (fun c => absurd rfl c)
    refine bind_i hl (fun x _ q => ?_)
    obtain ⟨w1, w2, w3⟩ := q
    unfold j_Mod_number_66
    refine if_i (fun c => ?_) (fun c => ⟨_, rfl, w1, w2, w3⟩)
    refine bind_i (sp_faultA w1.1.1) (fun y _ q => ⟨_, rfl, w1.f q.1 q.2.1 ?_, w2.t q.2.1, ?_⟩)
    · have := w1.2.1; have := q.2.2.1; show xA y ≤ 40; omega
    · have := q.2.2.1; show xA M ≤ xA y; omega
  · refine if_i (fun _ => ⟨_, rfl, h, PF.r, Int.le_refl _⟩) (fun c => absurd rfl c)
/-- what a reading function of THE RULE leaves -/
def XQ (M : Mem) (r : Int32 × Mem) : Prop := PE r.2 ∧ PF M r.2 ∧ xA M ≤ xA r.2
def RcOk (rc : Nat → Int32 → Mem → Option (Int32 × Mem)) (n : Int) : Prop := ∀ (w : Nat) (d : Int32) (M : Mem), PE M → 0 ≤ d.toInt → d.toInt ≤ 4 → 56 - xA M - 3 * d.toInt - (if w = 0 then 0 else if w = 1 then 1 else if w = 2 then 2 else 3) ≤ n → ∃ r, rc w d M = some r ∧ XQ M r
theorem sp_thing142 (rc : Nat → Int32 → Mem → Option (Int32 × Mem)) (c : Int32) {M : Mem} (h : PE M) (hl : xA M < xL M ∧ xA M < xT M) : ∃ r, j_Mod_thing_142 rc c M = some r ∧ XQ M r := by
  unfold j_Mod_thing_142
  obtain ⟨g1, g2⟩ := pe_at1 h hl
  refine mem_i (fun M5 e5 => ?_)
  subst e5
  refine if_i (fun _ => ⟨_, rfl, g1, PF_17 _, ?_⟩) (fun hn => ?_)
  · show xA M ≤ xA (s_i M 162 17 ((M.1 162 17) + (1 : Int32))); omega
  rcases g1.1.1.2.2.2.2.1 with e | ⟨k, e, hs⟩
  · exact absurd e hn
  · rw [e, Option.bind_some]
    refine c_i (St_kd hs) ?_
    have a := Jr_162_25 g1.1.1
    refine bind_i (sp_letter c k _ g1.1.1 hs a) (fun x _ _ => ⟨_, rfl, g1, PF_17 _, ?_⟩)
    show xA M ≤ xA (s_i M 162 17 ((M.1 162 17) + (1 : Int32))); omega
theorem sp_thing67 (rc : Nat → Int32 → Mem → Option (Int32 × Mem)) (c : Int32) {M : Mem} (h : PE M) (hc : c.toInt ≠ -1 → xA M < xL M ∧ xA M < xT M) : ∃ r, j_Mod_thing_67 rc c M = some r ∧ XQ M r := by
  unfold j_Mod_thing_67
  refine bind_i (sp_in c 48 57) (fun x4 _ q => ?_)
  rcases q with ⟨rfl, q1, q2⟩ | ⟨rfl, q⟩
  · refine if_i (fun c => absurd c (by decide)) (fun _ => ?_)
    exact bind_i (pe_number h) (fun x _ q => ⟨_, rfl, q.1, q.2.1, q.2.2⟩)
  · refine if_i (fun _ => ?_) (fun c => absurd rfl c)
    have k := fun (e : c.toInt ≠ -1) => sp_thing142 rc c h (hc e)
    refine if_i (fun e => k (by subst e; decide)) (fun _ => if_i (fun e => k (by subst e; decide)) (fun _ => if_i (fun e => k (by subst e; decide)) (fun _ => if_i (fun e => k (by subst e; decide)) (fun _ => if_i (fun e => k (by subst e; decide)) (fun _ => if_i (fun e => k (by subst e; decide)) (fun _ => if_i (fun e => k (by subst e; decide)) (fun _ => if_i (fun e => k (by subst e; decide)) (fun _ => ?_))))))))
    refine bind_i (sp_faultA h.1.1) (fun y _ q => ⟨_, rfl, h.f q.1 q.2.1 ?_, q.2.1, ?_⟩)
    · have := h.2.1; have := q.2.2.1; show xA y ≤ 40; omega
    · have := q.2.2.1; show xA M ≤ xA y; omega
theorem sp_fbthing (rc : Nat → Int32 → Mem → Option (Int32 × Mem)) (n : Int) (hr : RcOk rc n) (d : Int32) {M : Mem} (h : PE M) (h0 : 0 ≤ d.toInt) (h4 : d.toInt ≤ 4) (hn : 56 - xA M - 3 * d.toInt - 3 ≤ n + 1) : ∃ r, fb_Mod_thing rc d M = some r ∧ XQ M r := by
  unfold fb_Mod_thing
  refine bind_i (pe_passes h 45 (by decide)) (fun x1 _ q => ?_)
  obtain ⟨q1, q2, q3⟩ := q
  rcases q3 with ⟨e1, e2⟩ | ⟨e1, e2⟩
  · rw [e1, e2]
    refine if_i (fun _ => ?_) (fun c => absurd rfl c)
    refine bind_i (sp_fine M) (fun x2 _ q => ?_)
    rcases q with ⟨p1, rfl⟩ | ⟨p1, rfl⟩
    · refine if_i (fun c => absurd c (by decide)) (fun _ => ?_)
      refine bind_i (sp_here h.1.1) (fun x3 _ q => ?_)
      refine if_i (fun e => ?_) (fun _ => sp_thing67 rc x3 h q)
      refine if_i (fun _ => sp_thing67 rc x3 h q) (fun c => ?_)
      have d4 : d.toInt < 4 := nlei.mp c
      obtain ⟨g1, g2⟩ := pe_at1 h (q (by subst e; decide))
      refine mem_i (fun M20 e20 => ?_)
      rw [← e20] at g1 g2
      have f20 : PF M M20 := by rw [e20]; exact PF_17 _
      have ed : (d + (1 : Int32)).toInt = d.toInt + 1 := add_ti rfl rfl (by omega) (by omega)
      refine bind_i (hr 0 (d + (1 : Int32)) M20 g1 (by omega) (by omega) (by rw [if_pos rfl]; omega)) (fun x21 _ p => ?_)
      obtain ⟨p1, p2, p3⟩ := p
      refine bind_i (sp_need p1.1 41 (by decide)) (fun x22 _ s => ⟨_, rfl, ?_, (f20.t p2).t s.2.1, ?_⟩)
      · refine p1.f s.1 s.2.1 ?_
        obtain ⟨s1, s2, s3, s4, s5⟩ := s
        by_cases hw : xW x22 = -1
        · obtain ⟨u1, u2, u3⟩ := s5 hw
          have := s1.2 hw
          have l1 := p1.2.1
          have t1 := p1.2.2
          -- the sign ')' stood below top
          obtain ⟨r, er, k1, k2, k3⟩ := pe_passes p1 41 (by decide)
          have : f_Mod_need 41 x21.2 = some x22 := by assumption
          unfold f_Mod_need at this
          rw [er, Option.bind_some] at this
          rcases k3 with ⟨k4, k5⟩ | ⟨k4, k5⟩
          · rw [k4, if_pos rfl, k5] at this
            obtain ⟨y, ey, -, -, y3, y4⟩ := sp_faultA p1.1.1
            rw [ey, Option.bind_some] at this
            have := Option.some.inj this
            subst this
            exact absurd hw y4
          · rw [k4, if_neg (by decide)] at this
            have := Option.some.inj this
            rw [← this]; exact k1.2.1
        · have : f_Mod_need 41 x21.2 = some x22 := by assumption
          obtain ⟨r, er, k1, k2, k3⟩ := pe_passes p1 41 (by decide)
          unfold f_Mod_need at this
          rw [er, Option.bind_some] at this
          rcases k3 with ⟨k4, k5⟩ | ⟨k4, k5⟩
          · rw [k4, if_pos rfl, k5] at this
            obtain ⟨y, ey, -, -, y3, y4⟩ := sp_faultA p1.1.1
            rw [ey, Option.bind_some] at this
            have := Option.some.inj this
            subst this
            have := p1.2.1; show xA y ≤ 40; omega
          · rw [k4, if_neg (by decide)] at this
            have := Option.some.inj this
            rw [← this]; exact k1.2.1
      · have := s.2.2.1; show xA M ≤ xA x22; omega
    · exact if_i (fun _ => ⟨_, rfl, h, PF.r, Int.le_refl _⟩) (fun c => absurd rfl c)
  · rw [e1]
    refine if_i (fun c => absurd c (by decide)) (fun _ => ?_)
    refine bind_i (hr 3 d x1.2 q1 h0 h4 (by show _ - (3 : Int) ≤ n; omega)) (fun x26 _ p => ⟨_, rfl, p.1, q2.t p.2.1, ?_⟩)
    have := p.2.2; show xA M ≤ xA x26.2; omega
theorem sp_fbprod (rc : Nat → Int32 → Mem → Option (Int32 × Mem)) (n : Int) (hr : RcOk rc n) (d : Int32) {M : Mem} (h : PE M) (h0 : 0 ≤ d.toInt) (h4 : d.toInt ≤ 4) (hn : 56 - xA M - 3 * d.toInt - 2 ≤ n + 1) : ∃ r, fb_Mod_product rc d M = some r ∧ XQ M r := by
  unfold fb_Mod_product
  refine bind_i (hr 3 d M h h0 h4 (by show _ - (3 : Int) ≤ n; omega)) (fun x1 _ p => ?_)
  obtain ⟨p1, p2, p3⟩ := p
  have hl : ∃ x, iter (lb_Mod_product_6 rc d) FU (x1.1, x1.2) = some x ∧ XQ M x := by
    refine iter_r (fun s : Int32 × Mem => XQ M s) (fun s : Int32 × Mem => (41 - xA s.2).toNat) _ ?_ FU _ ⟨p1, p2, p3⟩ (by have := aA p1.1.1; show (41 - xA x1.2).toNat < FU; rw [FU_v]; omega)
    rintro ⟨v, N⟩ ⟨i1, i2, i3⟩
    dsimp only at i1 i2 i3
    unfold lb_Mod_product_6
    dsimp only
    refine bind_i (sp_fine N) (fun x2 _ q => ?_)
    rcases q with ⟨q1, rfl⟩ | ⟨q1, rfl⟩
    · refine if_i (fun c => absurd c (by decide)) (fun _ => ?_)
      have key : xA N < xL N ∧ xA N < xT N → ∃ r, j_Mod_product_31_6 rc d v N = some r ∧ LPq (fun s : Int32 × Mem => XQ M s) (fun s : Int32 × Mem => (41 - xA s.2).toNat) (XQ M) (41 - xA N).toNat r := by
        intro hh
        have k45 : ∀ w0 : Int32, ∃ r, j_Mod_product_45_6 rc d v w0 N = some r ∧ LPq (fun s : Int32 × Mem => XQ M s) (fun s : Int32 × Mem => (41 - xA s.2).toNat) (XQ M) (41 - xA N).toNat r := by
          intro w0
          unfold j_Mod_product_45_6
          obtain ⟨g1, g2⟩ := pe_at1 i1 hh
          refine mem_i (fun M5 e5 => ?_)
          rw [← e5] at g1 g2
          have f5 : PF N M5 := by rw [e5]; exact PF_17 _
          refine bind_i (hr 3 d M5 g1 h0 h4 (by show _ - (3 : Int) ≤ n; omega)) (fun x6 _ p => ?_)
          obtain ⟨t1, t2, t3⟩ := p
          have fin : ∀ b : Int32, LPq (fun s : Int32 × Mem => XQ M s) (fun s : Int32 × Mem => (41 - xA s.2).toNat) (XQ M) (41 - xA N).toNat (.inl (b, x6.2)) := by
            intro b
            refine ⟨⟨t1, (i2.t f5).t t2, ?_⟩, ?_⟩
            · show xA M ≤ xA x6.2; omega
            · have := i1.2.1; show (41 - xA x6.2).toNat < (41 - xA N).toNat; omega
          refine if_i (fun _ => ?_) (fun _ => ⟨_, rfl, fin _⟩)
          refine if_i (fun _ => ⟨_, rfl, fin _⟩) (fun c => z_i c ⟨_, rfl, fin _⟩)
        unfold j_Mod_product_31_6
        exact bind_i (sp_here i1.1.1) (fun x4 _ _ => if_i (fun _ => k45 1) (fun _ => k45 0))
      refine bind_i (sp_here i1.1.1) (fun x3 _ q => ?_)
      refine if_i (fun e => key (q (by subst e; decide))) (fun _ => ?_)
      refine bind_i (sp_here i1.1.1) (fun x10 _ q => ?_)
      exact if_i (fun e => key (q (by subst e; decide))) (fun _ => ⟨_, rfl, i1, i2, i3⟩)
    · exact if_i (fun _ => ⟨_, rfl, i1, i2, i3⟩) (fun c => absurd rfl c)
  exact bind_i hl (fun x _ q => ⟨_, rfl, q⟩)
theorem sp_fbsum (rc : Nat → Int32 → Mem → Option (Int32 × Mem)) (n : Int) (hr : RcOk rc n) (d : Int32) {M : Mem} (h : PE M) (h0 : 0 ≤ d.toInt) (h4 : d.toInt ≤ 4) (hn : 56 - xA M - 3 * d.toInt - 1 ≤ n + 1) : ∃ r, fb_Mod_sum rc d M = some r ∧ XQ M r := by
  unfold fb_Mod_sum
  refine bind_i (hr 2 d M h h0 h4 (by show _ - (2 : Int) ≤ n; omega)) (fun x1 _ p => ?_)
  obtain ⟨p1, p2, p3⟩ := p
  have hl : ∃ x, iter (lb_Mod_sum_6 rc d) FU (x1.1, x1.2) = some x ∧ XQ M x := by
    refine iter_r (fun s : Int32 × Mem => XQ M s) (fun s : Int32 × Mem => (41 - xA s.2).toNat) _ ?_ FU _ ⟨p1, p2, p3⟩ (by have := aA p1.1.1; show (41 - xA x1.2).toNat < FU; rw [FU_v]; omega)
    rintro ⟨v, N⟩ ⟨i1, i2, i3⟩
    dsimp only at i1 i2 i3
    unfold lb_Mod_sum_6
    dsimp only
    refine bind_i (sp_fine N) (fun x2 _ q => ?_)
    rcases q with ⟨q1, rfl⟩ | ⟨q1, rfl⟩
    · refine if_i (fun c => absurd c (by decide)) (fun _ => ?_)
      have key : xA N < xL N ∧ xA N < xT N → ∃ r, j_Mod_sum_31_6 rc d v N = some r ∧ LPq (fun s : Int32 × Mem => XQ M s) (fun s : Int32 × Mem => (41 - xA s.2).toNat) (XQ M) (41 - xA N).toNat r := by
        intro hh
        have k45 : ∀ w0 : Int32, ∃ r, j_Mod_sum_45_6 rc d v w0 N = some r ∧ LPq (fun s : Int32 × Mem => XQ M s) (fun s : Int32 × Mem => (41 - xA s.2).toNat) (XQ M) (41 - xA N).toNat r := by
          intro w0
          unfold j_Mod_sum_45_6
          obtain ⟨g1, g2⟩ := pe_at1 i1 hh
          refine mem_i (fun M5 e5 => ?_)
          rw [← e5] at g1 g2
          have f5 : PF N M5 := by rw [e5]; exact PF_17 _
          refine bind_i (hr 2 d M5 g1 h0 h4 (by show _ - (2 : Int) ≤ n; omega)) (fun x6 _ p => ?_)
          obtain ⟨t1, t2, t3⟩ := p
          have fin : ∀ b : Int32, LPq (fun s : Int32 × Mem => XQ M s) (fun s : Int32 × Mem => (41 - xA s.2).toNat) (XQ M) (41 - xA N).toNat (.inl (b, x6.2)) := by
            intro b
            refine ⟨⟨t1, (i2.t f5).t t2, ?_⟩, ?_⟩
            · show xA M ≤ xA x6.2; omega
            · have := i1.2.1; show (41 - xA x6.2).toNat < (41 - xA N).toNat; omega
          exact if_i (fun _ => ⟨_, rfl, fin _⟩) (fun _ => ⟨_, rfl, fin _⟩)
        unfold j_Mod_sum_31_6
        exact bind_i (sp_here i1.1.1) (fun x4 _ _ => if_i (fun _ => k45 1) (fun _ => k45 0))
      refine bind_i (sp_here i1.1.1) (fun x3 _ q => ?_)
      refine if_i (fun e => key (q (by subst e; decide))) (fun _ => ?_)
      refine bind_i (sp_here i1.1.1) (fun x10 _ q => ?_)
      exact if_i (fun e => key (q (by subst e; decide))) (fun _ => ⟨_, rfl, i1, i2, i3⟩)
    · exact if_i (fun _ => ⟨_, rfl, i1, i2, i3⟩) (fun c => absurd rfl c)
  exact bind_i hl (fun x _ q => ⟨_, rfl, q⟩)
theorem sp_fbheld (rc : Nat → Int32 → Mem → Option (Int32 × Mem)) (n : Int) (hr : RcOk rc n) (d : Int32) {M : Mem} (h : PE M) (h0 : 0 ≤ d.toInt) (h4 : d.toInt ≤ 4) (hn : 56 - xA M - 3 * d.toInt ≤ n + 1) : ∃ r, fb_Mod_held rc d M = some r ∧ XQ M r := by
  have rs : ∀ N : Mem, PE N → xA M ≤ xA N → ∃ r, rc 1 d N = some r ∧ XQ N r := fun N hN hle => hr 1 d N hN h0 h4 (by show _ - (1 : Int) ≤ n; omega)
  unfold fb_Mod_held
  refine bind_i (rs M h (Int.le_refl _)) (fun x1 _ p => ?_)
  obtain ⟨p1, p2, p3⟩ := p
  have fin : ∀ N : Mem, PE N → PF M N → xA M ≤ xA N → ∀ r : Int32 × Mem, XQ N r → ∀ b : Int32, XQ M (b, r.2) := by
    intro N n1 n2 n3 r hr b
    exact ⟨hr.1, n2.t hr.2.1, by have := hr.2.2; show xA M ≤ xA r.2; omega⟩
  refine bind_i (pe_passes p1 60 (by decide)) (fun x2 _ q => ?_)
  obtain ⟨a1, a2, a3⟩ := q
  have A2 : xA M ≤ xA x2.2 := by rcases a3 with ⟨_, e⟩ | ⟨_, e⟩; rw [e]; exact p3; omega
  refine if_i (fun _ => ?_) (fun _ => ?_)
  · refine bind_i (pe_passes a1 62 (by decide)) (fun x3 _ q => ?_)
    obtain ⟨b1, b2, b3⟩ := q
    have A3 : xA M ≤ xA x3.2 := by rcases b3 with ⟨_, e⟩ | ⟨_, e⟩; rw [e]; exact A2; omega
    refine if_i (fun _ => ?_) (fun _ => ?_)
    · refine bind_i (pe_passes b1 61 (by decide)) (fun x4 _ q => ?_)
      obtain ⟨c1, c2, c3⟩ := q
      have A4 : xA M ≤ xA x4.2 := by rcases c3 with ⟨_, e⟩ | ⟨_, e⟩; rw [e]; exact A3; omega
      refine if_i (fun _ => ⟨_, rfl, c1, ((p2.t a2).t b2).t c2, A4⟩) (fun _ => ?_)
      refine bind_i (rs x4.2 c1 A4) (fun x5 _ p => ?_)
      exact if_i (fun _ => ⟨_, rfl, fin x4.2 c1 (((p2.t a2).t b2).t c2) A4 x5 p _⟩) (fun _ => ⟨_, rfl, fin x4.2 c1 (((p2.t a2).t b2).t c2) A4 x5 p _⟩)
    · refine bind_i (rs x3.2 b1 A3) (fun x5 _ p => ?_)
      exact if_i (fun _ => ⟨_, rfl, fin x3.2 b1 ((p2.t a2).t b2) A3 x5 p _⟩) (fun _ => ⟨_, rfl, fin x3.2 b1 ((p2.t a2).t b2) A3 x5 p _⟩)
  · refine bind_i (rs x2.2 a1 A2) (fun x5 _ p => ?_)
    exact if_i (fun _ => ⟨_, rfl, fin x2.2 a1 (p2.t a2) A2 x5 p _⟩) (fun _ => ⟨_, rfl, fin x2.2 a1 (p2.t a2) A2 x5 p _⟩)
theorem sp_expr : ∀ n : Nat, RcOk (fr_expr n) n := by
  intro n
  induction n with
  | zero =>
    intro w d M h h0 h4 hn
    exfalso
    have := h.2.1
    revert hn
    split
    · omega
    split
    · omega
    split <;> omega
  | succ n ih =>
    intro w d M h h0 h4 hn
    show ∃ r, (if w = 0 then fb_Mod_held (fr_expr n) d M else if w = 1 then fb_Mod_sum (fr_expr n) d M else if w = 2 then fb_Mod_product (fr_expr n) d M else fb_Mod_thing (fr_expr n) d M) = some r ∧ XQ M r
    refine if_i (fun e => ?_) (fun e => if_i (fun e1 => ?_) (fun e1 => if_i (fun e2 => ?_) (fun e2 => ?_)))
    · rw [if_pos e] at hn
      exact sp_fbheld _ n ih d h h0 h4 (by omega)
    · rw [if_neg e, if_pos e1] at hn
      exact sp_fbsum _ n ih d h h0 h4 (by omega)
    · rw [if_neg e, if_neg e1, if_pos e2] at hn
      exact sp_fbprod _ n ih d h h0 h4 (by omega)
    · rw [if_neg e, if_neg e1, if_neg e2] at hn
      exact sp_fbthing _ n ih d h h0 h4 (by omega)
theorem sp_held {M : Mem} (h : PE M) : ∃ r, f_Mod_held 0 M = some r ∧ XQ M r := by
  have := aA h.1.1
  exact sp_expr 100 0 0 M h (by decide) (by decide) (by rw [if_pos rfl]; have z : (0 : Int32).toInt = 0 := rfl; omega)
/-! the reference: rule, goes; safety -/
theorem Jq24 {M : Mem} (h : J M) {z : Option Nat} (hz : z = none ∨ ∃ k, z = some k ∧ St k) : J (s_q M 162 24 z) := by
  refine ⟨h.1, h.2.1, ⟨fun i hi => ?_, fun i hi => ?_⟩, ?_, ?_, h.2.2.2.2.2⟩
  · have := h.2.2.1.1 i hi
    simp only [s_q, if_neg (show ¬ (47 = 162 ∧ i = 24) by omega)]; exact this
  · have := h.2.2.1.2 i hi
    simp only [s_q, if_neg (show ¬ (48 = 162 ∧ i = 24) by omega)]; exact this
  · have := h.2.2.2.1
    simp only [s_q, if_neg (show ¬ (162 = 162 ∧ 14 = 24) by decide)]; exact this
  · simp only [s_q, if_pos (show (162 = 162 ∧ 24 = 24) by decide)]; exact hz
theorem PIq24 {M : Mem} (h : PI M) {z : Option Nat} (hz : z = none ∨ ∃ k, z = some k ∧ St k) : PI (s_q M 162 24 z) := ⟨Jq24 h.1 hz, h.2⟩
theorem sl_rule73 (v1 : Int32) {M : Mem} (h : J M) (hv : v1.toInt ≤ 40) : ∃ x, iter (lb_Mod_rule_73 v1) FU ((0 : Int32), M) = some x ∧ (J x ∧ Fr (fun k _ => k = 172) M x ∧ x.2 = M.2) := by
  refine cnt_r _ (fun _ N => J N ∧ Fr (fun k _ => k = 172) M N ∧ N.2 = M.2) 40 (by decide) ?_ M ⟨h, Fr.r, rfl⟩ (by decide)
  intro k N k0 k1 hI
  unfold lb_Mod_rule_73
  dsimp only
  refine if_i (fun c => ⟨_, rfl, .inl ⟨_, rfl, hI⟩⟩) (fun c => ?_)
  have d := nlei.mp c
  refine inb_i k0 (by omega) (inb_i k0 (by omega) ?_)
  refine mem_i (fun m e => ⟨_, rfl, .inr ⟨by omega, m, rfl, ?_⟩⟩)
  rw [e]; exact ⟨Jw_any ok_172 hI.1 _ _, hI.2.1.i rfl, hI.2.2⟩
abbrev WG (k i : Nat) : Prop := k = 162 ∧ ((14 ≤ i ∧ i ≤ 18) ∨ i = 25)
theorem sp_goes31 {M : Mem} (h : J M) (v1 : Nat) (v2 : Int32) (hs : St v1) (h2 : 0 ≤ v2.toInt ∧ v2.toInt ≤ 7) : ∃ r, j_Mod_goes_31 v1 v2 M = some r ∧ J r.2 ∧ (r.1 = 0 ∨ r.1 = 1) ∧ Fr WG M r.2 := by
  have z := Jr_162_23 h
  unfold j_Mod_goes_31
  refine if_i (fun _ => ⟨_, rfl, h, .inr rfl, Fr.r⟩) (fun _ => ?_)
  refine bind_i (sp_begin h 172 (M.1 162 23) 40 (.inr ⟨rfl, z.1, z.2, by decide, by decide⟩)) (fun x1 _ q => ?_)
  obtain ⟨b1, b2, b3, b4, b5, b6⟩ := q
  refine mem_i (fun M2 e2 => mem_i (fun M3 e3 => ?_))
  have p2 : PI M2 := by rw [e2]; exact PIq24 b1 (.inr ⟨v1, rfl, hs⟩)
  have j3 : J M3 := by rw [e3]; exact Jw_162_25 p2.1 _ h2.1 h2.2
  have A3 : xA M3 = 0 := by rw [xA, e3, si_ne (by decide), e2]; exact b3
  have W3 : xL M3 = xL M2 := by rw [xL, e3, si_ne (by decide)]
  have T3 : xT M3 = 40 := by rw [xT, e3, si_ne (by decide), e2]; exact b6
  have L3 := aL j3
  have pe : PE M3 := ⟨⟨j3, fun _ => by omega⟩, by omega, by omega⟩
  have f3 : Fr WG M M3 := by
    rw [e3, e2]
    exact (show Fr WG M (s_q x1 162 24 (some v1)) from b2.m (fun k i w => ⟨w.1, .inl w.2⟩)).i ⟨rfl, .inr rfl⟩
  refine bind_i (sp_held pe) (fun x4 _ p => ?_)
  obtain ⟨p1, p2, p3⟩ := p
  have f4 : Fr WG M x4.2 := f3.t (p2.fr ⟨rfl, .inl ⟨by decide, by decide⟩⟩ ⟨rfl, .inl ⟨by decide, by decide⟩⟩)
  exact if_i (fun _ => ⟨_, rfl, p1.1.1, .inl rfl, f4⟩) (fun _ => ⟨_, rfl, p1.1.1, .inr rfl, f4⟩)
theorem sp_goes {M : Mem} (h : J M) (v1 : Nat) (v2 : Int32) (hs : St v1) (h2 : 0 ≤ v2.toInt ∧ v2.toInt ≤ 7) : ∃ r, f_Mod_goes v1 v2 M = some r ∧ J r.2 ∧ (r.1 = 0 ∨ r.1 = 1) ∧ Fr WG M r.2 := by
  have l := St_ln hs
  unfold f_Mod_goes
  refine c_i (St_kd hs) (c_i (by rw [l]; decide) ?_)
  refine if_i (fun _ => ?_) (fun _ => sp_goes31 h v1 v2 hs h2)
  have hh : ∃ r, f_Mod_has (M.1 162 5) v2 = some r ∧ True := by
    unfold f_Mod_has; exact if_i (fun _ => ⟨_, rfl, trivial⟩) (fun _ => ⟨_, rfl, trivial⟩)
  refine bind_i hh (fun x7 _ _ => ?_)
  refine if_i (fun _ => sp_goes31 h v1 v2 hs h2) (fun _ => ?_)
  refine inb_i h2.1 (by rw [l]; omega) ?_
  unfold f_Mod_levelOf
  rw [Option.bind_some]
  exact if_i (fun _ => ⟨_, rfl, h, .inl rfl, Fr.r⟩) (fun _ => sp_goes31 h v1 v2 hs h2)
theorem sf_Mod_rule (M : Mem) (hJ : J M) : ∃ r : Int32 × Mem, f_Mod_rule M = some r ∧ (J r.2 ∧ (∀ k i, k < 162 → r.2.1 k i = M.1 k i) ∧ r.2.1 162 10 = 0 ∧ (∀ k i, kq k i = true → r.2.1 k i = M.1 k i)) := by
  unfold f_Mod_rule
  refine mem_i (fun M1 e1 => ?_)
  have j1 : J M1 := by rw [e1]; exact Jw_fld okf_162_13 hJ _
  have t1 := Jr_162_10 j1
  refine bind_i (sp_begin j1 167 (M1.1 162 10) 40 (.inl ⟨rfl, t1.1, t1.2, by decide, by decide⟩)) (fun x2 _ q => ?_)
  obtain ⟨b1, b2, b3, b4, b5, b6⟩ := q
  refine mem_i (fun M3 e3 => mem_i (fun M4 e4 => ?_))
  have j3 : J M3 := by rw [e3]; exact Jw_162_10 b1.1 _ (by decide) (by decide)
  have A3 : xA M3 = xA x2 := by rw [xA, e3, si_ne (by decide)]
  have W3 : xW M3 = xW x2 := by rw [xW, e3, si_ne (by decide)]
  have L3 : xL M3 = xL x2 := by rw [xL, e3, si_ne (by decide)]
  have T3 : xT M3 = xT x2 := by rw [xT, e3, si_ne (by decide)]
  have p3 : PI M3 := ⟨j3, fun e => by rw [A3, L3]; exact b1.2 (W3 ▸ e)⟩
  have p4 : PI M4 := by rw [e4]; exact PIq24 p3 (.inl rfl)
  have g4 : (∀ k i, k < 162 → M4.1 k i = M.1 k i) ∧ M4.1 162 10 = 0 := by
    have e41 : M4.1 = M3.1 := by rw [e4]; rfl
    rw [e41]
    refine ⟨fun k i hk => ?_, by rw [e3, si_eq]⟩
    rw [e3, si_ne (by intro w; omega), b2 k i (by intro w; omega), e1, si_ne (by intro w; omega)]
  have q4 : ∀ k i, kq k i = true → M4.1 k i = M.1 k i := by
    intro k i hk
    have nw : ¬ (k = 162 ∧ i = 10) ∧ ¬ W18 k i ∧ ¬ (k = 162 ∧ i = 13) := by
      simp only [kq, Bool.or_eq_true, Bool.and_eq_true, beq_iff_eq] at hk
      refine ⟨?_, ?_, ?_⟩ <;> intro w <;> omega
    have e41 : M4.1 = M3.1 := by rw [e4]; rfl
    rw [e41, e3, si_ne nw.1, b2 k i nw.2.1, e1, si_ne nw.2.2]
  have fin : ∀ (v : Int32) (N : Mem), v = M1.1 162 10 → J N → (∀ k i, k < 162 → N.1 k i = M.1 k i) → N.1 162 10 = 0 → (∀ k i, kq k i = true → N.1 k i = M.1 k i) → v.toInt ≤ 40 → ∃ r, (Option.bind (iter (lb_Mod_rule_73 v) FU ((0 : Int32), N)) fun x7 => mem_ (s_i x7 162 23 v) fun M8 => some ((0 : Int32), M8)) = some r ∧ (J r.2 ∧ (∀ k i, k < 162 → r.2.1 k i = M.1 k i) ∧ r.2.1 162 10 = 0 ∧ (∀ k i, kq k i = true → r.2.1 k i = M.1 k i)) := by
    intro v N hv n1 n2 n3 nq n4
    refine bind_i (sl_rule73 v n1 n4) (fun x7 _ p => mem_i (fun M8 e8 => ⟨_, rfl, ?_, fun k i hk => ?_, ?_, fun k i hk => ?_⟩))
    · rw [e8]; exact Jw_162_23 p.1 _ (by rw [hv]; exact t1.1) n4
    · rw [e8, si_ne (by intro w; omega), p.2.1 k i (by omega)]; exact n2 k i hk
    · rw [e8, si_ne (by decide), p.2.1 162 10 (by decide)]; exact n3
    · have nw : k ≠ 172 ∧ ¬ (k = 162 ∧ i = 23) := by
        simp only [kq, Bool.or_eq_true, Bool.and_eq_true, beq_iff_eq] at hk
        refine ⟨?_, ?_⟩ <;> intro w <;> omega
      show M8.1 k i = _
      rw [e8, si_ne nw.2, p.2.1 k i nw.1]; exact nq k i hk
  refine if_i (fun c => fin _ M4 rfl p4.1 g4.1 g4.2 q4 (by have := lei.mp c; have z : (0 : Int32).toInt = 0 := rfl; omega)) (fun _ => ?_)
  have A4 : xA M4 = xA M3 := by rw [e4]; rfl
  have T4 : xT M4 = xT M3 := by rw [e4]; rfl
  have L4 : xL M4 = xL M3 := by rw [e4]; rfl
  have t40 : (40 : Int32).toInt = 40 := rfl
  refine bind_i (sp_held (M := M4) ⟨p4, by omega, by omega⟩) (fun x9 _ p => ?_)
  obtain ⟨p1, p2, -⟩ := p
  have k57 : ∀ N : Mem, J N → PF M4 N → (xW N = -1 → (M1.1 162 10).toInt ≤ xA N ∧ xA N ≤ 40) → ∃ r, j_Mod_rule_57 (M1.1 162 10) N = some r ∧ (J r.2 ∧ (∀ k i, k < 162 → r.2.1 k i = M.1 k i) ∧ r.2.1 162 10 = 0 ∧ (∀ k i, kq k i = true → r.2.1 k i = M.1 k i)) := by
    intro N n1 n2 n3
    have g : (∀ k i, k < 162 → N.1 k i = M.1 k i) ∧ N.1 162 10 = 0 := ⟨fun k i hk => (n2.1 k i (by omega)).trans (g4.1 k i hk), (n2.1 162 10 (by decide)).trans g4.2⟩
    have qN : ∀ k i, kq k i = true → N.1 k i = M.1 k i := fun k i hk => (n2.1 k i (by
      simp only [kq, Bool.or_eq_true, Bool.and_eq_true, beq_iff_eq] at hk
      intro w; omega)).trans (q4 k i hk)
    unfold j_Mod_rule_57
    refine bind_i (sp_fine N) (fun x _ q => ?_)
    rcases q with ⟨q1, rfl⟩ | ⟨q1, rfl⟩
    · refine if_i (fun c => absurd c (by decide)) (fun _ => ?_)
      exact fin _ N rfl n1 g.1 g.2 qN (by have := n3 q1; omega)
    · exact if_i (fun _ => ⟨_, rfl, n1, g.1, g.2, qN⟩) (fun c => absurd rfl c)
  refine if_i (fun c => k57 x9.2 p1.1.1 p2 (fun _ => ⟨lei.mp c, p1.2.1⟩)) (fun _ => ?_)
  exact bind_i (sp_faultA p1.1.1) (fun y _ q => k57 y q.1.1 (p2.t q.2.1) (fun e => absurd e q.2.2.2))
