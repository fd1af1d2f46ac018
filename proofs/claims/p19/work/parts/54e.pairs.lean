/-! wardrobe: carry is a distance of pairs -/
def plR (M : Mem) (l c s n : Int) : Prop := (s = 4 ∧ n = c) ∨ (s ≠ 4 ∧ ((bes (xw M) (xh M) c s = -1 ∧ n = -1) ∨ (bes (xw M) (xh M) c s ≠ -1 ∧ ¬ onN M l (bes (xw M) (xh M) c s) ∧ n = -1) ∨ (bes (xw M) (xh M) c s ≠ -1 ∧ onN M l (bes (xw M) (xh M) c s) ∧ n = bes (xw M) (xh M) c s)))
theorem plR_fun {M : Mem} {l c s n m : Int} (h1 : plR M l c s n) (h2 : plR M l c s m) : n = m := by
  unfold plR at h1 h2
  rcases h1 with ⟨a1, a2⟩ | ⟨a1, ⟨a2, a3⟩ | ⟨a2, a3, a4⟩ | ⟨a2, a3, a4⟩⟩ <;> rcases h2 with ⟨b1, b2⟩ | ⟨b1, ⟨b2, b3⟩ | ⟨b2, b3, b4⟩ | ⟨b2, b3, b4⟩⟩ <;> first | omega | (exact absurd b3 a3) | (exact absurd a3 b3)
theorem fs_plain {M : Mem} (h : J M) (l c s : Int32) (hc : 0 ≤ c.toInt ∧ c.toInt ≤ 35) : ∃ r, f_Mod_plain l c s M = some r ∧ (plR M l.toInt c.toInt s.toInt r.toInt ∧ -1 ≤ r.toInt ∧ r.toInt ≤ 35) := by
  have n1 : (-1 : Int32).toInt = -1 := rfl
  have c4 : (4 : Int32).toInt = 4 := rfl
  unfold f_Mod_plain
  refine if_i (fun e => ⟨_, rfl, .inl ⟨(eqi.mp e).trans c4, rfl⟩, by omega, by omega⟩) (fun e => ?_)
  have s4 : s.toInt ≠ 4 := fun w => neqi.mp e (w.trans c4.symm)
  obtain ⟨x1, e1, q1⟩ := fs_beside h c s hc
  have g1 := some_of (sf_Mod_beside c s M ⟨by omega, hc.2⟩ h) e1
  refine bind_e e1 (if_i (fun e => ⟨_, rfl, .inr ⟨s4, .inl ⟨by rw [← q1]; exact eqi.mp e, n1⟩⟩, by omega, by omega⟩) (fun e => ?_))
  have b1 : x1.toInt ≠ -1 := neqi.mp e
  obtain ⟨x2, e2, q2⟩ := fs_isOf h l x1
  refine bind_e e2 ?_
  rcases q2 with ⟨rfl, q2⟩ | ⟨rfl, q2⟩
  · exact if_i (fun c => absurd c (by decide)) (fun _ => ⟨_, rfl, .inr ⟨s4, .inr (.inr ⟨by rw [← q1]; exact b1, by rw [← q1]; exact q2, q1⟩)⟩, g1.1, g1.2⟩)
  · exact if_i (fun _ => ⟨_, rfl, .inr ⟨s4, .inr (.inl ⟨by rw [← q1]; exact b1, by rw [← q1]; exact q2, n1⟩)⟩, by omega, by omega⟩) (fun c => absurd rfl c)
theorem pl_sym {M : Mem} (h : J M) {l c s n : Int} (hc : onN M l c) (hs : 0 ≤ s ∧ s ≤ 4) (hp : plR M l c s n) (hn : n ≠ -1) : onN M l n ∧ plR M l n (opp s) c := by
  have w := aw h
  have hh := ah h
  unfold plR at hp
  rcases hp with ⟨a1, a2⟩ | ⟨a1, ⟨a2, a3⟩ | ⟨a2, a3, a4⟩ | ⟨a2, a3, a4⟩⟩
  · subst a1; subst a2
    exact ⟨hc, .inl ⟨by decide, rfl⟩⟩
  · exact absurd a3 hn
  · exact absurd a4 hn
  · have hs3 : 0 ≤ s ∧ s ≤ 3 := by omega
    obtain ⟨s1, s2, s3⟩ := bes_sym w hh hc.1 hc.2.1 hs3 a2
    have o := opp_r hs3
    subst a4
    have c0 := hc.1
    exact ⟨a3, .inr ⟨by omega, .inr (.inr ⟨by rw [s3]; omega, by rw [s3]; exact hc, by rw [s3]⟩)⟩⟩
def neR (M : Mem) (a b : Int) : Prop := a = b ∨ ∃ s : Int, 0 ≤ s ∧ s ≤ 3 ∧ bes (xw M) (xh M) a s = b
theorem fs_areNear {M : Mem} (h : J M) (a b : Int32) (ha : 0 ≤ a.toInt ∧ a.toInt ≤ 35) : ∃ r, f_Mod_areNear a b M = some r ∧ ((r = 1 ∧ neR M a.toInt b.toInt) ∨ (r = 0 ∧ ¬ neR M a.toInt b.toInt)) := by
  unfold f_Mod_areNear
  refine if_i (fun e => ⟨_, rfl, .inl ⟨rfl, .inl (eqi.mp e)⟩⟩) (fun e => ?_)
  have d := neqi.mp e
  have hl : ∃ x, iter (lb_Mod_areNear_9 a b M) FU (0 : Int32) = some x ∧ SQ (fun _ : Unit => ¬ neR M a.toInt b.toInt) (fun _ : Unit => neR M a.toInt b.toInt) x := by
    refine iter_r (fun s : Int32 => 0 ≤ s.toInt ∧ s.toInt ≤ 4 ∧ ∀ t : Int, 0 ≤ t → t < s.toInt → bes (xw M) (xh M) a.toInt t ≠ b.toInt) (fun s : Int32 => (4 - s.toInt).toNat) _ ?_ FU _ ⟨by decide, by decide, fun t t0 t1 => absurd (show t < 0 from t1) (by omega)⟩ (by show (4 - (0 : Int)).toNat < FU; rw [FU_v]; decide)
    rintro s ⟨i1, i2, i3⟩
    have c4 : (4 : Int32).toInt = 4 := rfl
    unfold lb_Mod_areNear_9
    refine if_i (fun c => ⟨_, rfl, ?_⟩) (fun c => ?_)
    · have d4 := lei.mp c
      rintro (w | ⟨t, t0, t1, t2⟩)
      · exact d w
      · exact i3 t t0 (by omega) t2
    have d4 := nlei.mp c
    have es : (s + (1 : Int32)).toInt = s.toInt + 1 := add_ti rfl rfl (by omega) (by omega)
    refine bind_i (fs_beside h a s ha) (fun x1 _ q => ?_)
    refine if_i (fun e => ⟨_, rfl, .inr ⟨s.toInt, i1, by omega, by rw [← q]; exact eqi.mp e⟩⟩) (fun e => ⟨_, rfl, ⟨⟨by omega, by omega, fun t t0 t1 => ?_⟩, ?_⟩⟩)
    · by_cases w : t < s.toInt
      · exact i3 t t0 w
      · have : t = s.toInt := by omega
        rw [this, ← q]; exact neqi.mp e
    · show (4 - (s + (1 : Int32)).toInt).toNat < (4 - s.toInt).toNat; omega
  refine bind_i hl (fun x _ q => ?_)
  rcases x with y | y
  · exact ⟨_, rfl, .inr ⟨rfl, q⟩⟩
  · exact ⟨_, rfl, .inl ⟨rfl, q⟩⟩
def crR (M : Mem) (a b code x : Int) : Prop := ∃ i j : Int, plR M 0 a (code / 10) i ∧ plR M 1 b (code % 10) j ∧ (((i = -1 ∨ j = -1) ∧ x = -1) ∨ (i ≠ -1 ∧ j ≠ -1 ∧ ¬ neR M i j ∧ x = -1) ∨ (i ≠ -1 ∧ j ≠ -1 ∧ neR M i j ∧ x = 36 * i + j))
theorem crR_fun {M : Mem} {a b code x y : Int} (h1 : crR M a b code x) (h2 : crR M a b code y) : x = y := by
  obtain ⟨i, j, p1, p2, p3⟩ := h1
  obtain ⟨i', j', q1, q2, q3⟩ := h2
  have e1 := plR_fun p1 q1
  have e2 := plR_fun p2 q2
  subst e1; subst e2
  rcases p3 with ⟨a1, a2⟩ | ⟨a1, a2, a3, a4⟩ | ⟨a1, a2, a3, a4⟩ <;> rcases q3 with ⟨b1, b2⟩ | ⟨b1, b2, b3, b4⟩ | ⟨b1, b2, b3, b4⟩ <;> first | omega | (exact absurd b3 a3) | (exact absurd a3 b3)
theorem fs_carryTo {M : Mem} (h : J M) (a b c : Int32) (ha : 0 ≤ a.toInt ∧ a.toInt ≤ 35) (hb : 0 ≤ b.toInt ∧ b.toInt ≤ 35) (hc : 0 ≤ c.toInt ∧ c.toInt ≤ 44) : ∃ r, f_Mod_carryTo a b c M = some r ∧ (crR M a.toInt b.toInt c.toInt r.toInt ∧ -1 ≤ r.toInt ∧ r.toInt ≤ 1295) := by
  have n1 : (-1 : Int32).toInt = -1 := rfl
  have rm : (c - c / (10 : Int32) * (10 : Int32)).toInt = c.toInt % 10 := rem_ti rfl rfl hc.1 (by decide)
  have dv : (c / (10 : Int32)).toInt = c.toInt / 10 := div_ti rfl rfl hc.1 (by decide)
  unfold f_Mod_carryTo
  refine bind_i (fs_plain h 0 a _ ha) (fun x1 _ q1 => bind_i (fs_plain h 1 b _ hb) (fun x2 _ q2 => ?_))
  obtain ⟨p1, p2, p3⟩ := q1
  obtain ⟨r1, r2, r3⟩ := q2
  rw [dv] at p1
  rw [rm] at r1
  refine if_i (fun e => ⟨_, rfl, ⟨_, _, p1, r1, .inl ⟨.inl (eqi.mp e), n1⟩⟩, by omega, by omega⟩) (fun e => ?_)
  have d1 : x1.toInt ≠ -1 := neqi.mp e
  refine if_i (fun e => ⟨_, rfl, ⟨_, _, p1, r1, .inl ⟨.inr (eqi.mp e), n1⟩⟩, by omega, by omega⟩) (fun e => ?_)
  have d2 : x2.toInt ≠ -1 := neqi.mp e
  refine bind_i (fs_areNear h x1 x2 (by omega)) (fun x3 _ q3 => ?_)
  rcases q3 with ⟨rfl, q3⟩ | ⟨rfl, q3⟩
  · have m1 : ((36 : Int32) * x1).toInt = 36 * x1.toInt := mul_ti rfl rfl (by omega) (by omega)
    have m2 : (((36 : Int32) * x1) + x2).toInt = 36 * x1.toInt + x2.toInt := add_ti m1 rfl (by omega) (by omega)
    exact if_i (fun c => absurd c (by decide)) (fun _ => ⟨_, rfl, ⟨_, _, p1, r1, .inr (.inr ⟨d1, d2, q3, m2⟩)⟩, by omega, by omega⟩)
  · exact if_i (fun _ => ⟨_, rfl, ⟨_, _, p1, r1, .inr (.inl ⟨d1, d2, q3, n1⟩)⟩, by omega, by omega⟩) (fun c => absurd rfl c)
/-- a pair that may carry -/
def vpR (M : Mem) (x : Int) : Prop := 0 ≤ x ∧ x ≤ 1295 ∧ onN M 0 (x / 36) ∧ onN M 1 (x % 36) ∧ neR M (x / 36) (x % 36)
theorem cr_sym {M : Mem} (h : J M) {x y s t : Int} (hx : vpR M x) (hs : 0 ≤ s ∧ s ≤ 4) (ht : 0 ≤ t ∧ t ≤ 4) (hc : crR M (x / 36) (x % 36) (10 * s + t) y) (hy : y ≠ -1) : vpR M y ∧ crR M (y / 36) (y % 36) (10 * opp s + opp t) x := by
  have wh := awh h
  obtain ⟨x1, x2, x3, x4, x5⟩ := hx
  obtain ⟨i, j, p1, p2, p3⟩ := hc
  have e1 : (10 * s + t) / 10 = s := by omega
  have e2 : (10 * s + t) % 10 = t := by omega
  rw [e1] at p1
  rw [e2] at p2
  rcases p3 with ⟨a1, a2⟩ | ⟨a1, a2, a3, a4⟩ | ⟨a1, a2, a3, a4⟩
  · exact absurd a2 hy
  · exact absurd a4 hy
  · obtain ⟨u1, u2⟩ := pl_sym h x3 hs p1 a1
    obtain ⟨v1, v2⟩ := pl_sym h x4 ht p2 a2
    have i0 := u1.1
    have i1 := u1.2.1
    have j0 := v1.1
    have j1 := v1.2.1
    have f1 : y / 36 = i := by omega
    have f2 : y % 36 = j := by omega
    have os : 0 ≤ opp s ∧ opp s ≤ 4 := by
      by_cases e : s = 4
      · subst e; decide
      · have := opp_r (s := s) (by omega); omega
    have ot : 0 ≤ opp t ∧ opp t ≤ 4 := by
      by_cases e : t = 4
      · subst e; decide
      · have := opp_r (s := t) (by omega); omega
    have g1 : (10 * opp s + opp t) / 10 = opp s := by omega
    have g2 : (10 * opp s + opp t) % 10 = opp t := by omega
    have x30 := x3.1
    have x40 := x4.1
    refine ⟨⟨by omega, by omega, by rw [f1]; exact u1, by rw [f2]; exact v1, by rw [f1, f2]; exact a3⟩, x / 36, x % 36, ?_, ?_, .inr (.inr ⟨by omega, by omega, x5, by omega⟩)⟩
    · rw [f1, g1]; exact u2
    · rw [f2, g2]; exact v2
theorem mapR_c {M B : Mem} (h : MapEq M B) : xw M = xw B ∧ xh M = xh B ∧ (∀ l c, onN M l c ↔ onN B l c) := ⟨by unfold xw; rw [h.1], by unfold xh; rw [h.2.1], fun _ _ => onN_c h⟩
theorem crR_c {M B : Mem} (h : MapEq M B) {a b c x : Int} : crR M a b c x ↔ crR B a b c x := by
  obtain ⟨e1, e2, e3⟩ := mapR_c h
  unfold crR plR neR
  simp only [e1, e2, e3]
abbrev W85 (k _i : Nat) : Prop := k = 185
def un (M : Mem) : Nat → Int := fun i => if (M.1 185 i).toInt < 1000000 then 0 else 1
def cn (M : Mem) : Int := sm (un M) 1296
theorem cn_bd (M : Mem) : 0 ≤ cn M ∧ cn M ≤ 1296 := by
  have := sm_bd (f := un M) (b := 1) (fun i => by unfold un; split <;> omega) 1296
  unfold cn; omega
theorem cn_dec {M : Mem} {i : Nat} {v : Int32} (hi : i < 1296) (hv : v.toInt < 1000000) (hd : 1000000 ≤ (M.1 185 i).toInt) : cn (s_i M 185 i v) = cn M - 1 := by
  unfold cn
  rw [sm_upd (f := un M) hi (fun j hj => by unfold un; rw [si_ne (fun e => hj e.2)])]
  have e1 : un M i = 1 := by unfold un; rw [if_neg (by omega)]
  have e2 : un (s_i M 185 i v) i = 0 := by unfold un; rw [si_eq, if_pos hv]
  rw [e1, e2]; omega
theorem W85.map {B M : Mem} (h : Fr W85 B M) : MapEq M B := ⟨h 162 2 (by decide), h 162 3 (by decide), fun i => h 164 i (by omega)⟩
/-- carry, as far as it is found -/
def QC (B : Mem) (t : Int) (M : Mem) : Prop := J M ∧ Fr W85 B M ∧ M.2 = B.2 ∧ (M.1 185 (37 * t).toNat).toInt = 0 ∧ (∀ x : Nat, x < 1296 → (M.1 185 x).toInt < 1000000 → vpR B x ∧ ((x : Int) = 37 * t ∨ ∃ y : Nat, y < 1296 ∧ ∃ s u : Int, (0 ≤ s ∧ s ≤ 4) ∧ (0 ≤ u ∧ u ≤ 4) ∧ crR B ((y : Int) / 36) ((y : Int) % 36) (10 * s + u) x ∧ (M.1 185 y).toInt + 1 = (M.1 185 x).toInt))
def SC (B : Mem) (t : Int) (acc0 : Int32) (M0_ : Mem) (acc : Int32) (M : Mem) : Prop := QC B t M ∧ (acc = 0 ∨ acc = 1) ∧ cn M ≤ cn M0_ ∧ (acc = 0 → acc0 = 0) ∧ (acc ≠ 0 → acc0 ≠ 0 ∨ cn M < cn M0_) ∧ (∀ x : Nat, x < 1296 → (M0_.1 185 x).toInt < 1000000 → M.1 185 x = M0_.1 185 x)
theorem SC.t {B : Mem} {t : Int} {a0 a1 a2 : Int32} {M0_ M1 M2 : Mem} (h : SC B t a0 M0_ a1 M1) (g : SC B t a1 M1 a2 M2) : SC B t a0 M0_ a2 M2 := by
  obtain ⟨h1, h2, h3, h4, h5, h6⟩ := h
  obtain ⟨g1, g2, g3, g4, g5, g6⟩ := g
  refine ⟨g1, g2, by omega, fun e => h4 (g4 e), fun e => ?_, fun x hx hd => (g6 x hx (by rw [h6 x hx hd]; exact hd)).trans (h6 x hx hd)⟩
  rcases g5 e with w | w
  · rcases h5 w with u | u
    · exact .inl u
    · right; omega
  · right; omega
theorem sl_wardrobe138 {B : Mem} (hB : J B) {t : Int} (ht : 0 ≤ t ∧ t ≤ 35) (v1 v4 v5 v6 : Int32) (h4 : 0 ≤ v4.toInt ∧ v4.toInt ≤ 2000) (h5 : 0 ≤ v5.toInt ∧ v5.toInt ≤ 35) (h6 : 0 ≤ v6.toInt ∧ v6.toInt ≤ 35) {M : Mem} (h : QC B t M) (acc : Int32) (ha : acc = 0 ∨ acc = 1) (hd : (M.1 185 (36 * v5.toInt + v6.toInt).toNat).toInt = v4.toInt) :
    ∃ x, iter (lb_Mod_wardrobe_138 v1 v4 v5 v6) FU (acc, (0 : Int32), M) = some x ∧ SC B t acc M x.1 x.2 := by
  have hv : vpR B (36 * v5.toInt + v6.toInt) := by
    have := (h.2.2.2.2 (36 * v5.toInt + v6.toInt).toNat (by omega) (by omega)).1
    have e : (((36 * v5.toInt + v6.toInt).toNat : Nat) : Int) = 36 * v5.toInt + v6.toInt := by omega
    rw [e] at this; exact this
  have ed : (36 * v5.toInt + v6.toInt) / 36 = v5.toInt := by omega
  have emo : (36 * v5.toInt + v6.toInt) % 36 = v6.toInt := by omega
  refine iter_r (fun s : Int32 × Int32 × Mem => SC B t acc M s.1 s.2.2 ∧ (0 ≤ s.2.1.toInt ∧ s.2.1.toInt ≤ 45)) (fun s : Int32 × Int32 × Mem => (45 - s.2.1.toInt).toNat) _ ?_ FU _ ⟨⟨h, ha, Int.le_refl _, fun e => e, fun e => .inl e, fun _ _ _ => rfl⟩, (by show (0 : Int) ≤ (0 : Int32).toInt ∧ (0 : Int32).toInt ≤ 45; decide)⟩ (by show (45 - (0 : Int)).toNat < FU; rw [FU_v]; decide)
  rintro ⟨a, k, N⟩ ⟨i1, i2⟩
  dsimp only at i1 i2
  obtain ⟨⟨j, f, g2, dp, wit⟩, aa, pl, a0, a1, keep⟩ := i1
  have c45 : (45 : Int32).toInt = 45 := rfl
  unfold lb_Mod_wardrobe_138
  dsimp only
  refine if_i (fun c => ⟨_, rfl, ⟨j, f, g2, dp, wit⟩, aa, pl, a0, a1, keep⟩) (fun c => ?_)
  have d := nlei.mp c
  have ek : (k + (1 : Int32)).toInt = k.toInt + 1 := add_ti rfl rfl (by omega) (by omega)
  have rm : (k - k / (10 : Int32) * (10 : Int32)).toInt = k.toInt % 10 := rem_ti rfl rfl i2.1 (by decide)
  have on : ∀ (b : Int32) (K : Mem), SC B t acc M b K → LPq (fun s : Int32 × Int32 × Mem => SC B t acc M s.1 s.2.2 ∧ (0 ≤ s.2.1.toInt ∧ s.2.1.toInt ≤ 45)) (fun s : Int32 × Int32 × Mem => (45 - s.2.1.toInt).toNat) (fun x : Int32 × Mem => SC B t acc M x.1 x.2) (45 - k.toInt).toNat (.inl (b, k + (1 : Int32), K)) := by
    intro b K hK
    refine ⟨⟨hK, ?_⟩, ?_⟩
    · show 0 ≤ (k + (1 : Int32)).toInt ∧ (k + (1 : Int32)).toInt ≤ 45; omega
    · show (45 - (k + (1 : Int32)).toInt).toNat < (45 - k.toInt).toNat; omega
  have same := on a N ⟨⟨j, f, g2, dp, wit⟩, aa, pl, a0, a1, keep⟩
  have k168 : ∀ w0 : Int32, (w0.toInt = -1 ∨ (crR N v5.toInt v6.toInt k.toInt w0.toInt ∧ 0 ≤ w0.toInt ∧ w0.toInt ≤ 1295 ∧ k.toInt % 10 ≤ 4)) → ∃ r, j_Mod_wardrobe_168_138 v1 a v4 v5 v6 k w0 N = some r ∧ LPq (fun s : Int32 × Int32 × Mem => SC B t acc M s.1 s.2.2 ∧ (0 ≤ s.2.1.toInt ∧ s.2.1.toInt ≤ 45)) (fun s : Int32 × Int32 × Mem => (45 - s.2.1.toInt).toNat) (fun x : Int32 × Mem => SC B t acc M x.1 x.2) (45 - k.toInt).toNat r := by
    intro w0 hw
    have n1 : (-1 : Int32).toInt = -1 := rfl
    unfold j_Mod_wardrobe_168_138
    refine if_i (fun e => ⟨_, rfl, same⟩) (fun e => ?_)
    have dw : w0.toInt ≠ -1 := neqi.mp e
    rcases hw with hw | ⟨w1, w2, w3, w4⟩
    · exact absurd hw dw
    refine inb_i w2 (by omega) (if_i (fun e => inb_i w2 (by omega) (mem_i (fun m em => ⟨_, rfl, on 1 m ?_⟩))) (fun e => ⟨_, rfl, same⟩))
    have far : 1000000 ≤ (N.1 185 w0.toInt.toNat).toInt := lei.mp e
    have ea : (v4 + (1 : Int32)).toInt = v4.toInt + 1 := add_ti rfl rfl (by omega) (by omega)
    have val : ∀ i, (m.1 185 i).toInt = if i = w0.toInt.toNat then v4.toInt + 1 else (N.1 185 i).toInt := by
      intro i
      rw [em]
      by_cases w : i = w0.toInt.toNat
      · rw [w]; show ((s_i N 185 w0.toInt.toNat (v4 + (1 : Int32))).1 185 w0.toInt.toNat).toInt = _; rw [si_eq, if_pos rfl]; exact ea
      · rw [if_neg w]; exact congrArg Int32.toInt (si_ne (fun z => w z.2))
    have kd : 10 * (k.toInt / 10) + k.toInt % 10 = k.toInt := by omega
    have w1' : crR B ((36 * v5.toInt + v6.toInt) / 36) ((36 * v5.toInt + v6.toInt) % 36) (10 * (k.toInt / 10) + k.toInt % 10) w0.toInt := by
      rw [ed, emo, kd]; exact (crR_c (W85.map f)).mp w1
    obtain ⟨sy, -⟩ := cr_sym hB hv (s := k.toInt / 10) (t := k.toInt % 10) (by omega) (by omega) w1' dw
    have old : (N.1 185 (36 * v5.toInt + v6.toInt).toNat).toInt = v4.toInt := by rw [keep _ (by omega) (by omega)]; exact hd
    have hne : (36 * v5.toInt + v6.toInt).toNat ≠ w0.toInt.toNat := fun w => by rw [w] at old; omega
    have dpn : (37 * t).toNat ≠ w0.toInt.toNat := fun w => by rw [w] at dp; omega
    have cd := cn_dec (M := N) (i := w0.toInt.toNat) (v := v4 + (1 : Int32)) (by omega) (by omega) far
    have emm : m = s_i N 185 w0.toInt.toNat (v4 + (1 : Int32)) := em
    refine ⟨⟨by rw [em]; exact Jw_185 j _ _ (by omega) (by omega), by rw [em]; exact f.i rfl, by rw [em]; exact g2, ?_, fun x hx hdx => ?_⟩, .inr rfl, ?_, fun e => absurd e (by decide), fun _ => .inr ?_, fun x hx hdx => ?_⟩
    · rw [val, if_neg dpn]; exact dp
    · by_cases w : x = w0.toInt.toNat
      · have ex : (x : Int) = w0.toInt := by omega
        refine ⟨by rw [ex]; exact sy, .inr ⟨(36 * v5.toInt + v6.toInt).toNat, by omega, k.toInt / 10, k.toInt % 10, by omega, by omega, ?_, ?_⟩⟩
        · have e : (((36 * v5.toInt + v6.toInt).toNat : Nat) : Int) = 36 * v5.toInt + v6.toInt := by omega
          rw [e, ex]; exact w1'
        · rw [val, val, if_neg hne, if_pos w, old]
      · rw [val, if_neg w] at hdx
        obtain ⟨z1, z2⟩ := wit x hx hdx
        refine ⟨z1, ?_⟩
        rcases z2 with z | ⟨y, y1, s, u, y2, y3, y4, y5⟩
        · exact .inl z
        · have yn : y ≠ w0.toInt.toNat := fun q => by rw [q] at y5; omega
          exact .inr ⟨y, y1, s, u, y2, y3, y4, by rw [val, val, if_neg yn, if_neg w]; exact y5⟩
    · rw [emm, cd]; omega
    · rw [emm, cd]; omega
    · have hk := keep x hx hdx
      have xn : x ≠ w0.toInt.toNat := fun q => by rw [← q, hk] at far; omega
      rw [em]; exact (si_ne (fun z => xn z.2)).trans hk
  have c4 : (4 : Int32).toInt = 4 := rfl
  refine if_i (fun e => ?_) (fun e => k168 _ (.inl rfl))
  have d4 := lei.mp e
  refine bind_i (fs_carryTo j v5 v6 k h5 h6 (by omega)) (fun x10 _ q => k168 x10 ?_)
  by_cases w : x10.toInt = -1
  · exact .inl w
  · exact .inr ⟨q.1, by omega, q.2.2, by omega⟩
theorem cells_e {M : Mem} : f_Mod_cells M = some ((M.1 162 2) * (M.1 162 3)) := rfl
theorem sl_wardrobe105 {B : Mem} (hB : J B) {t : Int} (ht : 0 ≤ t ∧ t ≤ 35) (v1 v4 v5 : Int32) (h4 : 0 ≤ v4.toInt ∧ v4.toInt ≤ 2000) (h5 : 0 ≤ v5.toInt ∧ v5.toInt ≤ 35) {M : Mem} (h : QC B t M) (acc : Int32) (ha : acc = 0 ∨ acc = 1) :
    ∃ x, iter (lb_Mod_wardrobe_105 v1 v4 v5) FU (acc, (0 : Int32), M) = some x ∧ SC B t acc M x.1 x.2 := by
  refine iter_r (fun s : Int32 × Int32 × Mem => SC B t acc M s.1 s.2.2 ∧ (0 ≤ s.2.1.toInt ∧ s.2.1.toInt ≤ 36)) (fun s : Int32 × Int32 × Mem => (36 - s.2.1.toInt).toNat) _ ?_ FU _ ⟨⟨h, ha, Int.le_refl _, fun e => e, fun e => .inl e, fun _ _ _ => rfl⟩, (by show (0 : Int) ≤ (0 : Int32).toInt ∧ (0 : Int32).toInt ≤ 36; decide)⟩ (by show (36 - (0 : Int)).toNat < FU; rw [FU_v]; decide)
  rintro ⟨a, k, N⟩ ⟨i1, i2⟩
  dsimp only at i1 i2
  have wh := awh i1.1.1
  have we := wh_ti i1.1.1
  unfold lb_Mod_wardrobe_105
  dsimp only
  refine bind_e cells_e (if_i (fun c => ⟨_, rfl, i1⟩) (fun c => ?_))
  have d := nlei.mp c
  rw [we] at d
  have ek : (k + (1 : Int32)).toInt = k.toInt + 1 := add_ti rfl rfl (by omega) (by omega)
  have m1 : ((36 : Int32) * v5).toInt = 36 * v5.toInt := mul_ti rfl rfl (by omega) (by omega)
  have m2 : (((36 : Int32) * v5) + k).toInt = 36 * v5.toInt + k.toInt := add_ti m1 rfl (by omega) (by omega)
  have on : ∀ (b : Int32) (K : Mem), SC B t acc M b K → LPq (fun s : Int32 × Int32 × Mem => SC B t acc M s.1 s.2.2 ∧ (0 ≤ s.2.1.toInt ∧ s.2.1.toInt ≤ 36)) (fun s : Int32 × Int32 × Mem => (36 - s.2.1.toInt).toNat) (fun x : Int32 × Mem => SC B t acc M x.1 x.2) (36 - k.toInt).toNat (.inl (b, k + (1 : Int32), K)) := by
    intro b K hK
    refine ⟨⟨hK, ?_⟩, ?_⟩
    · show 0 ≤ (k + (1 : Int32)).toInt ∧ (k + (1 : Int32)).toInt ≤ 36; omega
    · show (36 - (k + (1 : Int32)).toInt).toNat < (36 - k.toInt).toNat; omega
  refine inb_i (by omega) (by omega) (if_i (fun e => ?_) (fun e => ⟨_, rfl, on a N i1⟩))
  have ed : (N.1 185 (36 * v5.toInt + k.toInt).toNat).toInt = v4.toInt := by
    have := eqi.mp e
    rw [tcn', m2] at this; exact this
  exact bind_i (sl_wardrobe138 hB ht v1 v4 v5 k h4 h5 ⟨i2.1, by omega⟩ i1.1 a i1.2.1 ed) (fun x _ q => ⟨_, rfl, on x.1 x.2 (i1.t q)⟩)
theorem sl_wardrobe93 {B : Mem} (hB : J B) {t : Int} (ht : 0 ≤ t ∧ t ≤ 35) (v1 v4 : Int32) (h4 : 0 ≤ v4.toInt ∧ v4.toInt ≤ 2000) {M : Mem} (h : QC B t M) :
    ∃ x, iter (lb_Mod_wardrobe_93 v1 v4) FU ((0 : Int32), (0 : Int32), M) = some x ∧ SC B t 0 M x.1 x.2 := by
  refine iter_r (fun s : Int32 × Int32 × Mem => SC B t 0 M s.1 s.2.2 ∧ (0 ≤ s.2.1.toInt ∧ s.2.1.toInt ≤ 36)) (fun s : Int32 × Int32 × Mem => (36 - s.2.1.toInt).toNat) _ ?_ FU _ ⟨⟨h, .inl rfl, Int.le_refl _, fun e => e, fun e => .inl e, fun _ _ _ => rfl⟩, (by show (0 : Int) ≤ (0 : Int32).toInt ∧ (0 : Int32).toInt ≤ 36; decide)⟩ (by show (36 - (0 : Int)).toNat < FU; rw [FU_v]; decide)
  rintro ⟨a, k, N⟩ ⟨i1, i2⟩
  dsimp only at i1 i2
  have wh := awh i1.1.1
  have we := wh_ti i1.1.1
  unfold lb_Mod_wardrobe_93
  dsimp only
  refine bind_e cells_e (if_i (fun c => ⟨_, rfl, i1⟩) (fun c => ?_))
  have d := nlei.mp c
  rw [we] at d
  have ek : (k + (1 : Int32)).toInt = k.toInt + 1 := add_ti rfl rfl (by omega) (by omega)
  refine bind_i (sl_wardrobe105 hB ht v1 v4 k h4 ⟨i2.1, by omega⟩ i1.1 a i1.2.1) (fun x _ q => ⟨_, rfl, ⟨⟨i1.t q, ?_⟩, ?_⟩⟩)
  · show 0 ≤ (k + (1 : Int32)).toInt ∧ (k + (1 : Int32)).toInt ≤ 36; omega
  · show (36 - (k + (1 : Int32)).toInt).toNat < (36 - k.toInt).toNat; omega
theorem sl_wardrobe84 {B : Mem} (hB : J B) {t : Int} (ht : 0 ≤ t ∧ t ≤ 35) (v1 : Int32) {M : Mem} (h : QC B t M) :
    ∃ x, iter (lb_Mod_wardrobe_84 v1) FU ((1 : Int32), (0 : Int32), M) = some x ∧ QC B t x := by
  have b := cn_bd M
  refine iter_r (fun s : Int32 × Int32 × Mem => QC B t s.2.2 ∧ 0 ≤ s.2.1.toInt ∧ (s.1 ≠ 0 → s.2.1.toInt + cn s.2.2 ≤ 1296)) (fun s : Int32 × Int32 × Mem => (2 * cn s.2.2 + (if s.1 = 0 then 0 else 1)).toNat) _ ?_ FU _ ⟨h, (by show (0 : Int) ≤ (0 : Int32).toInt; decide), fun _ => (by show (0 : Int) + cn M ≤ 1296; omega)⟩ (by show (2 * cn M + (if (1 : Int32) = 0 then 0 else 1)).toNat < FU; rw [FU_v, if_neg (by decide)]; omega)
  rintro ⟨a, k, N⟩ ⟨i1, i2, i3⟩
  dsimp only at i1 i2 i3
  have b := cn_bd N
  unfold lb_Mod_wardrobe_84
  dsimp only
  refine if_i (fun c => ⟨_, rfl, i1⟩) (fun c => ?_)
  have i3' := i3 c
  have ek : (k + (1 : Int32)).toInt = k.toInt + 1 := add_ti rfl rfl (by omega) (by omega)
  refine bind_i (sl_wardrobe93 hB ht v1 k ⟨i2, by omega⟩ i1) (fun x _ q => ⟨_, rfl, ⟨q.1, ?_, fun e => ?_⟩, ?_⟩)
  · show 0 ≤ (k + (1 : Int32)).toInt; omega
  · obtain ⟨-, -, s3, -, s5, -⟩ := q
    show (k + (1 : Int32)).toInt + cn x.2 ≤ 1296
    rcases s5 e with u | u
    · exact absurd rfl u
    · omega
  · obtain ⟨-, -, s3, -, s5, -⟩ := q
    have b2 := cn_bd x.2
    show (2 * cn x.2 + (if x.1 = 0 then 0 else 1)).toNat < (2 * cn N + (if a = 0 then 0 else 1)).toNat
    rw [if_neg c]
    by_cases e : x.1 = 0
    · rw [if_pos e]; omega
    · rw [if_neg e]
      rcases s5 e with u | u
      · exact absurd rfl u
      · omega
/-! wardrobe: safety -/
theorem nearerC {B r : Mem} (hB : J B) {t : Int} (hq : QC B t r) {x : Nat} (hx : x < 1296) (hd : (r.1 185 x).toInt < 1000000) (h0 : 0 < (r.1 185 x).toInt) : ∃ y : Nat, y < 1296 ∧ ∃ s u : Int, (0 ≤ s ∧ s ≤ 4) ∧ (0 ≤ u ∧ u ≤ 4) ∧ crR B ((x : Int) / 36) ((x : Int) % 36) (10 * s + u) y ∧ (r.1 185 y).toInt = (r.1 185 x).toInt - 1 := by
  obtain ⟨z1, z2⟩ := hq.2.2.2.2 x hx hd
  rcases z2 with z | ⟨y, y1, s, u, y2, y3, y4, y5⟩
  · have := hq.2.2.2.1
    have e : (37 * t).toNat = x := by omega
    rw [e] at this; omega
  · have vy := (hq.2.2.2.2 y y1 (by omega)).1
    have g := (cr_sym hB vy y2 y3 y4 (by omega)).2
    have os : 0 ≤ opp s ∧ opp s ≤ 4 := by
      by_cases e : s = 4
      · subst e; decide
      · have := opp_r (s := s) (by omega); omega
    have ou : 0 ≤ opp u ∧ opp u ≤ 4 := by
      by_cases e : u = 4
      · subst e; decide
      · have := opp_r (s := u) (by omega); omega
    exact ⟨y, y1, opp s, opp u, os, ou, g, by omega⟩
theorem sl_wardrobe277 {B r N : Mem} (hB : J B) {t : Int} (hq : QC B t r) (hN : J N) (hw : Fr WP r N) (v4 v5 v6 v7 : Int32) (h5 : 0 ≤ v5.toInt ∧ v5.toInt ≤ 35) (h6 : 0 ≤ v6.toInt ∧ v6.toInt ≤ 35) (h7 : 0 ≤ v7.toInt ∧ v7.toInt < v4.toInt) (h4 : v4.toInt ≤ 1000000) (hd : (r.1 185 (36 * v5.toInt + v6.toInt).toNat).toInt = v4.toInt - v7.toInt) (hf : v4.toInt - v7.toInt < 1000000) :
    ∃ x, iter (lb_Mod_wardrobe_277 v4 v5 v6 v7 N) FU (0 : Int32) = some x ∧ ((0 ≤ x.toInt ∧ x.toInt ≤ 44) ∧ ∃ y : Int32, f_Mod_carryTo v5 v6 x N = some y ∧ (0 ≤ y.toInt ∧ y.toInt ≤ 1295) ∧ (r.1 185 y.toInt.toNat).toInt = v4.toInt - v7.toInt - 1) := by
  obtain ⟨y, y1, s, u, hs, hu, g, dy⟩ := nearerC hB hq (x := (36 * v5.toInt + v6.toInt).toNat) (by omega) (by omega) (by omega)
  have e0 : (((36 * v5.toInt + v6.toInt).toNat : Nat) : Int) = 36 * v5.toInt + v6.toInt := by omega
  have ed : (36 * v5.toInt + v6.toInt) / 36 = v5.toInt := by omega
  have em : (36 * v5.toInt + v6.toInt) % 36 = v6.toInt := by omega
  rw [e0, ed, em] at g
  have f7 := hq.2.1
  have mN : ∀ c z : Int, crR N v5.toInt v6.toInt c z ↔ crR B v5.toInt v6.toInt c z := by
    intro c z
    exact (crR_c ⟨hw 162 2 (by decide), hw 162 3 (by decide), fun i => hw 164 i (by omega)⟩).trans (crR_c (W85.map f7))
  have n1 : (-1 : Int32).toInt = -1 := rfl
  have c4 : (4 : Int32).toInt = 4 := rfl
  refine iter_r (fun t : Int32 => 0 ≤ t.toInt ∧ t.toInt ≤ 10 * s + u) (fun t : Int32 => (44 - t.toInt).toNat) _ ?_ FU _ ⟨by decide, by have z : (0 : Int32).toInt = 0 := rfl; omega⟩ (by show (44 - (0 : Int)).toNat < FU; rw [FU_v]; decide)
  rintro t ⟨i1, i2⟩
  have et : (t + (1 : Int32)).toInt = t.toInt + 1 := add_ti rfl rfl (by omega) (by omega)
  have rm : (t - t / (10 : Int32) * (10 : Int32)).toInt = t.toInt % 10 := rem_ti rfl rfl i1 (by decide)
  have on : t.toInt ≠ 10 * s + u → LPq (fun t : Int32 => 0 ≤ t.toInt ∧ t.toInt ≤ 10 * s + u) (fun t : Int32 => (44 - t.toInt).toNat) (fun x : Int32 => (0 ≤ x.toInt ∧ x.toInt ≤ 44) ∧ ∃ y : Int32, f_Mod_carryTo v5 v6 x N = some y ∧ (0 ≤ y.toInt ∧ y.toInt ≤ 1295) ∧ (r.1 185 y.toInt.toNat).toInt = v4.toInt - v7.toInt - 1) (44 - t.toInt).toNat (.inl (t + (1 : Int32))) := by
    intro hn
    refine ⟨⟨by omega, by omega⟩, ?_⟩
    show (44 - (t + (1 : Int32)).toInt).toNat < (44 - t.toInt).toNat; omega
  unfold lb_Mod_wardrobe_277
  refine if_i (fun e => ⟨_, rfl, on (fun w => ?_)⟩) (fun e => ?_)
  · have := lti.mp e; omega
  obtain ⟨x, ex, gx, b1, b2⟩ := fs_carryTo hN v5 v6 t h5 h6 (by omega)
  have gx' := (mN _ _).mp gx
  refine bind_e ex (if_i (fun e => ⟨_, rfl, on (fun w => ?_)⟩) (fun e => bind_e ex ?_))
  · rw [w] at gx'
    have := crR_fun gx' g
    have e' := eqi.mp e
    omega
  have dx := neqi.mp e
  have k1 : N.1 185 x.toNatClampNeg = r.1 185 x.toInt.toNat := hw 185 _ (by omega)
  have s1 : (v4 - v7).toInt = v4.toInt - v7.toInt := sub_ti rfl rfl (by omega) (by omega)
  have s2 : ((v4 - v7) - (1 : Int32)).toInt = v4.toInt - v7.toInt - 1 := sub_ti s1 rfl (by omega) (by omega)
  refine inb_i (by omega) (by omega) (if_i (fun e => ⟨_, rfl, ⟨i1, by omega⟩, x, ex, ⟨by omega, b2⟩, ?_⟩) (fun e => ⟨_, rfl, on (fun w => ?_)⟩))
  · rw [← s2, ← k1]; exact eqi.mp e
  · rw [w] at gx'
    have hx := crR_fun gx' g
    refine neqi.mp e ?_
    rw [s2, k1, hx]
    have : ((y : Int)).toNat = y := by omega
    rw [this]; omega
theorem sf_Mod_wardrobe (v1 v2 : Int32) (M : Mem) (hJ : J M) : ∃ r : Int32 × Mem, f_Mod_wardrobe v1 v2 M = some r ∧ (J r.2 ∧ ∀ k i, k ≠ 185 → k ≠ 168 → k ≠ 162 → r.2.1 k i = M.1 k i) ∧ (∀ i, i ≠ 13 → i ≠ 12 → r.2.1 162 i = M.1 162 i) := by
  unfold f_Mod_wardrobe
  refine mem_i (fun M1 e1 => ?_)
  have j1 : J M1 := by rw [e1]; exact Jw_fld okf_162_13 hJ _
  have f1 : ∀ k i, ¬ (k = 162 ∧ i = 13) → M1.1 k i = M.1 k i := fun k i hk => by rw [e1, si_ne hk]
  have out1 : (J M1 ∧ ∀ k i, k ≠ 185 → k ≠ 168 → k ≠ 162 → M1.1 k i = M.1 k i) ∧ (∀ i, i ≠ 13 → i ≠ 12 → M1.1 162 i = M.1 162 i) := ⟨⟨j1, fun k i _ _ h => f1 k i (by omega)⟩, fun i h _ => f1 162 i (by omega)⟩
  refine bind_i (sp_isCell j1 v1) (fun x2 _ q2 => ?_)
  rcases q2 with ⟨rfl, a1, a2, a3⟩ | ⟨rfl, -⟩
  · refine if_i (fun c => absurd c (by decide)) (fun _ => ?_)
    refine bind_i (sp_isCell j1 v2) (fun x3 _ q3 => ?_)
    rcases q3 with ⟨rfl, b1, b2, b3⟩ | ⟨rfl, -⟩
    · refine if_i (fun c => absurd c (by decide)) (fun _ => inb_i a1 (by omega) (if_i (fun es => inb_i b1 (by omega) (if_i (fun et => ?_) (fun _ => ⟨_, rfl, out1⟩))) (fun _ => ⟨_, rfl, out1⟩)))
      have st : (M1.1 164 v2.toInt.toNat).toInt = 3 := (eqi.mp et).trans rfl
      have sv : (M1.1 164 v1.toInt.toNat).toInt = 3 := (eqi.mp es).trans rfl
      have hl : ∃ x, iter (lb_Mod_wardrobe_45 v1 v2) FU ((0 : Int32), M1) = some x ∧ (J x ∧ Fr W85 M1 x ∧ x.2 = M1.2 ∧ ∀ i : Nat, (i : Int) < 1296 → (x.1 185 i).toInt = 1000000) := by
        refine cnt_r _ (fun i N => J N ∧ Fr W85 M1 N ∧ N.2 = M1.2 ∧ ∀ j : Nat, (j : Int) < i → (N.1 185 j).toInt = 1000000) 1296 (by decide) ?_ M1 ⟨j1, Fr.r, rfl, fun j hj => absurd hj (by omega)⟩ (by decide)
        intro k N k0 k1 hI
        obtain ⟨i1, i2, i3, i4⟩ := hI
        have c72 : (1296 : Int32).toInt = 1296 := rfl
        unfold lb_Mod_wardrobe_45
        dsimp only
        refine if_i (fun c => ⟨_, rfl, .inl ⟨_, rfl, i1, i2, i3, fun i hi => i4 i (by have := lei.mp c; omega)⟩⟩) (fun c => ?_)
        have d := nlei.mp c
        refine inb_i k0 (by omega) (mem_i (fun m e => ⟨_, rfl, .inr ⟨by omega, m, rfl, ?_, ?_, ?_, fun j hj => ?_⟩⟩))
        · rw [e]; exact Jw_185 i1 _ _ (by decide) (by decide)
        · rw [e]; exact i2.i rfl
        · rw [e]; exact i3
        · rw [e]
          by_cases w : j = k.toNatClampNeg
          · rw [w, si_eq]; rfl
          · rw [si_ne (fun z => w z.2)]
            rw [tcn'] at w
            exact i4 j (by omega)
      have m2 : ((36 : Int32) * v2).toInt = 36 * v2.toInt := mul_ti rfl rfl (by omega) (by omega)
      have m22 : (((36 : Int32) * v2) + v2).toInt = 36 * v2.toInt + v2.toInt := add_ti m2 rfl (by omega) (by omega)
      have m1 : ((36 : Int32) * v1).toInt = 36 * v1.toInt := mul_ti rfl rfl (by omega) (by omega)
      have m11 : (((36 : Int32) * v1) + v1).toInt = 36 * v1.toInt + v1.toInt := add_ti m1 rfl (by omega) (by omega)
      refine bind_i hl (fun x6 _ q => inb_i (by omega) (by omega) (mem_i (fun M7 e7 => ?_)))
      obtain ⟨q1, q2, q3, q4⟩ := q
      have t7 : (((36 : Int32) * v2) + v2).toNatClampNeg = (37 * v2.toInt).toNat := by rw [tcn', m22]; omega
      rw [t7] at e7
      have vst : vpR M1 (37 * v2.toInt) := by
        have d1 : (37 * v2.toInt) / 36 = v2.toInt := by omega
        have d2 : (37 * v2.toInt) % 36 = v2.toInt := by omega
        refine ⟨by omega, by omega, ?_, ?_, by rw [d1, d2]; exact .inl rfl⟩
        · rw [d1]; exact ⟨b1, b3, by rw [if_pos rfl]; exact .inr st⟩
        · rw [d2]; exact ⟨b1, b3, by rw [if_neg (by decide)]; exact .inr st⟩
      have qc : QC M1 v2.toInt M7 := by
        refine ⟨by rw [e7]; exact Jw_185 q1 _ _ (by decide) (by decide), by rw [e7]; exact q2.i rfl, by rw [e7]; exact q3, by rw [e7, si_eq]; rfl, fun x hx hd => ?_⟩
        by_cases w : x = (37 * v2.toInt).toNat
        · have : (x : Int) = 37 * v2.toInt := by omega
          rw [this]; exact ⟨vst, .inl rfl⟩
        · rw [e7, si_ne (fun z => w z.2), q4 x (by omega)] at hd; omega
      refine bind_i (sl_wardrobe84 j1 ⟨b1, b2⟩ v1 qc) (fun x23 _ hq => inb_i (by omega) (by omega) ?_)
      have f23 := hq.2.1
      have out23 : (J x23 ∧ ∀ k i, k ≠ 185 → k ≠ 168 → k ≠ 162 → x23.1 k i = M.1 k i) ∧ (∀ i, i ≠ 13 → i ≠ 12 → x23.1 162 i = M.1 162 i) := ⟨⟨hq.1, fun k i n1 _ n3 => (f23 k i n1).trans (f1 k i (by omega))⟩, fun i n1 _ => (f23 162 i (by omega)).trans (f1 162 i (by omega))⟩
      refine if_i (fun e => ?_) (fun _ => ⟨_, rfl, out23⟩)
      have tt : (((36 : Int32) * v1) + v1).toNatClampNeg = (36 * v1.toInt + v1.toInt).toNat := by rw [tcn', m11]
      rw [tt] at e ⊢
      have dl : (x23.1 185 (36 * v1.toInt + v1.toInt).toNat).toInt < 1000000 := lti.mp e
      have r23 := Jr_185 hq.1 (36 * v1.toInt + v1.toInt).toNat
      refine mem_i (fun M24 e24 => ?_)
      have hl2 : ∃ x, iter (lb_Mod_wardrobe_267 (x23.1 185 (36 * v1.toInt + v1.toInt).toNat)) FU (v1, v1, (0 : Int32), M24) = some x ∧ (J x ∧ Fr WP x23 x) := by
        refine iter_r (fun s : Int32 × Int32 × Int32 × Mem => J s.2.2.2 ∧ Fr WP x23 s.2.2.2 ∧ (0 ≤ s.1.toInt ∧ s.1.toInt ≤ 35) ∧ (0 ≤ s.2.1.toInt ∧ s.2.1.toInt ≤ 35) ∧ 0 ≤ s.2.2.1.toInt ∧ (x23.1 185 (36 * s.1.toInt + s.2.1.toInt).toNat).toInt + s.2.2.1.toInt = (x23.1 185 (36 * v1.toInt + v1.toInt).toNat).toInt ∧ (s.2.2.2.1 162 12).toInt ≤ s.2.2.1.toInt ∧ (s.2.2.2.1 162 12).toInt ≤ 10) (fun s : Int32 × Int32 × Int32 × Mem => ((x23.1 185 (36 * v1.toInt + v1.toInt).toNat).toInt - s.2.2.1.toInt).toNat) _ ?_ FU _ ⟨?_, ?_, ?_, ?_, ?_, ?_, ?_, ?_⟩ ?_
        · rintro ⟨a, b, k, N⟩ ⟨i1, i2, i3, i3b, i4, i5, i6, i7⟩
          dsimp only at i1 i2 i3 i3b i4 i5 i6 i7
          unfold lb_Mod_wardrobe_267
          dsimp only
          refine if_i (fun c => ⟨_, rfl, i1, i2⟩) (fun c => ?_)
          have d : k.toInt < (x23.1 185 (36 * v1.toInt + v1.toInt).toNat).toInt := nlei.mp c
          have ek : (k + (1 : Int32)).toInt = k.toInt + 1 := add_ti rfl rfl (by omega) (by omega)
          refine bind_i (sl_wardrobe277 j1 hq i1 i2 (x23.1 185 (36 * v1.toInt + v1.toInt).toNat) a b k i3 i3b ⟨i4, d⟩ (by omega) (by omega) (by omega)) (fun x30 _ q => ?_)
          obtain ⟨qr, y, ey, y1, y2⟩ := q
          have c10 : (10 : Int32).toInt = 10 := rfl
          have dv : (y / (36 : Int32)).toInt = y.toInt / 36 := div_ti rfl rfl y1.1 (by decide)
          have rm : (y - y / (36 : Int32) * (36 : Int32)).toInt = y.toInt % 36 := rem_ti rfl rfl y1.1 (by decide)
          have fin : ∀ K : Mem, J K → Fr WP x23 K → (K.1 162 12).toInt ≤ k.toInt + 1 → (K.1 162 12).toInt ≤ 10 → LPq (fun s : Int32 × Int32 × Int32 × Mem => J s.2.2.2 ∧ Fr WP x23 s.2.2.2 ∧ (0 ≤ s.1.toInt ∧ s.1.toInt ≤ 35) ∧ (0 ≤ s.2.1.toInt ∧ s.2.1.toInt ≤ 35) ∧ 0 ≤ s.2.2.1.toInt ∧ (x23.1 185 (36 * s.1.toInt + s.2.1.toInt).toNat).toInt + s.2.2.1.toInt = (x23.1 185 (36 * v1.toInt + v1.toInt).toNat).toInt ∧ (s.2.2.2.1 162 12).toInt ≤ s.2.2.1.toInt ∧ (s.2.2.2.1 162 12).toInt ≤ 10) (fun s : Int32 × Int32 × Int32 × Mem => ((x23.1 185 (36 * v1.toInt + v1.toInt).toNat).toInt - s.2.2.1.toInt).toNat) (fun x : Mem => J x ∧ Fr WP x23 x) ((x23.1 185 (36 * v1.toInt + v1.toInt).toNat).toInt - k.toInt).toNat (.inl (y / (36 : Int32), y - y / (36 : Int32) * (36 : Int32), k + (1 : Int32), K)) := by
            intro K k1 k2 k3 k4
            refine ⟨⟨k1, k2, ?_, ?_, ?_, ?_, ?_, k4⟩, ?_⟩
            · show 0 ≤ (y / (36 : Int32)).toInt ∧ (y / (36 : Int32)).toInt ≤ 35; omega
            · show 0 ≤ (y - y / (36 : Int32) * (36 : Int32)).toInt ∧ (y - y / (36 : Int32) * (36 : Int32)).toInt ≤ 35; omega
            · show 0 ≤ (k + (1 : Int32)).toInt; omega
            · show (x23.1 185 (36 * (y / (36 : Int32)).toInt + (y - y / (36 : Int32) * (36 : Int32)).toInt).toNat).toInt + (k + (1 : Int32)).toInt = _
              have e : (36 * (y / (36 : Int32)).toInt + (y - y / (36 : Int32) * (36 : Int32)).toInt) = y.toInt := by rw [dv, rm]; omega
              rw [e]; omega
            · show (K.1 162 12).toInt ≤ (k + (1 : Int32)).toInt; omega
            · show ((x23.1 185 (36 * v1.toInt + v1.toInt).toNat).toInt - (k + (1 : Int32)).toInt).toNat < _; omega
          unfold j_Mod_wardrobe_344_267
          refine if_i (fun c => bind_e ey ⟨_, rfl, fin N i1 i2 (by omega) i7⟩) (fun c => ?_)
          have dk := nlei.mp c
          refine bind_i (fs_put i1 x30 (by omega)) (fun x32 _ s => ?_)
          obtain ⟨s1, s2, s3, s4⟩ := s
          have ego : f_Mod_carryTo a b x30 x32 = some y := by
            obtain ⟨z, ez, gz, z1, z2⟩ := fs_carryTo s1 a b x30 i3 i3b qr
            have gq := (some_of (fs_carryTo i1 a b x30 i3 i3b qr) ey).1
            have := crR_fun ((crR_c ⟨s3 162 2 (by decide), s3 162 3 (by decide), fun i => s3 164 i (by omega)⟩).mp gz) gq
            rw [ez, Int32.toInt_inj.mp this]
          exact bind_e ego ⟨_, rfl, fin x32 s1 (i2.t s3) (by omega) (by omega)⟩
        · show J M24; rw [e24]; exact Jw_162_12 hq.1 _ (by decide) (by decide)
        · show Fr WP x23 M24; rw [e24]; exact Fr.i (W := WP) Fr.r (.inr ⟨rfl, rfl⟩)
        · exact ⟨a1, a2⟩
        · exact ⟨a1, a2⟩
        · show (0 : Int) ≤ (0 : Int32).toInt; decide
        · show (x23.1 185 (36 * v1.toInt + v1.toInt).toNat).toInt + (0 : Int) = _; omega
        · show (M24.1 162 12).toInt ≤ 0; rw [e24, si_eq]; decide
        · show (M24.1 162 12).toInt ≤ 10; rw [e24, si_eq]; decide
        · show ((x23.1 185 (36 * v1.toInt + v1.toInt).toNat).toInt - (0 : Int)).toNat < FU; rw [FU_v]; omega
      refine bind_i hl2 (fun x35 _ q => ⟨_, rfl, ⟨q.1, fun k i n1 n2 n3 => ?_⟩, fun i n1 n2 => ?_⟩)
      · exact (q.2 k i (by omega)).trans (out23.1.2 k i n1 n2 n3)
      · exact (q.2 162 i (by omega)).trans (out23.2 i n1 n2)
    · exact if_i (fun _ => ⟨_, rfl, out1⟩) (fun c => absurd rfl c)
  · exact if_i (fun _ => ⟨_, rfl, out1⟩) (fun c => absurd rfl c)
