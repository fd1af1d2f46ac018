/-! far is the distance: lower, spread, findFar -/
theorem c_i2 {β : Type} {P : β → Prop} {c : Prop} [Decidable c] {a b : Option β} (h : c) (k : ∃ r, a = some r ∧ P r) : ∃ r, (if c then a else b) = some r ∧ P r := by rw [if_pos h]; exact k
theorem n_i2 {β : Type} {P : β → Prop} {c : Prop} [Decidable c] {a b : Option β} (h : ¬ c) (k : ∃ r, b = some r ∧ P r) : ∃ r, (if c then a else b) = some r ∧ P r := by rw [if_neg h]; exact k
def sm (f : Nat → Int) : Nat → Int
  | 0 => 0
  | n + 1 => sm f n + f n
theorem sm_eq {f g : Nat → Int} : ∀ {n : Nat}, (∀ i, i < n → g i = f i) → sm g n = sm f n
  | 0, _ => rfl
  | n + 1, h => by
    show sm g n + g n = sm f n + f n
    rw [sm_eq (fun i hi => h i (by omega)), h n (by omega)]
theorem sm_upd {f g : Nat → Int} {k : Nat} : ∀ {n : Nat}, k < n → (∀ i, i ≠ k → g i = f i) → sm g n = sm f n - f k + g k
  | 0, h, _ => absurd h (by omega)
  | n + 1, h, hg => by
    show sm g n + g n = sm f n + f n - f k + g k
    by_cases e : k = n
    · subst e
      rw [sm_eq (fun i hi => hg i (by omega))]; omega
    · rw [sm_upd (by omega) hg, hg n (fun w => e w.symm)]; omega
theorem sm_bd {f : Nat → Int} {b : Int} (h : ∀ i, 0 ≤ f i ∧ f i ≤ b) : ∀ n : Nat, 0 ≤ sm f n ∧ sm f n ≤ n * b
  | 0 => by simp [sm]
  | n + 1 => by
    have := sm_bd h n
    have h2 := h n
    show 0 ≤ sm f n + f n ∧ sm f n + f n ≤ ((n + 1 : Nat) : Int) * b
    have e : ((n + 1 : Nat) : Int) * b = n * b + b := by rw [Int.natCast_add, Int.add_mul]; simp
    rw [e]; omega
def po (c : Nat) (M : Mem) : Int := sm (fun i => (M.1 c i).toInt) 72
theorem po_dec {c : Nat} {M : Mem} {i : Nat} {v : Int32} (hi : i < 72) (hv : v.toInt < (M.1 c i).toInt) : po c (s_i M c i v) < po c M := by
  unfold po
  rw [sm_upd (f := fun i => (M.1 c i).toInt) hi (fun j hj => congrArg Int32.toInt (si_ne (fun e => hj e.2)))]
  rw [si_eq]; omega
theorem po_bd {c : Nat} {M : Mem} {b : Int} (h : ∀ i, 0 ≤ (M.1 c i).toInt ∧ (M.1 c i).toInt ≤ b) : 0 ≤ po c M ∧ po c M ≤ 72 * b := sm_bd (f := fun i => (M.1 c i).toInt) h 72
abbrev W7 (k _i : Nat) : Prop := k = 177
def MapEq (M B : Mem) : Prop := M.1 162 2 = B.1 162 2 ∧ M.1 162 3 = B.1 162 3 ∧ ∀ i, M.1 164 i = B.1 164 i
theorem onN_c {M B : Mem} (h : MapEq M B) {l c : Int} : onN M l c ↔ onN B l c := by
  unfold onN xw xh
  rw [h.1, h.2.1, h.2.2]
theorem goR_c {M B : Mem} (h : MapEq M B) {k : Nat} (hk : ∀ i, M.1 k i = B.1 k i) {p s n : Int} : goR M k p s n ↔ goR B k p s n := by
  have e1 : xw M = xw B := by unfold xw; rw [h.1]
  have e2 : xh M = xh B := by unfold xh; rw [h.2.1]
  have e3 : ∀ a b, plk M k a b ↔ plk B k a b := by intro a b; unfold plk plkA; simp only [hk]
  unfold goR
  simp only [e1, e2, onN_c h, e3]
theorem W7.map {B M : Mem} (h : Fr W7 B M) : MapEq M B := ⟨h 162 2 (by decide), h 162 3 (by decide), fun i => h 164 i (by omega)⟩
theorem W7.go {B M : Mem} (h : Fr W7 B M) {p s n : Int} : goR M 163 p s n ↔ goR B 163 p s n := goR_c (W7.map h) (fun i => h 163 i (by omega))
theorem fs_lower {M : Mem} (h : J M) (v1 v2 : Int32) (h1 : -1 ≤ v1.toInt ∧ v1.toInt ≤ 71) (h2 : 0 ≤ v2.toInt) : ∃ r, f_Mod_lower v1 v2 M = some r ∧ ((r.1 = 0 ∧ r.2 = M ∧ (v1.toInt ≠ -1 → (M.1 177 v1.toInt.toNat).toInt ≤ v2.toInt)) ∨ (r.1 = 1 ∧ v1.toInt ≠ -1 ∧ r.2 = s_i M 177 v1.toInt.toNat v2 ∧ v2.toInt < (M.1 177 v1.toInt.toNat).toInt ∧ J r.2)) := by
  have n1 : (-1 : Int32).toInt = -1 := rfl
  unfold f_Mod_lower
  refine if_i (fun e => ⟨_, rfl, .inl ⟨rfl, rfl, fun w => absurd (eqi.mp e) w⟩⟩) (fun e => ?_)
  have d := neqi.mp e
  have r := Jr_177 h v1.toNatClampNeg
  refine inb_i (by omega) (by omega) (if_i (fun e => inb_i (by omega) (by omega) (mem_i (fun m em => ⟨_, rfl, .inr ⟨rfl, by omega, em, lti.mp e, ?_⟩⟩))) (fun e => ⟨_, rfl, .inl ⟨rfl, rfl, fun _ => nlti.mp e⟩⟩))
  have := lti.mp e
  show J m
  rw [em]; exact Jw_177 h _ _ h2 (by omega)
def QF (B : Mem) (p : Int) (M : Mem) : Prop := J M ∧ Fr W7 B M ∧ M.2 = B.2 ∧ (M.1 177 p.toNat).toInt = 0 ∧ (∀ n : Nat, n < 72 → (M.1 177 n).toInt < 1000000 → (n : Int) = p ∨ ∃ q : Nat, q < 72 ∧ ∃ s : Int, 0 ≤ s ∧ s ≤ 3 ∧ goR B 163 q s n ∧ (M.1 177 q).toInt + 1 ≤ (M.1 177 n).toInt)
def CL (B M : Mem) (q s : Int) : Prop := ∀ n : Int, goR B 163 q s n → n ≠ -1 → (M.1 177 n.toNat).toInt ≤ (M.1 177 q.toNat).toInt + 1
theorem or_z {a b : Int32} (ha : a = 0 ∨ a = 1) (hb : b = 0 ∨ b = 1) : (a ||| b = 0 ∨ a ||| b = 1) ∧ (a ||| b = 0 → a = 0 ∧ b = 0) ∧ (a ||| b ≠ 0 → a ≠ 0 ∨ b ≠ 0) := by
  rcases ha with rfl | rfl <;> rcases hb with rfl | rfl <;> decide
/-- what a stretch of lowerings leaves, from M0 with acc0 on -/
def SP (B : Mem) (p : Int) (acc0 : Int32) (M0_ : Mem) (acc : Int32) (M : Mem) : Prop := QF B p M ∧ (acc = 0 ∨ acc = 1) ∧ po 177 M ≤ po 177 M0_ ∧ (acc = 0 → acc0 = 0 ∧ M = M0_) ∧ (acc ≠ 0 → acc0 ≠ 0 ∨ po 177 M < po 177 M0_)
theorem sl_spread34 {B : Mem} (hB : J B) {p : Int} (hp : 0 ≤ p ∧ p ≤ 71) (v3 : Int32) (h3 : 0 ≤ v3.toInt ∧ v3.toInt ≤ 71) {M : Mem} (h : QF B p M) (acc : Int32) (ha : acc = 0 ∨ acc = 1) (hf : (M.1 177 v3.toInt.toNat).toInt < 1000000) :
    ∃ x, iter (lb_Mod_spread_34 0 v3) FU (acc, (0 : Int32), M) = some x ∧ (SP B p acc M x.1 x.2 ∧ (x.1 = 0 → ∀ s, 0 ≤ s → s ≤ 3 → CL B x.2 v3.toInt s)) := by
  refine iter_r (fun s : Int32 × Int32 × Mem => SP B p acc M s.1 s.2.2 ∧ (0 ≤ s.2.1.toInt ∧ s.2.1.toInt ≤ 4) ∧ (s.2.2.1 177 v3.toInt.toNat).toInt < 1000000 ∧ (s.1 = 0 → ∀ t, 0 ≤ t → t < s.2.1.toInt → CL B s.2.2 v3.toInt t)) (fun s : Int32 × Int32 × Mem => (4 - s.2.1.toInt).toNat) _ ?_ FU _ ⟨⟨h, ha, Int.le_refl _, fun e => ⟨e, rfl⟩, fun e => .inl e⟩, (by show (0 : Int) ≤ (0 : Int32).toInt ∧ (0 : Int32).toInt ≤ 4; decide), hf, fun _ t h0 h1 => absurd (show t < 0 from h1) (by omega)⟩ (by show (4 - (0 : Int)).toNat < FU; rw [FU_v]; decide)
  rintro ⟨a, k, N⟩ ⟨i1, i2, i3, i4⟩
  dsimp only at i1 i2 i3 i4
  obtain ⟨⟨j, f, g2, dp, wit⟩, aa, pl, a0, a1⟩ := i1
  have c4 : (4 : Int32).toInt = 4 := rfl
  unfold lb_Mod_spread_34
  dsimp only
  refine if_i (fun c => ⟨_, rfl, ⟨⟨j, f, g2, dp, wit⟩, aa, pl, a0, a1⟩, fun e s s0 s1 => i4 e s s0 (by have := lei.mp c; omega)⟩) (fun c => ?_)
  have d := nlei.mp c
  have ek : (k + (1 : Int32)).toInt = k.toInt + 1 := add_ti rfl rfl (by omega) (by omega)
  refine bind_i (fs_go j 163 St_163 v3 k h3) (fun x1 _ q1 => ?_)
  obtain ⟨g1, q1, q2⟩ := q1
  have g1' := (W7.go f).mp g1
  have r3 := Jr_177 j v3.toInt.toNat
  have t3 : v3.toNatClampNeg = v3.toInt.toNat := rfl
  have ea : ((N.1 177 v3.toNatClampNeg) + (1 : Int32)).toInt = (N.1 177 v3.toInt.toNat).toInt + 1 := add_ti rfl rfl (by omega) (by omega)
  refine inb_i h3.1 (by omega) (bind_i (fs_lower j x1 _ ⟨q1, q2⟩ (by omega)) (fun x2 _ q => ⟨_, rfl, ?_⟩))
  rw [ea] at q
  rcases q with ⟨e1, e2, e3⟩ | ⟨e1, e2, e3, e4, e5⟩
  · have oz := or_z (b := x2.1) aa (.inl e1)
    refine ⟨⟨⟨?_, oz.1, ?_, fun e => ?_, fun e => ?_⟩, ?_, ?_, fun e t t0 t1 => ?_⟩, ?_⟩
    · show QF B p x2.2; rw [e2]; exact ⟨j, f, g2, dp, wit⟩
    · show po 177 x2.2 ≤ _; rw [e2]; exact pl
    · show acc = 0 ∧ x2.2 = M; rw [e2]; exact a0 (oz.2.1 e).1
    · show acc ≠ 0 ∨ po 177 x2.2 < po 177 M; rw [e2]; exact a1 ((oz.2.2 e).elim id (fun w => absurd e1 w))
    · show 0 ≤ (k + (1 : Int32)).toInt ∧ (k + (1 : Int32)).toInt ≤ 4; omega
    · show (x2.2.1 177 v3.toInt.toNat).toInt < 1000000; rw [e2]; exact i3
    · show CL B x2.2 v3.toInt t
      rw [e2]
      have t1' : t < (k + (1 : Int32)).toInt := t1
      by_cases et : t < k.toInt
      · exact i4 (oz.2.1 e).1 t t0 et
      · have : t = k.toInt := by omega
        subst this
        intro n hn hn1
        have : n = x1.toInt := goR_fun hn g1'
        subst this
        exact e3 hn1
    · show (4 - (k + (1 : Int32)).toInt).toNat < (4 - k.toInt).toNat; omega
  · have oz := or_z (b := x2.1) aa (.inr e1)
    have nz : a ||| x2.1 ≠ 0 := fun w => absurd ((oz.2.1 w).2.symm.trans e1) (by decide)
    have hne : x1.toInt.toNat ≠ v3.toInt.toNat := fun w => by rw [w] at e4; omega
    have nn := Jr_177 j v3.toInt.toNat
    have ep : x1.toInt.toNat ≠ p.toNat := fun w => by rw [w, dp] at e4; omega
    have val : ∀ i, (x2.2.1 177 i).toInt = if i = x1.toInt.toNat then (N.1 177 v3.toInt.toNat).toInt + 1 else (N.1 177 i).toInt := by
      intro i
      rw [e3]
      by_cases w : i = x1.toInt.toNat
      · rw [w, si_eq, if_pos rfl]; exact ea
      · rw [si_ne (fun z => w z.2), if_neg w]
    refine ⟨⟨⟨⟨e5, ?_, ?_, ?_, fun n hn hd => ?_⟩, oz.1, ?_, fun e => absurd e nz, fun _ => .inr ?_⟩, ?_, ?_, fun e => absurd e nz⟩, ?_⟩
    · show Fr W7 B x2.2; rw [e3]; exact f.i rfl
    · show x2.2.2 = _; rw [e3]; exact g2
    · show (x2.2.1 177 p.toNat).toInt = 0; rw [val, if_neg (fun w => ep w.symm)]; exact dp
    · show (n : Int) = p ∨ ∃ q : Nat, q < 72 ∧ ∃ s : Int, 0 ≤ s ∧ s ≤ 3 ∧ goR B 163 q s n ∧ (x2.2.1 177 q).toInt + 1 ≤ (x2.2.1 177 n).toInt
      have hd' : (x2.2.1 177 n).toInt < 1000000 := hd
      by_cases w : n = x1.toInt.toNat
      · right
        refine ⟨v3.toInt.toNat, by omega, k.toInt, by omega, by omega, ?_, ?_⟩
        · have u1 : ((v3.toInt.toNat : Nat) : Int) = v3.toInt := by omega
          have u2 : (n : Int) = x1.toInt := by omega
          rw [u1, u2]; exact g1'
        · rw [val, val, if_neg (fun z => hne z.symm), if_pos w]; omega
      · rw [val, if_neg w] at hd'
        rcases wit n hn hd' with z | ⟨q, z1, s, z2, z3, z4, z5⟩
        · exact .inl z
        · refine .inr ⟨q, z1, s, z2, z3, z4, ?_⟩
          rw [val, val, if_neg w]
          by_cases u : q = x1.toInt.toNat
          · rw [if_pos u]; rw [u] at z5; omega
          · rw [if_neg u]; exact z5
    · show po 177 x2.2 ≤ _
      have := po_dec (c := 177) (M := N) (i := x1.toInt.toNat) (v := (N.1 177 v3.toNatClampNeg) + (1 : Int32)) (by omega) (by rw [ea]; exact e4)
      rw [e3]; omega
    · show po 177 x2.2 < po 177 M
      have := po_dec (c := 177) (M := N) (i := x1.toInt.toNat) (v := (N.1 177 v3.toNatClampNeg) + (1 : Int32)) (by omega) (by rw [ea]; exact e4)
      rw [e3]; omega
    · show 0 ≤ (k + (1 : Int32)).toInt ∧ (k + (1 : Int32)).toInt ≤ 4; omega
    · show (x2.2.1 177 v3.toInt.toNat).toInt < 1000000; rw [val, if_neg (fun z => hne z.symm)]; exact i3
    · show (4 - (k + (1 : Int32)).toInt).toNat < (4 - k.toInt).toNat; omega
theorem sl_spread10 {B : Mem} (hB : J B) {p : Int} (hp : 0 ≤ p ∧ p ≤ 71) {M : Mem} (h : QF B p M) :
    ∃ x, iter (lb_Mod_spread_10 0) FU ((0 : Int32), (0 : Int32), M) = some x ∧ (SP B p 0 M x.1 x.2 ∧ (x.1 = 0 → ∀ q : Nat, q < 72 → (x.2.1 177 q).toInt < 1000000 → ∀ s, 0 ≤ s → s ≤ 3 → CL B x.2 q s)) := by
  refine iter_r (fun s : Int32 × Int32 × Mem => SP B p 0 M s.1 s.2.2 ∧ (0 ≤ s.2.1.toInt ∧ s.2.1.toInt ≤ 72) ∧ (s.1 = 0 → ∀ q : Nat, (q : Int) < s.2.1.toInt → (s.2.2.1 177 q).toInt < 1000000 → ∀ t, 0 ≤ t → t ≤ 3 → CL B s.2.2 q t)) (fun s : Int32 × Int32 × Mem => (72 - s.2.1.toInt).toNat) _ ?_ FU _ ⟨⟨h, .inl rfl, Int.le_refl _, fun _ => ⟨rfl, rfl⟩, fun e => absurd rfl e⟩, (by show (0 : Int) ≤ (0 : Int32).toInt ∧ (0 : Int32).toInt ≤ 72; decide), fun _ q hq => absurd (show (q : Int) < 0 from hq) (by omega)⟩ (by show (72 - (0 : Int)).toNat < FU; rw [FU_v]; decide)
  rintro ⟨a, k, N⟩ ⟨i1, i2, i3⟩
  dsimp only at i1 i2 i3
  have c72 : (72 : Int32).toInt = 72 := rfl
  unfold lb_Mod_spread_10
  dsimp only
  refine if_i (fun c => ⟨_, rfl, i1, fun e q hq => i3 e q (by have := lei.mp c; omega)⟩) (fun c => ?_)
  have d := nlei.mp c
  have ek : (k + (1 : Int32)).toInt = k.toInt + 1 := add_ti rfl rfl (by omega) (by omega)
  have tk : k.toNatClampNeg = k.toInt.toNat := rfl
  refine inb_i i2.1 (by omega) (if_i (fun e => ?_) (fun e => ⟨_, rfl, ⟨i1, ?_, fun e0 q hq hf t t0 t1 => ?_⟩, ?_⟩))
  · have hf : (N.1 177 k.toInt.toNat).toInt < 1000000 := lti.mp e
    refine bind_i (sl_spread34 hB hp k ⟨i2.1, by omega⟩ i1.1 a i1.2.1 hf) (fun x4 _ p4 => c_i2 rfl ⟨_, rfl, ?_⟩)
    obtain ⟨⟨s1, s2, s3, s4, s5⟩, p5⟩ := p4
    obtain ⟨b1, b2, b3, b4, b5⟩ := i1
    refine ⟨⟨⟨s1, s2, ?_, fun e0 => ?_, fun e0 => ?_⟩, ?_, fun e0 q hq hf2 t t0 t1 => ?_⟩, ?_⟩
    · show po 177 x4.2 ≤ _; omega
    · obtain ⟨u1, u2⟩ := s4 e0
      exact ⟨rfl, u2.trans (b4 u1).2⟩
    · show (0 : Int32) ≠ 0 ∨ po 177 x4.2 < po 177 M
      right
      rcases s5 e0 with u | u
      · rcases b5 u with w | w
        · exact absurd rfl w
        · omega
      · omega
    · show 0 ≤ (k + (1 : Int32)).toInt ∧ (k + (1 : Int32)).toInt ≤ 72; omega
    · obtain ⟨u1, u2⟩ := s4 e0
      have hq' : (q : Int) < (k + (1 : Int32)).toInt := hq
      show CL B x4.2 q t
      by_cases eq : (q : Int) < k.toInt
      · rw [u2]
        have hf2' : (x4.2.1 177 q).toInt < 1000000 := hf2
        rw [u2] at hf2'
        exact i3 u1 q eq hf2' t t0 t1
      · have : (q : Int) = k.toInt := by omega
        rw [this]
        exact p5 e0 t t0 t1
    · show (72 - (k + (1 : Int32)).toInt).toNat < (72 - k.toInt).toNat; omega
  · show 0 ≤ (k + (1 : Int32)).toInt ∧ (k + (1 : Int32)).toInt ≤ 72; omega
  · have hq' : (q : Int) < (k + (1 : Int32)).toInt := hq
    by_cases eq : (q : Int) < k.toInt
    · exact i3 e0 q eq hf t t0 t1
    · have : k.toInt.toNat = q := by omega
      have w := nlti.mp e
      rw [tk, this] at w
      have c6 : (1000000 : Int32).toInt = 1000000 := rfl
      exact absurd (show (N.1 177 q).toInt < 1000000 from hf) (by omega)
  · show (72 - (k + (1 : Int32)).toInt).toNat < (72 - k.toInt).toNat; omega
def FF (B : Mem) (p : Int) (M : Mem) : Prop := QF B p M ∧ ∀ q : Nat, q < 72 → (M.1 177 q).toInt < 1000000 → ∀ s, 0 ≤ s → s ≤ 3 → CL B M q s
theorem fs_spread {B : Mem} (hB : J B) {p : Int} (hp : 0 ≤ p ∧ p ≤ 71) {M : Mem} (h : QF B p M) : ∃ r, f_Mod_spread 0 M = some r ∧ FF B p r := by
  have hl : ∃ x, iter (lb_Mod_spread_2 0) FU ((1 : Int32), M) = some x ∧ FF B p x := by
    have b := po_bd (c := 177) (Jr_177 h.1)
    refine iter_r (fun s : Int32 × Mem => QF B p s.2 ∧ (s.1 = 0 → FF B p s.2)) (fun s : Int32 × Mem => (2 * po 177 s.2 + (if s.1 = 0 then 0 else 1)).toNat) _ ?_ FU _ ⟨h, fun e => absurd (show (1 : Int32) = 0 from e) (by decide)⟩ (by show (2 * po 177 M + (if (1 : Int32) = 0 then 0 else 1)).toNat < FU; rw [FU_v, if_neg (by decide)]; omega)
    rintro ⟨a, N⟩ ⟨i1, i2⟩
    dsimp only at i1 i2
    unfold lb_Mod_spread_2
    dsimp only
    refine if_i (fun c => ⟨_, rfl, i2 c⟩) (fun c => ?_)
    have b := po_bd (c := 177) (Jr_177 i1.1)
    refine bind_i (sl_spread10 hB hp i1) (fun x _ q => ⟨_, rfl, ⟨q.1.1, fun e => ⟨q.1.1, q.2 e⟩⟩, ?_⟩)
    obtain ⟨⟨s1, s2, s3, s4, s5⟩, -⟩ := q
    have b2 := po_bd (c := 177) (Jr_177 s1.1)
    show (2 * po 177 x.2 + (if x.1 = 0 then 0 else 1)).toNat < (2 * po 177 N + (if a = 0 then 0 else 1)).toNat
    rw [if_neg c]
    by_cases e : x.1 = 0
    · rw [if_pos e, (s4 e).2]; omega
    · rw [if_neg e]
      rcases s5 e with u | u
      · exact absurd rfl u
      · omega
  unfold f_Mod_spread
  exact bind_i hl (fun x _ q => ⟨_, rfl, q⟩)
theorem fs_findFar {M : Mem} (h : J M) (v1 : Int32) (hv : 0 ≤ v1.toInt ∧ v1.toInt ≤ 71) : ∃ r, f_Mod_findFar v1 M = some r ∧ FF M v1.toInt r := by
  have hl : ∃ x, iter (lb_Mod_findFar_2 v1) FU ((0 : Int32), M) = some x ∧ (J x ∧ Fr W7 M x ∧ x.2 = M.2 ∧ ∀ i : Nat, (i : Int) < 72 → (x.1 177 i).toInt = 1000000) := by
    refine cnt_r _ (fun i N => J N ∧ Fr W7 M N ∧ N.2 = M.2 ∧ ∀ j : Nat, (j : Int) < i → (N.1 177 j).toInt = 1000000) 72 (by decide) ?_ M ⟨h, Fr.r, rfl, fun j hj => absurd hj (by omega)⟩ (by decide)
    intro k N k0 k1 hI
    obtain ⟨i1, i2, i3, i4⟩ := hI
    have c72 : (72 : Int32).toInt = 72 := rfl
    unfold lb_Mod_findFar_2
    dsimp only
    refine if_i (fun c => ⟨_, rfl, .inl ⟨_, rfl, i1, i2, i3, fun i hi => i4 i (by have := lei.mp c; omega)⟩⟩) (fun c => ?_)
    have d := nlei.mp c
    refine inb_i k0 (by omega) (mem_i (fun m e => ⟨_, rfl, .inr ⟨by omega, m, rfl, ?_, ?_, ?_, fun j hj => ?_⟩⟩))
    · rw [e]; exact Jw_177 i1 _ _ (by decide) (by decide)
    · rw [e]; exact i2.i rfl
    · rw [e]; exact i3
    · rw [e]
      by_cases w : j = k.toNatClampNeg
      · rw [w, si_eq]; rfl
      · rw [si_ne (fun z => w z.2)]
        rw [tcn'] at w
        exact i4 j (by omega)
  unfold f_Mod_findFar
  refine bind_i hl (fun x3 _ q => inb_i hv.1 (by omega) (mem_i (fun M4 e4 => ?_)))
  obtain ⟨q1, q2, q3, q4⟩ := q
  have val : ∀ i, i ≠ v1.toInt.toNat → M4.1 177 i = x3.1 177 i := fun i hi => by rw [e4]; exact si_ne (fun z => hi z.2)
  have qf : QF M v1.toInt M4 := by
    refine ⟨by rw [e4]; exact Jw_177 q1 _ _ (by decide) (by decide), by rw [e4]; exact q2.i rfl, by rw [e4]; exact q3, ?_, fun n hn hd => ?_⟩
    · rw [e4]; show ((s_i x3 177 v1.toInt.toNat 0).1 177 v1.toInt.toNat).toInt = 0; rw [si_eq]; rfl
    · by_cases w : n = v1.toInt.toNat
      · left; omega
      · rw [val n w, q4 n (by omega)] at hd; omega
  exact bind_i (fs_spread h hv qf) (fun x _ q => ⟨_, rfl, q⟩)
/-! path: a step nearer is always there -/
theorem far_on {M r : Mem} (h : J M) (hk : KP M 163 0) {p : Int} (hp : onP M p) (hf : FF M p r) : ∀ (m : Nat) (n : Nat), n < 72 → (r.1 177 n).toInt < 1000000 → (r.1 177 n).toInt.toNat ≤ m → onP M n := by
  intro m
  induction m with
  | zero =>
    intro n hn hd hm
    rcases hf.1.2.2.2.2 n hn hd with e | ⟨q, z1, s, z2, z3, z4, z5⟩
    · rw [e]; exact hp
    · have := Jr_177 hf.1.1 q
      omega
  | succ m ih =>
    intro n hn hd hm
    rcases hf.1.2.2.2.2 n hn hd with e | ⟨q, z1, s, z2, z3, z4, z5⟩
    · rw [e]; exact hp
    · have := Jr_177 hf.1.1 q
      exact (go_sym h hk (ih q z1 (by omega) (by omega)) ⟨z2, z3⟩ z4 (by omega)).1
theorem opp_r {s : Int} (h : 0 ≤ s ∧ s ≤ 3) : 0 ≤ opp s ∧ opp s ≤ 3 := by
  have : s = 0 ∨ s = 1 ∨ s = 2 ∨ s = 3 := by omega
  rcases this with rfl | rfl | rfl | rfl <;> decide
theorem nearer {M r : Mem} (h : J M) (hk : KP M 163 0) {p : Int} (hp : onP M p) (hf : FF M p r) {n : Nat} (hn : n < 72) (hd : (r.1 177 n).toInt < 1000000) (h0 : 0 < (r.1 177 n).toInt) : ∃ q : Nat, q < 72 ∧ ∃ s : Int, 0 ≤ s ∧ s ≤ 3 ∧ goR M 163 n s q ∧ (r.1 177 q).toInt = (r.1 177 n).toInt - 1 := by
  rcases hf.1.2.2.2.2 n hn hd with e | ⟨q, z1, s, z2, z3, z4, z5⟩
  · have := hf.1.2.2.2.1
    have en : p.toNat = n := by omega
    rw [en] at this; omega
  · have c := hf.2 q z1 (by omega) s z2 z3 n z4 (by omega)
    have e1 : ((n : Int)).toNat = n := by omega
    have e2 : ((q : Int)).toNat = q := by omega
    rw [e1, e2] at c
    have oq := far_on h hk hp hf _ q z1 (by omega) (Nat.le_refl _)
    have g := (go_sym h hk oq ⟨z2, z3⟩ z4 (by omega)).2
    exact ⟨q, z1, opp s, (opp_r ⟨z2, z3⟩).1, (opp_r ⟨z2, z3⟩).2, g, by omega⟩
abbrev WP (k i : Nat) : Prop := k = 168 ∨ (k = 162 ∧ i = 12)
theorem fs_put {M : Mem} (h : J M) (v : Int32) (hr : (M.1 162 12).toInt ≤ 15) : ∃ r, f_Mod_put v M = some r ∧ (J r ∧ (r.1 162 12).toInt = (M.1 162 12).toInt + 1 ∧ Fr WP M r ∧ r.2 = M.2) := by
  have z := Jr_162_12 h
  have ea : ((M.1 162 12) + (1 : Int32)).toInt = (M.1 162 12).toInt + 1 := add_ti rfl rfl (by omega) (by omega)
  unfold f_Mod_put
  refine inb_i (by omega) (by omega) (mem_i (fun M1 e1 => mem_i (fun M2 e2 => ⟨_, rfl, ?_⟩)))
  have k1 : M1.1 162 12 = M.1 162 12 := by rw [e1, si_ne (by intro e; exact absurd e.1 (by decide))]
  rw [k1] at e2
  refine ⟨?_, ?_, ?_, ?_⟩
  · rw [e2]; refine Jw_162_12 ?_ _ (by omega) (by omega); rw [e1]; exact Jw_any ok_168 h _ _
  · rw [e2, si_eq]; exact ea
  · rw [e2, e1]; exact Fr.i (W := WP) (Fr.i (W := WP) Fr.r (.inl rfl)) (.inr ⟨rfl, rfl⟩)
  · rw [e2, e1]; rfl
theorem sl_path79 {M r N : Mem} (h : J M) (hk : KP M 163 0) {p : Int} (hp : onP M p) (hf : FF M p r) (hN : J N) (hw : Fr WP r N) (v4 v5 v6 : Int32) (h4 : 0 ≤ v4.toInt ∧ v4.toInt ≤ 71) (hd : (r.1 177 v4.toInt.toNat).toInt < 1000000) (h0 : 0 < (r.1 177 v4.toInt.toNat).toInt) :
    ∃ x, iter (lb_Mod_path_79 v4 v5 v6 N) FU (0 : Int32) = some x ∧ (∃ q : Int32, f_Mod_go 163 v4 x N = some q ∧ (0 ≤ q.toInt ∧ q.toInt ≤ 71) ∧ (r.1 177 q.toInt.toNat).toInt = (r.1 177 v4.toInt.toNat).toInt - 1) := by
  obtain ⟨q, q1, s, s0, s1, g, dq⟩ := nearer h hk hp hf (n := v4.toInt.toNat) (by omega) hd h0
  have ev : ((v4.toInt.toNat : Nat) : Int) = v4.toInt := by omega
  rw [ev] at g
  have mN : ∀ a b n : Int, goR N 163 a b n ↔ goR M 163 a b n := by
    intro a b n
    have f7 := hf.1.2.1
    refine (goR_c ⟨hw 162 2 (by decide), hw 162 3 (by decide), fun i => hw 164 i (by omega)⟩ (fun i => hw 163 i (by omega))).trans (W7.go f7)
  have n1 : (-1 : Int32).toInt = -1 := rfl
  refine iter_r (fun t : Int32 => 0 ≤ t.toInt ∧ t.toInt ≤ s) (fun t : Int32 => (3 - t.toInt).toNat) _ ?_ FU _ ⟨by decide, s0⟩ (by show (3 - (0 : Int)).toNat < FU; rw [FU_v]; decide)
  rintro t ⟨i1, i2⟩
  have et : (t + (1 : Int32)).toInt = t.toInt + 1 := add_ti rfl rfl (by omega) (by omega)
  have on : t.toInt ≠ s → LPq (fun t : Int32 => 0 ≤ t.toInt ∧ t.toInt ≤ s) (fun t : Int32 => (3 - t.toInt).toNat) (fun x => ∃ q : Int32, f_Mod_go 163 v4 x N = some q ∧ (0 ≤ q.toInt ∧ q.toInt ≤ 71) ∧ (r.1 177 q.toInt.toNat).toInt = (r.1 177 v4.toInt.toNat).toInt - 1) (3 - t.toInt).toNat (.inl (t + (1 : Int32))) := by
    intro hn
    refine ⟨⟨by omega, by omega⟩, ?_⟩
    show (3 - (t + (1 : Int32)).toInt).toNat < (3 - t.toInt).toNat; omega
  unfold lb_Mod_path_79
  obtain ⟨x8, e8, g8, b1, b2⟩ := fs_go hN 163 St_163 v4 t h4
  have g8' := (mN _ _ _).mp g8
  refine bind_e e8 ?_
  refine if_i (fun e => ⟨_, rfl, on (fun w => ?_)⟩) (fun e => bind_e e8 ?_)
  · rw [w] at g8'
    have := goR_fun g8' g
    have e' := eqi.mp e
    omega
  have d8 := neqi.mp e
  have k1 : N.1 177 x8.toNatClampNeg = r.1 177 x8.toInt.toNat := hw 177 _ (by omega)
  have k2 : N.1 177 v4.toNatClampNeg = r.1 177 v4.toInt.toNat := hw 177 _ (by omega)
  have es : ((N.1 177 v4.toNatClampNeg) - (1 : Int32)).toInt = (r.1 177 v4.toInt.toNat).toInt - 1 := sub_ti (by rw [k2]) rfl (by omega) (by omega)
  refine inb_i (by omega) (by omega) (inb_i h4.1 (by omega) (if_i (fun e => ⟨_, rfl, x8, e8, ⟨by omega, b2⟩, ?_⟩) (fun e => ⟨_, rfl, on (fun w => ?_)⟩)))
  · rw [← es, ← k1]; exact eqi.mp e
  · rw [w] at g8'
    have hq := goR_fun g8' g
    refine neqi.mp e ?_
    rw [es, k1, hq]
    have : ((q : Int)).toNat = q := by omega
    rw [this]; exact dq
theorem sf_Mod_path (v1 v2 v3 : Int32) (M : Mem) (hJ : J M) (hK : KP M 163 0) : ∃ r : Int32 × Mem, f_Mod_path v1 v2 v3 M = some r ∧ (J r.2 ∧ ∀ k i, k ≠ 177 → k ≠ 168 → k ≠ 162 → r.2.1 k i = M.1 k i) ∧ (∀ i, i ≠ 13 → i ≠ 12 → r.2.1 162 i = M.1 162 i) := by
  unfold f_Mod_path
  refine mem_i (fun M1 e1 => ?_)
  have j1 : J M1 := by rw [e1]; exact Jw_fld okf_162_13 hJ _
  have f1 : ∀ k i, ¬ (k = 162 ∧ i = 13) → M1.1 k i = M.1 k i := fun k i hk => by rw [e1, si_ne hk]
  have mp : MapEq M1 M := ⟨f1 162 2 (by decide), f1 162 3 (by decide), fun i => f1 164 i (by omega)⟩
  have k1 : KP M1 163 0 := by
    intro j hj
    rw [f1 163 _ (by omega)] at hj
    have := hK j hj
    rw [f1 163 _ (by omega), f1 163 _ (by omega)]
    exact ⟨(onN_c mp).mpr this.1, (onN_c mp).mpr this.2⟩
  have out1 : (J M1 ∧ ∀ k i, k ≠ 177 → k ≠ 168 → k ≠ 162 → M1.1 k i = M.1 k i) ∧ (∀ i, i ≠ 13 → i ≠ 12 → M1.1 162 i = M.1 162 i) := ⟨⟨j1, fun k i _ _ h => f1 k i (by omega)⟩, fun i h _ => f1 162 i (by omega)⟩
  have pl : ∀ a b : Int32, ∃ r, f_Mod_isPlaceOf a b M1 = some r ∧ ((r = 0) ∨ (r ≠ 0 ∧ (0 ≤ a.toInt ∧ a.toInt ≤ 1) ∧ onN M1 a.toInt b.toInt ∧ b.toInt ≤ 35)) := by
    intro a b
    have z0 : (0 : Int32).toInt = 0 := rfl
    have z1 : (1 : Int32).toInt = 1 := rfl
    unfold f_Mod_isPlaceOf
    refine bind_i (sp_in a 0 1) (fun x _ q => ?_)
    rcases q with ⟨rfl, q1, q2⟩ | ⟨rfl, -⟩
    · refine if_i (fun c => absurd c (by decide)) (fun _ => bind_i (fs_isOf j1 a b) (fun y _ w => ?_))
      rcases w with ⟨rfl, w⟩ | ⟨rfl, w⟩
      · refine if_i (fun c => absurd c (by decide)) (fun _ => ⟨_, rfl, .inr ⟨by decide, by omega, w, ?_⟩⟩)
        have := w.2.1; have := awh j1; omega
      · exact if_i (fun _ => ⟨_, rfl, .inl rfl⟩) (fun c => absurd rfl c)
    · exact if_i (fun _ => ⟨_, rfl, .inl rfl⟩) (fun c => absurd rfl c)
  refine bind_i (pl v1 v2) (fun x2 _ q2 => if_i (fun _ => ⟨_, rfl, out1⟩) (fun c2 => ?_))
  rcases q2 with q2 | ⟨-, a1, a2, a3⟩
  · exact absurd q2 c2
  refine bind_i (pl v1 v3) (fun x3 _ q3 => if_i (fun _ => ⟨_, rfl, out1⟩) (fun c3 => ?_))
  rcases q3 with q3 | ⟨-, -, b2, b3⟩
  · exact absurd q3 c3
  have m1 : ((36 : Int32) * v1).toInt = 36 * v1.toInt := mul_ti rfl rfl (by omega) (by omega)
  have pv3 : (((36 : Int32) * v1) + v3).toInt = 36 * v1.toInt + v3.toInt := add_ti m1 rfl (by have := b2.1; omega) (by omega)
  have pv2 : (((36 : Int32) * v1) + v2).toInt = 36 * v1.toInt + v2.toInt := add_ti m1 rfl (by have := a2.1; omega) (by omega)
  have c0 := a2.1
  have c1 := b2.1
  unfold f_Mod_placeOf
  rw [Option.bind_some]
  have onp3 : onP M1 (((36 : Int32) * v1) + v3).toInt := by
    rw [pv3]
    refine ⟨by omega, by omega, ?_⟩
    have d1 : (36 * v1.toInt + v3.toInt) / 36 = v1.toInt := by omega
    have d2 : (36 * v1.toInt + v3.toInt) % 36 = v3.toInt := by omega
    rw [d1, d2]; exact b2
  refine bind_i (fs_findFar j1 (((36 : Int32) * v1) + v3) ⟨onp3.1, onp3.2.1⟩) (fun x5 _ ff => ?_)
  rw [Option.bind_some]
  have f5 := ff.1.2.1
  have out5 : (J x5 ∧ ∀ k i, k ≠ 177 → k ≠ 168 → k ≠ 162 → x5.1 k i = M.1 k i) ∧ (∀ i, i ≠ 13 → i ≠ 12 → x5.1 162 i = M.1 162 i) := ⟨⟨ff.1.1, fun k i n1 _ n3 => (f5 k i n1).trans (f1 k i (by omega))⟩, fun i n1 _ => (f5 162 i (by omega)).trans (f1 162 i (by omega))⟩
  refine inb_i (by omega) (by omega) (if_i (fun e => ?_) (fun e => ⟨_, rfl, out5⟩))
  have dl : (x5.1 177 (((36 : Int32) * v1) + v2).toInt.toNat).toInt < 1000000 := lti.mp e
  have r5 := Jr_177 ff.1.1 (((36 : Int32) * v1) + v2).toInt.toNat
  refine mem_i (fun M7 e7 => ?_)
  have hl : ∃ x, iter (lb_Mod_path_69 (x5.1 177 (((36 : Int32) * v1) + v2).toNatClampNeg)) FU (((36 : Int32) * v1) + v2, (0 : Int32), M7) = some x ∧ (J x ∧ Fr WP x5 x) := by
    refine iter_r (fun s : Int32 × Int32 × Mem => J s.2.2 ∧ Fr WP x5 s.2.2 ∧ (0 ≤ s.1.toInt ∧ s.1.toInt ≤ 71) ∧ 0 ≤ s.2.1.toInt ∧ (x5.1 177 s.1.toInt.toNat).toInt + s.2.1.toInt = (x5.1 177 (((36 : Int32) * v1) + v2).toInt.toNat).toInt ∧ (s.2.2.1 162 12).toInt ≤ s.2.1.toInt ∧ (s.2.2.1 162 12).toInt ≤ 10) (fun s : Int32 × Int32 × Mem => ((x5.1 177 (((36 : Int32) * v1) + v2).toInt.toNat).toInt - s.2.1.toInt).toNat) _ ?_ FU _ ⟨?_, ?_, ?_, ?_, ?_, ?_, ?_⟩ ?_
    · rintro ⟨a, k, N⟩ ⟨i1, i2, i3, i4, i5, i6, i7⟩
      dsimp only at i1 i2 i3 i4 i5 i6 i7
      unfold lb_Mod_path_69
      dsimp only
      refine if_i (fun c => ⟨_, rfl, i1, i2⟩) (fun c => ?_)
      have d : k.toInt < (x5.1 177 (((36 : Int32) * v1) + v2).toInt.toNat).toInt := nlei.mp c
      have ra := Jr_177 ff.1.1 a.toInt.toNat
      have ek : (k + (1 : Int32)).toInt = k.toInt + 1 := add_ti rfl rfl (by omega) (by omega)
      refine bind_i (sl_path79 j1 k1 onp3 ff i1 i2 a _ k i3 (by omega) (by omega)) (fun x12 _ q => ?_)
      obtain ⟨q, eq, q1, q2⟩ := q
      have c10 : (10 : Int32).toInt = 10 := rfl
      have fin : ∀ K : Mem, J K → Fr WP x5 K → (K.1 162 12).toInt ≤ k.toInt + 1 → (K.1 162 12).toInt ≤ 10 → LPq (fun s : Int32 × Int32 × Mem => J s.2.2 ∧ Fr WP x5 s.2.2 ∧ (0 ≤ s.1.toInt ∧ s.1.toInt ≤ 71) ∧ 0 ≤ s.2.1.toInt ∧ (x5.1 177 s.1.toInt.toNat).toInt + s.2.1.toInt = (x5.1 177 (((36 : Int32) * v1) + v2).toInt.toNat).toInt ∧ (s.2.2.1 162 12).toInt ≤ s.2.1.toInt ∧ (s.2.2.1 162 12).toInt ≤ 10) (fun s : Int32 × Int32 × Mem => ((x5.1 177 (((36 : Int32) * v1) + v2).toInt.toNat).toInt - s.2.1.toInt).toNat) (fun x : Mem => J x ∧ Fr WP x5 x) ((x5.1 177 (((36 : Int32) * v1) + v2).toInt.toNat).toInt - k.toInt).toNat (.inl (q, k + (1 : Int32), K)) := by
        intro K y1 y2 y3 y4
        refine ⟨⟨y1, y2, q1, ?_, ?_, ?_, y4⟩, ?_⟩
        · show 0 ≤ (k + (1 : Int32)).toInt; omega
        · show (x5.1 177 q.toInt.toNat).toInt + (k + (1 : Int32)).toInt = _; omega
        · show (K.1 162 12).toInt ≤ (k + (1 : Int32)).toInt; omega
        · show ((x5.1 177 (((36 : Int32) * v1) + v2).toInt.toNat).toInt - (k + (1 : Int32)).toInt).toNat < _; omega
      unfold j_Mod_path_143_69
      refine if_i (fun c => bind_e eq ⟨_, rfl, fin N i1 i2 (by omega) i7⟩) (fun c => ?_)
      have dk := nlei.mp c
      refine bind_i (fs_put i1 x12 (by omega)) (fun x14 _ s => ?_)
      obtain ⟨s1, s2, s3, s4⟩ := s
      have ego : f_Mod_go 163 a x12 x14 = some q := by
        obtain ⟨y, ey, gy, y1, y2⟩ := fs_go s1 163 St_163 a x12 i3
        have gq := (some_of (fs_go i1 163 St_163 a x12 i3) eq).1
        have := goR_fun ((goR_c ⟨s3 162 2 (by decide), s3 162 3 (by decide), fun i => s3 164 i (by omega)⟩ (fun i => s3 163 i (by omega))).mp gy) gq
        rw [ey, Int32.toInt_inj.mp this]
      exact bind_e ego ⟨_, rfl, fin x14 s1 (i2.t s3) (by omega) (by omega)⟩
    · show J M7; rw [e7]; exact Jw_162_12 ff.1.1 _ (by decide) (by decide)
    · show Fr WP x5 M7; rw [e7]; exact Fr.i (W := WP) Fr.r (.inr ⟨rfl, rfl⟩)
    · show 0 ≤ (((36 : Int32) * v1) + v2).toInt ∧ (((36 : Int32) * v1) + v2).toInt ≤ 71; omega
    · show (0 : Int) ≤ (0 : Int32).toInt; decide
    · show (x5.1 177 (((36 : Int32) * v1) + v2).toInt.toNat).toInt + (0 : Int) = _; omega
    · show (M7.1 162 12).toInt ≤ 0; rw [e7, si_eq]; decide
    · show (M7.1 162 12).toInt ≤ 10; rw [e7, si_eq]; decide
    · show ((x5.1 177 (((36 : Int32) * v1) + v2).toInt.toNat).toInt - (0 : Int)).toNat < FU; rw [FU_v]; omega
  refine bind_i hl (fun x17 _ q => ⟨_, rfl, ⟨q.1, fun k i n1 n2 n3 => ?_⟩, fun i n1 n2 => ?_⟩)
  · exact (q.2 k i (by omega)).trans (out5.1.2 k i n1 n2 n3)
  · exact (q.2 162 i (by omega)).trans (out5.2 i n1 n2)
