section
/-! the class lays its nets: cells, then planks -/
theorem sl_n {n k i : Nat} (hn : n < 200) (h : k ≠ n) : Nat.testBit (2 ^ n) (sl k i) = false := by
  rw [tb2]
  refine decide_eq_false ?_
  unfold sl
  repeat' split
  all_goals omega
section NL
variable {X R : Mem} {v0 : Nat} {on : Nat → Nat → Prop}
theorem NL_79 (hv : isN v0) (jR : J R) (onb : ∀ l d, on l d → (d : Int) < xw R * xh R) {A : Mem} (zA : ZG A R) (hb : NB v0 on 36 A) {x} (e : iter (lb_Nets_lay_79 v0 11) FU ((0 : Int32), A) = some x) : (∀ l c s, l < 2 → c < 36 → s < 4 → LKn R on l c s (x.1 (v0 + 3) ((l * 36 + c) * 4 + s))) ∧ (∀ l c, l < 2 → c < 36 → NR R on l c 4 (x.2.1 (v0 + 2) (l * 36 + c))) ∧ (∀ k i, k ≠ v0 + 3 → x.1 k i = A.1 k i) ∧ (∀ k i, k ≠ v0 + 2 → x.2.1 k i = A.2.1 k i) ∧ x.2.2 = A.2.2 := by
  have v0b : v0 = 32 ∨ v0 = 36 := hv
  refine it_r (I := fun s : Int32 × Mem => ∃ m : Nat, m ≤ 36 ∧ s.1.toInt = (m : Int) ∧ (∀ l c s', l < 2 → c < m → s' < 4 → LKn R on l c s' (s.2.1 (v0 + 3) ((l * 36 + c) * 4 + s'))) ∧ (∀ l c, l < 2 → c < m → NR R on l c 4 (s.2.2.1 (v0 + 2) (l * 36 + c))) ∧ (∀ k i, k ≠ v0 + 3 → s.2.1 k i = A.1 k i) ∧ (∀ k i, k ≠ v0 + 2 → s.2.2.1 k i = A.2.1 k i) ∧ s.2.2.2 = A.2.2) (Q := fun x : Mem => (∀ l c s, l < 2 → c < 36 → s < 4 → LKn R on l c s (x.1 (v0 + 3) ((l * 36 + c) * 4 + s))) ∧ (∀ l c, l < 2 → c < 36 → NR R on l c 4 (x.2.1 (v0 + 2) (l * 36 + c))) ∧ (∀ k i, k ≠ v0 + 3 → x.1 k i = A.1 k i) ∧ (∀ k i, k ≠ v0 + 2 → x.2.1 k i = A.2.1 k i) ∧ x.2.2 = A.2.2) ?_ e ⟨0, by omega, rfl, fun l c s' _ h => absurd h (by omega), fun l c _ h => absurd h (by omega), fun _ _ _ => rfl, fun _ _ _ => rfl, rfl⟩
  rintro ⟨cv, N⟩ r ⟨m, lm, hm, hn, hr, f1, f2, f3⟩ e
  dsimp only at hm hn hr f1 f2 f3
  have z36 : (36 : Int32).toInt = 36 := rfl
  unfold lb_Nets_lay_79 at e
  dsimp only at e
  rcases io e with ⟨k, e⟩ | ⟨k, e⟩
  · have := q_le k
    obtain rfl := Option.some.inj e
    have : m = 36 := by omega
    subst this
    exact ⟨hn, hr, f1, f2, f3⟩
  have k1 := q_ng k
  obtain ⟨x11, e11, e⟩ := bo e
  obtain ⟨x12, e12, e⟩ := bo e
  obtain rfl := Option.some.inj e
  have zc : ∀ {N' : Mem}, (∀ k i, k ≠ v0 + 3 → N'.1 k i = A.1 k i) → ZG N' R := by
    intro N' f
    unfold ZG at zA ⊢
    rw [f 3 2 (by omega), f 3 3 (by omega)]
    exact ⟨zA.1, zA.2.1, fun i hi => by rw [f 4 i (by omega)]; exact zA.2.2.1 i hi, zA.2.2.2⟩
  have bc : ∀ {N' : Mem}, (∀ k i, k ≠ v0 + 2 → N'.2.1 k i = A.2.1 k i) → NB v0 on 36 N' := by
    intro N' f a d ha
    rw [f (v0 + 1) a (by omega)]; exact hb a d ha
  obtain ⟨a1, a2, a3, a4, a5⟩ := link_i hv (zc f1) jR onb (zc f1) (bc f2) (l := 0) rfl (by omega) hm (by omega) e11
  have g1 : ∀ k i, k ≠ v0 + 3 → x11.1 k i = A.1 k i := fun k i n => by rw [a3 k i (by omega)]; exact f1 k i n
  have g2 : ∀ k i, k ≠ v0 + 2 → x11.2.1 k i = A.2.1 k i := fun k i n => by rw [a4 k i (by omega)]; exact f2 k i n
  obtain ⟨b1, b2, b3, b4, b5⟩ := link_i hv (zc g1) jR onb (zc g1) (bc g2) (l := 1) o1 (by omega) hm (by omega) e12
  refine ⟨m + 1, by omega, add_ti hm o1 (by omega) (by omega), fun l c s' hl hc hs => ?_, fun l c hl hc => ?_, fun k i n => ?_, fun k i n => ?_, ?_⟩
  · show LKn R on l c s' (x12.1 _ _)
    by_cases g : c = m
    · subst g
      have : l = 0 ∨ l = 1 := by omega
      rcases this with rfl | rfl
      · rw [b3 _ _ (by omega)]; exact a1 s' hs
      · exact b1 s' hs
    · rw [b3 _ _ (by omega), a3 _ _ (by omega)]; exact hn l c s' hl (by omega) hs
  · show NR R on l c 4 (x12.2.1 _ _)
    by_cases g : c = m
    · subst g
      have : l = 0 ∨ l = 1 := by omega
      rcases this with rfl | rfl
      · rw [b4 _ _ (by omega)]; exact a2
      · exact b2
    · rw [b4 _ _ (by omega), a4 _ _ (by omega)]; exact hr l c hl (by omega)
  · show x12.1 k i = _
    rw [b3 k i (by omega)]; exact g1 k i n
  · show x12.2.1 k i = _
    rw [b4 k i (by omega)]; exact g2 k i n
  · show x12.2.2 = _
    rw [b5, a5]; exact f3
/-- links and the planks of D -/
def NXT (R : Mem) (on : Nat → Nat → Prop) (D : Int → Int → Prop) (l c s : Nat) (v : Int32) : Prop := ((l = 1 ∧ bb (xw R) (xh R) c s ≠ -1 ∧ D c (bb (xw R) (xh R) c s)) → v.toInt = bb (xw R) (xh R) c s) ∧ (¬ (l = 1 ∧ bb (xw R) (xh R) c s ≠ -1 ∧ D c (bb (xw R) (xh R) c s)) → LKn R on l c s v)
def NRD (R : Mem) (on : Nat → Nat → Prop) (D : Int → Int → Prop) (l c : Nat) (v : Int64) : Prop := ∀ d : Nat, bl v d = true ↔ (∃ s : Nat, s < 4 ∧ lk R on l c s ∧ bes (xw R) (xh R) c s = (d : Int)) ∨ (l = 1 ∧ ∃ s : Nat, s < 4 ∧ bb (xw R) (xh R) c s = (d : Int) ∧ D c d)
def ZX (v0 : Nat) (R : Mem) (on : Nat → Nat → Prop) (D : Int → Int → Prop) (N : Mem) : Prop := (∀ l c s, l < 2 → c < 36 → s < 4 → NXT R on D l c s (N.1 (v0 + 3) ((l * 36 + c) * 4 + s))) ∧ (∀ l c, l < 2 → c < 36 → NRD R on D l c (N.2.1 (v0 + 2) (l * 36 + c)))
theorem ZX_e {D D' : Int → Int → Prop} {N : Mem} (h : ∀ a b, D a b ↔ D' a b) (k : ZX v0 R on D N) : ZX v0 R on D' N := by
  have : D = D' := by funext a b; exact propext (h a b)
  rw [← this]; exact k
theorem bridge_i (hv : isN v0) (jR : J R) {D : Int → Int → Prop} {A : Mem} (zA : ZG A R) (h : ZX v0 R on D A) {a b : Int32} (a0 : 0 ≤ a.toInt) (a1 : a.toInt < xw R * xh R) (b0 : 0 ≤ b.toInt) (b1 : b.toInt < xw R * xh R) {x} (e : f_Nets_bridge v0 a b A = some x) : ZX v0 R on (fun c d => D c d ∨ (c = a.toInt ∧ d = b.toInt)) x ∧ (∀ k i, k ≠ v0 + 3 → x.1 k i = A.1 k i) ∧ (∀ k i, k ≠ v0 + 2 → x.2.1 k i = A.2.1 k i) ∧ x.2.2 = A.2.2 := by
  obtain ⟨r0, r1, r2⟩ := isN_r hv
  have hw := aw jR
  have hh := ah jR
  have wh := awh jR
  obtain ⟨h1, h2⟩ := h
  unfold f_Nets_bridge at e
  obtain ⟨_, e⟩ := io_n e
  obtain ⟨x1, e1, e⟩ := bo e
  have z36 : (36 : Int32).toInt = 36 := rfl
  obtain ⟨a', ha'⟩ : ∃ a' : Nat, a.toInt = (a' : Int) := ⟨a.toInt.toNat, by omega⟩
  obtain ⟨b', hb'⟩ : ∃ b' : Nat, b.toInt = (b' : Int) := ⟨b.toInt.toNat, by omega⟩
  rcases acrossC zA jR a0 a1 b0 e1 with ⟨s, s4, hs, hbb⟩ | ⟨hs, hbb⟩
  · rcases io e with ⟨g, e⟩ | ⟨g, e⟩
    · have := q_eq g; rw [om] at this; omega
    obtain ⟨_, e⟩ := io_n e
    obtain ⟨M2, e2, e⟩ := mo e
    obtain ⟨_, e⟩ := io_n e
    obtain ⟨_, e⟩ := io_n e
    obtain ⟨M3, e3, e⟩ := mo e
    obtain rfl := Option.some.inj e
    have n1 : ((36 : Int32) + a).toInt = ((1 * 36 + a' : Nat) : Int) := by rw [add_ti z36 ha' (by omega) (by omega)]; omega
    have n2 : (((36 : Int32) + a) * (4 : Int32)).toInt = ((1 * 36 + a' : Nat) : Int) * 4 := mul_ti n1 o4 (by omega) (by omega)
    have n3 : ((((36 : Int32) + a) * (4 : Int32)) + x1).toInt = (((1 * 36 + a') * 4 + s : Nat) : Int) := by rw [add_ti n2 hs (by omega) (by omega)]; omega
    rw [r2, q_nat n3] at e2
    rw [r1, q_nat n1] at e3
    have u := (bb_i hw hh a0 a1 (s := s) (by omega) (by omega)).2.2
    refine ⟨⟨fun l c s' hl hc hs' => ?_, fun l c hl hc d => ?_⟩, fun k i n => ?_, fun k i n => ?_, ?_⟩
    · rw [e3, sl_1, e2]
      by_cases g2 : l = 1 ∧ c = a' ∧ s' = s
      · obtain ⟨rfl, rfl, rfl⟩ := g2
        rw [si_eq]
        refine ⟨fun _ => by rw [← ha', hbb], fun h => absurd ⟨rfl, by rw [← ha', hbb]; omega, .inr ⟨ha'.symm, by rw [← ha', hbb]⟩⟩ h⟩
      · rw [si_ne (by omega)]
        have k := h1 l c s' hl hc hs'
        refine ⟨fun ⟨q1, q2, q3⟩ => ?_, fun q => k.2 (fun ⟨q1, q2, q3⟩ => q ⟨q1, q2, .inl q3⟩)⟩
        rcases q3 with q3 | ⟨q3, q4⟩
        · exact k.1 ⟨q1, q2, q3⟩
        · exfalso
          apply g2
          have ca : c = a' := by omega
          subst ca
          refine ⟨q1, rfl, ?_⟩
          have := u s' (by omega) (by omega) (by rw [hbb, ha']; exact q4)
          omega
    · rw [e3]
      by_cases g2 : l = 1 ∧ c = a'
      · obtain ⟨rfl, rfl⟩ := g2
        rw [sl_eq, bl_or, bl_one hb' (by omega), e2, si_2, Bool.or_eq_true, h2 1 c hl hc d, decide_eq_true_eq]
        constructor
        · rintro ((q | ⟨q1, s2, q2, q3, q4⟩) | q)
          · exact .inl q
          · exact .inr ⟨q1, s2, q2, q3, .inl q4⟩
          · subst q
            exact .inr ⟨rfl, s, s4, by rw [← ha', hbb, hb'], .inr ⟨ha'.symm, hb'.symm⟩⟩
        · rintro (q | ⟨q1, s2, q2, q3, q4 | ⟨_, q4⟩⟩)
          · exact .inl (.inl q)
          · exact .inl (.inr ⟨q1, s2, q2, q3, q4⟩)
          · exact .inr (by omega)
      · rw [sl_ne (by omega), e2, si_2, h2 l c hl hc d]
        constructor
        · rintro (q | ⟨q1, s2, q2, q3, q4⟩)
          · exact .inl q
          · exact .inr ⟨q1, s2, q2, q3, .inl q4⟩
        · rintro (q | ⟨q1, s2, q2, q3, q4 | ⟨q4, _⟩⟩)
          · exact .inl q
          · exact .inr ⟨q1, s2, q2, q3, q4⟩
          · exact absurd ⟨q1, by omega⟩ g2
    · rw [e3, sl_1, e2, si_ne (by omega)]
    · rw [e3, sl_ne (by omega), e2, si_2]
    · rw [e3]; show M2.2.2 = _
      rw [e2]; rfl
  · rcases io e with ⟨g, e⟩ | ⟨g, e⟩
    · obtain rfl := Option.some.inj e
      refine ⟨⟨fun l c s' hl hc hs' => ?_, fun l c hl hc d => ?_⟩, fun _ _ _ => rfl, fun _ _ _ => rfl, rfl⟩
      · have k := h1 l c s' hl hc hs'
        refine ⟨fun ⟨q1, q2, q3⟩ => ?_, fun q => k.2 (fun ⟨q1, q2, q3⟩ => q ⟨q1, q2, .inl q3⟩)⟩
        rcases q3 with q3 | ⟨q3, q4⟩
        · exact k.1 ⟨q1, q2, q3⟩
        · rw [q3] at q4
          exact absurd q4 (hbb s' hs')
      · rw [h2 l c hl hc d]
        constructor
        · rintro (q | ⟨q1, s2, q2, q3, q4⟩)
          · exact .inl q
          · exact .inr ⟨q1, s2, q2, q3, .inl q4⟩
        · rintro (q | ⟨q1, s2, q2, q3, q4 | ⟨q4, q5⟩⟩)
          · exact .inl q
          · exact .inr ⟨q1, s2, q2, q3, q4⟩
          · rw [q4, q5] at q3
            exact absurd q3 (hbb s2 q2)
    · have := q_ne g; rw [om] at this; exact absurd hs this
/-- the planks of the scene, so many of them -/
def PD (X : Mem) (n : Nat) (c d : Int) : Prop := ∃ j : Nat, j < n ∧ (((X.1 16 j).toInt = c ∧ (X.1 17 j).toInt = d) ∨ ((X.1 17 j).toInt = c ∧ (X.1 16 j).toInt = d))
theorem rf11 : rf 11 4 = 16 ∧ rf 11 5 = 17 := by decide +kernel
theorem NL_111 (hv : isN v0) (jR : J R) {A : Mem} (zA : ZG A R) {n : Nat} (hn : (A.1 11 6).toInt = (n : Int)) (n6 : n ≤ 6) (hp : ∀ j, j < n → 0 ≤ (A.1 16 j).toInt ∧ (A.1 16 j).toInt < xw R * xh R ∧ 0 ≤ (A.1 17 j).toInt ∧ (A.1 17 j).toInt < xw R * xh R) (h : ZX v0 R on (fun _ _ => False) A) {x} (e : iter (lb_Nets_lay_111 v0 11) FU ((0 : Int32), A) = some x) : ZX v0 R on (PD A n) x ∧ (∀ k i, k ≠ v0 + 3 → x.1 k i = A.1 k i) ∧ (∀ k i, k ≠ v0 + 2 → x.2.1 k i = A.2.1 k i) ∧ x.2.2 = A.2.2 := by
  have v0b : v0 = 32 ∨ v0 = 36 := hv
  refine it_r (I := fun s : Int32 × Mem => ∃ m : Nat, m ≤ n ∧ s.1.toInt = (m : Int) ∧ ZX v0 R on (PD A m) s.2 ∧ (∀ k i, k ≠ v0 + 3 → s.2.1 k i = A.1 k i) ∧ (∀ k i, k ≠ v0 + 2 → s.2.2.1 k i = A.2.1 k i) ∧ s.2.2.2 = A.2.2) (Q := fun x : Mem => ZX v0 R on (PD A n) x ∧ (∀ k i, k ≠ v0 + 3 → x.1 k i = A.1 k i) ∧ (∀ k i, k ≠ v0 + 2 → x.2.1 k i = A.2.1 k i) ∧ x.2.2 = A.2.2) ?_ e ⟨0, by omega, rfl, ZX_e (fun a b => ⟨fun h => h.elim, fun ⟨j, hj, _⟩ => by omega⟩) h, fun _ _ _ => rfl, fun _ _ _ => rfl, rfl⟩
  rintro ⟨iv, N⟩ r ⟨m, lm, hm, hx, f1, f2, f3⟩ e
  dsimp only at hm hx f1 f2 f3
  have z6 : (6 : Int32).toInt = 6 := rfl
  have zc : ∀ {N' : Mem}, (∀ k i, k ≠ v0 + 3 → N'.1 k i = A.1 k i) → ZG N' R := by
    intro N' f
    unfold ZG at zA ⊢
    rw [f 3 2 (by omega), f 3 3 (by omega)]
    exact ⟨zA.1, zA.2.1, fun i hi => by rw [f 4 i (by omega)]; exact zA.2.2.1 i hi, zA.2.2.2⟩
  unfold lb_Nets_lay_111 at e
  dsimp only at e
  rw [rf11.1, rf11.2, f1 11 6 (by omega)] at e
  rcases io e with ⟨k, e⟩ | ⟨k, e⟩
  · have := q_le k
    obtain rfl := Option.some.inj e
    have : m = n := by omega
    subst this
    exact ⟨hx, f1, f2, f3⟩
  have k1 := q_ng k
  rcases io e with ⟨k, e⟩ | ⟨k, e⟩
  · have := q_le k; omega
  obtain ⟨_, e⟩ := io_n e
  obtain ⟨_, e⟩ := io_n e
  rw [q_nat hm, f1 16 m (by omega), f1 17 m (by omega)] at e
  obtain ⟨x15, e15, e⟩ := bo e
  obtain ⟨_, e⟩ := io_n e
  obtain ⟨_, e⟩ := io_n e
  obtain ⟨p1, p2, p3, p4⟩ := hp m (by omega)
  obtain ⟨b1, b2, b3, b4⟩ := bridge_i hv jR (zc f1) hx p1 p2 p3 p4 e15
  have g1 : ∀ k i, k ≠ v0 + 3 → x15.1 k i = A.1 k i := fun k i n => by rw [b2 k i n]; exact f1 k i n
  rw [g1 16 m (by omega), g1 17 m (by omega)] at e
  obtain ⟨x16, e16, e⟩ := bo e
  obtain rfl := Option.some.inj e
  obtain ⟨c1, c2, c3, c4⟩ := bridge_i hv jR (zc g1) b1 p3 p4 p1 p2 e16
  refine ⟨m + 1, by omega, add_ti hm o1 (by omega) (by omega), ZX_e (fun a b => ?_) c1, fun k i n => ?_, fun k i n => ?_, ?_⟩
  · constructor
    · rintro ((⟨j, q1, q2⟩ | ⟨q1, q2⟩) | ⟨q1, q2⟩)
      · exact ⟨j, by omega, q2⟩
      · exact ⟨m, by omega, .inl ⟨q1.symm, q2.symm⟩⟩
      · exact ⟨m, by omega, .inr ⟨q1.symm, q2.symm⟩⟩
    · rintro ⟨j, q1, q2⟩
      rcases Nat.lt_or_ge j m with g | g
      · exact .inl (.inl ⟨j, g, q2⟩)
      · have : j = m := by omega
        subst this
        rcases q2 with ⟨q2, q3⟩ | ⟨q2, q3⟩
        · exact .inl (.inr ⟨q2.symm, q3.symm⟩)
        · exact .inr ⟨q2.symm, q3.symm⟩
  · show x16.1 k i = _
    rw [c2 k i n]; exact g1 k i n
  · show x16.2.1 k i = _
    rw [c3 k i n, b3 k i n]; exact f2 k i n
  · show x16.2.2 = _
    rw [c4, b4]; exact f3
theorem lay_i (hv : isN v0) (jR : J R) (z : ZG X R) {v3 : Int32} (h3 : v3.toInt < xw R * xh R) {n : Nat} (hn : (X.1 11 6).toInt = (n : Int)) (n6 : n ≤ 6) (hp : ∀ j, j < n → 0 ≤ (X.1 16 j).toInt ∧ (X.1 16 j).toInt < xw R * xh R ∧ 0 ≤ (X.1 17 j).toInt ∧ (X.1 17 j).toInt < xw R * xh R) {x} (e : f_Nets_lay v0 11 v3 X = some x) : NB v0 (fun l d => d < 36 ∧ (v3.toInt = (d : Int) ∨ onN R l d)) 36 x ∧ ZX v0 R (fun l d => d < 36 ∧ (v3.toInt = (d : Int) ∨ onN R l d)) (PD X n) x ∧ (∀ k i, k ≠ v0 + 3 → x.1 k i = X.1 k i) ∧ (∀ k i, k ≠ v0 + 1 → k ≠ v0 + 2 → x.2.1 k i = X.2.1 k i) ∧ x.2.2 = X.2.2 := by
  obtain ⟨r0, r1, r2⟩ := isN_r hv
  have v0b : v0 = 32 ∨ v0 = 36 := hv
  unfold f_Nets_lay at e
  obtain ⟨_, e⟩ := io_n e
  obtain ⟨_, e⟩ := io_n e
  obtain ⟨M1, e1, e⟩ := mo e
  obtain ⟨M2, e2, e⟩ := mo e
  obtain ⟨x10, e10, e⟩ := bo e
  obtain ⟨x14, e14, e⟩ := bo e
  obtain ⟨x19, e19, e⟩ := bo e
  obtain rfl := Option.some.inj e
  rw [r0, show (0 : Int32).toNatClampNeg = 0 from rfl] at e1
  rw [r0, show (1 : Int32).toNatClampNeg = 1 from rfl] at e2
  have nb0 : NB v0 (fun l d => d < 36 ∧ (v3.toInt = (d : Int) ∨ onN R l d)) 0 M2 := by
    intro l d hl
    have : l = 0 ∨ l = 1 := by omega
    rw [e2]
    rcases this with rfl | rfl
    · rw [sl_ne (by omega), e1, sl_eq, bl_0]
      constructor
      · intro h; cases h
      · rintro ⟨h, _⟩; omega
    · rw [sl_eq, bl_0]
      constructor
      · intro h; cases h
      · rintro ⟨h, _⟩; omega
  obtain ⟨a1, a2, a3⟩ := NB_17 (on := fun l d => d < 36 ∧ (v3.toInt = (d : Int) ∨ onN R l d)) hv z jR (fun l d hl hd => ⟨fun h => h.2, fun h => ⟨hd, h⟩⟩) (A := M2) (by rw [e2, sl_1, e1, sl_1]) (by rw [e2]; show M1.2.2 = _; rw [e1]; rfl) nb0 e10
  have z10 : ZG x10 R := by unfold ZG; rw [a1]; exact z
  have onb : ∀ l d : Nat, (d < 36 ∧ (v3.toInt = (d : Int) ∨ onN R l d)) → (d : Int) < xw R * xh R := by
    rintro l d ⟨_, h | h⟩
    · omega
    · exact h.2.1
  obtain ⟨b1, b2, b3, b4, b5⟩ := NL_79 (on := fun l d => d < 36 ∧ (v3.toInt = (d : Int) ∨ onN R l d)) hv jR onb z10 a3 e14
  have g1 : ∀ k i, k ≠ v0 + 3 → x14.1 k i = X.1 k i := fun k i n => by rw [b3 k i n, a1]
  have z14 : ZG x14 R := by
    unfold ZG at z ⊢
    rw [g1 3 2 (by omega), g1 3 3 (by omega)]
    exact ⟨z.1, z.2.1, fun i hi => by rw [g1 4 i (by omega)]; exact z.2.2.1 i hi, z.2.2.2⟩
  have zx : ZX v0 R (fun l d => d < 36 ∧ (v3.toInt = (d : Int) ∨ onN R l d)) (fun _ _ => False) x14 := by
    refine ⟨fun l c s hl hc hs => ⟨fun h => h.2.2.elim, fun _ => b1 l c s hl hc hs⟩, fun l c hl hc d => ?_⟩
    rw [b2 l c hl hc d]
    constructor
    · exact .inl
    · rintro (h | ⟨_, s, _, _, h⟩)
      · exact h
      · exact h.elim
  obtain ⟨c1, c2, c3, c4⟩ := NL_111 hv jR z14 (n := n) (by rw [g1 11 6 (by omega)]; exact hn) n6 (fun j hj => by rw [g1 16 j (by omega), g1 17 j (by omega)]; exact hp j hj) zx e19
  refine ⟨fun l d hl => ?_, ZX_e (fun a b => ?_) c1, fun k i n => ?_, fun k i n1 n2 => ?_, ?_⟩
  · rw [c3 _ _ (by omega), b4 _ _ (by omega)]; exact a3 l d hl
  · unfold PD
    constructor
    · rintro ⟨j, q1, q2⟩; rw [g1 16 j (by omega), g1 17 j (by omega)] at q2; exact ⟨j, q1, q2⟩
    · rintro ⟨j, q1, q2⟩; refine ⟨j, q1, ?_⟩; rw [g1 16 j (by omega), g1 17 j (by omega)]; exact q2
  · rw [c2 k i n]; exact g1 k i n
  · rw [c3 k i n2, b4 k i n2]
    have m2 : M2.2.1 k i = X.2.1 k i := by rw [e2, sl_ne (by omega), e1, sl_ne (by omega)]
    rcases hv with rfl | rfl
    · have w := it_r (I := fun s : Int32 × Mem => Fx (2 ^ 33) [] M2 s.2) (Q := fun r : Mem => Fx (2 ^ 33) [] M2 r) (fun s r hs er => wl_Nets_lay_17 32 11 v3 s (by decide +kernel) (oc_c (sb_r _) (by decide +kernel)) hs er) e10 Fx_r
      rw [(w k i (sl_n (by omega) n1) (by simp)).2.1]; exact m2
    · have w := it_r (I := fun s : Int32 × Mem => Fx (2 ^ 37) [] M2 s.2) (Q := fun r : Mem => Fx (2 ^ 37) [] M2 r) (fun s r hs er => wl_Nets_lay_17 36 11 v3 s (by decide +kernel) (oc_c (sb_r _) (by decide +kernel)) hs er) e10 Fx_r
      rw [(w k i (sl_n (by omega) n1) (by simp)).2.1]; exact m2
  · rw [c4, b5, a2]
end NL
end
section
/-! scenes and people, side by side -/
theorem scn_rf_all : (List.range 193).all (fun a => !(kd a == 17) || (List.range 6).all (fun j => rf a j == a + 1 + j)) = true := by decide +kernel
theorem scn_rf {k j : Nat} (h : kd k = 10 + 7) (hj : j < 6) : rf k j = k + 1 + j := by
  have q := List.all_eq_true.mp scn_rf_all k (List.mem_range.mpr (kd_193 (by omega)))
  have g : (kd k == 17) = true := by rw [h]; rfl
  rw [g] at q
  exact (by simpa using q : ∀ x, x < 6 → rf k x = k + 1 + x) j hj
def scn (M : Mem) (k j i : Nat) : Int32 := if j < 6 then M.1 (k + 1 + j) i else M.1 k j
def SEq (f f' : Nat → Nat → Int32) : Prop := (∀ i, i < 8 → f 0 i = f' 0 i) ∧ (∀ i, i < 8 → f 1 i = f' 1 i) ∧ (∀ i, i < 8 → f 2 i = f' 2 i) ∧ (∀ i, i < 64 → f 3 i = f' 3 i) ∧ (∀ i, i < 6 → f 4 i = f' 4 i) ∧ (∀ i, i < 6 → f 5 i = f' 5 i) ∧ f 6 0 = f' 6 0 ∧ f 7 0 = f' 7 0 ∧ f 8 0 = f' 8 0 ∧ f 9 0 = f' 9 0
/-- a scene f and a row g of the reference, of n people -/
def ZS (f : Nat → Nat → Int32) (g : Nat → Int32) (n : Nat) : Prop :=
  (∀ p, p < n → (g p).toInt = (f 0 p).toInt + 36 * (f 1 p).toInt ∧ 0 ≤ (f 0 p).toInt ∧ (f 0 p).toInt ≤ 35 ∧ 0 ≤ (f 1 p).toInt ∧ (f 1 p).toInt ≤ 1 ∧ g (8 + p) = f 2 p) ∧
  (∀ p q, p < n → q < n → g (16 + 8 * p + q) = f 3 (8 * p + q) + f 3 (8 * q + p)) ∧
  (∀ p q, p < 8 → q < 8 → (n ≤ p ∨ n ≤ q) → f 3 (8 * p + q) = 0) ∧
  f 6 0 = g 92 ∧ (∀ j : Nat, j < 6 → (j : Int) < (g 92).toInt → f 4 j = g (80 + 2 * j) ∧ f 5 j = g (81 + 2 * j)) ∧
  f 7 0 = g 95 ∧ f 8 0 = g 93 ∧ f 9 0 = g 94
theorem ZS_c {f f' : Nat → Nat → Int32} {g g' : Nat → Int32} {n : Nat} (n8 : n ≤ 8) (hf : SEq f f') (hg : ∀ i, i < 96 → g i = g' i) (h : ZS f g n) : ZS f' g' n := by
  obtain ⟨a0, a1, a2, a3, a4, a5, a6, a7, a8, a9⟩ := hf
  obtain ⟨h1, h2, h3, h4, h5, h6, h7, h8⟩ := h
  refine ⟨fun p hp => ?_, fun p q hp hq => ?_, fun p q hp hq hh => ?_, ?_, fun j hj hl => ?_, ?_, ?_, ?_⟩
  · rw [← hg p (by omega), ← a0 p (by omega), ← a1 p (by omega), ← hg (8 + p) (by omega), ← a2 p (by omega)]; exact h1 p hp
  · rw [← hg _ (by omega), ← a3 _ (by omega), ← a3 _ (by omega)]; exact h2 p q hp hq
  · rw [← a3 _ (by omega)]; exact h3 p q hp hq hh
  · rw [← a6, ← hg 92 (by omega)]; exact h4
  · rw [← hg 92 (by omega)] at hl
    rw [← a4 j hj, ← a5 j hj, ← hg _ (by omega), ← hg _ (by omega)]; exact h5 j hj hl
  · rw [← a7, ← hg 95 (by omega)]; exact h6
  · rw [← a8, ← hg 93 (by omega)]; exact h7
  · rw [← a9, ← hg 94 (by omega)]; exact h8
/-- people: what does not change as minutes go by -/
def ZC (X R : Mem) (n : Nat) : Prop := (R.1 162 4).toInt = (n : Int) ∧ X.1 6 4 = R.1 162 4 ∧ X.1 6 5 = R.1 162 5 ∧ (∀ p, p < n → X.1 8 p = R.1 166 p ∧ 1 ≤ (R.1 166 p).toInt ∧ (R.1 166 p).toInt ≤ 9) ∧ (∀ p i : Nat, p < n → (i : Int) < (R.1 166 p).toInt → X.1 7 (9 * p + i) = R.1 165 (9 * p + i) ∧ 0 ≤ (R.1 165 (9 * p + i)).toInt ∧ (R.1 165 (9 * p + i)).toInt ≤ 4) ∧ ∀ p, n ≤ p → bt (R.1 162 5) p = false
/-- a row of the reference fits map and people -/
def ZV (R : Mem) (g : Nat → Int32) (n : Nat) : Prop :=
  (∀ p, p < n → onP R (g p).toInt ∧ (bt (R.1 162 5) p = false → (g p).toInt < 36) ∧ 0 ≤ (g (8 + p)).toInt ∧ (g (8 + p)).toInt < (R.1 166 p).toInt) ∧
  (0 ≤ (g 92).toInt ∧ (g 92).toInt ≤ 6) ∧ (0 ≤ (g 94).toInt ∧ (g 94).toInt ≤ 1) ∧
  (∀ j : Nat, (j : Int) < (g 92).toInt → onN R 1 (g (80 + 2 * j)).toInt ∧ onN R 1 (g (81 + 2 * j)).toInt ∧ ∃ s : Nat, s < 4 ∧ bb (xw R) (xh R) (g (80 + 2 * j)).toInt s = (g (81 + 2 * j)).toInt ∧ ¬ onN R 1 (bes (xw R) (xh R) (g (80 + 2 * j)).toInt s))
theorem ti_ofn {v : Int32} (h : 0 ≤ v.toInt) : ∃ n : Nat, v.toInt = (n : Int) := ⟨v.toInt.toNat, by omega⟩
theorem bt_lt {v : Int32} {m : Nat} (hm : m ≤ 31) (h : ∀ d, m ≤ d → bt v d = false) : 0 ≤ v.toInt ∧ v.toInt < 2 ^ m := by
  have hn : v.toBitVec.toNat < 2 ^ m := by
    refine Nat.lt_pow_two_of_testBit _ (fun i hi => ?_)
    have := h i hi
    unfold bt at this
    rw [BitVec.testBit_toNat]; exact this
  have le : (2 : Nat) ^ m ≤ 2 ^ 31 := Nat.pow_le_pow_right (by omega) hm
  have c := ti_c v
  rw [if_pos (by omega)] at c
  rw [c]
  refine ⟨by omega, ?_⟩
  have : ((2 : Int) ^ m) = ((2 ^ m : Nat) : Int) := by push_cast; rfl
  rw [this]; omega
def pc (v : Int32) : Nat := (List.range 8).countP (fun d => bt v d)
theorem bc_all : ∀ v : Fin 256, f_JInteger_bitCount (Int32.ofNat v.val) = some (Int32.ofNat (pc (Int32.ofNat v.val))) := by decide +kernel
theorem bc_i {v : Int32} (h : ∀ d, 8 ≤ d → bt v d = false) : f_JInteger_bitCount v = some (Int32.ofNat (pc v)) := by
  have k := bt_lt (m := 8) (by omega) h
  have e : (2 : Int) ^ 8 = 256 := rfl
  obtain ⟨n, hn⟩ := ti_ofn k.1
  rw [ofn_eq hn (by omega)]
  exact bc_all ⟨n, by omega⟩
theorem standing_i {k n : Nat} {M : Mem} {l c m x : Int32} (hm : m.toInt = (n : Int)) (n8 : n ≤ 8) (e : f_Scene_standing k l c m M = some x) : ∀ p, bt x p = decide (p < n ∧ M.1 (k + 1) p = c ∧ M.1 (k + 2) p = l) := by
  unfold f_Scene_standing at e
  obtain ⟨hk, e⟩ := io_n e
  obtain ⟨x4, e4, e⟩ := bo e
  obtain rfl := Option.some.inj e
  have r0 : rf k 0 = k + 1 := scn_rf hk (by omega)
  have r1 : rf k 1 = k + 2 := scn_rf hk (by omega)
  refine it_r (I := fun s : Int32 × Int32 => ∃ i : Nat, i ≤ n ∧ s.2.toInt = (i : Int) ∧ ∀ p, bt s.1 p = decide (p < i ∧ M.1 (k + 1) p = c ∧ M.1 (k + 2) p = l)) (Q := fun x : Int32 => ∀ p, bt x p = decide (p < n ∧ M.1 (k + 1) p = c ∧ M.1 (k + 2) p = l)) ?_ e4 ⟨0, by omega, rfl, fun p => by rw [bt_0, decide_eq_false (by omega)]⟩
  rintro ⟨a, b⟩ r ⟨i, li, hi, ha⟩ e
  dsimp only at hi ha
  unfold lb_Scene_standing_6 at e
  dsimp only at e
  rw [r0, r1] at e
  rcases io e with ⟨g, e⟩ | ⟨g, e⟩
  · have := q_le g
    obtain rfl := Option.some.inj e
    have : i = n := by omega
    subst this; exact ha
  have g1 := q_ng g
  have b1 : (b + (1 : Int32)).toInt = ((i + 1 : Nat) : Int) := add_ti hi o1 (by omega) (by omega)
  obtain ⟨_, e⟩ := io_n e
  rw [q_nat hi] at e
  have no : ¬ (M.1 (k + 1) i = c ∧ M.1 (k + 2) i = l) → ∀ p, bt a p = decide (p < i + 1 ∧ M.1 (k + 1) p = c ∧ M.1 (k + 2) p = l) := by
    intro h p
    rw [ha p]
    by_cases q : p = i
    · subst q; rw [decide_eq_false (by omega), decide_eq_false (fun z => h z.2)]
    · by_cases z : p < i ∧ M.1 (k + 1) p = c ∧ M.1 (k + 2) p = l
      · rw [decide_eq_true z, decide_eq_true ⟨by omega, z.2⟩]
      · rw [decide_eq_false z, decide_eq_false (fun y => z ⟨by omega, y.2⟩)]
  rcases io e with ⟨g2, e⟩ | ⟨g2, e⟩
  · obtain ⟨_, e⟩ := io_n e
    rcases io e with ⟨g3, e⟩ | ⟨g3, e⟩
    · obtain rfl := Option.some.inj e
      refine ⟨i + 1, by omega, b1, fun p => ?_⟩
      show bt (a ||| ((1 : Int32) <<< (b &&& 31))) p = _
      rw [bt_b1 _ hi (by omega), ha p]
      by_cases q : p = i
      · subst q; rw [decide_eq_true (rfl : p = p), Bool.or_true, decide_eq_true ⟨by omega, g2, g3⟩]
      · rw [decide_eq_false q, Bool.or_false]
        by_cases z : p < i ∧ M.1 (k + 1) p = c ∧ M.1 (k + 2) p = l
        · rw [decide_eq_true z, decide_eq_true ⟨by omega, z.2⟩]
        · rw [decide_eq_false z, decide_eq_false (fun y => z ⟨by omega, y.2⟩)]
    · obtain rfl := Option.some.inj e
      exact ⟨i + 1, by omega, b1, no (fun z => g3 z.2)⟩
  · obtain rfl := Option.some.inj e
    exact ⟨i + 1, by omega, b1, no (fun z => g2 z.1)⟩
theorem onPlace_i {a n : Nat} {R : Mem} {c x : Int32} (hm : (R.1 162 4).toInt = (n : Int)) (n8 : n ≤ 8) (e : f_Mod_onPlace a c R = some x) : ∀ p, bt x p = decide (p < n ∧ R.1 a p = c) := by
  unfold f_Mod_onPlace at e
  obtain ⟨hk, e⟩ := io_n e
  obtain ⟨x4, e4, e⟩ := bo e
  obtain rfl := Option.some.inj e
  refine it_r (I := fun s : Int32 × Int32 => ∃ i : Nat, i ≤ n ∧ s.2.toInt = (i : Int) ∧ ∀ p, bt s.1 p = decide (p < i ∧ R.1 a p = c)) (Q := fun x : Int32 => ∀ p, bt x p = decide (p < n ∧ R.1 a p = c)) ?_ e4 ⟨0, by omega, rfl, fun p => by rw [bt_0, decide_eq_false (by omega)]⟩
  rintro ⟨u, b⟩ r ⟨i, li, hi, ha⟩ e
  dsimp only at hi ha
  unfold lb_Mod_onPlace_5 at e
  dsimp only at e
  rcases io e with ⟨g, e⟩ | ⟨g, e⟩
  · have := q_le g
    obtain rfl := Option.some.inj e
    have : i = n := by omega
    subst this; exact ha
  have g1 := q_ng g
  have b1 : (b + (1 : Int32)).toInt = ((i + 1 : Nat) : Int) := add_ti hi o1 (by omega) (by omega)
  obtain ⟨_, e⟩ := io_n e
  rw [q_nat hi] at e
  rcases io e with ⟨g2, e⟩ | ⟨g2, e⟩
  · obtain rfl := Option.some.inj e
    refine ⟨i + 1, by omega, b1, fun p => ?_⟩
    show bt (u ||| ((1 : Int32) <<< (b &&& 31))) p = _
    rw [bt_b1 _ hi (by omega), ha p]
    by_cases q : p = i
    · subst q; rw [decide_eq_true (rfl : p = p), Bool.or_true, decide_eq_true ⟨by omega, g2⟩]
    · rw [decide_eq_false q, Bool.or_false]
      by_cases z : p < i ∧ R.1 a p = c
      · rw [decide_eq_true z, decide_eq_true ⟨by omega, z.2⟩]
      · rw [decide_eq_false z, decide_eq_false (fun y => z ⟨by omega, y.2⟩)]
  · obtain rfl := Option.some.inj e
    refine ⟨i + 1, by omega, b1, fun p => ?_⟩
    show bt (u ||| (0 : Int32)) p = _
    rw [bt_or, bt_0, Bool.or_false, ha p]
    by_cases q : p = i
    · subst q; rw [decide_eq_false (by omega), decide_eq_false (fun z => g2 z.2)]
    · by_cases z : p < i ∧ R.1 a p = c
      · rw [decide_eq_true z, decide_eq_true ⟨by omega, z.2⟩]
      · rw [decide_eq_false z, decide_eq_false (fun y => z ⟨by omega, y.2⟩)]
theorem womanC {X : Mem} {v x : Int32} {p : Nat} (hp : v.toInt = (p : Int)) (h32 : p < 32) (e : f_Crowd_woman v X = some x) : (x = 0 ↔ bt (X.1 6 5) p = false) := by
  unfold f_Crowd_woman at e
  rw [bt_shr hp h32] at e
  cases hb : bt (X.1 6 5) p with
  | true =>
    rw [hb, if_pos rfl, if_neg (by decide)] at e
    obtain rfl := Option.some.inj e
    exact ⟨fun h => (by cases h), fun h => (by cases h)⟩
  | false =>
    rw [hb, if_neg (show ¬ (false = true) by decide), if_pos rfl] at e
    obtain rfl := Option.some.inj e
    exact ⟨fun _ => rfl, fun _ => rfl⟩
theorem hasR {b v x : Int32} {p : Nat} (hp : v.toInt = (p : Int)) (h32 : p < 32) (e : f_Mod_has b v = some x) : (x = 0 ↔ bt b p = false) := by
  unfold f_Mod_has at e
  rw [bt_shr hp h32] at e
  cases hb : bt b p with
  | true =>
    rw [hb, if_pos rfl, if_pos rfl] at e
    obtain rfl := Option.some.inj e
    exact ⟨fun h => (by cases h), fun h => (by cases h)⟩
  | false =>
    rw [hb, if_neg (show ¬ (false = true) by decide), if_neg (by decide)] at e
    obtain rfl := Option.some.inj e
    exact ⟨fun _ => rfl, fun _ => rfl⟩
theorem place_i {v : Int32} (h0 : 0 ≤ v.toInt) (h : v.toInt ≤ 71) {x : Int32} : (f_Mod_cellOf v = some x → x.toInt = v.toInt % 36) ∧ (f_Mod_levelOf v = some x → x.toInt = v.toInt / 36) := by
  constructor
  · intro e
    unfold f_Mod_cellOf at e
    obtain rfl := Option.some.inj e
    exact rem_ti rfl rfl h0 (by decide)
  · intro e
    unfold f_Mod_levelOf at e
    obtain rfl := Option.some.inj e
    exact div_ti rfl rfl h0 (by decide)
/-- letters of a rule, for one of the people -/
def ltr (w : Int) (K : Nat → Int32) (wom : Int32) (n : Nat) (g : Nat → Int32) (p : Nat) (s : Int32) : Int32 :=
  if s = 105 then Int32.ofNat p else if s = 107 then (if bt (g 93) p = true then 1 else 0) else if s = 109 then g 95 else if s = 115 then (if K ((g p).toInt % 36).toNat = 3 then 1 else 0) else if s = 119 then (if bt wom p = true then 1 else 0) else if s = 120 then Int32.ofInt ((g p).toInt % 36 % w) else if s = 121 then Int32.ofInt ((g p).toInt % 36 / w) else Int32.ofNat ((List.range n).countP (fun o => decide (o ≠ p ∧ g o = g p)))
theorem ofi_eq {v : Int32} {z : Int} (h : v.toInt = z) : v = Int32.ofInt z := (ofi h).symm
theorem cnt_s (n : Nat) (P : Nat → Bool) : (List.range (n + 1)).countP P = (List.range n).countP P + (if P n = true then 1 else 0) := by
  rw [List.range_succ, List.countP_append]
  cases h : P n <;> simp [h]
theorem letter_i {a n p : Nat} {R : Mem} {s v x : Int32} (hw : 1 ≤ xw R ∧ xw R ≤ 6) (gr : 0 ≤ (R.1 a p).toInt ∧ (R.1 a p).toInt ≤ 71) (hn : (R.1 162 4).toInt = (n : Int)) (n8 : n ≤ 8) (hp : v.toInt = (p : Int)) (p8 : p < 8) (e : f_Mod_letter s a v R = some x) : x = ltr (xw R) (R.1 164) (R.1 162 5) n (R.1 a) p s := by
  unfold f_Mod_letter at e
  obtain ⟨_, e⟩ := io_n e
  obtain ⟨_, e⟩ := io_n e
  obtain ⟨x1, e1, e⟩ := bo e
  rw [q_nat hp] at e1
  have hc := (place_i gr.1 gr.2).1 e1
  unfold ltr
  rcases io e with ⟨g, e⟩ | ⟨g, e⟩
  · rw [if_pos g]; obtain rfl := Option.some.inj e; exact ofn_eq hp (by omega)
  rw [if_neg g]
  rcases io e with ⟨g, e⟩ | ⟨g, e⟩
  · rw [if_pos g]
    obtain ⟨_, e⟩ := io_n e
    obtain rfl := Option.some.inj e
    exact bt_shr hp (by omega)
  rw [if_neg g]
  rcases io e with ⟨g, e⟩ | ⟨g, e⟩
  · rw [if_pos g]
    obtain ⟨_, e⟩ := io_n e
    obtain rfl := Option.some.inj e
    rfl
  rw [if_neg g]
  rcases io e with ⟨g, e⟩ | ⟨g, e⟩
  · rw [if_pos g]
    obtain ⟨_, e⟩ := io_n e
    rw [tcn', hc] at e
    rcases io e with ⟨g2, e⟩ | ⟨g2, e⟩
    · obtain rfl := Option.some.inj e; rw [if_pos g2]
    · obtain rfl := Option.some.inj e; rw [if_neg g2]
  rw [if_neg g]
  rcases io e with ⟨g, e⟩ | ⟨g, e⟩
  · rw [if_pos g]
    obtain rfl := Option.some.inj e
    exact bt_shr hp (by omega)
  rw [if_neg g]
  rcases io e with ⟨g, e⟩ | ⟨g, e⟩
  · rw [if_pos g]
    obtain ⟨_, e⟩ := io_m e
    obtain rfl := Option.some.inj e
    refine ofi_eq ?_
    rw [rem_ti hc (show (R.1 162 2).toInt = xw R from rfl) (by omega) (by omega)]
  rw [if_neg g]
  rcases io e with ⟨g, e⟩ | ⟨g, e⟩
  · rw [if_pos g]
    obtain ⟨_, e⟩ := io_m e
    obtain rfl := Option.some.inj e
    refine ofi_eq ?_
    rw [div_ti hc (show (R.1 162 2).toInt = xw R from rfl) (by omega) (by omega)]
  rw [if_neg g]
  obtain ⟨x5, e5, e⟩ := bo e
  obtain rfl := Option.some.inj e
  refine it_r (I := fun s : Int32 × Int32 => ∃ i : Nat, i ≤ n ∧ s.2.toInt = (i : Int) ∧ s.1.toInt = (((List.range i).countP (fun o => decide (o ≠ p ∧ R.1 a o = R.1 a p)) : Nat) : Int)) (Q := fun x : Int32 => x = Int32.ofNat ((List.range n).countP (fun o => decide (o ≠ p ∧ R.1 a o = R.1 a p)))) ?_ e5 ⟨0, by omega, rfl, rfl⟩
  rintro ⟨u, b⟩ r ⟨i, li, hi, hu⟩ e
  dsimp only at hi hu
  unfold lb_Mod_letter_156 at e
  dsimp only at e
  have cb : (List.range i).countP (fun o => decide (o ≠ p ∧ R.1 a o = R.1 a p)) ≤ i := by
    have := List.countP_le_length (p := fun o => decide (o ≠ p ∧ R.1 a o = R.1 a p)) (l := List.range i)
    rwa [List.length_range] at this
  rcases io e with ⟨g, e⟩ | ⟨g, e⟩
  · have := q_le g
    obtain rfl := Option.some.inj e
    have : i = n := by omega
    subst this; exact ofn_eq hu (by omega)
  have g1 := q_ng g
  have b1 : (b + (1 : Int32)).toInt = ((i + 1 : Nat) : Int) := add_ti hi o1 (by omega) (by omega)
  have u0 : ∀ {w : Int32}, w.toInt = 0 → ¬ (i ≠ p ∧ R.1 a i = R.1 a p) → (u + w).toInt = (((List.range (i + 1)).countP (fun o => decide (o ≠ p ∧ R.1 a o = R.1 a p)) : Nat) : Int) := by
    intro w hw0 h
    rw [add_ti hu hw0 (by omega) (by omega), cnt_s, if_neg (by rw [decide_eq_false h]; decide)]; omega
  rcases io e with ⟨g2, e⟩ | ⟨g2, e⟩
  · have := q_eq g2
    obtain rfl := Option.some.inj e
    exact ⟨i + 1, by omega, b1, u0 o0 (fun h => h.1 (by omega))⟩
  have g2 := q_ne g2
  obtain ⟨_, e⟩ := io_n e
  obtain ⟨_, e⟩ := io_n e
  rw [q_nat hi, q_nat hp] at e
  rcases io e with ⟨g3, e⟩ | ⟨g3, e⟩
  · obtain rfl := Option.some.inj e
    refine ⟨i + 1, by omega, b1, ?_⟩
    show (u + (1 : Int32)).toInt = _
    rw [add_ti hu o1 (by omega) (by omega), cnt_s, if_pos (decide_eq_true ⟨by omega, g3⟩)]; omega
  · obtain rfl := Option.some.inj e
    exact ⟨i + 1, by omega, b1, u0 o0 (fun h => g3 h.2)⟩
theorem pc_cnt {v : Int32} {P : Nat → Bool} {n : Nat} (n8 : n ≤ 8) (h : ∀ d, bt v d = (decide (d < n) && P d)) : pc v = (List.range n).countP P := by
  unfold pc
  have gen : ∀ m : Nat, m + n ≤ 8 + m → (List.range (n + m)).countP (fun d => bt v d) = (List.range n).countP P := by
    intro m _
    induction m with
    | zero =>
      have : ∀ k, k ≤ n → (List.range k).countP (fun d => bt v d) = (List.range k).countP P := by
        intro k
        induction k with
        | zero => intro _; rfl
        | succ k ih => intro hk; rw [cnt_s, cnt_s, ih (by omega), h k, decide_eq_true (by omega), Bool.true_and]
      exact this n (Nat.le_refl _)
    | succ m ih => rw [show n + (m + 1) = (n + m) + 1 by omega, cnt_s, ih (by omega), h (n + m), decide_eq_false (by omega), Bool.false_and]; simp
  have := gen (8 - n) (by omega)
  rw [show n + (8 - n) = 8 by omega] at this
  exact this
theorem qual_v {k n p : Nat} {X R : Mem} {g : Nat → Int32} {s v x : Int32} (z : ZG X R) (jR : J R) (zc : ZC X R n) (n8 : n ≤ 8) (hk : kd k = 10 + 7) (zs : ZS (scn X k) g n) (gb : ∀ q, q < n → onP R (g q).toInt) (hp : v.toInt = (p : Int)) (pn : p < n) (hq : isq s = true) (e : f_Law_quality s v k X = some x) : x = ltr (xw R) (R.1 164) (R.1 162 5) n g p s := by
  have hw := aw jR
  have r0 : rf k 0 = k + 1 := scn_rf hk (by omega)
  have r1 : rf k 1 = k + 2 := scn_rf hk (by omega)
  obtain ⟨s1, s2, s3, s4, s5, s6, s7, s8⟩ := zs
  obtain ⟨p1, p2, p3, p4, p5, p6⟩ := s1 p pn
  have sc0 : ∀ i, scn X k 0 i = X.1 (k + 1) i := fun i => rfl
  have sc1 : ∀ i, scn X k 1 i = X.1 (k + 2) i := fun i => rfl
  rw [sc0, sc1] at p1
  rw [sc0] at p2 p3
  rw [sc1] at p4 p5
  have cell : (g p).toInt % 36 = (X.1 (k + 1) p).toInt := by omega
  obtain ⟨c1, c2, c3, c4, c5, c6⟩ := zc
  unfold f_Law_quality at e
  obtain ⟨_, e⟩ := io_n e
  obtain ⟨_, e⟩ := io_n e
  unfold ltr
  rw [r0, r1, q_nat hp] at e
  rcases io e with ⟨h, e⟩ | ⟨h, e⟩
  · rw [if_pos h]; obtain rfl := Option.some.inj e; exact ofn_eq hp (by omega)
  rw [if_neg h]
  rcases io e with ⟨h, e⟩ | ⟨h, e⟩
  · rw [if_pos h]
    obtain rfl := Option.some.inj e
    rw [bt_shr hp (by omega), show X.1 k 8 = g 93 from s7]
  rw [if_neg h]
  rcases io e with ⟨h, e⟩ | ⟨h, e⟩
  · rw [if_pos h]
    obtain rfl := Option.some.inj e
    exact s6
  rw [if_neg h]
  rcases io e with ⟨h110, e⟩ | ⟨h110, e⟩
  · subst h110
    rw [if_neg (by decide), if_neg (by decide), if_neg (by decide), if_neg (by decide)]
    obtain ⟨_, e⟩ := io_n e
    obtain ⟨x4, e4, e⟩ := bo e
    obtain ⟨x5, e5, e⟩ := bo e
    obtain rfl := Option.some.inj e
    have st := standing_i (by rw [c2]; exact c1) n8 e4
    have geq : ∀ o, o < n → ((X.1 (k + 1) o = X.1 (k + 1) p ∧ X.1 (k + 2) o = X.1 (k + 2) p) ↔ g o = g p) := by
      intro o ho
      obtain ⟨q1, q2, q3, q4, q5, q6⟩ := s1 o ho
      rw [sc0, sc1] at q1
      rw [sc0] at q2 q3
      rw [sc1] at q4 q5
      constructor
      · rintro ⟨a, b⟩
        refine Int32.toInt_inj.mp ?_
        rw [q1, p1, a, b]
      · intro h
        rw [h] at q1
        exact ⟨Int32.toInt_inj.mp (by omega), Int32.toInt_inj.mp (by omega)⟩
    have b8 : ∀ d, 8 ≤ d → bt x4 d = false := fun d hd => by rw [st d, decide_eq_false (by omega)]
    rw [bc_i b8] at e5
    obtain rfl := Option.some.inj e5
    have pcv : pc x4 = (List.range n).countP (fun o => decide (g o = g p)) := pc_cnt n8 (fun d => by
      rw [st d]
      by_cases hd : d < n
      · rw [decide_eq_true hd, Bool.true_and]
        have := geq d hd
        by_cases z2 : g d = g p
        · rw [decide_eq_true z2, decide_eq_true ⟨hd, (this.mpr z2).1, (this.mpr z2).2⟩]
        · rw [decide_eq_false z2, decide_eq_false (fun y => z2 (this.mp ⟨y.2.1, y.2.2⟩))]
      · rw [decide_eq_false hd, Bool.false_and, decide_eq_false (fun y => hd y.1)])
    have sub : ∀ m, m ≤ 8 → (List.range m).countP (fun o => decide (g o = g p)) = (List.range m).countP (fun o => decide (o ≠ p ∧ g o = g p)) + (if p < m then 1 else 0) := by
      intro m
      induction m with
      | zero => intro _; rfl
      | succ m ih =>
        intro hm
        rw [cnt_s, cnt_s, ih (by omega)]
        by_cases q : m = p
        · subst q
          rw [if_pos (decide_eq_true rfl), if_neg (by omega), if_neg (by rw [decide_eq_false (fun h => h.1 rfl)]; decide), if_pos (by omega)]
        · have e2 : decide (g m = g p) = decide (m ≠ p ∧ g m = g p) := by
            by_cases z2 : g m = g p
            · rw [decide_eq_true z2, decide_eq_true ⟨q, z2⟩]
            · rw [decide_eq_false z2, decide_eq_false (fun y => z2 y.2)]
          rw [e2]
          have i1 : (if p < m then (1 : Nat) else 0) = if p < m + 1 then 1 else 0 := by
            by_cases q2 : p < m
            · rw [if_pos q2, if_pos (by omega)]
            · rw [if_neg q2, if_neg (by omega)]
          rw [i1]; omega
    rw [pcv, sub n n8, if_pos pn]
    have cb : (List.range n).countP (fun o => decide (o ≠ p ∧ g o = g p)) ≤ n := by
      have := List.countP_le_length (p := fun o => decide (o ≠ p ∧ g o = g p)) (l := List.range n)
      rwa [List.length_range] at this
    refine ofn_eq ?_ (by omega)
    rw [sub_ti (ofn_ti (by omega)) o1 (by omega) (by omega)]; omega
  rcases io e with ⟨h, e⟩ | ⟨h, e⟩
  · rw [if_pos h]
    obtain ⟨x7, e7, e⟩ := bo e
    have on := gb p pn
    have rb : 0 ≤ (X.1 (k + 1) p).toInt ∧ (X.1 (k + 1) p).toInt < xw R * xh R := by
      have := on.2.2
      rw [cell] at this
      exact ⟨this.1, this.2.1⟩
    rw [cell]
    rcases stairC z jR e7 with ⟨a, b⟩ | ⟨a, b⟩
    · rw [a, if_neg (by decide)] at e
      obtain rfl := Option.some.inj e
      rw [if_pos (Int32.toInt_inj.mp b.2.2)]
    · rw [a, if_pos rfl] at e
      obtain rfl := Option.some.inj e
      rw [if_neg (fun h3 => b ⟨rb.1, rb.2, by rw [h3]; rfl⟩)]
  rw [if_neg h]
  rcases io e with ⟨h, e⟩ | ⟨h, e⟩
  · rw [if_pos h]
    obtain ⟨x10, e10, e⟩ := bo e
    have wq := womanC hp (by omega) e10
    rw [c3] at wq
    rcases io e with ⟨h2, e⟩ | ⟨h2, e⟩
    · obtain rfl := Option.some.inj e
      rw [if_neg (by rw [wq.mp h2]; decide)]
    · obtain rfl := Option.some.inj e
      rw [if_pos (by cases hb : bt (R.1 162 5) p with | true => rfl | false => exact absurd (wq.mpr hb) h2)]
  rw [if_neg h]
  have wi : (X.1 3 2).toInt = xw R := z.1
  rcases io e with ⟨h, e⟩ | ⟨h, e⟩
  · rw [if_pos h]
    obtain ⟨x13, e13, e⟩ := bo e
    obtain rfl := Option.some.inj e
    unfold f_Ground_column at e13
    rcases io e13 with ⟨_, e13⟩ | ⟨h2, e13⟩
    · obtain ⟨_, e13⟩ := io_m e13
      obtain rfl := Option.some.inj e13
      refine ofi_eq ?_
      rw [rem_ti rfl wi (by omega) (by omega), cell]
    · have := q_ng h2; rw [o1] at this; omega
  rw [if_neg h]
  rcases io e with ⟨h, e⟩ | ⟨h, e⟩
  · rw [if_pos h]
    obtain ⟨x13, e13, e⟩ := bo e
    obtain rfl := Option.some.inj e
    unfold f_Ground_line at e13
    rcases io e13 with ⟨_, e13⟩ | ⟨h2, e13⟩
    · obtain ⟨_, e13⟩ := io_m e13
      obtain rfl := Option.some.inj e13
      refine ofi_eq ?_
      rw [div_ti rfl wi (by omega) (by omega), cell]
    · have := q_ng h2; rw [o1] at this; omega
  exfalso
  simp only [isq, Bool.or_eq_true, beq_iff_eq] at hq
  rcases hq with ((((((h' | h') | h') | h') | h') | h') | h') | h' <;> contradiction
end
section
/-! who goes on: both sides -/
def rlx (R : Mem) (p : Nat) : Int := if (p : Int) < (R.1 162 23).toInt ∧ p < 40 then (R.1 172 p).toInt % 256 else -1
def ZL (X R : Mem) : Prop := ((R.1 162 23).toInt = 0 ∧ (X.1 40 4).toInt = 0) ∨ (0 < (R.1 162 23).toInt ∧ (R.1 162 23).toInt ≤ 40 ∧ (∀ p : Nat, (p : Int) < (R.1 162 23).toInt → -128 ≤ (R.1 172 p).toInt ∧ (R.1 172 p).toInt ≤ 127) ∧ ∃ S, Rch (rlx R) S0 S ∧ rdS (rlx R) S = none ∧ S.2.2.2.2 = true ∧ S.2.2.1 = 0 ∧ (X.1 40 4).toInt = ((stl 0 S.2.1.1 S.2.1.2).1.length : Int) ∧ (stl 0 S.2.1.1 S.2.1.2).1.length ≤ 40 ∧ stk (X.1 41) (stl 0 S.2.1.1 S.2.1.2).1)
def RV (st : List Int32) (N : Mem) : Prop := (N.1 40 7).toInt = (st.length : Int) ∧ stk (N.1 44) st
def mGo : Nat := 2 ^ 44 ||| 2 ^ 337
theorem mGo_k {k i : Nat} (h1 : k ≠ 44) (h2 : ¬ (k = 40 ∧ i = 7)) (h3 : k < 193) (h4 : i < 12 ∨ (k ≠ 162 ∧ k ≠ 1 ∧ k ≠ 0 ∧ k ≠ 3 ∧ k ≠ 46 ∧ k ≠ 6 ∧ k ≠ 40 ∧ k ≠ 45 ∧ k ≠ 147 ∧ k ≠ 151)) : Nat.testBit mGo (sl k i) = false := by
  unfold mGo
  have s : ¬ 44 = sl k i ∧ ¬ 337 = sl k i := by
    unfold sl
    repeat' split
    all_goals omega
  rw [Nat.testBit_or, tb2, tb2, decide_eq_false s.1, decide_eq_false s.2]; rfl
theorem push_i {st : List Int32} {v : Int32} {M r : Mem} (h : RV st M) (lt : st.length < 40) (e : f_Law_push v M = some r) : RV (v :: st) r := by
  have z0 := o0
  have z40 : (40 : Int32).toInt = 40 := rfl
  obtain ⟨h1, h2⟩ := h
  unfold f_Law_push at e
  rcases io e with ⟨c, e⟩ | ⟨c, e⟩
  · have := q_lt c; omega
  rcases io e with ⟨c, e⟩ | ⟨c, e⟩
  · have := q_le c; omega
  obtain ⟨_, e⟩ := io_n e
  obtain ⟨M1, e1, e⟩ := mo e
  obtain ⟨M2, e2, e⟩ := mo e
  obtain rfl := Option.some.inj e
  have a5 : (M1.1 40 7).toInt = (st.length : Int) := by rw [e1, si_ne (by omega)]; exact h1
  refine ⟨?_, ?_, stk_c h2 (fun i hi => ?_)⟩
  · rw [e2, si_eq, add_ti a5 o1 (by omega) (by omega)]; simp
  · rw [e2, si_ne (by omega), e1, q_nat h1, si_eq]
  · rw [e2, si_ne (by omega), e1, q_nat h1, si_ne (by omega)]
theorem pop_i {st : List Int32} {M : Mem} {r : Int32 × Mem} (h : RV st M) (le : st.length ≤ 40) (e : f_Law_pop M = some r) : r.1 = (pp st).1 ∧ RV (pp st).2 r.2 := by
  have z0 := o0
  have z1 := o1
  have z40 : (40 : Int32).toInt = 40 := rfl
  obtain ⟨h1, h2⟩ := h
  unfold f_Law_pop at e
  cases st with
  | nil =>
    rcases io e with ⟨c, e⟩ | ⟨c, e⟩
    · obtain rfl := Option.some.inj e
      exact ⟨rfl, h1, trivial⟩
    · have := q_nl c
      simp at h1
      omega
  | cons s w =>
    have h1 : (M.1 40 7).toInt = ((w.length + 1 : Nat) : Int) := h1
    have le : w.length + 1 ≤ 40 := le
    rcases io e with ⟨c, e⟩ | ⟨c, e⟩
    · have := q_lt c; omega
    rcases io e with ⟨c, e⟩ | ⟨c, e⟩
    · obtain ⟨M1, e1, e⟩ := mo e
      obtain ⟨_, e⟩ := io_n e
      obtain rfl := Option.some.inj e
      have m7 : (M1.1 40 7).toInt = (w.length : Int) := by rw [e1, si_eq, sub_ti h1 o1 (by omega) (by omega)]; omega
      refine ⟨?_, m7, stk_c h2.2 (fun i _ => by show M1.1 44 i = _; rw [e1, si_ne (by omega)])⟩
      show M1.1 44 (M1.1 40 7).toNatClampNeg = s
      rw [q_nat m7, e1, si_ne (by omega)]; exact h2.1
    · have := q_ng c; omega
theorem jn_i {l s r x : Int32} (e : f_Law_joined l s r = some x) : x = jn l s r := by
  unfold f_Law_joined at e
  unfold jn
  rcases io e with ⟨c, e⟩ | ⟨c, e⟩
  · rw [if_pos c]; exact (Option.some.inj e).symm
  rw [if_neg c]
  rcases io e with ⟨c, e⟩ | ⟨c, e⟩
  · rw [if_pos c]; exact (Option.some.inj e).symm
  rw [if_neg c]
  rcases io e with ⟨c, e⟩ | ⟨c, e⟩
  · rw [if_pos c]; exact (Option.some.inj e).symm
  rw [if_neg c]
  rcases io e with ⟨c, e⟩ | ⟨c, e⟩
  · rw [if_pos c]
    rcases io e with ⟨c, e⟩ | ⟨c, e⟩
    · rw [if_pos c]; exact (Option.some.inj e).symm
    · rw [if_neg c]
      obtain ⟨_, e⟩ := io_m e
      exact (Option.some.inj e).symm
  rw [if_neg c]
  rcases io e with ⟨c, e⟩ | ⟨c, e⟩
  · rw [if_pos c]
    rcases io e with ⟨c, e⟩ | ⟨c, e⟩
    · rw [if_pos c]; exact (Option.some.inj e).symm
    · rw [if_neg c]; exact (Option.some.inj e).symm
  rw [if_neg c]
  rcases io e with ⟨c, e⟩ | ⟨c, e⟩
  · rw [if_pos c]
    rcases io e with ⟨c, e⟩ | ⟨c, e⟩
    · rw [if_pos c]; exact (Option.some.inj e).symm
    · rw [if_neg c]; exact (Option.some.inj e).symm
  rw [if_neg c]
  rcases io e with ⟨c, e⟩ | ⟨c, e⟩
  · rw [if_pos c]
    rcases io e with ⟨c, e⟩ | ⟨c, e⟩
    · rw [if_pos c]; exact (Option.some.inj e).symm
    · rw [if_neg c]; exact (Option.some.inj e).symm
  rw [if_neg c]
  exact (Option.some.inj e).symm
theorem pp_l (st : List Int32) : (pp st).2.length ≤ st.length ∧ (0 < st.length → (pp st).2.length < st.length) := by
  cases st with
  | nil => exact ⟨Nat.le_refl _, fun h => by simp at h⟩
  | cons s w => exact ⟨by show w.length ≤ w.length + 1; omega, fun _ => by show w.length < w.length + 1; omega⟩
theorem opx_l (env : Int32 → Int32) (c : Int32) (st : List Int32) : (opx env c st).length ≤ st.length + 1 := by
  unfold opx
  have a := (pp_l st).1
  have b := (pp_l (pp st).2).1
  repeat' split
  all_goals simp only [List.length_cons]
  all_goals omega
theorem rv_l (env : Int32 → Int32) (v : List Int32) : (rv env v []).length ≤ v.length := by
  induction v with
  | nil => exact Nat.le_refl _
  | cons c v ih =>
    have := opx_l env c (rv env v [])
    show (opx env c (rv env v [])).length ≤ v.length + 1
    omega
theorem work_i {st : List Int32} {s : Int32} {M r : Mem} (h : RV st M) (lt : st.length < 40) (e : f_Law_work s M = some r) : RV (if s = 256 then -(pp st).1 :: (pp st).2 else jn (pp (pp st).2).1 s (pp st).1 :: (pp (pp st).2).2) r := by
  unfold f_Law_work at e
  obtain ⟨x1, e1, e⟩ := bo e
  obtain ⟨a1, a2⟩ := pop_i h (by omega) e1
  have l1 := (pp_l st).1
  have l2 := (pp_l (pp st).2).1
  rcases io e with ⟨c, e⟩ | ⟨c, e⟩
  · rw [if_pos c]
    obtain ⟨x5, e5, e⟩ := bo e
    obtain rfl := Option.some.inj e
    rw [a1] at e5
    exact push_i a2 (by omega) e5
  · rw [if_neg c]
    obtain ⟨x2, e2, e⟩ := bo e
    obtain ⟨x3, e3, e⟩ := bo e
    obtain ⟨x4, e4, e⟩ := bo e
    obtain rfl := Option.some.inj e
    obtain ⟨b1, b2⟩ := pop_i a2 (by omega) e2
    rw [jn_i e3, a1, b1] at e4
    exact push_i b2 (by omega) e4
theorem stk_app {f : Nat → Int32} {u v : List Int32} (h : stk f (u ++ v)) : stk f v := by
  induction u with
  | nil => exact h
  | cons s u ih => exact ih h.2
def isK (k : Nat) : Prop := k = 11 ∨ k = 25
theorem isK_kd {k : Nat} (h : isK k) : kd k = 10 + 7 := by rcases h with rfl | rfl <;> decide +kernel
/-- what both sides share while people go -/
def ZM (X R : Mem) (k a n : Nat) : Prop := ZG X R ∧ ZC X R n ∧ ZS (scn X k) (R.1 a) n ∧ ZV R (R.1 a) n ∧ ZL X R
theorem ZG_X {X Y R : Mem} (h : ZG X R) (a : Y.1 3 2 = X.1 3 2) (b : Y.1 3 3 = X.1 3 3) (c : ∀ i, Y.1 4 i = X.1 4 i) : ZG Y R := by
  unfold ZG at *
  rw [a, b]
  exact ⟨h.1, h.2.1, fun i hi => by rw [c]; exact h.2.2.1 i hi, h.2.2.2⟩
theorem goes_l {X R : Mem} {k a n p : Nat} {v : Int32} {o : List Int32} (hk : isK k) (jR : J R) (z : ZG X R) (zc : ZC X R n) (n8 : n ≤ 8) (zs : ZS (scn X k) (R.1 a) n) (gb : ∀ q, q < n → onP R (R.1 a q).toInt) (hp : v.toInt = (p : Int)) (pn : p < n) (ho : (X.1 40 4).toInt = (o.length : Int)) (o40 : o.length ≤ 40) (hs : stk (X.1 41) o) (h7 : (X.1 40 7).toInt = 0) {x} (e : iter (lb_Law_goes_28 v k) FU ((0 : Int32), X) = some x) : Fx mGo [] X x ∧ RV (rv (ltr (xw R) (R.1 164) (R.1 162 5) n (R.1 a) p) o []) x := by
  refine it_r (I := fun s : Int32 × Mem => Fx mGo [] X s.2 ∧ ∃ (u w : List Int32), o = u ++ w ∧ s.1.toInt = (w.length : Int) ∧ RV (rv (ltr (xw R) (R.1 164) (R.1 162 5) n (R.1 a) p) w []) s.2) (Q := fun x : Mem => Fx mGo [] X x ∧ RV (rv (ltr (xw R) (R.1 164) (R.1 162 5) n (R.1 a) p) o []) x) ?_ e ⟨Fx_r, o, [], by simp, rfl, h7, trivial⟩
  rintro ⟨iv, N⟩ r ⟨fx, u, w, how, hi, hv⟩ e
  have fr := wl_Law_goes_28 v k _ (by decide +kernel) fx e
  dsimp only at fx hi hv
  have z40 : (40 : Int32).toInt = 40 := rfl
  have fN : ∀ {kk i : Nat}, (kk ≠ 44 ∧ ¬ (kk = 40 ∧ i = 7) ∧ kk < 193 ∧ (i < 12 ∨ (kk ≠ 162 ∧ kk ≠ 1 ∧ kk ≠ 0 ∧ kk ≠ 3 ∧ kk ≠ 46 ∧ kk ≠ 6 ∧ kk ≠ 40 ∧ kk ≠ 45 ∧ kk ≠ 147 ∧ kk ≠ 151))) → N.1 kk i = X.1 kk i := fun h => (fx _ _ (mGo_k h.1 h.2.1 h.2.2.1 h.2.2.2) (by simp)).1
  have kk : k = 11 ∨ k = 25 := hk
  have lo : o.length = u.length + w.length := by rw [how, List.length_append]
  have wl : w.length ≤ o.length := by omega
  have rl := rv_l (ltr (xw R) (R.1 164) (R.1 162 5) n (R.1 a) p) w
  unfold lb_Law_goes_28 at e
  dsimp only at e
  rw [fN (by omega)] at e
  have done : w.length = o.length → o = w := by
    intro h
    have : u = [] := List.length_eq_zero_iff.mp (by omega)
    rw [how, this]; rfl
  rcases io e with ⟨c, e⟩ | ⟨c, e⟩
  · have := q_le c
    obtain rfl := Option.some.inj e
    refine ⟨fr, ?_⟩
    rw [done (by omega)]; exact hv
  have c1 := q_ng c
  rcases io e with ⟨c, e⟩ | ⟨c, e⟩
  · have := q_le c; omega
  have c2 := q_ng c
  obtain ⟨_, e⟩ := io_n e
  -- the next part
  have hu : u ≠ [] := by
    intro hu0
    rw [hu0, List.length_nil] at lo
    omega
  obtain ⟨u', c', hu'⟩ : ∃ u' c', u = u' ++ [c'] := ⟨u.dropLast, u.getLast hu, (List.dropLast_concat_getLast hu).symm⟩
  have how2 : o = u' ++ (c' :: w) := by rw [how, hu']; simp
  have hc' : X.1 41 w.length = c' := (stk_app (how2 ▸ hs : stk (X.1 41) (u' ++ (c' :: w)))).1
  rw [q_nat hi, fN (kk := 41) (i := w.length) (by omega), hc'] at e
  have i1 : (iv + (1 : Int32)).toInt = ((c' :: w).length : Int) := by
    show _ = ((w.length + 1 : Nat) : Int)
    exact add_ti hi o1 (by omega) (by omega)
  have step : ∀ x5 : Mem, RV (opx (ltr (xw R) (R.1 164) (R.1 162 5) n (R.1 a) p) c' (rv (ltr (xw R) (R.1 164) (R.1 162 5) n (R.1 a) p) w [])) x5 → some (Sum.inl ((iv + (1 : Int32)), x5)) = some r → Sum.elim (fun s : Int32 × Mem => Fx mGo [] X s.2 ∧ ∃ (u w : List Int32), o = u ++ w ∧ s.1.toInt = (w.length : Int) ∧ RV (rv (ltr (xw R) (R.1 164) (R.1 162 5) n (R.1 a) p) w []) s.2) (fun x : Mem => Fx mGo [] X x ∧ RV (rv (ltr (xw R) (R.1 164) (R.1 162 5) n (R.1 a) p) o []) x) r := by
    intro x5 h5 e
    obtain rfl := Option.some.inj e
    exact ⟨fr, u', c' :: w, how2, i1, h5⟩
  unfold opx at step
  rcases io e with ⟨cn, e⟩ | ⟨cn, e⟩
  · rw [if_pos cn] at step
    obtain ⟨x2, e2, e⟩ := bo e
    rcases qual_i e2 with ⟨q1, q2⟩ | ⟨q1, q2⟩
    · rw [if_pos q1] at step
      rw [q2, if_neg (by decide)] at e
      obtain ⟨x4, e4, e⟩ := bo e
      obtain ⟨x5, e5, e⟩ := bo e
      have zN : ZG N R := ZG_X z (fN (by omega)) (fN (by omega)) (fun i => fN (by omega))
      have zcN : ZC N R n := by
        obtain ⟨a1, a2, a3, a4, a5, a6⟩ := zc
        exact ⟨a1, by rw [fN (by omega)]; exact a2, by rw [fN (by omega)]; exact a3, fun q hq => by rw [fN (by omega)]; exact a4 q hq, fun q i hq hh => by rw [fN (by omega)]; exact a5 q i hq hh, a6⟩
      have zsN : ZS (scn N k) (R.1 a) n := by
        refine ZS_c n8 ?_ (fun _ _ => rfl) zs
        have f : ∀ j i, j < 10 → scn X k j i = scn N k j i := by
          intro j i hj
          unfold scn
          by_cases g : j < 6
          · rw [if_pos g, if_pos g, fN (by omega)]
          · rw [if_neg g, if_neg g, fN (by omega)]
        exact ⟨fun i _ => f 0 i (by omega), fun i _ => f 1 i (by omega), fun i _ => f 2 i (by omega), fun i _ => f 3 i (by omega), fun i _ => f 4 i (by omega), fun i _ => f 5 i (by omega), f 6 0 (by omega), f 7 0 (by omega), f 8 0 (by omega), f 9 0 (by omega)⟩
      have qv := qual_v zN jR zcN n8 (isK_kd hk) zsN gb hp pn q1 e4
      rw [qv] at e5
      exact step x5 (push_i hv (by omega) e5) e
    · rw [if_neg (by rw [q1]; decide)] at step
      rw [q2, if_pos rfl] at e
      obtain ⟨x3, e3, e⟩ := bo e
      have wk := work_i hv (by omega) e3
      refine step x3 ?_ e
      by_cases g : -c' = 256
      · rw [if_pos g] at wk ⊢; exact wk
      · rw [if_neg g] at wk ⊢; exact wk
  · rw [if_neg cn] at step
    obtain ⟨x7, e7, e⟩ := bo e
    exact step x7 (push_i hv (by omega) e7) e
theorem sl_out {kk i : Nat} (hkk : kk < 193) (h : ¬ (kk = 162 ∧ (i = 17 ∨ i = 18))) : ¬ 217 = sl kk i ∧ ¬ 218 = sl kk i := by
  unfold sl
  repeat' split
  all_goals omega
theorem goes_2 {X R : Mem} {k a n p : Nat} {v : Int32} {x r : Int32 × Mem} (hk : isK k) (ha : St a) (jR : J R) (n8 : n ≤ 8) (zm : ZM X R k a n) (hp : v.toInt = (p : Int)) (pn : p < n) (ex : f_Law_goes v k X = some x) (er : f_Mod_goes a v R = some r) : (x.1 = 0 ↔ r.1 = 0) := by
  obtain ⟨z, zc, zs, zv, zl⟩ := zm
  have r1 : rf k 1 = k + 2 := scn_rf (isK_kd hk) (by omega)
  have k25 : k ≤ 25 := by rcases hk with rfl | rfl <;> omega
  obtain ⟨s1, s2, s3, s4, s5, s6, s7, s8⟩ := zs
  obtain ⟨v1, v2, v3, v4⟩ := zv
  obtain ⟨p1, p2, p3, p4, p5, p6⟩ := s1 p pn
  have fest : X.1 k 9 = R.1 a 94 := s8
  have lev : scn X k 1 p = X.1 (k + 2) p := rfl
  have cl0 : scn X k 0 p = X.1 (k + 1) p := rfl
  rw [lev] at p1 p4 p5
  rw [cl0] at p1 p2 p3
  have gb : ∀ q, q < n → onP R (R.1 a q).toInt := fun q hq => (v1 q hq).1
  -- the class
  have cls : (X.1 k 9 = 1 ∧ X.1 (k + 2) p = 1 ∧ x.1 = 0) ∨ (¬ (X.1 k 9 = 1 ∧ X.1 (k + 2) p = 1) ∧ ∃ (N : Mem), (∀ kk i, ¬ (kk = 40 ∧ i = 7) → N.1 kk i = X.1 kk i) ∧ (N.1 40 7).toInt = 0 ∧ ∃ y, iter (lb_Law_goes_28 v k) FU ((0 : Int32), N) = some y ∧ j_Law_goes_107 y = some x) := by
    unfold f_Law_goes at ex
    obtain ⟨_, ex⟩ := io_n ex
    rw [r1] at ex
    rcases io ex with ⟨c, e⟩ | ⟨c, e⟩
    · obtain ⟨_, e⟩ := io_n e
      rw [q_nat hp] at e
      rcases io e with ⟨c2, e⟩ | ⟨c2, e⟩
      · obtain rfl := Option.some.inj e
        exact .inl ⟨c, c2, rfl⟩
      · obtain ⟨N, en, e⟩ := mo e
        obtain ⟨y, ey, e⟩ := bo e
        exact .inr ⟨fun h => c2 h.2, N, fun kk i h => by rw [en, si_ne h], by rw [en, si_eq]; rfl, y, ey, e⟩
    · obtain ⟨N, en, e⟩ := mo e
      obtain ⟨y, ey, e⟩ := bo e
      exact .inr ⟨fun h => c h.1, N, fun kk i h => by rw [en, si_ne h], by rw [en, si_eq]; rfl, y, ey, e⟩
  -- the reference
  have ref : (R.1 a 94 = 1 ∧ bt (R.1 162 5) p = true ∧ (R.1 a p).toInt / 36 = 1 ∧ r.1 = 0) ∨ (¬ (R.1 a 94 = 1 ∧ bt (R.1 162 5) p = true ∧ (R.1 a p).toInt / 36 = 1) ∧ j_Mod_goes_31 a v R = some r) := by
    unfold f_Mod_goes at er
    obtain ⟨_, er⟩ := io_n er
    obtain ⟨_, er⟩ := io_n er
    rw [show (94 : Int32).toNatClampNeg = 94 from rfl] at er
    rcases io er with ⟨c, e⟩ | ⟨c, e⟩
    · obtain ⟨x7, e7, e⟩ := bo e
      have h7 := hasR hp (by omega) e7
      rcases io e with ⟨c7, e⟩ | ⟨c7, e⟩
      · exact .inr ⟨fun h => by rw [h7.mp c7] at h; exact absurd h.2.1 (by decide), e⟩
      · obtain ⟨_, e⟩ := io_n e
        obtain ⟨x8, e8, e⟩ := bo e
        rw [q_nat hp] at e8
        have l8 := (place_i (by omega) (by omega)).2 e8
        rcases io e with ⟨c8, e⟩ | ⟨c8, e⟩
        · obtain rfl := Option.some.inj e
          refine .inl ⟨c, ?_, by rw [← l8, c8]; rfl, rfl⟩
          cases hb : bt (R.1 162 5) p with
          | true => rfl
          | false => exact absurd (h7.mpr hb) c7
        · exact .inr ⟨fun h => c8 (Int32.toInt_inj.mp (by rw [l8, h.2.2]; rfl)), e⟩
    · exact .inr ⟨fun h => c h.1, e⟩
  have same : (X.1 k 9 = 1 ∧ X.1 (k + 2) p = 1) ↔ (R.1 a 94 = 1 ∧ bt (R.1 162 5) p = true ∧ (R.1 a p).toInt / 36 = 1) := by
    rw [fest]
    constructor
    · rintro ⟨h1, h2⟩
      have h2 : (X.1 (k + 2) p).toInt = 1 := by rw [h2]; rfl
      refine ⟨h1, ?_, by omega⟩
      cases hb : bt (R.1 162 5) p with
      | true => rfl
      | false => have := (v1 p pn).2.1 hb; omega
    · rintro ⟨h1, _, h3⟩
      exact ⟨h1, Int32.toInt_inj.mp (show (X.1 (k + 2) p).toInt = 1 by omega)⟩
  rcases cls with ⟨a1, a2, a3⟩ | ⟨an, N, fN, n7, y, ey, e⟩
  · rcases ref with ⟨_, _, _, b4⟩ | ⟨bn, _⟩
    · rw [a3, b4]
    · exact absurd (same.mp ⟨a1, a2⟩) bn
  · rcases ref with ⟨b1, b2, b3, _⟩ | ⟨_, eR⟩
    · exact absurd (same.mpr ⟨b1, b2, b3⟩) an
    have zN : ZG N R := ZG_X z (fN _ _ (by omega)) (fN _ _ (by omega)) (fun i => fN _ _ (by omega))
    have zcN : ZC N R n := by
      obtain ⟨a1, a2, a3, a4, a5, a6⟩ := zc
      exact ⟨a1, by rw [fN _ _ (by omega)]; exact a2, by rw [fN _ _ (by omega)]; exact a3, fun q hq => by rw [fN _ _ (by omega)]; exact a4 q hq, fun q i hq hh => by rw [fN _ _ (by omega)]; exact a5 q i hq hh, a6⟩
    have zsN : ZS (scn N k) (R.1 a) n := by
      refine ZS_c n8 ?_ (fun _ _ => rfl) ⟨s1, s2, s3, s4, s5, s6, s7, s8⟩
      have f : ∀ j i, j < 10 → scn X k j i = scn N k j i := by
        intro j i hj
        unfold scn
        by_cases g : j < 6
        · rw [if_pos g, if_pos g, fN _ _ (by omega)]
        · rw [if_neg g, if_neg g, fN _ _ (by omega)]
      exact ⟨fun i _ => f 0 i (by omega), fun i _ => f 1 i (by omega), fun i _ => f 2 i (by omega), fun i _ => f 3 i (by omega), fun i _ => f 4 i (by omega), fun i _ => f 5 i (by omega), f 6 0 (by omega), f 7 0 (by omega), f 8 0 (by omega), f 9 0 (by omega)⟩
    have h44 : N.1 40 4 = X.1 40 4 := fN _ _ (by omega)
    have gen : ∀ o : List Int32, (X.1 40 4).toInt = (o.length : Int) → o.length ≤ 40 → stk (X.1 41) o → (x.1 = 0 ↔ (o ≠ [] ∧ (pp (rv (ltr (xw R) (R.1 164) (R.1 162 5) n (R.1 a) p) o [])).1 = 0)) := by
      intro o ho o40 hs
      obtain ⟨fy, hy⟩ := goes_l hk jR zN zcN n8 zsN gb hp pn (o := o) (by rw [h44]; exact ho) o40 (stk_c hs (fun i _ => fN _ _ (by omega))) n7 ey
      have y4 : y.1 40 4 = X.1 40 4 := by rw [(fy 40 4 (by decide +kernel) (by simp)).1]; exact h44
      have rl := rv_l (ltr (xw R) (R.1 164) (R.1 162 5) n (R.1 a) p) o
      unfold j_Law_goes_107 at e
      rw [y4] at e
      rcases io e with ⟨c, e⟩ | ⟨c, e⟩
      · have := q_eq c
        rw [o0] at this
        obtain rfl := Option.some.inj e
        have : o = [] := List.length_eq_zero_iff.mp (by omega)
        subst this
        exact ⟨fun h => (by cases h), fun h => absurd rfl h.1⟩
      · have c1 := q_ne c
        rw [o0] at c1
        have ne : o ≠ [] := by rintro rfl; simp at ho; omega
        obtain ⟨x12, e12, e⟩ := bo e
        obtain ⟨g1, _⟩ := pop_i hy (by omega) e12
        rcases io e with ⟨c2, e⟩ | ⟨c2, e⟩
        · obtain rfl := Option.some.inj e
          exact ⟨fun _ => ⟨ne, by rw [← g1]; exact c2⟩, fun _ => rfl⟩
        · obtain rfl := Option.some.inj e
          exact ⟨fun h => (by cases h), fun h => absurd (g1.trans h.2) c2⟩
    unfold j_Mod_goes_31 at eR
    rcases zl with ⟨l1, l2⟩ | ⟨l1, l40, lb, S, l2, l3, l4, l5, l6, l7, l8⟩
    · rcases io eR with ⟨c, e2⟩ | ⟨c, e2⟩
      · obtain rfl := Option.some.inj e2
        have := gen [] l2 (by simp) trivial
        rw [this]
        exact ⟨fun h => absurd rfl h.1, fun h => (by cases h)⟩
      · exact absurd (Int32.toInt_inj.mp l1) c
    · rcases io eR with ⟨c, e2⟩ | ⟨c, e2⟩
      · have := q_eq c; rw [o0] at this; omega
      obtain ⟨x1, e1, e2a⟩ := bo e2
      obtain ⟨M2, m2, e2b⟩ := mo e2a
      obtain ⟨M3, m3, e2c⟩ := mo e2b
      obtain ⟨x4, e4, e2d⟩ := bo e2c
      unfold f_Mod_begin at e1
      obtain ⟨_, e1⟩ := io_n e1
      obtain ⟨N1, n1, e1⟩ := mo e1
      obtain ⟨N2, n2, e1⟩ := mo e1
      obtain ⟨N3, n3, e1⟩ := mo e1
      obtain ⟨N4, n4, e1⟩ := mo e1
      obtain ⟨N5, n5, e1⟩ := mo e1
      have e1 := Option.some.inj e1
      subst e1
      have q1 : N1.1 = R.1 := by rw [n1]; rfl
      have q2 : M2.1 = N5.1 := by rw [m2]; rfl
      have hf : ∀ kk i, ¬ (kk = 162 ∧ (i = 15 ∨ i = 16 ∨ i = 17 ∨ i = 18 ∨ i = 25)) → M3.1 kk i = R.1 kk i := by
        intro kk i h
        rw [m3, si_ne (by omega), q2, n5, si_ne (by omega), n4, si_ne (by omega), n3, si_ne (by omega), n2, si_ne (by omega), q1]
      have b15 : M3.1 162 15 = R.1 162 23 := by
        rw [m3, si_ne (by omega), q2, n5, si_ne (by omega), n4, si_ne (by omega), n3, si_ne (by omega), n2, si_eq]
      have b16 : (M3.1 162 16).toInt = 40 := by
        rw [m3, si_ne (by omega), q2, n5, si_ne (by omega), n4, si_ne (by omega), n3, si_eq]; rfl
      have b17 : (M3.1 162 17).toInt = 0 := by
        rw [m3, si_ne (by omega), q2, n5, si_ne (by omega), n4, si_eq]; rfl
      have b18 : (M3.1 162 18).toInt = -1 := by
        rw [m3, si_ne (by omega), q2, n5, si_eq]; rfl
      have b25 : M3.1 162 25 = v := by rw [m3, si_eq]
      have b24 : M3.2.2 162 24 = some a := by rw [m3]; show M2.2.2 162 24 = _; rw [m2]; simp [s_q]
      have b14 : M3.2.2 162 14 = some 172 := by
        rw [m3]; show M2.2.2 162 14 = _
        rw [m2]; simp only [s_q]
        rw [if_neg (by omega)]
        rw [n5]; show N4.2.2 162 14 = _
        rw [n4]; show N3.2.2 162 14 = _
        rw [n3]; show N2.2.2 162 14 = _
        rw [n2]; show N1.2.2 162 14 = _
        rw [n1]; simp [s_q]
      have hB : Rd (rlx R) M3 := by
        refine ⟨172, b14, .inr rfl, by rw [b15]; omega, fun q => ?_⟩
        rw [b15, b16, hf 172 q (by omega)]
        refine ⟨?_, fun h _ => lb q h⟩
        unfold rlx
        by_cases g : (q : Int) < (R.1 162 23).toInt ∧ q < 40
        · rw [if_pos g, if_pos (by omega)]
        · rw [if_neg g, if_neg (by omega)]
      have a176 : a ≤ 176 ∧ 163 ≤ a := by rcases ha with rfl | rfl | rfl <;> omega
      have hE : HE (ltr (xw R) (R.1 164) (R.1 162 5) n (R.1 a) p) M3 := by
        intro rc s N r _ fx e
        unfold j_Mod_thing_142 at e
        obtain ⟨M5, e5, e⟩ := mo e
        have fM : ∀ kk i, kk < 193 → ¬ (kk = 162 ∧ (i = 15 ∨ i = 16 ∨ i = 17 ∨ i = 18 ∨ i = 25)) → M5.1 kk i = R.1 kk i := by
          intro kk i hkk h
          have tb : Nat.testBit mEx (sl kk i) = false := by
            have sn : ¬ 217 = sl kk i ∧ ¬ 218 = sl kk i := sl_out hkk (fun w => h ⟨w.1, by omega⟩)
            unfold mEx
            rw [Nat.testBit_or, tb2, tb2, decide_eq_false sn.1, decide_eq_false sn.2]; rfl
          rw [e5, si_ne (by omega), (fx kk i tb (by simp)).1]; exact hf kk i h
        have h24 : M5.2.2 162 24 = some a := by
          rw [e5]; show N.2.2 162 24 = _
          rw [(fx 162 24 (by decide +kernel) (by simp)).2.2]; exact b24
        have h25 : M5.1 162 25 = v := by
          rw [e5, si_ne (by omega), (fx 162 25 (by decide +kernel) (by simp)).1]; exact b25
        rw [h24] at e
        rw [if_neg (by simp)] at e
        obtain ⟨a6, ea6, e⟩ := bo e
        obtain rfl := Option.some.inj ea6
        obtain ⟨_, e⟩ := io_n e
        obtain ⟨x7, e7, e⟩ := bo e
        obtain rfl := Option.some.inj e
        rw [h25] at e7
        have w1 : M5.1 162 2 = R.1 162 2 := fM 162 2 (by omega) (by omega)
        have L := letter_i (n := n) (by show 1 ≤ (M5.1 162 2).toInt ∧ (M5.1 162 2).toInt ≤ 6; rw [w1]; exact aw jR) (by rw [fM a p (by omega) (by omega)]; omega) (by rw [fM 162 4 (by omega) (by omega)]; exact zc.1) n8 hp (by omega) e7
        rw [show xw M5 = xw R from congrArg Int32.toInt w1, show M5.1 164 = R.1 164 from funext (fun i => fM 164 i (by omega) (by omega)), fM 162 5 (by omega) (by omega), show M5.1 a = R.1 a from funext (fun i => fM a i (by omega) (by omega))] at L
        exact L
      have pre : Pre (rlx R) 0 S0 M3 0 := ⟨hB, b18, b17, rfl, rfl, (by show 0 ≤ 4; omega), (by show 0 ≤ 80; omega), fun _ => trivial, fun _ => rfl⟩
      obtain ⟨f4, g⟩ := expr_i hE hB 100 0 0 M3 x4 S0 (by omega) Fx_r pre e4
      have val : ∀ st, rv (ltr (xw R) (R.1 164) (R.1 162 5) n (R.1 a) p) (stl 0 S.2.1.1 S.2.1.2).1 st = x4.1 :: st := by
        rcases g with ⟨S', h, kf⟩ | ⟨S', k1, k2, k3, _, _⟩
        · have rg := Rd_rng (Rd_fx okE f4 hB) S'.1
          have st' := fol_st ⟨rg.1, rg.2.1⟩ h.2.2.2.1 h.2.2.2.2.1 kf
          have eS := Rch_u l2 h.2.2.1 l3 st'
          subst eS
          obtain ⟨rc1, q1', q2'⟩ := h.2.2.2.2.2.2.2
          have : stl 0 S.2.1.1 S.2.1.2 = (rc1, []) := by
            rw [← stl_stl (show 0 ≤ 2 by omega) S.2.1.1, q1', stl_stl (show 0 ≤ 2 by omega)]
            show stl 0 (rc1 ++ []) [] = _
            simp [stl]
          rw [this]; exact q2'
        · have eS := Rch_u l2 k1 l3 k2
          subst eS
          exact absurd ⟨l4, l5⟩ k3
      have := gen _ l6 l7 l8
      rw [val []] at this
      have ne : (stl 0 S.2.1.1 S.2.1.2).1 ≠ [] := by
        intro h
        have := val []
        rw [h] at this
        cases this
      rw [this]
      rcases io e2d with ⟨c2, e2⟩ | ⟨c2, e2⟩
      · obtain rfl := Option.some.inj e2
        exact ⟨fun _ => rfl, fun _ => ⟨ne, c2⟩⟩
      · obtain rfl := Option.some.inj e2
        exact ⟨fun h => absurd h.2 c2, fun h => (by cases h)⟩
end
section
/-! one step: the class's nets against the reference's go -/
def onA (R : Mem) (l d : Nat) : Prop := d < 36 ∧ ((-1 : Int32).toInt = (d : Int) ∨ onN R l d)
def ZW (X R : Mem) (a : Nat) : Prop := NB 32 (onA R) 36 X ∧ ZX 32 R (onA R) (fun c d => plk R a c d) X
theorem onA_i {R : Mem} (jR : J R) {l d : Nat} : onA R l d ↔ onN R l d := by
  unfold onA
  rw [om]
  constructor
  · rintro ⟨_, h | h⟩
    · omega
    · exact h
  · intro h
    have := awh jR
    have := h.2.1
    exact ⟨by omega, .inr h⟩
theorem btw_comm (w h a b : Int) : btw w h a b = btw w h b a := by
  have e1 : (a % w - b % w).natAbs = (b % w - a % w).natAbs := by rw [← Int.natAbs_neg]; congr 1; omega
  have e2 : (a / w - b / w).natAbs = (b / w - a / w).natAbs := by rw [← Int.natAbs_neg]; congr 1; omega
  unfold btw
  rw [e1, e2, Int.add_comm]
theorem KP_v {R : Mem} {a n : Nat} (zv : ZV R (R.1 a) n) : KP R a 0 := by
  intro j hj
  rw [Nat.zero_add] at hj
  have := zv.2.2.2 j hj
  rw [Nat.zero_add, Nat.zero_add]
  exact ⟨this.1, this.2.1⟩
/-- no link under a plank -/
theorem mid_no {R : Mem} (jR : J R) {a n : Nat} (zv : ZV R (R.1 a) n) {c s : Nat} (hc : onN R 1 c) (s4 : s < 4) (hb : bb (xw R) (xh R) c s ≠ -1) (hp : plk R a c (bb (xw R) (xh R) c s)) : ¬ onN R 1 (bes (xw R) (xh R) c s) := by
  have hw := aw jR
  have hh := ah jR
  have c0 := hc.1
  have c1 := hc.2.1
  obtain ⟨j, hj, hq⟩ := hp
  obtain ⟨a1, a2, s', s'4, b1, b2⟩ := zv.2.2.2 j hj
  have u := bb_i hw hh c0 c1 (s := s) (by omega) hb
  rcases hq with ⟨q1, q2⟩ | ⟨q1, q2⟩
  · rw [q1, q2] at b1
    rw [q1] at b2
    have := u.2.2 s' (by omega) (by omega) b1
    rw [← this]; exact b2
  · -- the plank was laid from the other end
    rw [q1, q2] at b1
    rw [q1] at b2
    have d := a1
    rw [q1] at d
    have u2 := bb_i hw hh d.1 d.2.1 (s := s') (by omega) (by omega)
    rw [b1] at u2
    rw [← u.1, btw_comm, u2.1]; exact b2
theorem tow_2 {X R : Mem} {a n : Nat} (jR : J R) (ha : St a) (zv : ZV R (R.1 a) n) (zw : ZW X R a) {lv cv sv pv to y : Int32} {l c s : Nat} (hl : lv.toInt = (l : Int)) (hc : cv.toInt = (c : Int)) (hs : sv.toInt = (s : Int)) (hp : pv.toInt = ((36 * l + c : Nat) : Int)) (l2 : l < 2) (c36 : c < 36) (s5 : s < 5) (on : onP R pv.toInt) (ex : f_Nets_toward 32 lv cv sv X = some to) (er : f_Mod_go a pv sv R = some y) : (to.toInt = -1 ∧ y.toInt = -1) ∨ (0 ≤ to.toInt ∧ to.toInt < 36 ∧ y.toInt = 36 * l + to.toInt ∧ onP R y.toInt) := by
  have hw := aw jR
  have hh := ah jR
  have wh := awh jR
  have z36 : (36 : Int32).toInt = 36 := rfl
  have y4 := o4
  have z0 := o0
  obtain ⟨g, _, _⟩ := some_of (fs_go jR a ha pv sv (by omega)) er
  rw [hs] at g
  have pm : pv.toInt % 36 = (c : Int) := by omega
  have pd : pv.toInt / 36 = (l : Int) := by omega
  have onl : onN R l c := by have := on.2.2; rw [pm, pd] at this; exact this
  unfold f_Nets_toward at ex
  obtain ⟨_, ex⟩ := io_n ex
  rcases io ex with ⟨k, e⟩ | ⟨k, e⟩
  · obtain rfl := Option.some.inj e
    have := q_eq k
    have s4 : s = 4 := by omega
    rcases g with ⟨_, g⟩ | ⟨g, _⟩
    · exact .inr ⟨by omega, by omega, by omega, by rw [g]; exact on⟩
    · omega
  have k4 := q_ne k
  rcases io e with ⟨k, e⟩ | ⟨k, e⟩
  · have := q_lt k; omega
  rcases io e with ⟨k, e⟩ | ⟨k, e⟩
  · have := q_lt k; omega
  have m1 : (lv * (36 : Int32)).toInt = (l : Int) * 36 := mul_ti hl z36 (by omega) (by omega)
  have m2 : (lv * (36 : Int32) + cv).toInt = ((l * 36 + c : Nat) : Int) := by rw [add_ti m1 hc (by omega) (by omega)]; omega
  have m3 : ((lv * (36 : Int32) + cv) * (4 : Int32)).toInt = ((l * 36 + c : Nat) : Int) * 4 := mul_ti m2 o4 (by omega) (by omega)
  have m4 : ((lv * (36 : Int32) + cv) * (4 : Int32) + sv).toInt = (((l * 36 + c) * 4 + s : Nat) : Int) := by rw [add_ti m3 hs (by omega) (by omega)]; omega
  rcases io e with ⟨k, e⟩ | ⟨k, e⟩
  · have := q_lt k; omega
  rcases io e with ⟨k, e⟩ | ⟨k, e⟩
  · obtain ⟨_, e⟩ := io_n e
    obtain rfl := Option.some.inj e
    rw [(isN_r (.inl rfl : isN 32)).2.2, q_nat m4]
    have N := zw.2.1 l c s l2 c36 (by omega)
    obtain ⟨N1, N2⟩ := N
    rcases g with ⟨g, _⟩ | ⟨_, g⟩
    · omega
    rw [pm, pd] at g
    have sy : ∀ {m : Int}, y.toInt = m → m ≠ -1 → onP R m := by
      intro m hm hn
      have gg := some_of (fs_go jR a ha pv sv (by omega)) er
      have := (go_sym jR (KP_v zv) on (s := sv.toInt) (by omega) gg.1 (by rw [hm]; exact hn)).1
      rw [hm] at this; exact this
    have bi := bes_in hw hh (c := c) (by omega) onl.2.1 (s := s) (by omega)
    rcases g with ⟨g1, g2⟩ | ⟨g1, g2, g3⟩ | ⟨g1, g2, g3, g4⟩ | ⟨g1, g2, g3, g4, g5, g6⟩ | ⟨g1, g2, g3, g4, g5⟩
    · left
      refine ⟨(N2 (fun h => h.2.1 (by unfold bb; rw [if_pos g1]))).2 (fun h => h.2.1 g1), g2⟩
    · right
      have nb : ¬ (l = 1 ∧ bb (xw R) (xh R) c s ≠ -1 ∧ plk R a c (bb (xw R) (xh R) c s)) := by
        rintro ⟨q1, q2, q3⟩
        subst q1
        exact mid_no jR zv onl (by omega) q2 q3 g2
      have v := (N2 nb).1 ⟨(onA_i jR).mpr onl, g1, (onA_i jR).mpr (by rw [show (((bes (xw R) (xh R) c s).toNat : Nat) : Int) = bes (xw R) (xh R) c s by omega]; exact g2)⟩
      rw [v]
      refine ⟨by omega, by omega, g3, ?_⟩
      rw [g3]; exact sy g3 (by omega)
    · left
      refine ⟨(N2 (fun h => by have := h.1; omega)).2 (fun h => ?_), g4⟩
      have := (onA_i jR).mp h.2.2
      rw [show (((bes (xw R) (xh R) c s).toNat : Nat) : Int) = bes (xw R) (xh R) c s by omega] at this
      exact g2 this
    · right
      have b2 : bb (xw R) (xh R) c s = bes (xw R) (xh R) (bes (xw R) (xh R) c s) s := by unfold bb; rw [if_neg g1]
      have l1 : l = 1 := by omega
      have v := N1 ⟨l1, by rw [b2]; exact g4, by rw [b2]; exact g5⟩
      have rb := bes_in hw hh (c := bes (xw R) (xh R) c s) (by omega) (by omega) (s := s) (by omega)
      rw [v, b2]
      refine ⟨by omega, by omega, by rw [g6]; omega, ?_⟩
      rw [g6]; exact sy g6 (by omega)
    · left
      refine ⟨(N2 (fun h => g4 ⟨by have := h.2.1; unfold bb at this; rw [if_neg g1] at this; exact this, by have := h.2.2; unfold bb at this; rw [if_neg g1] at this; exact this⟩)).2 (fun h => ?_), g5⟩
      have := (onA_i jR).mp h.2.2
      rw [show (((bes (xw R) (xh R) c s).toNat : Nat) : Int) = bes (xw R) (xh R) c s by omega] at this
      exact g2 this
  · have := q_nl k
    have z288 : (288 : Int32).toInt = 288 := rfl
    omega
/-! what stays while people go -/
def AgX (X Y : Mem) : Prop := Y.1 3 2 = X.1 3 2 ∧ Y.1 3 3 = X.1 3 3 ∧ (∀ i, Y.1 4 i = X.1 4 i) ∧ Y.1 6 4 = X.1 6 4 ∧ Y.1 6 5 = X.1 6 5 ∧ (∀ i, Y.1 7 i = X.1 7 i) ∧ (∀ i, Y.1 8 i = X.1 8 i) ∧ Y.1 40 4 = X.1 40 4 ∧ (∀ i, Y.1 41 i = X.1 41 i) ∧ (∀ i, Y.1 35 i = X.1 35 i) ∧ (∀ i, Y.2.1 33 i = X.2.1 33 i) ∧ (∀ i, Y.2.1 34 i = X.2.1 34 i)
def AgR (R S : Mem) : Prop := S.1 162 2 = R.1 162 2 ∧ S.1 162 3 = R.1 162 3 ∧ S.1 162 4 = R.1 162 4 ∧ S.1 162 5 = R.1 162 5 ∧ S.1 162 23 = R.1 162 23 ∧ (∀ i, S.1 164 i = R.1 164 i) ∧ (∀ i, S.1 165 i = R.1 165 i) ∧ (∀ i, S.1 166 i = R.1 166 i) ∧ (∀ i, S.1 172 i = R.1 172 i)
def okX (C : Nat) : Bool := ([302, 303, 4, 324, 325, 7, 8, 334, 41, 35, 33, 34].all (fun b => !C.testBit b))
def okR (C : Nat) : Bool := ([202, 203, 204, 205, 223, 164, 165, 166, 172].all (fun b => !C.testBit b))
theorem ok_of {C : Nat} {l : List Nat} (h : l.all (fun b => !C.testBit b) = true) {b : Nat} (hb : b ∈ l) : C.testBit b = false := by
  have := List.all_eq_true.mp h b hb
  simpa using this
theorem AgX_f {C : Nat} {L : List Nat} {X Y : Mem} (hC : okX C = true) (hL : ∀ k, k ∈ L → k ≠ 3 ∧ k ≠ 4 ∧ k ≠ 6 ∧ k ≠ 7 ∧ k ≠ 8 ∧ k ≠ 40 ∧ k ≠ 41 ∧ k ≠ 35 ∧ k ≠ 33 ∧ k ≠ 34) (fx : Fx C L X Y) : AgX X Y := by
  have t : ∀ b, b ∈ [302, 303, 4, 324, 325, 7, 8, 334, 41, 35, 33, 34] → C.testBit b = false := fun b hb => ok_of hC hb
  exact ⟨(fx 3 2 (t 302 (by simp)) (fun h => (hL _ h).1 rfl)).1, (fx 3 3 (t 303 (by simp)) (fun h => (hL _ h).1 rfl)).1, fun i => (fx 4 i (t 4 (by simp)) (fun h => (hL _ h).2.1 rfl)).1, (fx 6 4 (t 324 (by simp)) (fun h => (hL _ h).2.2.1 rfl)).1, (fx 6 5 (t 325 (by simp)) (fun h => (hL _ h).2.2.1 rfl)).1, fun i => (fx 7 i (t 7 (by simp)) (fun h => (hL _ h).2.2.2.1 rfl)).1, fun i => (fx 8 i (t 8 (by simp)) (fun h => (hL _ h).2.2.2.2.1 rfl)).1, (fx 40 4 (t 334 (by simp)) (fun h => (hL _ h).2.2.2.2.2.1 rfl)).1, fun i => (fx 41 i (t 41 (by simp)) (fun h => (hL _ h).2.2.2.2.2.2.1 rfl)).1, fun i => (fx 35 i (t 35 (by simp)) (fun h => (hL _ h).2.2.2.2.2.2.2.1 rfl)).1, fun i => (fx 33 i (t 33 (by simp)) (fun h => (hL _ h).2.2.2.2.2.2.2.2.1 rfl)).2.1, fun i => (fx 34 i (t 34 (by simp)) (fun h => (hL _ h).2.2.2.2.2.2.2.2.2 rfl)).2.1⟩
theorem AgR_f {C : Nat} {L : List Nat} {X Y : Mem} (hC : okR C = true) (hL : ∀ k, k ∈ L → k ≠ 162 ∧ k ≠ 164 ∧ k ≠ 165 ∧ k ≠ 166 ∧ k ≠ 172) (fx : Fx C L X Y) : AgR X Y := by
  have t : ∀ b, b ∈ [202, 203, 204, 205, 223, 164, 165, 166, 172] → C.testBit b = false := fun b hb => ok_of hC hb
  exact ⟨(fx 162 2 (t 202 (by simp)) (fun h => (hL _ h).1 rfl)).1, (fx 162 3 (t 203 (by simp)) (fun h => (hL _ h).1 rfl)).1, (fx 162 4 (t 204 (by simp)) (fun h => (hL _ h).1 rfl)).1, (fx 162 5 (t 205 (by simp)) (fun h => (hL _ h).1 rfl)).1, (fx 162 23 (t 223 (by simp)) (fun h => (hL _ h).1 rfl)).1, fun i => (fx 164 i (t 164 (by simp)) (fun h => (hL _ h).2.1 rfl)).1, fun i => (fx 165 i (t 165 (by simp)) (fun h => (hL _ h).2.2.1 rfl)).1, fun i => (fx 166 i (t 166 (by simp)) (fun h => (hL _ h).2.2.2.1 rfl)).1, fun i => (fx 172 i (t 172 (by simp)) (fun h => (hL _ h).2.2.2.2 rfl)).1⟩
theorem AgX_t {X Y Z : Mem} (h : AgX X Y) (g : AgX Y Z) : AgX X Z := by
  obtain ⟨a1, a2, a3, a4, a5, a6, a7, a8, a9, a10, a11, a12⟩ := h
  obtain ⟨b1, b2, b3, b4, b5, b6, b7, b8, b9, b10, b11, b12⟩ := g
  exact ⟨b1.trans a1, b2.trans a2, fun i => (b3 i).trans (a3 i), b4.trans a4, b5.trans a5, fun i => (b6 i).trans (a6 i), fun i => (b7 i).trans (a7 i), b8.trans a8, fun i => (b9 i).trans (a9 i), fun i => (b10 i).trans (a10 i), fun i => (b11 i).trans (a11 i), fun i => (b12 i).trans (a12 i)⟩
theorem AgR_t {X Y Z : Mem} (h : AgR X Y) (g : AgR Y Z) : AgR X Z := by
  obtain ⟨a1, a2, a3, a4, a5, a6, a7, a8, a9⟩ := h
  obtain ⟨b1, b2, b3, b4, b5, b6, b7, b8, b9⟩ := g
  exact ⟨b1.trans a1, b2.trans a2, b3.trans a3, b4.trans a4, b5.trans a5, fun i => (b6 i).trans (a6 i), fun i => (b7 i).trans (a7 i), fun i => (b8 i).trans (a8 i), fun i => (b9 i).trans (a9 i)⟩
theorem AgX_r {X : Mem} : AgX X X := ⟨rfl, rfl, fun _ => rfl, rfl, rfl, fun _ => rfl, fun _ => rfl, rfl, fun _ => rfl, fun _ => rfl, fun _ => rfl, fun _ => rfl⟩
theorem AgR_r {X : Mem} : AgR X X := ⟨rfl, rfl, rfl, rfl, rfl, fun _ => rfl, fun _ => rfl, fun _ => rfl, fun _ => rfl⟩
def ZB (X R : Mem) (n : Nat) : Prop := ZG X R ∧ ZC X R n ∧ ZL X R
theorem onN_a {R S : Mem} (h : AgR R S) {l c : Int} : onN S l c ↔ onN R l c := onN_c ⟨h.1, h.2.1, h.2.2.2.2.2.1⟩
theorem ZB_a {X Y R S : Mem} {n : Nat} (hx : AgX X Y) (hr : AgR R S) (h : ZB X R n) : ZB Y S n := by
  obtain ⟨a1, a2, a3, a4, a5, a6, a7, a8, a9, a10, a11, a12⟩ := hx
  obtain ⟨b1, b2, b3, b4, b5, b6, b7, b8, b9⟩ := hr
  obtain ⟨⟨g1, g2, g3, g4⟩, ⟨c1, c2, c3, c4, c5, c6⟩, l⟩ := h
  refine ⟨⟨?_, ?_, fun i hi => ?_, fun i hi => ?_⟩, ⟨?_, ?_, ?_, fun p hp => ?_, fun p i hp hi => ?_, fun p hp => ?_⟩, ?_⟩
  · rw [a1]; show _ = (S.1 162 2).toInt; rw [b1]; exact g1
  · rw [a2]; show _ = (S.1 162 2).toInt * (S.1 162 3).toInt; rw [b1, b2]; exact g2
  · rw [a3, b6]; exact g3 i hi
  · rw [b6]; exact g4 i hi
  · rw [b3]; exact c1
  · rw [a4, b3]; exact c2
  · rw [a5, b4]; exact c3
  · rw [a7, b8]; exact c4 p hp
  · rw [b8] at hi; rw [a6, b7]; exact c5 p i hp hi
  · rw [b4]; exact c6 p hp
  · have rl : rlx S = rlx R := by funext p; unfold rlx; rw [b5, b9]
    unfold ZL at l ⊢
    rw [rl, b5, a8]
    rcases l with l | ⟨l1, l40, l2, Sx, l3, l4, l5, l6, l7, l8, l9⟩
    · exact .inl l
    · exact .inr ⟨l1, l40, fun p hp => by rw [b9]; exact l2 p hp, Sx, l3, l4, l5, l6, l7, l8, stk_c l9 (fun i _ => a9 i)⟩
theorem ZW_a {X Y R S : Mem} {a a' : Nat} (hx : AgX X Y) (hr : AgR R S) (hp : ∀ c d, plk S a' c d ↔ plk R a c d) (h : ZW X R a) : ZW Y S a' := by
  have w : xw S = xw R := congrArg Int32.toInt hr.1
  have hh : xh S = xh R := congrArg Int32.toInt hr.2.1
  have on : onA S = onA R := by funext l d; exact propext (by unfold onA; rw [onN_a hr])
  have pk : (fun c d => plk S a' c d) = (fun c d => plk R a c d) := by funext c d; exact propext (hp c d)
  obtain ⟨h1, h2, h3⟩ := h
  unfold ZW ZX NXT NRD LKn lk
  rw [on, pk, w, hh]
  refine ⟨fun l d hl => ?_, fun l c s hl hc hs => ?_, fun l c hl hc => ?_⟩
  · rw [hx.2.2.2.2.2.2.2.2.2.2.1]; exact h1 l d hl
  · rw [hx.2.2.2.2.2.2.2.2.2.1]; exact h2 l c s hl hc hs
  · rw [hx.2.2.2.2.2.2.2.2.2.2.2]; exact h3 l c hl hc
theorem ZV_a {R S : Mem} {g g' : Nat → Int32} {n : Nat} (n8 : n ≤ 8) (hr : AgR R S) (hg : ∀ i, i < 96 → g' i = g i) (h : ZV R g n) : ZV S g' n := by
  have w : xw S = xw R := congrArg Int32.toInt hr.1
  have hh : xh S = xh R := congrArg Int32.toInt hr.2.1
  obtain ⟨h1, h2, h3, h4⟩ := h
  refine ⟨fun p hp => ?_, by rw [hg 92 (by omega)]; exact h2, by rw [hg 94 (by omega)]; exact h3, fun j hj => ?_⟩
  · rw [hg p (by omega), hg (8 + p) (by omega), hr.2.2.2.1, hr.2.2.2.2.2.2.2.1 p]
    obtain ⟨q1, q2⟩ := h1 p hp
    exact ⟨⟨q1.1, q1.2.1, (onN_a hr).mpr q1.2.2⟩, q2⟩
  · rw [hg 92 (by omega)] at hj
    rw [hg (80 + 2 * j) (by omega), hg (81 + 2 * j) (by omega), w, hh]
    obtain ⟨q1, q2, s, q3, q4, q5⟩ := h4 j hj
    exact ⟨(onN_a hr).mpr q1, (onN_a hr).mpr q2, s, q3, q4, fun h => q5 ((onN_a hr).mp h)⟩
end
section
/-! people go: one of them, then all -/
def mGr : Nat := 2 ^ 214 ||| (2 ^ 215 ||| (2 ^ 216 ||| (2 ^ 217 ||| (2 ^ 218 ||| (2 ^ 224 ||| 2 ^ 225)))))
def gm (v1 : Nat) (v : Int32) (M : Mem) : Option ((Int32 × Mem) ⊕ ((Mem))) :=
  if inb v (ln v1) = true then
  if inb ((8 : Int32) + v) (ln v1) = true then
  if inb (((9 : Int32) * v) + (M.1 v1 ((8 : Int32) + v).toNatClampNeg)) 72 = true then
  Option.bind (f_Mod_go v1 (M.1 v1 v.toNatClampNeg) (M.1 165 (((9 : Int32) * v) + (M.1 v1 ((8 : Int32) + v).toNatClampNeg)).toNatClampNeg) M) fun x4 =>
  if x4 = (-1 : Int32) then
  j_Mod_goMinute_85_12 v1 v M
  else
  if inb v (ln v1) = true then
  if x4 = (M.1 v1 v.toNatClampNeg) then
  j_Mod_goMinute_85_12 v1 v M
  else
  if inb v (ln v1) = true then
  mem_ (s_i M v1 v.toNatClampNeg x4) fun M6 =>
  mem_ (s_i M6 162 29 ((M6.1 162 29) ||| ((1 : Int32) <<< (v &&& 31)))) fun M7 =>
  j_Mod_goMinute_85_12 v1 v M7
  else none
  else none
  else none
  else none
  else none
theorem plk_c {R S : Mem} {a a' : Nat} (h : ∀ i, 80 ≤ i → i < 93 → S.1 a' i = R.1 a i) (h6 : (R.1 a 92).toInt ≤ 6) (c d : Int) : plk S a' c d ↔ plk R a c d := by
  unfold plk plkA
  rw [h 92 (by omega) (by omega)]
  constructor
  · rintro ⟨j, hj, q⟩
    rw [h (80 + 2 * j) (by omega) (by omega), h (81 + 2 * j) (by omega) (by omega)] at q
    exact ⟨j, hj, q⟩
  · rintro ⟨j, hj, q⟩
    refine ⟨j, hj, ?_⟩
    rw [h (80 + 2 * j) (by omega) (by omega), h (81 + 2 * j) (by omega) (by omega)]
    exact q
theorem scn_e {X Y : Mem} {k : Nat} (h : ∀ j i, j < 10 → scn X k j i = scn Y k j i) : SEq (scn X k) (scn Y k) := ⟨fun i _ => h 0 i (by omega), fun i _ => h 1 i (by omega), fun i _ => h 2 i (by omega), fun i _ => h 3 i (by omega), fun i _ => h 4 i (by omega), fun i _ => h 5 i (by omega), h 6 0 (by omega), h 7 0 (by omega), h 8 0 (by omega), h 9 0 (by omega)⟩
theorem placeC {X : Mem} {v w x : Int32} {p n l q : Nat} (hm : (X.1 6 4).toInt = (n : Int)) (n8 : n ≤ 8) (hp : v.toInt = (p : Int)) (pn : p < n) (hl : (X.1 8 p).toInt = (l : Int)) (l9 : l ≤ 9) (hq : w.toInt = (q : Int)) (ql : q < l) (e : f_Crowd_placeBehind v w X = some x) : x.toInt = if q + 1 < l then ((q + 1 : Nat) : Int) else 0 := by
  have z0 := o0
  have z8 : (8 : Int32).toInt = 8 := rfl
  unfold f_Crowd_placeBehind f_Crowd_has at e
  obtain ⟨x1, e1, e⟩ := bo e
  have x10 : ¬ x1 = 0 := by
    rcases io e1 with ⟨c, e1⟩ | ⟨c, e1⟩
    · have := q_lt c; omega
    rcases io e1 with ⟨c, e1⟩ | ⟨c, e1⟩
    · have := q_le c; omega
    rcases io e1 with ⟨c, e1⟩ | ⟨c, e1⟩
    · have := q_le c; omega
    obtain rfl := Option.some.inj e1
    decide
  rw [if_neg x10] at e
  obtain ⟨_, e⟩ := io_n e
  have w1 : (w + (1 : Int32)).toInt = ((q + 1 : Nat) : Int) := add_ti hq o1 (by omega) (by omega)
  rw [q_nat hp] at e
  rcases io e with ⟨c, e⟩ | ⟨c, e⟩
  · have := q_le c
    obtain rfl := Option.some.inj e
    rw [if_neg (by omega)]; rfl
  · have := q_ng c
    obtain rfl := Option.some.inj e
    rw [if_pos (by omega)]; exact w1
theorem stepC {X : Mem} {v w x : Int32} {p n l q : Nat} (hm : (X.1 6 4).toInt = (n : Int)) (n8 : n ≤ 8) (hp : v.toInt = (p : Int)) (pn : p < n) (hl : (X.1 8 p).toInt = (l : Int)) (l9 : l ≤ 9) (hq : w.toInt = (q : Int)) (ql : q < l) (e : f_Crowd_stepAt v w X = some x) : x = X.1 7 (9 * p + q) := by
  have z0 := o0
  have z8 : (8 : Int32).toInt = 8 := rfl
  have z9 : (9 : Int32).toInt = 9 := rfl
  unfold f_Crowd_stepAt f_Crowd_has at e
  obtain ⟨x1, e1, e⟩ := bo e
  have x10 : ¬ x1 = 0 := by
    rcases io e1 with ⟨c, e1⟩ | ⟨c, e1⟩
    · have := q_lt c; omega
    rcases io e1 with ⟨c, e1⟩ | ⟨c, e1⟩
    · have := q_le c; omega
    rcases io e1 with ⟨c, e1⟩ | ⟨c, e1⟩
    · have := q_le c; omega
    obtain rfl := Option.some.inj e1
    decide
  rw [if_neg x10] at e
  rcases io e with ⟨c, e⟩ | ⟨c, e⟩
  · have := q_lt c; omega
  obtain ⟨_, e⟩ := io_n e
  rw [q_nat hp] at e
  rcases io e with ⟨c, e⟩ | ⟨c, e⟩
  · have := q_le c; omega
  rcases io e with ⟨c, e⟩ | ⟨c, e⟩
  · obtain ⟨_, e⟩ := io_n e
    obtain rfl := Option.some.inj e
    have m1 : (v * (9 : Int32)).toInt = (p : Int) * 9 := mul_ti hp z9 (by omega) (by omega)
    have m2 : (v * (9 : Int32) + w).toInt = ((9 * p + q : Nat) : Int) := by rw [add_ti m1 hq (by omega) (by omega)]; omega
    rw [q_nat m2]
  · have := q_nl c; omega
/-- where the class puts one who goes -/
def MvC (X : Mem) (k p : Nat) (v to np : Int32) (x : Mem) : Prop := ∃ Y, (((to = -1 ∨ to = X.1 (k + 1) p) ∧ Y = X) ∨ (¬ to = -1 ∧ ¬ to = X.1 (k + 1) p ∧ Y = s_i (s_i X (k + 1) p to) 45 0 ((X.1 45 0) ||| ((1 : Int32) <<< (v &&& 31))))) ∧ x = s_i Y (k + 3) p np
theorem move_c {X x : Mem} {k p n l q : Nat} {v : Int32} (hk : isK k) (hm : (X.1 6 4).toInt = (n : Int)) (n8 : n ≤ 8) (hp : v.toInt = (p : Int)) (pn : p < n) (hl : (X.1 8 p).toInt = (l : Int)) (l9 : l ≤ 9) (hq : (X.1 (k + 3) p).toInt = (q : Int)) (ql : q < l) (e : f_Clock_move v k 32 X = some x) : ∃ to np, f_Nets_toward 32 (X.1 (k + 2) p) (X.1 (k + 1) p) (X.1 7 (9 * p + q)) X = some to ∧ np.toInt = (if q + 1 < l then ((q + 1 : Nat) : Int) else 0) ∧ MvC X k p v to np x := by
  have kk : k = 11 ∨ k = 25 := hk
  have r0 : rf k 0 = k + 1 := scn_rf (isK_kd hk) (by omega)
  have r1 : rf k 1 = k + 2 := scn_rf (isK_kd hk) (by omega)
  have r2 : rf k 2 = k + 3 := scn_rf (isK_kd hk) (by omega)
  unfold f_Clock_move at e
  obtain ⟨_, e⟩ := io_n e
  obtain ⟨_, e⟩ := io_n e
  obtain ⟨_, e⟩ := io_n e
  rw [r0, r1, r2, q_nat hp] at e
  obtain ⟨x1, e1, e⟩ := bo e
  obtain ⟨_, e⟩ := io_n e
  obtain ⟨_, e⟩ := io_n e
  obtain ⟨x2, e2, e⟩ := bo e
  rw [stepC hm n8 hp pn hl l9 hq ql e1] at e2
  have last : ∀ Y : Mem, Y.1 6 4 = X.1 6 4 → Y.1 8 p = X.1 8 p → Y.1 (k + 3) p = X.1 (k + 3) p → j_Clock_move_71 v k Y = some x → ∃ np, np.toInt = (if q + 1 < l then ((q + 1 : Nat) : Int) else 0) ∧ x = s_i Y (k + 3) p np := by
    intro Y y1 y2 y3 e
    unfold j_Clock_move_71 at e
    obtain ⟨_, e⟩ := io_n e
    rw [r2, q_nat hp] at e
    obtain ⟨x3, e3, e⟩ := bo e
    obtain ⟨_, e⟩ := io_n e
    obtain ⟨M4, e4, e⟩ := mo e
    obtain rfl := Option.some.inj e
    exact ⟨x3, placeC (by rw [y1]; exact hm) n8 hp pn (by rw [y2]; exact hl) l9 (by rw [y3]; exact hq) ql e3, e4⟩
  rcases io e with ⟨c, e⟩ | ⟨c, e⟩
  · obtain ⟨np, a, b⟩ := last X rfl rfl rfl e
    exact ⟨x2, np, e2, a, X, .inl ⟨.inl c, rfl⟩, b⟩
  obtain ⟨_, e⟩ := io_n e
  rcases io e with ⟨c2, e⟩ | ⟨c2, e⟩
  · obtain ⟨np, a, b⟩ := last X rfl rfl rfl e
    exact ⟨x2, np, e2, a, X, .inl ⟨.inr c2, rfl⟩, b⟩
  obtain ⟨_, e⟩ := io_n e
  obtain ⟨M5, e5, e⟩ := mo e
  obtain ⟨M6, e6, e⟩ := mo e
  obtain ⟨np, a, b⟩ := last M6 (by rw [e6, si_ne (by omega), e5, si_ne (by omega)]) (by rw [e6, si_ne (by omega), e5, si_ne (by omega)]) (by rw [e6, si_ne (by omega), e5, si_ne (by omega)]) e
  refine ⟨x2, np, e2, a, M6, .inr ⟨c, c2, ?_⟩, b⟩
  rw [e6, e5, si_ne (by omega)]
def MvR (R : Mem) (a p : Nat) (v y np : Int32) (S : Mem) : Prop := ∃ Y, (((y = -1 ∨ y = R.1 a p) ∧ Y = R) ∨ (¬ y = -1 ∧ ¬ y = R.1 a p ∧ Y = s_i (s_i R a p y) 162 29 ((R.1 162 29) ||| ((1 : Int32) <<< (v &&& 31))))) ∧ S = s_i Y a (8 + p) np
theorem move_r {R : Mem} {a p l q : Nat} {v : Int32} {r} (ha : St a) (hp : v.toInt = (p : Int)) (p8 : p < 8) (hl : (R.1 166 p).toInt = (l : Int)) (l9 : l ≤ 9) (hq : (R.1 a (8 + p)).toInt = (q : Int)) (ql : q < l) (e : gm a v R = some r) : ∃ y np S, f_Mod_go a (R.1 a p) (R.1 165 (9 * p + q)) R = some y ∧ np.toInt = (if q + 1 < l then ((q + 1 : Nat) : Int) else 0) ∧ MvR R a p v y np S ∧ r = .inl (v + (1 : Int32), S) := by
  have a162 : a ≠ 162 ∧ a ≠ 166 ∧ a ≠ 165 := St_162 ha
  have z8 : (8 : Int32).toInt = 8 := rfl
  have z9 : (9 : Int32).toInt = 9 := rfl
  have e8 : ((8 : Int32) + v).toInt = ((8 + p : Nat) : Int) := by rw [add_ti z8 hp (by omega) (by omega)]; omega
  have m1 : ((9 : Int32) * v).toInt = 9 * (p : Int) := mul_ti z9 hp (by omega) (by omega)
  have m2 : (((9 : Int32) * v) + (R.1 a (8 + p))).toInt = ((9 * p + q : Nat) : Int) := by rw [add_ti m1 hq (by omega) (by omega)]; omega
  unfold gm at e
  obtain ⟨_, e⟩ := io_n e
  obtain ⟨_, e⟩ := io_n e
  obtain ⟨_, e⟩ := io_n e
  rw [q_nat e8, q_nat hp, q_nat m2] at e
  obtain ⟨x4, e4, e⟩ := bo e
  have last : ∀ Y : Mem, Y.1 166 p = R.1 166 p → Y.1 a (8 + p) = R.1 a (8 + p) → j_Mod_goMinute_85_12 a v Y = some r → ∃ np S, np.toInt = (if q + 1 < l then ((q + 1 : Nat) : Int) else 0) ∧ S = s_i Y a (8 + p) np ∧ r = .inl (v + (1 : Int32), S) := by
    intro Y y1 y2 e
    unfold j_Mod_goMinute_85_12 at e
    obtain ⟨_, e⟩ := io_n e
    obtain ⟨_, e⟩ := io_n e
    obtain ⟨_, e⟩ := io_m e
    obtain ⟨_, e⟩ := io_n e
    rw [q_nat e8, q_nat hp] at e
    obtain ⟨M5, e5, e⟩ := mo e
    obtain rfl := Option.some.inj e
    refine ⟨_, M5, ?_, e5, rfl⟩
    have w1 : ((Y.1 a (8 + p)) + (1 : Int32)).toInt = ((q + 1 : Nat) : Int) := by rw [y2]; exact add_ti hq o1 (by omega) (by omega)
    have hl' : (Y.1 166 p).toInt = (l : Int) := by rw [y1]; exact hl
    rw [rem_ti w1 hl' (by omega) (by omega)]
    by_cases g : q + 1 < l
    · rw [if_pos g]; exact Int.emod_eq_of_lt (by omega) (by omega)
    · have : ((q + 1 : Nat) : Int) = (l : Int) := by omega
      rw [if_neg g, this, Int.emod_self]
  rcases io e with ⟨c, e⟩ | ⟨c, e⟩
  · obtain ⟨np, S, b1, b2, b3⟩ := last R rfl rfl e
    exact ⟨x4, np, S, e4, b1, ⟨R, .inl ⟨.inl c, rfl⟩, b2⟩, b3⟩
  obtain ⟨_, e⟩ := io_n e
  rcases io e with ⟨c2, e⟩ | ⟨c2, e⟩
  · obtain ⟨np, S, b1, b2, b3⟩ := last R rfl rfl e
    exact ⟨x4, np, S, e4, b1, ⟨R, .inl ⟨.inr c2, rfl⟩, b2⟩, b3⟩
  obtain ⟨_, e⟩ := io_n e
  obtain ⟨M6, e6, e⟩ := mo e
  obtain ⟨M7, e7, e⟩ := mo e
  obtain ⟨np, S, b1, b2, b3⟩ := last M7 (by rw [e7, si_ne (by omega), e6, si_ne (by omega)]) (by rw [e7, si_ne (by omega), e6, si_ne (by omega)]) e
  refine ⟨x4, np, S, e4, b1, ⟨M7, .inr ⟨c, c2, ?_⟩, b2⟩, b3⟩
  rw [e7, e6, si_ne (by omega)]
def PQ (X R : Mem) (k a n : Nat) (x S : Mem) : Prop := J S ∧ AgX X x ∧ AgR R S ∧ ZS (scn x k) (S.1 a) n ∧ ZV S (S.1 a) n ∧ x.1 45 0 = S.1 162 29 ∧ (∀ i, 80 ≤ i → S.1 a i = R.1 a i) ∧ x.1 45 3 = X.1 45 3 ∧ x.1 45 4 = X.1 45 4
theorem person_2 {X R x : Mem} {k a n p : Nat} {v : Int32} {r} (hk : isK k) (ha : St a) (jR : J R) (n8 : n ≤ 8) (zb : ZB X R n) (zs : ZS (scn X k) (R.1 a) n) (zv : ZV R (R.1 a) n) (zw : ZW X R a) (st : X.1 45 0 = R.1 162 29) (hp : v.toInt = (p : Int)) (pn : p < n) (ex : f_Clock_move v k 32 X = some x) (er : gm a v R = some r) : ∃ S, r = .inl (v + (1 : Int32), S) ∧ PQ X R k a n x S := by
  have kk : k = 11 ∨ k = 25 := hk
  have aa : a = 163 ∨ a = 174 ∨ a = 176 := ha
  obtain ⟨zg, ⟨c1, c2, c3, c4, c5, c6⟩, zl⟩ := zb
  obtain ⟨s1, s2, s3, s4, s5, s6, s7, s8⟩ := zs
  obtain ⟨v1, v2, v3, v4⟩ := zv
  obtain ⟨p1, p2, p3, p4, p5, p6⟩ := s1 p pn
  obtain ⟨q1, q2, q3, q4⟩ := v1 p pn
  have e0 : ∀ M : Mem, ∀ i, scn M k 0 i = M.1 (k + 1) i := fun _ _ => rfl
  have e1 : ∀ M : Mem, ∀ i, scn M k 1 i = M.1 (k + 2) i := fun _ _ => rfl
  have e2 : ∀ M : Mem, ∀ i, scn M k 2 i = M.1 (k + 3) i := fun _ _ => rfl
  rw [e0, e1] at p1
  rw [e0] at p2 p3
  rw [e1] at p4 p5
  rw [e2] at p6
  obtain ⟨l, hl⟩ := ti_ofn (v := R.1 166 p) (by have := (c4 p pn).2; omega)
  obtain ⟨q, hq⟩ := ti_ofn (v := R.1 a (8 + p)) q3
  have l9 := (c4 p pn).2
  obtain ⟨to, np, t1, t2, mx⟩ := move_c hk (by rw [c2]; exact c1) n8 hp pn (by rw [(c4 p pn).1]; exact hl) (by omega) (by rw [← p6]; exact hq) (by omega) ex
  obtain ⟨y, np', S, u1, u2, mr, hr⟩ := move_r ha hp (by omega) hl (by omega) hq (by omega) er
  have nn : np = np' := Int32.toInt_inj.mp (by rw [t2, u2])
  subst nn
  have cs := c5 p q pn (by omega)
  rw [cs.1] at t1
  obtain ⟨lv, hlv⟩ := ti_ofn p4
  obtain ⟨cv, hcv⟩ := ti_ofn p2
  obtain ⟨sv, hsv⟩ := ti_ofn cs.2.1
  have T := tow_2 jR ha ⟨v1, v2, v3, v4⟩ zw hlv hcv hsv (pv := R.1 a p) (by rw [p1]; omega) (by omega) (by omega) (by omega) q1 t1 u1
  refine ⟨S, hr, ?_⟩
  obtain ⟨Y, hY, hx⟩ := mx
  obtain ⟨Z, hZ, hS⟩ := mr
  have npb : 0 ≤ np.toInt ∧ np.toInt < (R.1 166 p).toInt := by rw [t2]; split <;> omega
  have l8 : (R.1 166 p).toInt ≤ 9 := l9.2
  -- did both step?
  have both : (Y = X ∧ Z = R) ∨ (0 ≤ to.toInt ∧ to.toInt < 36 ∧ y.toInt = (X.1 (k + 2) p).toInt * 36 + to.toInt ∧ onP R y.toInt ∧ Y = s_i (s_i X (k + 1) p to) 45 0 ((X.1 45 0) ||| ((1 : Int32) <<< (v &&& 31))) ∧ Z = s_i (s_i R a p y) 162 29 ((R.1 162 29) ||| ((1 : Int32) <<< (v &&& 31)))) := by
    have e_1 := om
    rcases T with ⟨T1, T2⟩ | ⟨T1, T2, T3, T4⟩
    · have to1 : to = -1 := Int32.toInt_inj.mp (by rw [T1, om])
      have y1 : y = -1 := Int32.toInt_inj.mp (by rw [T2, om])
      left
      refine ⟨?_, ?_⟩
      · rcases hY with h | h
        · exact h.2
        · exact absurd to1 h.1
      · rcases hZ with h | h
        · exact h.2
        · exact absurd y1 h.1
    · have nt : ¬ to = -1 := fun h => by rw [h, om] at T1; omega
      have ny : ¬ y = -1 := fun h => by rw [h, om] at T3; omega
      have iff1 : to = X.1 (k + 1) p ↔ y = R.1 a p := by
        constructor
        · intro h; refine Int32.toInt_inj.mp ?_; rw [T3, p1, h]; omega
        · intro h; refine Int32.toInt_inj.mp ?_; rw [h, p1] at T3; omega
      rcases hY with ⟨h, hy⟩ | ⟨_, h, hy⟩
      · left
        refine ⟨hy, ?_⟩
        rcases hZ with h2 | h2
        · exact h2.2
        · rcases h with h | h
          · exact absurd h nt
          · exact absurd (iff1.mp h) h2.2.1
      · right
        refine ⟨T1, T2, by omega, T4, hy, ?_⟩
        rcases hZ with ⟨h2, _⟩ | h2
        · rcases h2 with h2 | h2
          · exact absurd h2 ny
          · exact absurd (iff1.mpr h2) h
        · exact h2.2.2
  have p8 : p < 8 := by omega
  have jS : J S := by
    have jZ : J Z := by
      rcases both with ⟨_, h⟩ | ⟨_, _, h1, h2, _, h⟩
      · rw [h]; exact jR
      · have jz : J (s_i R a p y) := by
          have := Jws0 jR ha (i := v) (by omega) (by omega) y h2.1 h2.2.1
          rw [q_nat hp] at this; exact this
        rw [h]; exact Jw_fld okf_162_29 jz _
    have z8 : (8 : Int32).toInt = 8 := rfl
    have e8 : ((8 : Int32) + v).toInt = ((8 + p : Nat) : Int) := by rw [add_ti z8 hp (by omega) (by omega)]; omega
    have := Jws8 jZ ha (i := (8 : Int32) + v) (by omega) (by omega) np npb.1 (by omega)
    rw [q_nat e8] at this
    rw [hS]; exact this
  have xf : ∀ kx i, ¬ (kx = k + 1 ∧ i = p) → ¬ (kx = k + 3 ∧ i = p) → ¬ (kx = 45 ∧ i = 0) → x.1 kx i = X.1 kx i := by
    intro kx i h1 h2 h3
    rw [hx, si_ne h2]
    rcases both with ⟨h, _⟩ | ⟨_, _, _, _, h, _⟩
    · rw [h]
    · rw [h, si_ne h3, si_ne h1]
  have x2 : x.2 = X.2 := by
    rw [hx]; show Y.2 = _
    rcases both with ⟨h, _⟩ | ⟨_, _, _, _, h, _⟩
    · rw [h]
    · rw [h]; rfl
  have Sf : ∀ kx i, ¬ (kx = a ∧ (i = p ∨ i = 8 + p)) → ¬ (kx = 162 ∧ i = 29) → S.1 kx i = R.1 kx i := by
    intro kx i h1 h3
    rw [hS, si_ne (by omega)]
    rcases both with ⟨_, h⟩ | ⟨_, _, _, _, _, h⟩
    · rw [h]
    · rw [h, si_ne h3, si_ne (by omega)]
  have agx : AgX X x := ⟨xf 3 2 (by omega) (by omega) (by omega), xf 3 3 (by omega) (by omega) (by omega), fun i => xf 4 i (by omega) (by omega) (by omega), xf 6 4 (by omega) (by omega) (by omega), xf 6 5 (by omega) (by omega) (by omega), fun i => xf 7 i (by omega) (by omega) (by omega), fun i => xf 8 i (by omega) (by omega) (by omega), xf 40 4 (by omega) (by omega) (by omega), fun i => xf 41 i (by omega) (by omega) (by omega), fun i => xf 35 i (by omega) (by omega) (by omega), fun i => by rw [x2], fun i => by rw [x2]⟩
  have agr : AgR R S := ⟨Sf 162 2 (by omega) (by omega), Sf 162 3 (by omega) (by omega), Sf 162 4 (by omega) (by omega), Sf 162 5 (by omega) (by omega), Sf 162 23 (by omega) (by omega), fun i => Sf 164 i (by omega) (by omega), fun i => Sf 165 i (by omega) (by omega), fun i => Sf 166 i (by omega) (by omega), fun i => Sf 172 i (by omega) (by omega)⟩
  -- the one who went
  have Sp : S.1 a (8 + p) = np := by rw [hS, si_eq]
  have xp3 : x.1 (k + 3) p = np := by rw [hx, si_eq]
  have one : (S.1 a p).toInt = (x.1 (k + 1) p).toInt + 36 * (x.1 (k + 2) p).toInt ∧ 0 ≤ (x.1 (k + 1) p).toInt ∧ (x.1 (k + 1) p).toInt ≤ 35 ∧ onP R (S.1 a p).toInt ∧ (S.1 a p).toInt / 36 = (R.1 a p).toInt / 36 := by
    have x2p : x.1 (k + 2) p = X.1 (k + 2) p := xf _ _ (by omega) (by omega) (by omega)
    rw [x2p]
    rcases both with ⟨h1, h2⟩ | ⟨h1, h2, h3, h4, h5, h6⟩
    · have a1 : x.1 (k + 1) p = X.1 (k + 1) p := by rw [hx, si_ne (by omega), h1]
      have a2 : S.1 a p = R.1 a p := by rw [hS, si_ne (by omega), h2]
      rw [a1, a2]
      exact ⟨p1, p2, p3, q1, rfl⟩
    · have a1 : x.1 (k + 1) p = to := by rw [hx, si_ne (by omega), h5, si_ne (by omega), si_eq]
      have a2 : S.1 a p = y := by rw [hS, si_ne (by omega), h6, si_ne (by omega), si_eq]
      rw [a1, a2]
      exact ⟨by omega, by omega, by omega, h4, by omega⟩
  refine ⟨jS, agx, agr, ⟨fun b hb => ?_, fun b c hb hc => ?_, fun b c hb hc hh => ?_, ?_, fun j hj hl => ?_, ?_, ?_, ?_⟩, ⟨fun b hb => ?_, ?_, ?_, fun j hj => ?_⟩, ?_, fun i hi => Sf a i (by omega) (by omega), xf 45 3 (by omega) (by omega) (by omega), xf 45 4 (by omega) (by omega) (by omega)⟩
  · by_cases g : b = p
    · subst g
      rw [e0, e1, e2, Sp, xp3, xf (k + 2) b (by omega) (by omega) (by omega)]
      have o := one
      rw [xf (k + 2) b (by omega) (by omega) (by omega)] at o
      exact ⟨o.1, o.2.1, o.2.2.1, p4, p5, rfl⟩
    · rw [e0, e1, e2, Sf a b (by omega) (by omega), Sf a (8 + b) (by omega) (by omega), xf (k + 1) b (by omega) (by omega) (by omega), xf (k + 2) b (by omega) (by omega) (by omega), xf (k + 3) b (by omega) (by omega) (by omega)]
      exact s1 b hb
  · show S.1 a _ = x.1 (k + 1 + 3) _ + x.1 (k + 1 + 3) _
    rw [Sf a _ (by omega) (by omega), xf _ _ (by omega) (by omega) (by omega), xf _ _ (by omega) (by omega) (by omega)]
    exact s2 b c hb hc
  · show x.1 (k + 1 + 3) _ = 0
    rw [xf _ _ (by omega) (by omega) (by omega)]; exact s3 b c hb hc hh
  · show x.1 k 6 = S.1 a 92
    rw [xf _ _ (by omega) (by omega) (by omega), Sf a _ (by omega) (by omega)]; exact s4
  · rw [Sf a 92 (by omega) (by omega)] at hl
    show x.1 (k + 1 + 4) j = S.1 a _ ∧ x.1 (k + 1 + 5) j = S.1 a _
    rw [xf _ _ (by omega) (by omega) (by omega), xf _ _ (by omega) (by omega) (by omega), Sf a _ (by omega) (by omega), Sf a _ (by omega) (by omega)]
    exact s5 j hj hl
  · show x.1 k 7 = S.1 a 95
    rw [xf _ _ (by omega) (by omega) (by omega), Sf a _ (by omega) (by omega)]; exact s6
  · show x.1 k 8 = S.1 a 93
    rw [xf _ _ (by omega) (by omega) (by omega), Sf a _ (by omega) (by omega)]; exact s7
  · show x.1 k 9 = S.1 a 94
    rw [xf _ _ (by omega) (by omega) (by omega), Sf a _ (by omega) (by omega)]; exact s8
  · have onS : ∀ z, onP R z → onP S z := fun z h => ⟨h.1, h.2.1, (onN_a agr).mpr h.2.2⟩
    rw [agr.2.2.2.1, agr.2.2.2.2.2.2.2.1 b]
    by_cases g : b = p
    · subst g
      rw [Sp]
      exact ⟨onS _ one.2.2.2.1, fun h => by have := q2 h; have := one.2.2.2.2; omega, npb.1, npb.2⟩
    · rw [Sf a b (by omega) (by omega), Sf a (8 + b) (by omega) (by omega)]
      exact ⟨onS _ (v1 b hb).1, (v1 b hb).2⟩
  · rw [Sf a 92 (by omega) (by omega)]; exact v2
  · rw [Sf a 94 (by omega) (by omega)]; exact v3
  · rw [Sf a 92 (by omega) (by omega)] at hj
    have w : xw S = xw R := congrArg Int32.toInt agr.1
    have hh : xh S = xh R := congrArg Int32.toInt agr.2.1
    rw [Sf a _ (by omega) (by omega), Sf a _ (by omega) (by omega), w, hh]
    obtain ⟨b1, b2, s, b3, b4, b5⟩ := v4 j hj
    exact ⟨(onN_a agr).mpr b1, (onN_a agr).mpr b2, s, b3, b4, fun h => b5 ((onN_a agr).mp h)⟩
  · rw [hx, si_ne (by omega), hS, si_ne (by omega)]
    rcases both with ⟨h1, h2⟩ | ⟨_, _, _, _, h5, h6⟩
    · rw [h1, h2]; exact st
    · rw [h5, h6, si_eq, si_eq, st]
end
section
/-! people go, all of them -/
theorem PQ_t {X R x S y T : Mem} {k a n : Nat} (h : PQ X R k a n x S) (g : PQ x S k a n y T) : PQ X R k a n y T := by
  obtain ⟨a1, a2, a3, a4, a5, a6, a7, a8, a9⟩ := h
  obtain ⟨b1, b2, b3, b4, b5, b6, b7, b8, b9⟩ := g
  exact ⟨b1, AgX_t a2 b2, AgR_t a3 b3, b4, b5, b6, fun i hi => (b7 i hi).trans (a7 i hi), b8.trans a8, b9.trans a9⟩
theorem goes_q {X R : Mem} {k a n p : Nat} {v : Int32} {x r : Int32 × Mem} (hk : isK k) (ha : St a) (jR : J R) (n8 : n ≤ 8) (zs : ZS (scn X k) (R.1 a) n) (zv : ZV R (R.1 a) n) (st : X.1 45 0 = R.1 162 29) (hp : v.toInt = (p : Int)) (pn : p < n) (ex : f_Law_goes v k X = some x) (er : f_Mod_goes a v R = some r) : PQ X R k a n x.2 r.2 := by
  have kk : k = 11 ∨ k = 25 := hk
  have aa : a = 163 ∨ a = 174 ∨ a = 176 := ha
  have fx : Fx mGo [] X x.2 := wf_Law_goes v k X (by decide +kernel) Fx_r ex
  have fr : Fx mGr [] R r.2 := wf_Mod_goes a v R (by decide +kernel) Fx_r er
  obtain ⟨jr, _⟩ := some_of (sf_Mod_goes a v R ha (by omega) jR) er
  have fN : ∀ {kk i : Nat}, (kk ≠ 44 ∧ ¬ (kk = 40 ∧ i = 7) ∧ kk < 193 ∧ (i < 12 ∨ (kk ≠ 162 ∧ kk ≠ 1 ∧ kk ≠ 0 ∧ kk ≠ 3 ∧ kk ≠ 46 ∧ kk ≠ 6 ∧ kk ≠ 40 ∧ kk ≠ 45 ∧ kk ≠ 147 ∧ kk ≠ 151))) → x.2.1 kk i = X.1 kk i := fun h => (fx _ _ (mGo_k h.1 h.2.1 h.2.2.1 h.2.2.2) (by simp)).1
  have ra : ∀ i, r.2.1 a i = R.1 a i := fun i => by
    rcases aa with rfl | rfl | rfl
    · exact (fr 163 i (by rw [show sl 163 i = 163 from rfl]; decide +kernel) (by simp)).1
    · exact (fr 174 i (by rw [show sl 174 i = 174 from rfl]; decide +kernel) (by simp)).1
    · exact (fr 176 i (by rw [show sl 176 i = 176 from rfl]; decide +kernel) (by simp)).1
  have agr : AgR R r.2 := AgR_f (by decide +kernel) (by simp) fr
  refine ⟨jr, AgX_f (by decide +kernel) (by simp) fx, agr, ZS_c n8 (scn_e (fun j i hj => ?_)) (fun i _ => (ra i).symm) zs, ZV_a n8 agr (fun i _ => ra i) zv, ?_, fun i _ => ra i, fN (by omega), fN (by omega)⟩
  · unfold scn
    by_cases g : j < 6
    · rw [if_pos g, if_pos g, fN (by omega)]
    · rw [if_neg g, if_neg g, fN (by omega)]
  · rw [fN (by omega), (fr 162 29 (by decide +kernel) (by simp)).1]; exact st
theorem loopA {X R x r : Mem} {k a n : Nat} (hk : isK k) (ha : St a) (jR : J R) (n8 : n ≤ 8) (zb : ZB X R n) (zs : ZS (scn X k) (R.1 a) n) (zv : ZV R (R.1 a) n) (zw : ZW X R a) (st : X.1 45 0 = R.1 162 29) (ex : iter (lb_Clock_pass_8 k 32) FU ((0 : Int32), X) = some x) (er : iter (lb_Mod_goMinute_12 a) FU ((0 : Int32), R) = some r) : PQ X R k a n x r := by
  refine it_2 (I := fun (s t : Int32 × Mem) => s.1 = t.1 ∧ (∃ i : Nat, s.1.toInt = (i : Int) ∧ i ≤ n) ∧ PQ X R k a n s.2 t.2) (Q := fun x r => PQ X R k a n x r) ?_ ex er ⟨rfl, ⟨0, rfl, by omega⟩, jR, AgX_r, AgR_r, zs, zv, st, fun _ _ => rfl, rfl, rfl⟩
  rintro ⟨v, N⟩ ⟨v', T⟩ A B ⟨hv, ⟨i, hi, li⟩, pq⟩ eA eB
  dsimp only at hv hi pq
  subst hv
  obtain ⟨q1, q2, q3, q4, q5, q6, q7, q8, q9⟩ := pq
  have zb' := ZB_a q2 q3 zb
  obtain ⟨zg', zc', zl'⟩ := zb'
  have h6 : (R.1 a 92).toInt ≤ 6 := zv.2.1.2
  have zw' : ZW N T a := ZW_a q2 q3 (plk_c (fun i h _ => q7 i h) h6) zw
  unfold lb_Clock_pass_8 at eA
  unfold lb_Mod_goMinute_12 at eB
  dsimp only at eA eB
  rw [zc'.2.1] at eA
  have hn := zc'.1
  rcases io eA with ⟨c, eA⟩ | ⟨c, eA⟩
  · rw [if_pos c] at eB
    obtain rfl := Option.some.inj eA
    obtain rfl := Option.some.inj eB
    exact .inr ⟨N, T, rfl, rfl, q1, q2, q3, q4, q5, q6, q7, q8, q9⟩
  · rw [if_neg c] at eB
    have c1 := q_ng c
    have v1 : (v + (1 : Int32)).toInt = ((i + 1 : Nat) : Int) := add_ti hi o1 (by omega) (by omega)
    obtain ⟨x2, e2, eA⟩ := bo eA
    obtain ⟨x3, e3, eB⟩ := bo eB
    have g2 := goes_2 hk ha q1 n8 ⟨zg', zc', q4, q5, zl'⟩ hi (by omega) e2 e3
    have gq := goes_q hk ha q1 n8 q4 q5 q6 hi (by omega) e2 e3
    have pq2 : PQ X R k a n x2.2 x3.2 := PQ_t ⟨q1, q2, q3, q4, q5, q6, q7, q8, q9⟩ gq
    left
    rcases io eA with ⟨d, eA⟩ | ⟨d, eA⟩
    · rw [if_pos (g2.mp d)] at eB
      obtain rfl := Option.some.inj eA
      obtain rfl := Option.some.inj eB
      exact ⟨_, _, rfl, rfl, rfl, ⟨i + 1, v1, by omega⟩, pq2⟩
    · rw [if_neg (fun h => d (g2.mpr h))] at eB
      obtain ⟨x4, e4, eA⟩ := bo eA
      obtain rfl := Option.some.inj eA
      obtain ⟨p1, p2, p3, p4, p5, p6, p7, p8, p9⟩ := pq2
      have zb2 := ZB_a p2 p3 zb
      have zw2 : ZW x2.2 x3.2 a := ZW_a p2 p3 (plk_c (fun i h _ => p7 i h) h6) zw
      obtain ⟨S, hS, pS⟩ := person_2 hk ha p1 n8 zb2 p4 p5 zw2 p6 hi (by omega) e4 eB
      subst hS
      exact ⟨_, _, rfl, rfl, rfl, ⟨i + 1, v1, by omega⟩, PQ_t ⟨p1, p2, p3, p4, p5, p6, p7, p8, p9⟩ pS⟩
/-! who met whom -/
def PG (X R : Mem) (k a n : Nat) (x S : Mem) : Prop := AgX X x ∧ AgR R S ∧ ZS (scn x k) (S.1 a) n ∧ (∀ i, ¬ (16 ≤ i ∧ i < 80) → S.1 a i = R.1 a i) ∧ x.1 45 2 = S.1 162 31 ∧ (∀ j, j ≠ 2 → x.1 45 j = X.1 45 j) ∧ S.1 162 29 = R.1 162 29 ∧ (∀ j i, j ≠ 3 → j < 10 → scn x k j i = scn X k j i)
theorem meetR {R : Mem} {a m w cm cw : Nat} {u v x : Int32} (hu : u.toInt = (m : Int)) (hv : v.toInt = (w : Int)) (gm' : 0 ≤ (R.1 a m).toInt ∧ (R.1 a m).toInt ≤ 71) (gw : 0 ≤ (R.1 a w).toInt ∧ (R.1 a w).toInt ≤ 71) (hm : (R.1 a m).toInt % 36 = (cm : Int)) (hw : (R.1 a w).toInt % 36 = (cw : Int)) (e : f_Mod_areMeeting a u v R = some x) : (x = 0 ↔ ¬ (cm = cw ∧ (R.1 164 cm).toInt = 3)) := by
  unfold f_Mod_areMeeting at e
  obtain ⟨_, e⟩ := io_n e
  obtain ⟨_, e⟩ := io_n e
  rw [q_nat hu] at e
  obtain ⟨x1, e1, e⟩ := bo e
  obtain ⟨_, e⟩ := io_n e
  rw [q_nat hv] at e
  obtain ⟨x2, e2, e⟩ := bo e
  have h1 := (place_i gm'.1 gm'.2).1 e1
  have h2 := (place_i gw.1 gw.2).1 e2
  rcases io e with ⟨c, e⟩ | ⟨c, e⟩
  · have := q_eq c
    obtain ⟨_, e⟩ := io_n e
    obtain ⟨x3, e3, e⟩ := bo e
    rw [e1] at e3
    obtain rfl := Option.some.inj e3
    obtain ⟨_, e⟩ := io_n e
    rw [q_nat (show x1.toInt = (cm : Int) by omega)] at e
    rcases io e with ⟨d, e⟩ | ⟨d, e⟩
    · obtain rfl := Option.some.inj e
      exact ⟨fun h => (by cases h), fun h => absurd ⟨by omega, q_eq d⟩ h⟩
    · obtain rfl := Option.some.inj e
      exact ⟨fun _ h => q_ne d h.2, fun _ => rfl⟩
  · have := q_ne c
    obtain rfl := Option.some.inj e
    exact ⟨fun _ h => by omega, fun _ => rfl⟩
theorem greet_2 {X R x : Mem} {k a n m : Nat} {v : Int32} {r} (hk : isK k) (ha : St a) (jR : J R) (n8 : n ≤ 8) (zb : ZB X R n) (zs : ZS (scn X k) (R.1 a) n) (zv : ZV R (R.1 a) n) (st : X.1 45 2 = R.1 162 31) (hm : v.toInt = (m : Int)) (mn : m < n) (ex : f_Clock_greet v k X = some x) (er : iter (lb_Mod_goMinute_124 a v) FU ((0 : Int32), R) = some r) : PG X R k a n x r := by
  have kk : k = 11 ∨ k = 25 := hk
  have aa : a = 163 ∨ a = 174 ∨ a = 176 := ha
  obtain ⟨zg, zc, zl⟩ := zb
  have hn := zc.1
  have r0 : rf k 0 = k + 1 := scn_rf (isK_kd hk) (by omega)
  have r3 : rf k 3 = k + 4 := scn_rf (isK_kd hk) (by omega)
  have e0 : ∀ M : Mem, ∀ i, scn M k 0 i = M.1 (k + 1) i := fun _ _ => rfl
  have e1 : ∀ M : Mem, ∀ i, scn M k 1 i = M.1 (k + 2) i := fun _ _ => rfl
  have pr : ∀ q, q < n → 0 ≤ (R.1 a q).toInt ∧ (R.1 a q).toInt ≤ 71 ∧ (R.1 a q).toInt % 36 = (((X.1 (k + 1) q).toInt.toNat : Nat) : Int) ∧ 0 ≤ (X.1 (k + 1) q).toInt ∧ (X.1 (k + 1) q).toInt ≤ 35 := by
    intro q hq
    obtain ⟨p1, p2, p3, p4, p5, p6⟩ := zs.1 q hq
    rw [e0, e1] at p1
    rw [e0] at p2 p3
    rw [e1] at p4 p5
    exact ⟨by omega, by omega, by omega, p2, p3⟩
  -- nothing happens
  have idle : (bt (R.1 162 5) m = true ∨ ¬ stN R (X.1 (k + 1) m).toInt) → r = R := by
    intro hh
    refine it_r (I := fun t : Int32 × Mem => t.2 = R ∧ ∃ i : Nat, t.1.toInt = (i : Int) ∧ i ≤ n) (Q := fun t : Mem => t = R) ?_ er ⟨rfl, 0, rfl, by omega⟩
    rintro ⟨w, T⟩ B ⟨hT, i, hi, li⟩ e
    dsimp only at hT hi
    subst hT
    unfold lb_Mod_goMinute_124 at e
    dsimp only at e
    rcases io e with ⟨c, e⟩ | ⟨c, e⟩
    · obtain rfl := Option.some.inj e; rfl
    have c1 := q_ng c
    have w1 : (w + (1 : Int32)).toInt = ((i + 1 : Nat) : Int) := add_ti hi o1 (by omega) (by omega)
    obtain ⟨x13, e13, e⟩ := bo e
    have h13 := hasR hm (by omega) e13
    rcases io e with ⟨d, e⟩ | ⟨d, e⟩
    · have hst : ¬ stN T (X.1 (k + 1) m).toInt := by
        rcases hh with h | h
        · rw [h13.mp d] at h; cases h
        · exact h
      obtain ⟨x14, e14, e⟩ := bo e
      rcases io e with ⟨d2, e⟩ | ⟨d2, e⟩
      · obtain rfl := Option.some.inj e
        exact ⟨rfl, i + 1, w1, by omega⟩
      · obtain ⟨x15, e15, e⟩ := bo e
        have pm := pr m mn
        have pw := pr i (by omega)
        have h15 := meetR hm hi ⟨pm.1, pm.2.1⟩ ⟨pw.1, pw.2.1⟩ pm.2.2.1 pw.2.2.1 e15
        have on := (zv.1 m mn).1.2.2
        rw [if_pos (h15.mpr (fun h => hst ⟨pm.2.2.2.1, by have := on.2.1; omega, h.2⟩))] at e
        obtain rfl := Option.some.inj e
        exact ⟨rfl, i + 1, w1, by omega⟩
    · obtain rfl := Option.some.inj e
      exact ⟨rfl, i + 1, w1, by omega⟩
  have idle2 : x = X → r = R → PG X R k a n x r := by
    intro h1 h2
    subst h1; subst h2
    exact ⟨AgX_r, AgR_r, zs, fun _ _ => rfl, st, fun _ _ => rfl, rfl, fun _ _ _ _ => rfl⟩
  unfold f_Clock_greet at ex
  obtain ⟨_, ex⟩ := io_n ex
  obtain ⟨x1, ex1, ex⟩ := bo ex
  have wm := womanC hm (by omega) ex1
  rw [zc.2.2.1] at wm
  rcases io ex with ⟨c, ex⟩ | ⟨c, ex⟩
  · obtain ⟨_, ex⟩ := io_n ex
    rw [r0, q_nat hm] at ex
    obtain ⟨x2, ex2, ex⟩ := bo ex
    have sm := stairC zg jR ex2
    rcases io ex with ⟨c2, ex⟩ | ⟨c2, ex⟩
    · obtain rfl := Option.some.inj ex
      refine idle2 rfl (idle (.inr ?_))
      rcases sm with ⟨h, _⟩ | ⟨_, h⟩
      · rw [h] at c2; cases c2
      · exact h
    · obtain ⟨x9, ex9, ex⟩ := bo ex
      obtain rfl := Option.some.inj ex
      have stn : stN R (X.1 (k + 1) m).toInt := by
        rcases sm with ⟨_, h⟩ | ⟨h, _⟩
        · exact h
        · exact absurd h c2
      refine it_2 (I := fun (s t : Int32 × Mem) => s.1 = t.1 ∧ (∃ i : Nat, s.1.toInt = (i : Int) ∧ i ≤ n) ∧ PG X R k a n s.2 t.2) (Q := fun x r => PG X R k a n x r) ?_ ex9 er ⟨rfl, ⟨0, rfl, by omega⟩, AgX_r, AgR_r, zs, fun _ _ => rfl, st, fun _ _ => rfl, rfl, fun _ _ _ _ => rfl⟩
      rintro ⟨w, N⟩ ⟨w', T⟩ A B ⟨hw, ⟨i, hi, li⟩, pg⟩ eA eB
      dsimp only at hw hi pg
      subst hw
      obtain ⟨g1, g2, g3, g4, g5, g6, g7, g8⟩ := pg
      have w1 : (w + (1 : Int32)).toInt = ((i + 1 : Nat) : Int) := add_ti hi o1 (by omega) (by omega)
      unfold lb_Clock_greet_26 at eA
      unfold lb_Mod_goMinute_124 at eB
      dsimp only at eA eB
      rw [g1.2.2.2.1, zc.2.1] at eA
      rw [g2.2.2.1, g2.2.2.2.1] at eB
      rcases io eA with ⟨d, eA⟩ | ⟨d, eA⟩
      · rw [if_pos d] at eB
        obtain rfl := Option.some.inj eA
        obtain rfl := Option.some.inj eB
        exact .inr ⟨N, T, rfl, rfl, g1, g2, g3, g4, g5, g6, g7, g8⟩
      rw [if_neg d] at eB
      have d1 := q_ng d
      left
      obtain ⟨y3, ey3, eA⟩ := bo eA
      have wy := womanC hi (by omega) ey3
      rw [g1.2.2.2.2.1, zc.2.2.1] at wy
      obtain ⟨z13, ez13, eB⟩ := bo eB
      have hz13 := hasR hm (by omega) ez13
      rw [if_pos (hz13.mpr (wm.mp c))] at eB
      obtain ⟨z14, ez14, eB⟩ := bo eB
      have hz14 := hasR hi (by omega) ez14
      rcases io eA with ⟨d2, eA⟩ | ⟨d2, eA⟩
      · rw [if_pos (hz14.mpr (wy.mp d2))] at eB
        obtain rfl := Option.some.inj eA
        obtain rfl := Option.some.inj eB
        exact ⟨_, _, rfl, rfl, rfl, ⟨i + 1, w1, by omega⟩, g1, g2, g3, g4, g5, g6, g7, g8⟩
      rw [if_neg (fun h => d2 (wy.mpr (hz14.mp h)))] at eB
      obtain ⟨_, eA⟩ := io_n eA
      obtain ⟨_, eA⟩ := io_n eA
      rw [r0, q_nat hi, q_nat hm] at eA
      have n0 : ∀ q, N.1 (k + 1) q = X.1 (k + 1) q := fun q => g8 0 q (by omega) (by omega)
      rw [n0, n0] at eA
      obtain ⟨z15, ez15, eB⟩ := bo eB
      have pm := pr m mn
      have pw := pr i (by omega)
      have tm : T.1 a m = R.1 a m := g4 m (by omega)
      have tw : T.1 a i = R.1 a i := g4 i (by omega)
      have h15 := meetR hm hi (by rw [tm]; exact ⟨pm.1, pm.2.1⟩) (by rw [tw]; exact ⟨pw.1, pw.2.1⟩) (by rw [tm]; exact pm.2.2.1) (by rw [tw]; exact pw.2.2.1) ez15
      rw [g2.2.2.2.2.2.1] at h15
      rcases io eA with ⟨d3, eA⟩ | ⟨d3, eA⟩
      · have d3' := congrArg Int32.toInt d3
        rw [if_neg (fun h => (h15.mp h) ⟨by omega, stn.2.2⟩)] at eB
        have mi : m ≠ i := by
          rintro rfl
          exact d2 (wy.mpr (wm.mp c))
        obtain ⟨y4, ey4, eA⟩ := bo eA
        obtain ⟨M5, em5, eA⟩ := mo eA
        obtain rfl := Option.some.inj eA
        unfold f_Scene_addMeeting at ey4
        obtain ⟨_, ey4⟩ := io_n ey4
        obtain ⟨_, ey4⟩ := io_n ey4
        obtain ⟨_, ey4⟩ := io_n ey4
        obtain ⟨Y1, ey1, ey4⟩ := mo ey4
        obtain rfl := Option.some.inj ey4
        have z8 : (8 : Int32).toInt = 8 := rfl
        have z16 : (16 : Int32).toInt = 16 := rfl
        have i1 : (v * (8 : Int32)).toInt = (m : Int) * 8 := mul_ti hm z8 (by omega) (by omega)
        have i2 : (v * (8 : Int32) + w).toInt = ((8 * m + i : Nat) : Int) := by rw [add_ti i1 hi (by omega) (by omega)]; omega
        rw [r3, q_nat i2] at ey1
        have j1 : ((8 : Int32) * v).toInt = 8 * (m : Int) := mul_ti z8 hm (by omega) (by omega)
        have j2 : ((16 : Int32) + (8 : Int32) * v).toInt = 16 + 8 * (m : Int) := add_ti z16 j1 (by omega) (by omega)
        have j3 : ((16 : Int32) + (8 : Int32) * v + w).toInt = ((16 + 8 * m + i : Nat) : Int) := by rw [add_ti j2 hi (by omega) (by omega)]; omega
        have l1 : ((8 : Int32) * w).toInt = 8 * (i : Int) := mul_ti z8 hi (by omega) (by omega)
        have l2 : ((16 : Int32) + (8 : Int32) * w).toInt = 16 + 8 * (i : Int) := add_ti z16 l1 (by omega) (by omega)
        have l3 : ((16 : Int32) + (8 : Int32) * w + v).toInt = ((16 + 8 * i + m : Nat) : Int) := by rw [add_ti l2 hm (by omega) (by omega)]; omega
        obtain ⟨_, eB⟩ := io_n eB
        obtain ⟨_, eB⟩ := io_n eB
        obtain ⟨M16, em16, eB⟩ := mo eB
        obtain ⟨_, eB⟩ := io_n eB
        obtain ⟨_, eB⟩ := io_n eB
        obtain ⟨M17, em17, eB⟩ := mo eB
        obtain ⟨M18, em18, eB⟩ := mo eB
        obtain rfl := Option.some.inj eB
        rw [q_nat j3] at em16
        rw [q_nat l3] at em17
        have xf : ∀ kx q, ¬ (kx = k + 4 ∧ q = 8 * m + i) → ¬ (kx = 45 ∧ q = 2) → M5.1 kx q = N.1 kx q := fun kx q h1 h2 => by rw [em5, si_ne h2, ey1, si_ne h1]
        have x4 : M5.1 (k + 4) (8 * m + i) = N.1 (k + 4) (8 * m + i) + 1 := by rw [em5, si_ne (by omega), ey1, si_eq]
        have x45 : M5.1 45 2 = N.1 45 2 + 1 := by rw [em5, si_eq, ey1, si_ne (by omega)]
        have x22 : M5.2 = N.2 := by rw [em5]; show Y1.2 = _; rw [ey1]; rfl
        have sf : ∀ kx q, ¬ (kx = a ∧ (q = 16 + 8 * m + i ∨ q = 16 + 8 * i + m)) → ¬ (kx = 162 ∧ q = 31) → M18.1 kx q = T.1 kx q := fun kx q h1 h2 => by rw [em18, si_ne h2, em17, si_ne (by omega), em16, si_ne (by omega)]
        have s1 : M18.1 a (16 + 8 * m + i) = T.1 a (16 + 8 * m + i) + 1 := by rw [em18, si_ne (by omega), em17, si_ne (by omega), em16, si_eq]
        have s2 : M18.1 a (16 + 8 * i + m) = T.1 a (16 + 8 * i + m) + 1 := by rw [em18, si_ne (by omega), em17, si_eq, em16, si_ne (by omega)]
        have s31 : M18.1 162 31 = T.1 162 31 + 1 := by rw [em18, si_eq, em17, si_ne (by omega), em16, si_ne (by omega)]
        have agx : AgX N M5 := ⟨xf 3 2 (by omega) (by omega), xf 3 3 (by omega) (by omega), fun q => xf 4 q (by omega) (by omega), xf 6 4 (by omega) (by omega), xf 6 5 (by omega) (by omega), fun q => xf 7 q (by omega) (by omega), fun q => xf 8 q (by omega) (by omega), xf 40 4 (by omega) (by omega), fun q => xf 41 q (by omega) (by omega), fun q => xf 35 q (by omega) (by omega), fun q => by rw [x22], fun q => by rw [x22]⟩
        have agr : AgR T M18 := ⟨sf 162 2 (by omega) (by omega), sf 162 3 (by omega) (by omega), sf 162 4 (by omega) (by omega), sf 162 5 (by omega) (by omega), sf 162 23 (by omega) (by omega), fun q => sf 164 q (by omega) (by omega), fun q => sf 165 q (by omega) (by omega), fun q => sf 166 q (by omega) (by omega), fun q => sf 172 q (by omega) (by omega)⟩
        have sc : ∀ j q, j ≠ 3 → j < 10 → scn M5 k j q = scn N k j q := by
          intro j q j3 j10
          unfold scn
          by_cases g : j < 6
          · rw [if_pos g, if_pos g]; exact xf _ _ (by omega) (by omega)
          · rw [if_neg g, if_neg g]; exact xf _ _ (by omega) (by omega)
        have sc3 : ∀ q, q ≠ 8 * m + i → scn M5 k 3 q = scn N k 3 q := fun q hq => xf (k + 4) q (by omega) (by omega)
        have sc3m : scn M5 k 3 (8 * m + i) = scn N k 3 (8 * m + i) + 1 := x4
        obtain ⟨b1, b2, b3, b4, b5, b6, b7, b8⟩ := g3
        refine ⟨_, _, rfl, rfl, rfl, ⟨i + 1, w1, by omega⟩, AgX_t g1 agx, AgR_t g2 agr, ⟨fun q hq => ?_, fun p q hp hq => ?_, fun p q hp hq hh => ?_, ?_, fun j hj hl => ?_, ?_, ?_, ?_⟩, fun q hq => ?_, ?_, fun j hj => ?_, ?_, fun j q hj hj2 => (sc j q hj hj2).trans (g8 j q hj hj2)⟩
        · show (M18.1 a q).toInt = _ ∧ _
          rw [sf a q (by omega) (by omega), sf a (8 + q) (by omega) (by omega), sc 0 q (by omega) (by omega), sc 1 q (by omega) (by omega), sc 2 q (by omega) (by omega)]; exact b1 q hq
        · show M18.1 a (16 + 8 * p + q) = scn M5 k 3 _ + scn M5 k 3 _
          by_cases h1 : p = m ∧ q = i
          · obtain ⟨rfl, rfl⟩ := h1
            rw [s1, sc3m, sc3 _ (by omega), b2 p q hp hq]; ac_rfl
          · by_cases h2 : p = i ∧ q = m
            · obtain ⟨rfl, rfl⟩ := h2
              rw [s2, sc3m, sc3 _ (by omega), b2 p q hp hq]; ac_rfl
            · rw [sf a _ (by omega) (by omega), sc3 _ (by omega), sc3 _ (by omega)]; exact b2 p q hp hq
        · rw [sc3 _ (by omega)]; exact b3 p q hp hq hh
        · show scn M5 k 6 0 = M18.1 a 92
          rw [sc 6 0 (by omega) (by omega), sf a 92 (by omega) (by omega)]; exact b4
        · have hl : (j : Int) < (M18.1 a 92).toInt := hl
          rw [sf a 92 (by omega) (by omega)] at hl
          show scn M5 k 4 j = M18.1 a _ ∧ scn M5 k 5 j = M18.1 a _
          rw [sc 4 j (by omega) (by omega), sc 5 j (by omega) (by omega), sf a _ (by omega) (by omega), sf a _ (by omega) (by omega)]; exact b5 j hj hl
        · show scn M5 k 7 0 = M18.1 a 95
          rw [sc 7 0 (by omega) (by omega), sf a _ (by omega) (by omega)]; exact b6
        · show scn M5 k 8 0 = M18.1 a 93
          rw [sc 8 0 (by omega) (by omega), sf a _ (by omega) (by omega)]; exact b7
        · show scn M5 k 9 0 = M18.1 a 94
          rw [sc 9 0 (by omega) (by omega), sf a _ (by omega) (by omega)]; exact b8
        · show M18.1 a q = _
          rw [sf a q (by omega) (by omega)]; exact g4 q hq
        · show M5.1 45 2 = M18.1 162 31
          rw [x45, s31, g5]
        · show M5.1 45 j = _
          rw [xf 45 j (by omega) (by omega)]; exact g6 j hj
        · show M18.1 162 29 = _
          rw [sf 162 29 (by omega) (by omega)]; exact g7
      · have d3' : (X.1 (k + 1) i).toInt ≠ (X.1 (k + 1) m).toInt := fun h => d3 (Int32.toInt_inj.mp h)
        rw [if_pos (h15.mpr (fun h => by have := h.1; omega))] at eB
        obtain rfl := Option.some.inj eA
        obtain rfl := Option.some.inj eB
        exact ⟨_, _, rfl, rfl, rfl, ⟨i + 1, w1, by omega⟩, g1, g2, g3, g4, g5, g6, g7, g8⟩
  · obtain rfl := Option.some.inj ex
    refine idle2 rfl (idle (.inl ?_))
    cases hb : bt (R.1 162 5) m with
    | true => rfl
    | false => exact absurd (wm.mpr hb) c
end
