/-! the class lays its nets: cells, then planks -/
theorem sl_n {n k i : Nat} (hn : n < 200) (h : k ≠ n) : Nat.testBit (2 ^ n) (sl k i) = false := by
  rw [tb2]
  refine decide_eq_false ?_
  unfold sl
  repeat' split
  all_goals omega
section NL
variable {X R : Mem} {v0 : Nat} {on : Nat → Nat → Prop}
theorem NL_79 (hv : isN v0) (jR : J R) (onb : ∀ l d, on l d → (d : Int) < xw R * xh R) {A : Mem} (zA : ZG A R) (hb : NB v0 on 36 A) {x} (e : iter (lb_Nets_lay_79 v0 11) FU ((0 : Int32), A) = some x) : (∀ l c s, l < 2 → c < 36 → s < 4 → LKn R on l c s (x.1 (v0 + 3) ((l * 36 + c) * 4 + s))) ∧ (∀ l c, l < 2 → c < 36 → NR R on l c 4 (x.2.1 (v0 + 2) (l * 36 + c))) ∧ (∀ k i, k ≠ v0 + 3 → x.1 k i = A.1 k i) ∧ (∀ k i, k ≠ v0 + 2 → x.2.1 k i = A.2.1 k i) ∧ x.2.2 = A.2.2 := by
  have v0b : v0 = 32 ∨ v0 = 36 := hv
  refine it_r (I := fun s : Int32 × Mem => ∃ m : Nat, m ≤ 36 ∧ s.1.toInt = (m : Int) ∧ (∀ l c s', l < 2 → c < m → s' < 4 → LKn R on l c s' (s.2.1 (v0 + 3) ((l * 36 + c) * 4 + s'))) ∧ (∀ l c, l < 2 → c < m → NR R on l c 4 (s.2.2.1 (v0 + 2) (l * 36 + c))) ∧ (∀ k i, k ≠ v0 + 3 → s.2.1 k i = A.1 k i) ∧ (∀ k i, k ≠ v0 + 2 → s.2.2.1 k i = A.2.1 k i) ∧ s.2.2.2 = A.2.2) (Q := fun x : Mem => (∀ l c s, l < 2 → c < 36 → s < 4 → LKn R on l c s (x.1 (v0 + 3) ((l * 36 + c) * 4 + s))) ∧ (∀ l c, l < 2 → c < 36 → NR R on l c 4 (x.2.1 (v0 + 2) (l * 36 + c))) ∧ (∀ k i, k ≠ v0 + 3 → x.1 k i = A.1 k i) ∧ (∀ k i, k ≠ v0 + 2 → x.2.1 k i = A.2.1 k i) ∧ x.2.2 = A.2.2) ?_ e ⟨0, by omega, rfl, fun l c s' _ h => absurd h (by omega), fun l c _ h => absurd h (by omega), fun _ _ _ => rfl, fun _ _ _ => rfl, rfl⟩
  rintro ⟨cv, N⟩ r ⟨m, lm, hm, hn, hr, f1, f2, f3⟩ e
  dsimp only at hm hn hr f1 f2 f3
  have z36 : (36 : Int32).toInt = 36 := rfl
  unfold lb_Nets_lay_79 at e
  dsimp only at e
  rcases io e with ⟨k, e⟩ | ⟨k, e⟩
  · have := q_le k
    obtain rfl := Option.some.inj e
    have : m = 36 := by omega
    subst this
    exact ⟨hn, hr, f1, f2, f3⟩
  have k1 := q_ng k
  obtain ⟨x11, e11, e⟩ := bo e
  obtain ⟨x12, e12, e⟩ := bo e
  obtain rfl := Option.some.inj e
  have zc : ∀ {N' : Mem}, (∀ k i, k ≠ v0 + 3 → N'.1 k i = A.1 k i) → ZG N' R := by
    intro N' f
    unfold ZG at zA ⊢
    rw [f 3 2 (by omega), f 3 3 (by omega)]
    exact ⟨zA.1, zA.2.1, fun i hi => by rw [f 4 i (by omega)]; exact zA.2.2.1 i hi, zA.2.2.2⟩
  have bc : ∀ {N' : Mem}, (∀ k i, k ≠ v0 + 2 → N'.2.1 k i = A.2.1 k i) → NB v0 on 36 N' := by
    intro N' f a d ha
    rw [f (v0 + 1) a (by omega)]; exact hb a d ha
  obtain ⟨a1, a2, a3, a4, a5⟩ := link_i hv (zc f1) jR onb (zc f1) (bc f2) (l := 0) rfl (by omega) hm (by omega) e11
  have g1 : ∀ k i, k ≠ v0 + 3 → x11.1 k i = A.1 k i := fun k i n => by rw [a3 k i (by omega)]; exact f1 k i n
  have g2 : ∀ k i, k ≠ v0 + 2 → x11.2.1 k i = A.2.1 k i := fun k i n => by rw [a4 k i (by omega)]; exact f2 k i n
  obtain ⟨b1, b2, b3, b4, b5⟩ := link_i hv (zc g1) jR onb (zc g1) (bc g2) (l := 1) o1 (by omega) hm (by omega) e12
  refine ⟨m + 1, by omega, add_ti hm o1 (by omega) (by omega), fun l c s' hl hc hs => ?_, fun l c hl hc => ?_, fun k i n => ?_, fun k i n => ?_, ?_⟩
  · show LKn R on l c s' (x12.1 _ _)
    by_cases g : c = m
    · subst g
      have : l = 0 ∨ l = 1 := by omega
      rcases this with rfl | rfl
      · rw [b3 _ _ (by omega)]; exact a1 s' hs
      · exact b1 s' hs
    · rw [b3 _ _ (by omega), a3 _ _ (by omega)]; exact hn l c s' hl (by omega) hs
  · show NR R on l c 4 (x12.2.1 _ _)
    by_cases g : c = m
    · subst g
      have : l = 0 ∨ l = 1 := by omega
      rcases this with rfl | rfl
      · rw [b4 _ _ (by omega)]; exact a2
      · exact b2
    · rw [b4 _ _ (by omega), a4 _ _ (by omega)]; exact hr l c hl (by omega)
  · show x12.1 k i = _
    rw [b3 k i (by omega)]; exact g1 k i n
  · show x12.2.1 k i = _
    rw [b4 k i (by omega)]; exact g2 k i n
  · show x12.2.2 = _
    rw [b5, a5]; exact f3
/-- links and the planks of D -/
def NXT (R : Mem) (on : Nat → Nat → Prop) (D : Int → Int → Prop) (l c s : Nat) (v : Int32) : Prop := ((l = 1 ∧ bb (xw R) (xh R) c s ≠ -1 ∧ D c (bb (xw R) (xh R) c s)) → v.toInt = bb (xw R) (xh R) c s) ∧ (¬ (l = 1 ∧ bb (xw R) (xh R) c s ≠ -1 ∧ D c (bb (xw R) (xh R) c s)) → LKn R on l c s v)
def NRD (R : Mem) (on : Nat → Nat → Prop) (D : Int → Int → Prop) (l c : Nat) (v : Int64) : Prop := ∀ d : Nat, bl v d = true ↔ (∃ s : Nat, s < 4 ∧ lk R on l c s ∧ bes (xw R) (xh R) c s = (d : Int)) ∨ (l = 1 ∧ ∃ s : Nat, s < 4 ∧ bb (xw R) (xh R) c s = (d : Int) ∧ D c d)
def ZX (v0 : Nat) (R : Mem) (on : Nat → Nat → Prop) (D : Int → Int → Prop) (N : Mem) : Prop := (∀ l c s, l < 2 → c < 36 → s < 4 → NXT R on D l c s (N.1 (v0 + 3) ((l * 36 + c) * 4 + s))) ∧ (∀ l c, l < 2 → c < 36 → NRD R on D l c (N.2.1 (v0 + 2) (l * 36 + c)))
theorem ZX_e {D D' : Int → Int → Prop} {N : Mem} (h : ∀ a b, D a b ↔ D' a b) (k : ZX v0 R on D N) : ZX v0 R on D' N := by
  have : D = D' := by funext a b; exact propext (h a b)
  rw [← this]; exact k
theorem bridge_i (hv : isN v0) (jR : J R) {D : Int → Int → Prop} {A : Mem} (zA : ZG A R) (h : ZX v0 R on D A) {a b : Int32} (a0 : 0 ≤ a.toInt) (a1 : a.toInt < xw R * xh R) (b0 : 0 ≤ b.toInt) (b1 : b.toInt < xw R * xh R) {x} (e : f_Nets_bridge v0 a b A = some x) : ZX v0 R on (fun c d => D c d ∨ (c = a.toInt ∧ d = b.toInt)) x ∧ (∀ k i, k ≠ v0 + 3 → x.1 k i = A.1 k i) ∧ (∀ k i, k ≠ v0 + 2 → x.2.1 k i = A.2.1 k i) ∧ x.2.2 = A.2.2 := by
  obtain ⟨r0, r1, r2⟩ := isN_r hv
  have hw := aw jR
  have hh := ah jR
  have wh := awh jR
  obtain ⟨h1, h2⟩ := h
  unfold f_Nets_bridge at e
  obtain ⟨_, e⟩ := io_n e
  obtain ⟨x1, e1, e⟩ := bo e
  have z36 : (36 : Int32).toInt = 36 := rfl
  obtain ⟨a', ha'⟩ : ∃ a' : Nat, a.toInt = (a' : Int) := ⟨a.toInt.toNat, by omega⟩
  obtain ⟨b', hb'⟩ : ∃ b' : Nat, b.toInt = (b' : Int) := ⟨b.toInt.toNat, by omega⟩
  rcases acrossC zA jR a0 a1 b0 e1 with ⟨s, s4, hs, hbb⟩ | ⟨hs, hbb⟩
  · rcases io e with ⟨g, e⟩ | ⟨g, e⟩
    · have := q_eq g; rw [om] at this; omega
    obtain ⟨_, e⟩ := io_n e
    obtain ⟨M2, e2, e⟩ := mo e
    obtain ⟨_, e⟩ := io_n e
    obtain ⟨_, e⟩ := io_n e
    obtain ⟨M3, e3, e⟩ := mo e
    obtain rfl := Option.some.inj e
    have n1 : ((36 : Int32) + a).toInt = ((1 * 36 + a' : Nat) : Int) := by rw [add_ti z36 ha' (by omega) (by omega)]; omega
    have n2 : (((36 : Int32) + a) * (4 : Int32)).toInt = ((1 * 36 + a' : Nat) : Int) * 4 := mul_ti n1 o4 (by omega) (by omega)
    have n3 : ((((36 : Int32) + a) * (4 : Int32)) + x1).toInt = (((1 * 36 + a') * 4 + s : Nat) : Int) := by rw [add_ti n2 hs (by omega) (by omega)]; omega
    rw [r2, q_nat n3] at e2
    rw [r1, q_nat n1] at e3
    have u := (bb_i hw hh a0 a1 (s := s) (by omega) (by omega)).2.2
    refine ⟨⟨fun l c s' hl hc hs' => ?_, fun l c hl hc d => ?_⟩, fun k i n => ?_, fun k i n => ?_, ?_⟩
    · rw [e3, sl_1, e2]
      by_cases g2 : l = 1 ∧ c = a' ∧ s' = s
      · obtain ⟨rfl, rfl, rfl⟩ := g2
        rw [si_eq]
        refine ⟨fun _ => by rw [← ha', hbb], fun h => absurd ⟨rfl, by rw [← ha', hbb]; omega, .inr ⟨ha'.symm, by rw [← ha', hbb]⟩⟩ h⟩
      · rw [si_ne (by omega)]
        have k := h1 l c s' hl hc hs'
        refine ⟨fun ⟨q1, q2, q3⟩ => ?_, fun q => k.2 (fun ⟨q1, q2, q3⟩ => q ⟨q1, q2, .inl q3⟩)⟩
        rcases q3 with q3 | ⟨q3, q4⟩
        · exact k.1 ⟨q1, q2, q3⟩
        · exfalso
          apply g2
          have ca : c = a' := by omega
          subst ca
          refine ⟨q1, rfl, ?_⟩
          have := u s' (by omega) (by omega) (by rw [hbb, ha']; exact q4)
          omega
    · rw [e3]
      by_cases g2 : l = 1 ∧ c = a'
      · obtain ⟨rfl, rfl⟩ := g2
        rw [sl_eq, bl_or, bl_one hb' (by omega), e2, si_2, Bool.or_eq_true, h2 1 c hl hc d, decide_eq_true_eq]
        constructor
        · rintro ((q | ⟨q1, s2, q2, q3, q4⟩) | q)
          · exact .inl q
          · exact .inr ⟨q1, s2, q2, q3, .inl q4⟩
          · subst q
            exact .inr ⟨rfl, s, s4, by rw [← ha', hbb, hb'], .inr ⟨ha'.symm, hb'.symm⟩⟩
        · rintro (q | ⟨q1, s2, q2, q3, q4 | ⟨_, q4⟩⟩)
          · exact .inl (.inl q)
          · exact .inl (.inr ⟨q1, s2, q2, q3, q4⟩)
          · exact .inr (by omega)
      · rw [sl_ne (by omega), e2, si_2, h2 l c hl hc d]
        constructor
        · rintro (q | ⟨q1, s2, q2, q3, q4⟩)
          · exact .inl q
          · exact .inr ⟨q1, s2, q2, q3, .inl q4⟩
        · rintro (q | ⟨q1, s2, q2, q3, q4 | ⟨q4, _⟩⟩)
          · exact .inl q
          · exact .inr ⟨q1, s2, q2, q3, q4⟩
          · exact absurd ⟨q1, by omega⟩ g2
    · rw [e3, sl_1, e2, si_ne (by omega)]
    · rw [e3, sl_ne (by omega), e2, si_2]
    · rw [e3]; show M2.2.2 = _
      rw [e2]; rfl
  · rcases io e with ⟨g, e⟩ | ⟨g, e⟩
    · obtain rfl := Option.some.inj e
      refine ⟨⟨fun l c s' hl hc hs' => ?_, fun l c hl hc d => ?_⟩, fun _ _ _ => rfl, fun _ _ _ => rfl, rfl⟩
      · have k := h1 l c s' hl hc hs'
        refine ⟨fun ⟨q1, q2, q3⟩ => ?_, fun q => k.2 (fun ⟨q1, q2, q3⟩ => q ⟨q1, q2, .inl q3⟩)⟩
        rcases q3 with q3 | ⟨q3, q4⟩
        · exact k.1 ⟨q1, q2, q3⟩
        · rw [q3] at q4
          exact absurd q4 (hbb s' hs')
      · rw [h2 l c hl hc d]
        constructor
        · rintro (q | ⟨q1, s2, q2, q3, q4⟩)
          · exact .inl q
          · exact .inr ⟨q1, s2, q2, q3, .inl q4⟩
        · rintro (q | ⟨q1, s2, q2, q3, q4 | ⟨q4, q5⟩⟩)
          · exact .inl q
          · exact .inr ⟨q1, s2, q2, q3, q4⟩
          · rw [q4, q5] at q3
            exact absurd q3 (hbb s2 q2)
    · have := q_ne g; rw [om] at this; exact absurd hs this
/-- the planks of the scene, so many of them -/
def PD (X : Mem) (n : Nat) (c d : Int) : Prop := ∃ j : Nat, j < n ∧ (((X.1 16 j).toInt = c ∧ (X.1 17 j).toInt = d) ∨ ((X.1 17 j).toInt = c ∧ (X.1 16 j).toInt = d))
theorem rf11 : rf 11 4 = 16 ∧ rf 11 5 = 17 := by decide +kernel
theorem NL_111 (hv : isN v0) (jR : J R) {A : Mem} (zA : ZG A R) {n : Nat} (hn : (A.1 11 6).toInt = (n : Int)) (n6 : n ≤ 6) (hp : ∀ j, j < n → 0 ≤ (A.1 16 j).toInt ∧ (A.1 16 j).toInt < xw R * xh R ∧ 0 ≤ (A.1 17 j).toInt ∧ (A.1 17 j).toInt < xw R * xh R) (h : ZX v0 R on (fun _ _ => False) A) {x} (e : iter (lb_Nets_lay_111 v0 11) FU ((0 : Int32), A) = some x) : ZX v0 R on (PD A n) x ∧ (∀ k i, k ≠ v0 + 3 → x.1 k i = A.1 k i) ∧ (∀ k i, k ≠ v0 + 2 → x.2.1 k i = A.2.1 k i) ∧ x.2.2 = A.2.2 := by
  have v0b : v0 = 32 ∨ v0 = 36 := hv
  refine it_r (I := fun s : Int32 × Mem => ∃ m : Nat, m ≤ n ∧ s.1.toInt = (m : Int) ∧ ZX v0 R on (PD A m) s.2 ∧ (∀ k i, k ≠ v0 + 3 → s.2.1 k i = A.1 k i) ∧ (∀ k i, k ≠ v0 + 2 → s.2.2.1 k i = A.2.1 k i) ∧ s.2.2.2 = A.2.2) (Q := fun x : Mem => ZX v0 R on (PD A n) x ∧ (∀ k i, k ≠ v0 + 3 → x.1 k i = A.1 k i) ∧ (∀ k i, k ≠ v0 + 2 → x.2.1 k i = A.2.1 k i) ∧ x.2.2 = A.2.2) ?_ e ⟨0, by omega, rfl, ZX_e (fun a b => ⟨fun h => h.elim, fun ⟨j, hj, _⟩ => by omega⟩) h, fun _ _ _ => rfl, fun _ _ _ => rfl, rfl⟩
  rintro ⟨iv, N⟩ r ⟨m, lm, hm, hx, f1, f2, f3⟩ e
  dsimp only at hm hx f1 f2 f3
  have z6 : (6 : Int32).toInt = 6 := rfl
  have zc : ∀ {N' : Mem}, (∀ k i, k ≠ v0 + 3 → N'.1 k i = A.1 k i) → ZG N' R := by
    intro N' f
    unfold ZG at zA ⊢
    rw [f 3 2 (by omega), f 3 3 (by omega)]
    exact ⟨zA.1, zA.2.1, fun i hi => by rw [f 4 i (by omega)]; exact zA.2.2.1 i hi, zA.2.2.2⟩
  unfold lb_Nets_lay_111 at e
  dsimp only at e
  rw [rf11.1, rf11.2, f1 11 6 (by omega)] at e
  rcases io e with ⟨k, e⟩ | ⟨k, e⟩
  · have := q_le k
    obtain rfl := Option.some.inj e
    have : m = n := by omega
    subst this
    exact ⟨hx, f1, f2, f3⟩
  have k1 := q_ng k
  rcases io e with ⟨k, e⟩ | ⟨k, e⟩
  · have := q_le k; omega
  obtain ⟨_, e⟩ := io_n e
  obtain ⟨_, e⟩ := io_n e
  rw [q_nat hm, f1 16 m (by omega), f1 17 m (by omega)] at e
  obtain ⟨x15, e15, e⟩ := bo e
  obtain ⟨_, e⟩ := io_n e
  obtain ⟨_, e⟩ := io_n e
  obtain ⟨p1, p2, p3, p4⟩ := hp m (by omega)
  obtain ⟨b1, b2, b3, b4⟩ := bridge_i hv jR (zc f1) hx p1 p2 p3 p4 e15
  have g1 : ∀ k i, k ≠ v0 + 3 → x15.1 k i = A.1 k i := fun k i n => by rw [b2 k i n]; exact f1 k i n
  rw [g1 16 m (by omega), g1 17 m (by omega)] at e
  obtain ⟨x16, e16, e⟩ := bo e
  obtain rfl := Option.some.inj e
  obtain ⟨c1, c2, c3, c4⟩ := bridge_i hv jR (zc g1) b1 p3 p4 p1 p2 e16
  refine ⟨m + 1, by omega, add_ti hm o1 (by omega) (by omega), ZX_e (fun a b => ?_) c1, fun k i n => ?_, fun k i n => ?_, ?_⟩
  · constructor
    · rintro ((⟨j, q1, q2⟩ | ⟨q1, q2⟩) | ⟨q1, q2⟩)
      · exact ⟨j, by omega, q2⟩
      · exact ⟨m, by omega, .inl ⟨q1.symm, q2.symm⟩⟩
      · exact ⟨m, by omega, .inr ⟨q1.symm, q2.symm⟩⟩
    · rintro ⟨j, q1, q2⟩
      rcases Nat.lt_or_ge j m with g | g
      · exact .inl (.inl ⟨j, g, q2⟩)
      · have : j = m := by omega
        subst this
        rcases q2 with ⟨q2, q3⟩ | ⟨q2, q3⟩
        · exact .inl (.inr ⟨q2.symm, q3.symm⟩)
        · exact .inr ⟨q2.symm, q3.symm⟩
  · show x16.1 k i = _
    rw [c2 k i n]; exact g1 k i n
  · show x16.2.1 k i = _
    rw [c3 k i n, b3 k i n]; exact f2 k i n
  · show x16.2.2 = _
    rw [c4, b4]; exact f3
theorem lay_i (hv : isN v0) (jR : J R) (z : ZG X R) {v3 : Int32} (h3 : v3.toInt < xw R * xh R) {n : Nat} (hn : (X.1 11 6).toInt = (n : Int)) (n6 : n ≤ 6) (hp : ∀ j, j < n → 0 ≤ (X.1 16 j).toInt ∧ (X.1 16 j).toInt < xw R * xh R ∧ 0 ≤ (X.1 17 j).toInt ∧ (X.1 17 j).toInt < xw R * xh R) {x} (e : f_Nets_lay v0 11 v3 X = some x) : NB v0 (fun l d => d < 36 ∧ (v3.toInt = (d : Int) ∨ onN R l d)) 36 x ∧ ZX v0 R (fun l d => d < 36 ∧ (v3.toInt = (d : Int) ∨ onN R l d)) (PD X n) x ∧ (∀ k i, k ≠ v0 + 3 → x.1 k i = X.1 k i) ∧ (∀ k i, k ≠ v0 + 1 → k ≠ v0 + 2 → x.2.1 k i = X.2.1 k i) ∧ x.2.2 = X.2.2 := by
  obtain ⟨r0, r1, r2⟩ := isN_r hv
  have v0b : v0 = 32 ∨ v0 = 36 := hv
  unfold f_Nets_lay at e
  obtain ⟨_, e⟩ := io_n e
  obtain ⟨_, e⟩ := io_n e
  obtain ⟨M1, e1, e⟩ := mo e
  obtain ⟨M2, e2, e⟩ := mo e
  obtain ⟨x10, e10, e⟩ := bo e
  obtain ⟨x14, e14, e⟩ := bo e
  obtain ⟨x19, e19, e⟩ := bo e
  obtain rfl := Option.some.inj e
  rw [r0, show (0 : Int32).toNatClampNeg = 0 from rfl] at e1
  rw [r0, show (1 : Int32).toNatClampNeg = 1 from rfl] at e2
  have nb0 : NB v0 (fun l d => d < 36 ∧ (v3.toInt = (d : Int) ∨ onN R l d)) 0 M2 := by
    intro l d hl
    have : l = 0 ∨ l = 1 := by omega
    rw [e2]
    rcases this with rfl | rfl
    · rw [sl_ne (by omega), e1, sl_eq, bl_0]
      constructor
      · intro h; cases h
      · rintro ⟨h, _⟩; omega
    · rw [sl_eq, bl_0]
      constructor
      · intro h; cases h
      · rintro ⟨h, _⟩; omega
  obtain ⟨a1, a2, a3⟩ := NB_17 (on := fun l d => d < 36 ∧ (v3.toInt = (d : Int) ∨ onN R l d)) hv z jR (fun l d hl hd => ⟨fun h => h.2, fun h => ⟨hd, h⟩⟩) (A := M2) (by rw [e2, sl_1, e1, sl_1]) (by rw [e2]; show M1.2.2 = _; rw [e1]; rfl) nb0 e10
  have z10 : ZG x10 R := by unfold ZG; rw [a1]; exact z
  have onb : ∀ l d : Nat, (d < 36 ∧ (v3.toInt = (d : Int) ∨ onN R l d)) → (d : Int) < xw R * xh R := by
    rintro l d ⟨_, h | h⟩
    · omega
    · exact h.2.1
  obtain ⟨b1, b2, b3, b4, b5⟩ := NL_79 (on := fun l d => d < 36 ∧ (v3.toInt = (d : Int) ∨ onN R l d)) hv jR onb z10 a3 e14
  have g1 : ∀ k i, k ≠ v0 + 3 → x14.1 k i = X.1 k i := fun k i n => by rw [b3 k i n, a1]
  have z14 : ZG x14 R := by
    unfold ZG at z ⊢
    rw [g1 3 2 (by omega), g1 3 3 (by omega)]
    exact ⟨z.1, z.2.1, fun i hi => by rw [g1 4 i (by omega)]; exact z.2.2.1 i hi, z.2.2.2⟩
  have zx : ZX v0 R (fun l d => d < 36 ∧ (v3.toInt = (d : Int) ∨ onN R l d)) (fun _ _ => False) x14 := by
    refine ⟨fun l c s hl hc hs => ⟨fun h => h.2.2.elim, fun _ => b1 l c s hl hc hs⟩, fun l c hl hc d => ?_⟩
    rw [b2 l c hl hc d]
    constructor
    · exact .inl
    · rintro (h | ⟨_, s, _, _, h⟩)
      · exact h
      · exact h.elim
  obtain ⟨c1, c2, c3, c4⟩ := NL_111 hv jR z14 (n := n) (by rw [g1 11 6 (by omega)]; exact hn) n6 (fun j hj => by rw [g1 16 j (by omega), g1 17 j (by omega)]; exact hp j hj) zx e19
  refine ⟨fun l d hl => ?_, ZX_e (fun a b => ?_) c1, fun k i n => ?_, fun k i n1 n2 => ?_, ?_⟩
  · rw [c3 _ _ (by omega), b4 _ _ (by omega)]; exact a3 l d hl
  · unfold PD
    constructor
    · rintro ⟨j, q1, q2⟩; rw [g1 16 j (by omega), g1 17 j (by omega)] at q2; exact ⟨j, q1, q2⟩
    · rintro ⟨j, q1, q2⟩; refine ⟨j, q1, ?_⟩; rw [g1 16 j (by omega), g1 17 j (by omega)]; exact q2
  · rw [c2 k i n]; exact g1 k i n
  · rw [c3 k i n2, b4 k i n2]
    have m2 : M2.2.1 k i = X.2.1 k i := by rw [e2, sl_ne (by omega), e1, sl_ne (by omega)]
    rcases hv with rfl | rfl
    · have w := it_r (I := fun s : Int32 × Mem => Fx (2 ^ 33) [] M2 s.2) (Q := fun r : Mem => Fx (2 ^ 33) [] M2 r) (fun s r hs er => wl_Nets_lay_17 32 11 v3 s (by decide +kernel) (oc_c (sb_r _) (by decide +kernel)) hs er) e10 Fx_r
      rw [(w k i (sl_n (by omega) n1) (by simp)).2.1]; exact m2
    · have w := it_r (I := fun s : Int32 × Mem => Fx (2 ^ 37) [] M2 s.2) (Q := fun r : Mem => Fx (2 ^ 37) [] M2 r) (fun s r hs er => wl_Nets_lay_17 36 11 v3 s (by decide +kernel) (oc_c (sb_r _) (by decide +kernel)) hs er) e10 Fx_r
      rw [(w k i (sl_n (by omega) n1) (by simp)).2.1]; exact m2
  · rw [c4, b5, a2]
end NL
