/-! bits of a long -/
def bl (x : Int64) (d : Nat) : Bool := x.toBitVec.getLsbD d
theorem bl_or (x y : Int64) (d : Nat) : bl (x ||| y) d = (bl x d || bl y d) := by unfold bl; rw [Int64.toBitVec_or, BitVec.getLsbD_or]
theorem bl_and (x y : Int64) (d : Nat) : bl (x &&& y) d = (bl x d && bl y d) := by unfold bl; rw [Int64.toBitVec_and, BitVec.getLsbD_and]
theorem bl_xor (x y : Int64) (d : Nat) : bl (x ^^^ y) d = (bl x d ^^ bl y d) := by unfold bl; rw [Int64.toBitVec_xor, BitVec.getLsbD_xor]
theorem bl_0 (d : Nat) : bl 0 d = false := by unfold bl; exact BitVec.getLsbD_zero
theorem bl_hi {x : Int64} {d : Nat} (h : 64 ≤ d) : bl x d = false := BitVec.getLsbD_of_ge _ _ h
theorem bl_1a : ∀ d : Fin 64, bl 1 d.val = decide (d.val = 0) := by decide +kernel
theorem bl_1 (d : Nat) : bl 1 d = decide (d = 0) := by
  rcases Nat.lt_or_ge d 64 with h | h
  · exact bl_1a ⟨d, h⟩
  · rw [bl_hi h, decide_eq_false (by omega)]
theorem bl_ext {x y : Int64} (h : ∀ d, d < 64 → bl x d = bl y d) : x = y := by
  refine Int64.toBitVec_inj.mp (BitVec.eq_of_getLsbD_eq ?_)
  intro i hi
  exact h i hi
theorem smd6 : ∀ d : Fin 64, (((Int32.ofNat d.val).toInt64 &&& 63).toBitVec.smod 64).toNat = d.val := by decide +kernel
theorem smd6_v {v : Int32} {d : Nat} (hv : v.toInt = (d : Int)) (hd : d < 64) : ((v.toInt64 &&& 63).toBitVec.smod 64).toNat = d := by
  rw [ofn_eq hv (by omega)]; exact smd6 ⟨d, hd⟩
theorem bl_sr {x : Int64} {v : Int32} {d : Nat} (hv : v.toInt = (d : Int)) (hd : d < 64) {i : Nat} (hi : d + i < 64) : bl (x >>> (v.toInt64 &&& 63)) i = bl x (d + i) := by
  unfold bl
  rw [Int64.toBitVec_shiftRight, BitVec.sshiftRight_eq', smd6_v hv hd, BitVec.getLsbD_sshiftRight, if_pos hi]
  rw [decide_eq_false (by omega)]; rfl
theorem bl_shr {x : Int64} {v : Int32} {d : Nat} (hv : v.toInt = (d : Int)) (hd : d < 64) : ((x >>> (v.toInt64 &&& 63)) &&& (1 : Int64)) = if bl x d = true then 1 else 0 := by
  refine bl_ext (fun i hi => ?_)
  rw [bl_and, bl_1]
  by_cases c : i = 0
  · subst c
    rw [bl_sr hv hd (by omega)]
    cases hb : bl x d with
    | true => rw [if_pos rfl, bl_1]; simp [hb]
    | false => rw [if_neg (by decide), bl_0]; simp [hb]
  · rw [decide_eq_false c, Bool.and_false]
    cases hb : bl x d with
    | true => rw [if_pos rfl, bl_1, decide_eq_false c]
    | false => rw [if_neg (by decide), bl_0]
theorem bl_cmp {x : Int64} {v : Int32} {d : Nat} (hv : v.toInt = (d : Int)) (hd : d < 64) : lg_cmp ((x >>> (v.toInt64 &&& 63)) &&& (1 : Int64)) (0 : Int64) = 0 ↔ bl x d = false := by
  rw [bl_shr hv hd]
  cases bl x d with
  | true => rw [if_pos rfl]; decide
  | false => rw [if_neg (by decide)]; decide
theorem bl_one {v : Int32} {d : Nat} (hv : v.toInt = (d : Int)) (hd : d < 64) (i : Nat) : bl ((1 : Int64) <<< (v.toInt64 &&& 63)) i = decide (i = d) := by
  rcases Nat.lt_or_ge i 64 with hi | hi
  · unfold bl
    rw [Int64.toBitVec_shiftLeft, BitVec.shiftLeft_eq', smd6_v hv hd, BitVec.getLsbD_shiftLeft]
    rw [decide_eq_true hi, Bool.true_and]
    have := bl_1 (i - d)
    unfold bl at this
    rw [this]
    by_cases c : i < d
    · rw [decide_eq_true c, decide_eq_false (show ¬ i = d by omega)]; rfl
    · rw [decide_eq_false c]
      by_cases g : i = d
      · rw [decide_eq_true g, decide_eq_true (show i - d = 0 by omega)]; rfl
      · rw [decide_eq_false g, decide_eq_false (show ¬ i - d = 0 by omega)]; rfl
  · rw [bl_hi hi, decide_eq_false (by omega)]
/-! the class lays its nets -/
theorem sl_1 {M : Mem} {k i : Nat} {v : Int64} : (s_l M k i v).1 = M.1 := rfl
theorem sl_eq {M : Mem} {k i : Nat} {v : Int64} : (s_l M k i v).2.1 k i = v := by simp [s_l]
theorem sl_ne {M : Mem} {k i a b : Nat} {v : Int64} (h : ¬ (a = k ∧ b = i)) : (s_l M k i v).2.1 a b = M.2.1 a b := by simp only [s_l, if_neg h]
theorem si_2 {M : Mem} {k i : Nat} {v : Int32} : (s_i M k i v).2 = M.2 := rfl
def isN (v0 : Nat) : Prop := v0 = 32 ∨ v0 = 36
theorem isN_r {v0 : Nat} (h : isN v0) : rf v0 0 = v0 + 1 ∧ rf v0 1 = v0 + 2 ∧ rf v0 2 = v0 + 3 := by
  rcases h with rfl | rfl <;> decide +kernel
section NL
variable {X R : Mem} {v0 v2 : Nat} {v3 : Int32} {on : Nat → Nat → Prop}
/-- the bits of both nets, of cells below c -/
def NB (v0 : Nat) (on : Nat → Nat → Prop) (c : Nat) (N : Mem) : Prop := ∀ l d : Nat, l < 2 → (bl (N.2.1 (v0 + 1) l) d = true ↔ d < c ∧ on l d)
theorem NB_27 (hv : isN v0) (z : ZG X R) (jR : J R) (ho : ∀ l d, l < 2 → d < 36 → (on l d ↔ (v3.toInt = (d : Int) ∨ onN R l d))) {v4 : Int32} {c : Nat} (hc : v4.toInt = (c : Int)) (c36 : c < 36) {A : Mem} (hA : A.1 = X.1) (hq : A.2.2 = X.2.2) (h : NB v0 on c A) {x} (e : iter (lb_Nets_lay_27 v0 v2 v3 v4) FU ((0 : Int32), A) = some x) : x.1 = X.1 ∧ x.2.2 = X.2.2 ∧ NB v0 on (c + 1) x := by
  obtain ⟨r0, r1, r2⟩ := isN_r hv
  refine it_r (I := fun s : Int32 × Mem => s.2.1 = X.1 ∧ s.2.2.2 = X.2.2 ∧ ∃ m : Nat, m ≤ 2 ∧ s.1.toInt = (m : Int) ∧ ∀ l d : Nat, l < 2 → (bl (s.2.2.1 (v0 + 1) l) d = true ↔ (if l < m then d < c + 1 else d < c) ∧ on l d)) (Q := fun x : Mem => x.1 = X.1 ∧ x.2.2 = X.2.2 ∧ NB v0 on (c + 1) x) ?_ e ⟨hA, hq, 0, by omega, rfl, fun l d hl => by rw [if_neg (by omega)]; exact h l d hl⟩
  rintro ⟨lv, N⟩ r ⟨hN, hN2, m, lm, hm, hb⟩ e
  dsimp only at hN hN2 hm hb
  have y1 := o1
  have zN : ZG N R := by unfold ZG; rw [hN]; exact z
  unfold lb_Nets_lay_27 at e
  dsimp only at e
  rcases io e with ⟨k, e⟩ | ⟨k, e⟩
  · have := q_lt k
    obtain rfl := Option.some.inj e
    refine ⟨hN, hN2, fun l d hl => ?_⟩
    rw [hb l d hl, if_pos (by omega)]
  have k1 := q_nl k
  have set : on m c → j_Nets_lay_50_27 v0 v2 v3 v4 lv N = some r → Sum.elim (fun s : Int32 × Mem => s.2.1 = X.1 ∧ s.2.2.2 = X.2.2 ∧ ∃ m : Nat, m ≤ 2 ∧ s.1.toInt = (m : Int) ∧ ∀ l d : Nat, l < 2 → (bl (s.2.2.1 (v0 + 1) l) d = true ↔ (if l < m then d < c + 1 else d < c) ∧ on l d)) (fun x : Mem => x.1 = X.1 ∧ x.2.2 = X.2.2 ∧ NB v0 on (c + 1) x) r := by
    intro hon e
    unfold j_Nets_lay_50_27 at e
    obtain ⟨_, e⟩ := io_n e
    obtain ⟨_, e⟩ := io_n e
    obtain ⟨M3, e3, e⟩ := mo e
    obtain rfl := Option.some.inj e
    refine ⟨?_, ?_, m + 1, by omega, add_ti hm o1 (by omega) (by omega), fun l d hl => ?_⟩
    · show M3.1 = _; rw [e3, sl_1]; exact hN
    · show M3.2.2 = _; rw [e3]; exact hN2
    · show bl (M3.2.1 (v0 + 1) l) d = true ↔ _
      rw [e3, r0, q_nat hm]
      by_cases g : l = m
      · subst g
        rw [sl_eq, bl_or, bl_one hc (by omega), Bool.or_eq_true, hb l d hl, if_neg (by omega), if_pos (by omega), decide_eq_true_eq]
        constructor
        · rintro (⟨a, b⟩ | rfl)
          · exact ⟨by omega, b⟩
          · exact ⟨by omega, hon⟩
        · rintro ⟨a, b⟩
          by_cases q : d = c
          · exact .inr q
          · exact .inl ⟨by omega, b⟩
      · rw [sl_ne (by omega), hb l d hl]
        by_cases q : l < m
        · rw [if_pos q, if_pos (by omega)]
        · rw [if_neg q, if_neg (by omega)]
  rcases io e with ⟨k, e⟩ | ⟨k, e⟩
  · exact set ((ho m c (by omega) c36).mpr (.inl (by rw [← k]; exact hc))) e
  have k2 := q_ne k
  obtain ⟨x4, e4, e⟩ := bo e
  have hh := holdsC zN jR e4
  rw [hm, hc] at hh
  rcases io e with ⟨k, e⟩ | ⟨k, e⟩
  · obtain rfl := Option.some.inj e
    have non : ¬ on m c := by
      intro g
      rcases (ho m c (by omega) c36).mp g with g | g
      · omega
      · rcases hh with ⟨a, _⟩ | ⟨_, b⟩
        · rw [a] at k; cases k
        · exact b ⟨by omega, by omega, g⟩
    refine ⟨hN, hN2, m + 1, by omega, add_ti hm o1 (by omega) (by omega), fun l d hl => ?_⟩
    rw [hb l d hl]
    by_cases g : l = m
    · subst g
      rw [if_neg (by omega), if_pos (by omega)]
      constructor
      · rintro ⟨a, b⟩; exact ⟨by omega, b⟩
      · rintro ⟨a, b⟩
        refine ⟨?_, b⟩
        rcases Nat.lt_or_ge d c with q | q
        · exact q
        · have : d = c := by omega
          subst this; exact absurd b non
    · by_cases q : l < m
      · rw [if_pos q, if_pos (by omega)]
      · rw [if_neg q, if_neg (by omega)]
  · refine set ((ho m c (by omega) c36).mpr (.inr ?_)) e
    rcases hh with ⟨_, _, _, b⟩ | ⟨a, _⟩
    · exact b
    · exact absurd a k
theorem NB_17 (hv : isN v0) (z : ZG X R) (jR : J R) (ho : ∀ l d, l < 2 → d < 36 → (on l d ↔ (v3.toInt = (d : Int) ∨ onN R l d))) {A : Mem} (hA : A.1 = X.1) (hq : A.2.2 = X.2.2) (h : NB v0 on 0 A) {x} (e : iter (lb_Nets_lay_17 v0 v2 v3) FU ((0 : Int32), A) = some x) : x.1 = X.1 ∧ x.2.2 = X.2.2 ∧ NB v0 on 36 x := by
  refine it_r (I := fun s : Int32 × Mem => s.2.1 = X.1 ∧ s.2.2.2 = X.2.2 ∧ ∃ c : Nat, c ≤ 36 ∧ s.1.toInt = (c : Int) ∧ NB v0 on c s.2) (Q := fun x : Mem => x.1 = X.1 ∧ x.2.2 = X.2.2 ∧ NB v0 on 36 x) ?_ e ⟨hA, hq, 0, by omega, rfl, h⟩
  rintro ⟨v4, N⟩ r ⟨hN, hN2, c, lc, hc, hb⟩ e
  dsimp only at hN hN2 hc hb
  have z36 : (36 : Int32).toInt = 36 := rfl
  unfold lb_Nets_lay_17 at e
  dsimp only at e
  rcases io e with ⟨k, e⟩ | ⟨k, e⟩
  · have := q_le k
    obtain rfl := Option.some.inj e
    have : c = 36 := by omega
    subst this
    exact ⟨hN, hN2, hb⟩
  have k1 := q_ng k
  obtain ⟨x8, e8, e⟩ := bo e
  obtain rfl := Option.some.inj e
  obtain ⟨g1, g2, g3⟩ := NB_27 hv z jR ho hc (by omega) hN hN2 hb e8
  exact ⟨g1, g2, c + 1, by omega, add_ti hc o1 (by omega) (by omega), g3⟩
theorem isOfC (hv : isN v0) {N : Mem} (hb : NB v0 on 36 N) {l c x : Int32} {l' c' : Nat} (hl : l.toInt = (l' : Int)) (l2 : l' < 2) (hc : c.toInt = (c' : Int)) (c36 : c' < 36) (e : f_Nets_isOf v0 l c N = some x) : (x = 0 ↔ ¬ on l' c') := by
  obtain ⟨r0, r1, r2⟩ := isN_r hv
  unfold f_Nets_isOf at e
  obtain ⟨_, e⟩ := io_n e
  obtain ⟨_, e⟩ := io_n e
  rw [r0, q_nat hl] at e
  have k := hb l' c' l2
  rcases io e with ⟨g, e⟩ | ⟨g, e⟩
  · obtain rfl := Option.some.inj e
    rw [bl_cmp hc (by omega)] at g
    refine ⟨fun _ h => ?_, fun _ => rfl⟩
    rw [k.mpr ⟨c36, h⟩] at g; cases g
  · obtain rfl := Option.some.inj e
    rw [bl_cmp hc (by omega)] at g
    refine ⟨fun h => (by cases h), fun h => ?_⟩
    exfalso
    apply g
    cases hh : bl (N.2.1 (v0 + 1) l') c' with
    | false => rfl
    | true => exact absurd (k.mp hh).2 h
/-- links of a cell on its own net -/
def lk (R : Mem) (on : Nat → Nat → Prop) (l c s : Nat) : Prop := on l c ∧ bes (xw R) (xh R) c s ≠ -1 ∧ on l (bes (xw R) (xh R) c s).toNat
def LKn (R : Mem) (on : Nat → Nat → Prop) (l c s : Nat) (v : Int32) : Prop := (lk R on l c s → v.toInt = bes (xw R) (xh R) c s) ∧ (¬ lk R on l c s → v.toInt = -1)
def NR (R : Mem) (on : Nat → Nat → Prop) (l c m : Nat) (v : Int64) : Prop := ∀ d : Nat, bl v d = true ↔ ∃ s : Nat, s < m ∧ lk R on l c s ∧ bes (xw R) (xh R) c s = (d : Int)
theorem link_i (hv : isN v0) (z : ZG X R) (jR : J R) (onb : ∀ l d, on l d → (d : Int) < xw R * xh R) {A : Mem} (zA : ZG A R) (hb : NB v0 on 36 A) {v2' v3' : Int32} {l c : Nat} (hl : v2'.toInt = (l : Int)) (l2 : l < 2) (hc : v3'.toInt = (c : Int)) (c36 : c < 36) {x} (e : f_Nets_link v0 v2' v3' A = some x) : (∀ s, s < 4 → LKn R on l c s (x.1 (v0 + 3) ((l * 36 + c) * 4 + s))) ∧ NR R on l c 4 (x.2.1 (v0 + 2) (l * 36 + c)) ∧ (∀ k i, ¬ (k = v0 + 3 ∧ (l * 36 + c) * 4 ≤ i ∧ i < (l * 36 + c) * 4 + 4) → x.1 k i = A.1 k i) ∧ (∀ k i, ¬ (k = v0 + 2 ∧ i = l * 36 + c) → x.2.1 k i = A.2.1 k i) ∧ x.2.2 = A.2.2 := by
  obtain ⟨r0, r1, r2⟩ := isN_r hv
  have hw := aw jR
  have hh := ah jR
  have wh := awh jR
  unfold f_Nets_link at e
  obtain ⟨_, e⟩ := io_n e
  obtain ⟨_, e⟩ := io_n e
  obtain ⟨M1, e1, e⟩ := mo e
  obtain ⟨x14, e14, e⟩ := bo e
  obtain rfl := Option.some.inj e
  have z36 : (36 : Int32).toInt = 36 := rfl
  have y4 := o4
  have m1 : (v2' * (36 : Int32)).toInt = (l : Int) * 36 := mul_ti hl z36 (by omega) (by omega)
  have nd : ((v2' * (36 : Int32)) + v3').toInt = ((l * 36 + c : Nat) : Int) := by rw [add_ti m1 hc (by omega) (by omega)]; omega
  rw [r1, q_nat nd] at e1
  generalize hv4 : (v2' * (36 : Int32)) + v3' = v4 at nd e14
  refine it_r (I := fun s : Int32 × Mem => ∃ m : Nat, m ≤ 4 ∧ s.1.toInt = (m : Int) ∧ (∀ s', s' < m → LKn R on l c s' (s.2.1 (v0 + 3) ((l * 36 + c) * 4 + s'))) ∧ NR R on l c m (s.2.2.1 (v0 + 2) (l * 36 + c)) ∧ (∀ k i, ¬ (k = v0 + 3 ∧ (l * 36 + c) * 4 ≤ i ∧ i < (l * 36 + c) * 4 + 4) → s.2.1 k i = A.1 k i) ∧ (∀ k i, ¬ (k = v0 + 2 ∧ i = l * 36 + c) → s.2.2.1 k i = A.2.1 k i) ∧ s.2.2.2 = A.2.2) (Q := fun x : Mem => (∀ s, s < 4 → LKn R on l c s (x.1 (v0 + 3) ((l * 36 + c) * 4 + s))) ∧ NR R on l c 4 (x.2.1 (v0 + 2) (l * 36 + c)) ∧ (∀ k i, ¬ (k = v0 + 3 ∧ (l * 36 + c) * 4 ≤ i ∧ i < (l * 36 + c) * 4 + 4) → x.1 k i = A.1 k i) ∧ (∀ k i, ¬ (k = v0 + 2 ∧ i = l * 36 + c) → x.2.1 k i = A.2.1 k i) ∧ x.2.2 = A.2.2) ?_ e14 ⟨0, by omega, rfl, fun s' h => absurd h (by omega), fun d => ?_, fun k i _ => by rw [e1, sl_1], fun k i n => by rw [e1, sl_ne n], by rw [e1]; rfl⟩
  · rintro ⟨sd, N⟩ r ⟨m, lm, hm, hn, hr, f1, f2, f3⟩ e
    dsimp only at hm hn hr f1 f2 f3
    have v0b : v0 = 32 ∨ v0 = 36 := hv
    have zN : ZG N R := by
      unfold ZG at zA ⊢
      rw [f1 3 2 (by omega), f1 3 3 (by omega)]
      exact ⟨zA.1, zA.2.1, fun i hi => by rw [f1 4 i (by omega)]; exact zA.2.2.1 i hi, zA.2.2.2⟩
    have bN : NB v0 on 36 N := fun a d ha => by rw [f2 (v0 + 1) a (by omega)]; exact hb a d ha
    unfold lb_Nets_link_19 at e
    dsimp only at e
    rcases io e with ⟨k, e⟩ | ⟨k, e⟩
    · have := q_le k
      obtain rfl := Option.some.inj e
      have : m = 4 := by omega
      subst this
      exact ⟨hn, hr, f1, f2, f3⟩
    have k1 := q_ng k
    obtain ⟨x2, e2, e⟩ := bo e
    have bq := besC zN jR e2
    rw [hc, hm] at bq
    have step : ∀ w : Int32, ((w = 0 ∧ ¬ lk R on l c m) ∨ (¬ w = 0 ∧ lk R on l c m ∧ x2.toInt = bes (xw R) (xh R) c m)) → j_Nets_link_64_19 v0 v2' v3' v4 sd x2 w N = some r → Sum.elim (fun s : Int32 × Mem => ∃ m : Nat, m ≤ 4 ∧ s.1.toInt = (m : Int) ∧ (∀ s', s' < m → LKn R on l c s' (s.2.1 (v0 + 3) ((l * 36 + c) * 4 + s'))) ∧ NR R on l c m (s.2.2.1 (v0 + 2) (l * 36 + c)) ∧ (∀ k i, ¬ (k = v0 + 3 ∧ (l * 36 + c) * 4 ≤ i ∧ i < (l * 36 + c) * 4 + 4) → s.2.1 k i = A.1 k i) ∧ (∀ k i, ¬ (k = v0 + 2 ∧ i = l * 36 + c) → s.2.2.1 k i = A.2.1 k i) ∧ s.2.2.2 = A.2.2) (fun x : Mem => (∀ s, s < 4 → LKn R on l c s (x.1 (v0 + 3) ((l * 36 + c) * 4 + s))) ∧ NR R on l c 4 (x.2.1 (v0 + 2) (l * 36 + c)) ∧ (∀ k i, ¬ (k = v0 + 3 ∧ (l * 36 + c) * 4 ≤ i ∧ i < (l * 36 + c) * 4 + 4) → x.1 k i = A.1 k i) ∧ (∀ k i, ¬ (k = v0 + 2 ∧ i = l * 36 + c) → x.2.1 k i = A.2.1 k i) ∧ x.2.2 = A.2.2) r := by
      intro w hw0 e
      have i1 : (v4 * (4 : Int32)).toInt = ((l * 36 + c : Nat) : Int) * 4 := mul_ti nd o4 (by omega) (by omega)
      have i2 : ((v4 * (4 : Int32)) + sd).toInt = (((l * 36 + c) * 4 + m : Nat) : Int) := by rw [add_ti i1 hm (by omega) (by omega)]; omega
      have fin : ∀ (val : Int32) (M3 M4 : Mem) (nv : Int64), LKn R on l c m val → M3 = s_i N (v0 + 3) ((l * 36 + c) * 4 + m) val → M4 = s_l M3 (v0 + 2) (l * 36 + c) nv → NR R on l c (m + 1) nv → some (Sum.inl ((sd + (1 : Int32)), M4)) = some r → Sum.elim (fun s : Int32 × Mem => ∃ m : Nat, m ≤ 4 ∧ s.1.toInt = (m : Int) ∧ (∀ s', s' < m → LKn R on l c s' (s.2.1 (v0 + 3) ((l * 36 + c) * 4 + s'))) ∧ NR R on l c m (s.2.2.1 (v0 + 2) (l * 36 + c)) ∧ (∀ k i, ¬ (k = v0 + 3 ∧ (l * 36 + c) * 4 ≤ i ∧ i < (l * 36 + c) * 4 + 4) → s.2.1 k i = A.1 k i) ∧ (∀ k i, ¬ (k = v0 + 2 ∧ i = l * 36 + c) → s.2.2.1 k i = A.2.1 k i) ∧ s.2.2.2 = A.2.2) (fun x : Mem => (∀ s, s < 4 → LKn R on l c s (x.1 (v0 + 3) ((l * 36 + c) * 4 + s))) ∧ NR R on l c 4 (x.2.1 (v0 + 2) (l * 36 + c)) ∧ (∀ k i, ¬ (k = v0 + 3 ∧ (l * 36 + c) * 4 ≤ i ∧ i < (l * 36 + c) * 4 + 4) → x.1 k i = A.1 k i) ∧ (∀ k i, ¬ (k = v0 + 2 ∧ i = l * 36 + c) → x.2.1 k i = A.2.1 k i) ∧ x.2.2 = A.2.2) r := by
        intro val M3 M4 nv hval e3 e4 hnv e
        obtain rfl := Option.some.inj e
        refine ⟨m + 1, by omega, add_ti hm o1 (by omega) (by omega), fun s' hs' => ?_, ?_, fun k i n => ?_, fun k i n => ?_, ?_⟩
        · show LKn R on l c s' (M4.1 (v0 + 3) _)
          rw [e4, sl_1, e3]
          rcases Nat.lt_or_ge s' m with g | g
          · rw [si_ne (by omega)]; exact hn s' g
          · have : s' = m := by omega
            subst this
            rw [si_eq]; exact hval
        · show NR R on l c (m + 1) (M4.2.1 _ _)
          rw [e4, sl_eq]; exact hnv
        · show M4.1 k i = _
          rw [e4, sl_1, e3, si_ne (by omega)]; exact f1 k i n
        · show M4.2.1 k i = _
          rw [e4, sl_ne n, e3, si_2]; exact f2 k i n
        · show M4.2.2 = _
          rw [e4]; show M3.2.2 = _
          rw [e3]; exact f3
      unfold j_Nets_link_64_19 at e
      rcases io e with ⟨g, e⟩ | ⟨g, e⟩
      · have nlk : ¬ lk R on l c m := by
          rcases hw0 with h | h
          · exact h.2
          · exact absurd g h.1
        unfold j_Nets_link_88_19 at e
        obtain ⟨_, e⟩ := io_n e
        obtain ⟨M3, e3, e⟩ := mo e
        obtain ⟨_, e⟩ := io_n e
        rw [if_pos g] at e
        obtain ⟨_, e⟩ := io_n e
        obtain ⟨M4, e4, e⟩ := mo e
        rw [r2, q_nat i2] at e3
        rw [r1, q_nat nd] at e4
        refine fin _ M3 M4 _ ⟨fun h => absurd h nlk, fun _ => om⟩ e3 e4 (fun d => ?_) e
        rw [bl_or, bl_0, Bool.or_false, e3, si_2, hr d]
        constructor
        · rintro ⟨s, a, b⟩; exact ⟨s, by omega, b⟩
        · rintro ⟨s, a, b⟩
          rcases Nat.lt_or_ge s m with q | q
          · exact ⟨s, q, b⟩
          · have : s = m := by omega
            subst this; exact absurd b.1 nlk
      · obtain ⟨hlk, hx2⟩ : lk R on l c m ∧ x2.toInt = bes (xw R) (xh R) c m := by
          rcases hw0 with h | h
          · exact absurd h.1 g
          · exact h.2
        unfold j_Nets_link_88_19 at e
        obtain ⟨_, e⟩ := io_n e
        obtain ⟨M3, e3, e⟩ := mo e
        obtain ⟨_, e⟩ := io_n e
        rw [if_neg g] at e
        obtain ⟨_, e⟩ := io_n e
        obtain ⟨M4, e4, e⟩ := mo e
        rw [r2, q_nat i2] at e3
        rw [r1, q_nat nd] at e4
        have cb : (c : Int) < xw R * xh R := onb l c hlk.1
        have bi := bes_in hw hh (by omega) cb (s := m) (by omega)
        have d0 : 0 ≤ bes (xw R) (xh R) c m ∧ bes (xw R) (xh R) c m < 36 := by
          rcases bi with h | h
          · exact absurd h hlk.2.1
          · omega
        have hxn : x2.toInt = ((bes (xw R) (xh R) c m).toNat : Int) := by omega
        refine fin _ M3 M4 _ ⟨fun _ => hx2, fun h => absurd hlk h⟩ e3 e4 (fun d => ?_) e
        rw [bl_or, bl_one hxn (by omega), e3, si_2, Bool.or_eq_true, hr d, decide_eq_true_eq]
        constructor
        · rintro (⟨s, a, b⟩ | h)
          · exact ⟨s, by omega, b⟩
          · exact ⟨m, by omega, hlk, by omega⟩
        · rintro ⟨s, a, b, q⟩
          rcases Nat.lt_or_ge s m with g2 | g2
          · exact .inl ⟨s, g2, b, q⟩
          · have : s = m := by omega
            subst this
            exact .inr (by omega)
    rcases io e with ⟨g, e⟩ | ⟨g, e⟩
    · refine step 0 (.inl ⟨rfl, fun h => ?_⟩) e
      have cb : (c : Int) < xw R * xh R := onb l c h.1
      have := bq.1 (by omega) cb (by omega) (by omega)
      have g := q_eq g
      rw [om] at g
      exact h.2.1 (by omega)
    have g := q_ne g
    rw [om] at g
    have cb : (c : Int) < xw R * xh R := by
      rcases Int.lt_or_le (c : Int) (xw R * xh R) with h | h
      · exact h
      · exact absurd (bq.2 (by omega)) g
    have hx2 := bq.1 (by omega) cb (by omega) (by omega)
    have bi := bes_in hw hh (by omega) cb (s := m) (by omega)
    obtain ⟨x8, e8, e⟩ := bo e
    have i8 := isOfC hv bN hl l2 hc c36 e8
    rcases io e with ⟨g8, e⟩ | ⟨g8, e⟩
    · exact step 0 (.inl ⟨rfl, fun h => (i8.mp g8) h.1⟩) e
    obtain ⟨x9, e9, e⟩ := bo e
    have i9 := isOfC hv bN hl l2 (c' := (bes (xw R) (xh R) c m).toNat) (c := x2) (by omega) (by omega) e9
    rcases io e with ⟨g9, e⟩ | ⟨g9, e⟩
    · exact step 0 (.inl ⟨rfl, fun h => (i9.mp g9) h.2.2⟩) e
    · refine step 1 (.inr ⟨by decide, ⟨?_, by omega, ?_⟩, hx2⟩) e
      · exact Classical.byContradiction (fun h => g8 (i8.mpr h))
      · exact Classical.byContradiction (fun h => g9 (i9.mpr h))
  · show bl (M1.2.1 (v0 + 2) (l * 36 + c)) d = true ↔ _
    rw [e1, sl_eq, bl_0]
    constructor
    · intro h; cases h
    · rintro ⟨s, h, _⟩; omega
end NL
