section
/-! steps counted from a cell: the class's measure -/
theorem lc_0 {x : Int64} : lg_cmp x (0 : Int64) = 0 ↔ x = 0 := by
  unfold lg_cmp
  constructor
  · intro h
    by_cases c : x > 0
    · rw [if_pos c] at h; exact absurd h (by decide)
    · rw [if_neg c] at h
      by_cases e : x = 0
      · exact e
      · rw [if_neg e] at h; exact absurd h (by decide)
  · rintro rfl
    decide
theorem bl_0i {x : Int64} (h : ∀ d, bl x d = false) : x = 0 := bl_ext (fun d _ => by rw [h d, bl_0])
theorem bl_not {x : Int64} {d : Nat} (hd : d < 64) : bl (x ^^^ (-1 : Int64)) d = !bl x d := by
  have m1 : ∀ d : Fin 64, bl (-1) d.val = true := by decide +kernel
  rw [bl_xor, m1 ⟨d, hd⟩]
  cases bl x d <;> rfl
theorem cnt_lt {P Q : Nat → Bool} {n c : Nat} (hc : c < n) (h : ∀ i, i < n → P i = true → Q i = true) (hp : P c = false) (hq : Q c = true) : (List.range n).countP P < (List.range n).countP Q := by
  have mono : ∀ m, m ≤ n → (List.range m).countP P ≤ (List.range m).countP Q := by
    intro m
    induction m with
    | zero => intro _; exact Nat.le_refl _
    | succ m ih =>
      intro hm
      rw [cnt_s, cnt_s]
      have := ih (by omega)
      have k := h m (by omega)
      by_cases g : P m = true
      · rw [if_pos g, if_pos (k g)]; omega
      · rw [if_neg g]; split <;> omega
  have key : ∀ m, m ≤ n → c < m → (List.range m).countP P < (List.range m).countP Q := by
    intro m
    induction m with
    | zero => intro _ h; omega
    | succ m ih =>
      intro hm hcm
      rw [cnt_s, cnt_s]
      rcases Nat.lt_or_ge c m with g | g
      · have := ih (by omega) g
        have k := h m (by omega)
        by_cases g : P m = true
        · rw [if_pos g, if_pos (k g)]; omega
        · rw [if_neg g]; split <;> omega
      · have : c = m := by omega
        subst this
        have := mono c (by omega)
        rw [if_neg (by rw [hp]; decide), if_pos hq]; omega
  exact key n (Nat.le_refl _) hc
theorem cnt_le (P : Nat → Bool) (n : Nat) : (List.range n).countP P ≤ n := by
  have := List.countP_le_length (p := P) (l := List.range n)
  rwa [List.length_range] at this
theorem cnt_all {P : Nat → Bool} {n : Nat} (h : n ≤ (List.range n).countP P) : ∀ c, c < n → P c = true := by
  intro c hc
  have e : (List.range n).countP P = (List.range n).length := by rw [List.length_range]; exact Nat.le_antisymm (cnt_le P n) h
  exact List.countP_eq_length.mp e c (List.mem_range.mpr hc)
section MEAS
variable {v0 l : Nat} {v1 : Int32} {M : Mem}
theorem around_i (hv : isN v0) (h1 : v1.toInt = (l : Int)) (l2 : l < 2) {set y : Int64} (e : f_Nets_around v0 v1 set M = some y) : ∀ d, bl y d = true ↔ ∃ c, c < 36 ∧ bl set c = true ∧ bl (M.2.1 (v0 + 2) (l * 36 + c)) d = true := by
  have k36 : (36 : Int32).toInt = 36 := rfl
  unfold f_Nets_around at e
  obtain ⟨_, e⟩ := io_n e
  obtain ⟨x3, e3, e⟩ := bo e
  obtain rfl := Option.some.inj e
  refine it_r (I := fun s : Int64 × Int32 => ∃ k : Nat, k ≤ 36 ∧ s.2.toInt = (k : Int) ∧ ∀ d, bl s.1 d = true ↔ ∃ c, c < k ∧ bl set c = true ∧ bl (M.2.1 (v0 + 2) (l * 36 + c)) d = true) (Q := fun y : Int64 => ∀ d, bl y d = true ↔ ∃ c, c < 36 ∧ bl set c = true ∧ bl (M.2.1 (v0 + 2) (l * 36 + c)) d = true) ?_ e3 ⟨0, by omega, rfl, fun d => ?_⟩
  · rintro ⟨acc, i⟩ r ⟨k, k36', hk, hd⟩ e
    dsimp only at hk hd
    unfold lb_Nets_around_6 at e
    dsimp only at e
    rcases io e with ⟨g, e⟩ | ⟨g, e⟩
    · have := q_le g
      obtain rfl := Option.some.inj e
      have : k = 36 := by omega
      subst this
      exact hd
    have g1 := q_ng g
    have i1 : (i + (1 : Int32)).toInt = ((k + 1 : Nat) : Int) := add_ti hk o1 (by omega) (by omega)
    rcases io e with ⟨g, e⟩ | ⟨g, e⟩
    · have gb := (bl_cmp hk (by omega)).mp g
      obtain rfl := Option.some.inj e
      refine ⟨k + 1, by omega, i1, fun d => ?_⟩
      dsimp only
      rw [hd]
      constructor
      · rintro ⟨c, h1, h2⟩; exact ⟨c, by omega, h2⟩
      · rintro ⟨c, h1, h2, h3⟩
        refine ⟨c, ?_, h2, h3⟩
        rcases Nat.lt_or_ge c k with q | q
        · exact q
        · have : c = k := by omega
          subst this
          rw [gb] at h2; cases h2
    · have gb : bl set k = true := by
        cases hb : bl set k with
        | true => rfl
        | false => exact absurd ((bl_cmp hk (by omega)).mpr hb) g
      obtain ⟨_, e⟩ := io_n e
      obtain rfl := Option.some.inj e
      have i2 : (v1 * (36 : Int32) + i).toInt = ((l * 36 + k : Nat) : Int) := by rw [add_ti (mul_ti h1 k36 (by omega) (by omega)) hk (by omega) (by omega)]; omega
      refine ⟨k + 1, by omega, i1, fun d => ?_⟩
      dsimp only
      rw [bl_or, Bool.or_eq_true, hd, (isN_r hv).2.1, q_nat i2]
      constructor
      · rintro (⟨c, h1, h2⟩ | h)
        · exact ⟨c, by omega, h2⟩
        · exact ⟨k, by omega, gb, h⟩
      · rintro ⟨c, h1, h2, h3⟩
        rcases Nat.lt_or_ge c k with q | q
        · exact .inl ⟨c, q, h2, h3⟩
        · have : c = k := by omega
          subst this
          exact .inr h3
  · dsimp only
    rw [bl_0]
    constructor
    · intro h; cases h
    · rintro ⟨c, h, _⟩; omega
theorem fill_i {k : Nat} {v8 : Int32} {v4 v6 : Int64} {x : Mem} (e : iter (lb_Nets_measure_51 v0 v1 k v4 v6 v8) FU ((0 : Int32), M) = some x) : (∀ c, c < 36 → x.1 k c = if bl v6 c = true then v8 else M.1 k c) ∧ (∀ kx i, kx ≠ k → x.1 kx i = M.1 kx i) ∧ x.2 = M.2 := by
  have k36 : (36 : Int32).toInt = 36 := rfl
  refine it_r (I := fun s : Int32 × Mem => ∃ q : Nat, q ≤ 36 ∧ s.1.toInt = (q : Int) ∧ (∀ c, c < 36 → s.2.1 k c = if c < q ∧ bl v6 c = true then v8 else M.1 k c) ∧ (∀ kx i, kx ≠ k → s.2.1 kx i = M.1 kx i) ∧ s.2.2 = M.2) (Q := fun x : Mem => (∀ c, c < 36 → x.1 k c = if bl v6 c = true then v8 else M.1 k c) ∧ (∀ kx i, kx ≠ k → x.1 kx i = M.1 kx i) ∧ x.2 = M.2) ?_ e ⟨0, by omega, rfl, fun c _ => by rw [if_neg (by omega)], fun _ _ _ => rfl, rfl⟩
  rintro ⟨i, N⟩ r ⟨q, q36, hq, hd, hf, h2⟩ e
  dsimp only at hq hd hf h2
  unfold lb_Nets_measure_51 at e
  dsimp only at e
  rcases io e with ⟨g, e⟩ | ⟨g, e⟩
  · have := q_le g
    obtain rfl := Option.some.inj e
    refine ⟨fun c hc => ?_, hf, h2⟩
    rw [hd c hc]
    by_cases b : bl v6 c = true
    · rw [if_pos b, if_pos ⟨by omega, b⟩]
    · rw [if_neg b, if_neg (fun h => b h.2)]
  have g1 := q_ng g
  have i1 : (i + (1 : Int32)).toInt = ((q + 1 : Nat) : Int) := add_ti hq o1 (by omega) (by omega)
  rcases io e with ⟨g, e⟩ | ⟨g, e⟩
  · have gb := (bl_cmp hq (by omega)).mp g
    obtain rfl := Option.some.inj e
    refine ⟨q + 1, by omega, i1, fun c hc => ?_, hf, h2⟩
    dsimp only
    rw [hd c hc]
    by_cases b : bl v6 c = true
    · by_cases b2 : c < q
      · rw [if_pos ⟨b2, b⟩, if_pos ⟨by omega, b⟩]
      · rw [if_neg (fun h => b2 h.1), if_neg (fun h => by
          have : c = q := by omega
          subst this
          rw [gb] at b; cases b)]
    · rw [if_neg (fun h => b h.2), if_neg (fun h => b h.2)]
  · have gb : bl v6 q = true := by
      cases hb : bl v6 q with
      | true => rfl
      | false => exact absurd ((bl_cmp hq (by omega)).mpr hb) g
    obtain ⟨_, e⟩ := io_n e
    obtain ⟨M4, m4, e⟩ := mo e
    obtain rfl := Option.some.inj e
    rw [q_nat hq] at m4
    refine ⟨q + 1, by omega, i1, fun c hc => ?_, fun kx i h => ?_, ?_⟩
    · dsimp only
      rw [m4]
      by_cases b : c = q
      · subst b; rw [si_eq, if_pos ⟨by omega, gb⟩]
      · rw [si_ne (by omega), hd c hc]
        by_cases b3 : bl v6 c = true
        · by_cases b2 : c < q
          · rw [if_pos ⟨b2, b3⟩, if_pos ⟨by omega, b3⟩]
          · rw [if_neg (fun h => b2 h.1), if_neg (fun h => by omega)]
        · rw [if_neg (fun h => b3 h.2), if_neg (fun h => b3 h.2)]
    · dsimp only
      rw [m4, si_ne (by omega)]; exact hf kx i h
    · dsimp only
      rw [m4, si_2]; exact h2
theorem far_i {k : Nat} {v2 : Int32} {x : Mem} (e : iter (lb_Nets_measure_3 v0 v1 v2 k) FU ((0 : Int32), M) = some x) : (∀ c, c < 36 → x.1 k c = 1000000) ∧ (∀ kx i, kx ≠ k → x.1 kx i = M.1 kx i) ∧ x.2 = M.2 := by
  have k36 : (36 : Int32).toInt = 36 := rfl
  refine it_r (I := fun s : Int32 × Mem => ∃ q : Nat, q ≤ 36 ∧ s.1.toInt = (q : Int) ∧ (∀ c, c < q → s.2.1 k c = 1000000) ∧ (∀ kx i, kx ≠ k → s.2.1 kx i = M.1 kx i) ∧ s.2.2 = M.2) (Q := fun x : Mem => (∀ c, c < 36 → x.1 k c = 1000000) ∧ (∀ kx i, kx ≠ k → x.1 kx i = M.1 kx i) ∧ x.2 = M.2) ?_ e ⟨0, by omega, rfl, fun c h => by omega, fun _ _ _ => rfl, rfl⟩
  rintro ⟨i, N⟩ r ⟨q, q36, hq, hd, hf, h2⟩ e
  dsimp only at hq hd hf h2
  unfold lb_Nets_measure_3 at e
  dsimp only at e
  rcases io e with ⟨g, e⟩ | ⟨g, e⟩
  · have := q_le g
    obtain rfl := Option.some.inj e
    exact ⟨fun c hc => hd c (by omega), hf, h2⟩
  have g1 := q_ng g
  obtain ⟨_, e⟩ := io_n e
  obtain ⟨M1, m1, e⟩ := mo e
  obtain rfl := Option.some.inj e
  rw [q_nat hq] at m1
  refine ⟨q + 1, by omega, add_ti hq o1 (by omega) (by omega), fun c hc => ?_, fun kx i h => ?_, ?_⟩
  · dsimp only
    rw [m1]
    by_cases b : c = q
    · subst b; rw [si_eq]
    · rw [si_ne (by omega)]; exact hd c (by omega)
  · dsimp only
    rw [m1, si_ne (by omega)]; exact hf kx i h
  · dsimp only
    rw [m1, si_2]; exact h2
/-- what it is to be measured from f -/
def MSR (adj : Nat → Nat → Prop) (f : Nat) (D : Nat → Int) : Prop := D f = 0 ∧ (∀ c, c < 36 → 0 ≤ D c ∧ (D c < 36 ∨ D c = 1000000)) ∧ (∀ c, c < 36 → D c < 1000000 → c = f ∨ ∃ c', c' < 36 ∧ D c' + 1 = D c ∧ adj c' c) ∧ (∀ c, c < 36 → D c < 1000000 → ∀ d, adj c d → d < 36 ∧ D d ≤ D c + 1)
def MI (adj : Nat → Nat → Prop) (f k : Nat) (M0_ : Mem) (s : Int64 × Int64 × Int32 × Mem) : Prop := ∃ t : Nat, t ≤ 36 ∧ s.2.2.1.toInt = (t : Int) ∧ (∀ c, bl s.2.1 c = true → bl s.1 c = true) ∧ (∀ c, bl s.1 c = true → c < 36) ∧ (∀ c, c < 36 → (bl s.1 c = true ∧ bl s.2.1 c = false → 0 ≤ (s.2.2.2.1 k c).toInt ∧ (s.2.2.2.1 k c).toInt < (t : Int)) ∧ (¬ (bl s.1 c = true ∧ bl s.2.1 c = false) → (s.2.2.2.1 k c).toInt = 1000000)) ∧ (∀ c, bl s.1 c = true → bl s.2.1 c = false → c = f ∨ ∃ c', bl s.1 c' = true ∧ bl s.2.1 c' = false ∧ (s.2.2.2.1 k c').toInt + 1 = (s.2.2.2.1 k c).toInt ∧ adj c' c) ∧ (∀ c, bl s.2.1 c = true → (c = f ∧ t = 0) ∨ ∃ c', bl s.1 c' = true ∧ bl s.2.1 c' = false ∧ (s.2.2.2.1 k c').toInt + 1 = (t : Int) ∧ adj c' c) ∧ (∀ c, bl s.1 c = true → bl s.2.1 c = false → ∀ d, adj c d → (bl s.1 d = true ∧ bl s.2.1 d = false ∧ (s.2.2.2.1 k d).toInt ≤ (s.2.2.2.1 k c).toInt + 1) ∨ (bl s.2.1 d = true ∧ (s.2.2.2.1 k c).toInt + 1 = (t : Int))) ∧ (bl s.1 f = true ∧ ((t = 0 ∧ bl s.2.1 f = true) ∨ (0 < t ∧ bl s.2.1 f = false ∧ (s.2.2.2.1 k f).toInt = 0))) ∧ t ≤ (List.range 36).countP (fun c => bl s.1 c && !bl s.2.1 c) ∧ (∀ kx i, kx ≠ k → s.2.2.2.1 kx i = M0_.1 kx i) ∧ s.2.2.2.2 = M0_.2
theorem meas_i {f k : Nat} {v2 : Int32} {x : Mem} (hv : isN v0) (h1 : v1.toInt = (l : Int)) (l2 : l < 2) (h2 : v2.toInt = (f : Int)) (f36 : f < 36) (adjb : ∀ c d, c < 36 → bl (M.2.1 (v0 + 2) (l * 36 + c)) d = true → d < 36) (e : f_Nets_measure v0 v1 v2 k M = some x) : MSR (fun c d => bl (M.2.1 (v0 + 2) (l * 36 + c)) d = true) f (fun c => (x.1 k c).toInt) ∧ (∀ kx i, kx ≠ k → x.1 kx i = M.1 kx i) ∧ x.2 = M.2 := by
  have k36 : (36 : Int32).toInt = 36 := rfl
  have kF : (1000000 : Int32).toInt = 1000000 := rfl
  unfold f_Nets_measure at e
  obtain ⟨_, e⟩ := io_n e
  obtain ⟨_, e⟩ := io_n e
  obtain ⟨x3, e3, e⟩ := bo e
  obtain ⟨x11, e11, e⟩ := bo e
  obtain rfl := Option.some.inj e
  obtain ⟨a1, a2, a3⟩ := far_i e3
  have one : ∀ d, bl ((1 : Int64) <<< (v2.toInt64 &&& 63)) d = decide (d = f) := bl_one h2 (by omega)
  refine it_r (I := MI (fun c d => bl (M.2.1 (v0 + 2) (l * 36 + c)) d = true) f k M) (Q := fun x : Mem => MSR (fun c d => bl (M.2.1 (v0 + 2) (l * 36 + c)) d = true) f (fun c => (x.1 k c).toInt) ∧ (∀ kx i, kx ≠ k → x.1 kx i = M.1 kx i) ∧ x.2 = M.2) ?_ e11 ⟨0, by omega, rfl, fun c h => h, fun c h => ?_, fun c hc => ⟨fun h => ?_, fun _ => ?_⟩, fun c h1 h2 => ?_, fun c h => ?_, fun c h1 h2 => ?_, ⟨?_, .inl ⟨rfl, ?_⟩⟩, by omega, a2, a3⟩
  rotate_left
  · dsimp only at h; rw [one] at h; have := of_decide_eq_true h; omega
  · dsimp only at h; rw [h.1] at h; cases h.2
  · show (x3.1 k c).toInt = _; rw [a1 c hc]; rfl
  · dsimp only at h1 h2; rw [h1] at h2; cases h2
  · dsimp only at h; rw [one] at h; exact .inl ⟨of_decide_eq_true h, rfl⟩
  · dsimp only at h1 h2; rw [h1] at h2; cases h2
  · dsimp only; rw [one]; exact decide_eq_true rfl
  · dsimp only; rw [one]; exact decide_eq_true rfl
  rintro ⟨fo, fr, st, N⟩ r ⟨t, t36, ht, i1, i2, i3, i4, i5, i6, i7, i8, i9, i10⟩ e
  dsimp only at ht i1 i2 i3 i4 i5 i6 i7 i8 i9 i10
  -- the end: nobody is in front
  have fin : (∀ c, bl fr c = false) → MSR (fun c d => bl (M.2.1 (v0 + 2) (l * 36 + c)) d = true) f (fun c => (N.1 k c).toInt) ∧ (∀ kx i, kx ≠ k → N.1 kx i = M.1 kx i) ∧ N.2 = M.2 := by
    intro h0
    have D1 : ∀ c, c < 36 → (N.1 k c).toInt < 1000000 → bl fo c = true := by
      intro c hc hd
      cases hb : bl fo c with
      | true => rfl
      | false =>
        have := (i3 c hc).2 (fun h => by rw [hb] at h; cases h.1)
        omega
    refine ⟨⟨?_, fun c hc => ?_, fun c hc hd => ?_, fun c hc hd d had => ?_⟩, i9, i10⟩
    · rcases i7.2 with ⟨_, h⟩ | ⟨_, _, h⟩
      · rw [h0] at h; cases h
      · exact h
    · show 0 ≤ (N.1 k c).toInt ∧ _
      by_cases g : bl fo c = true
      · have := (i3 c hc).1 ⟨g, h0 c⟩
        exact ⟨this.1, .inl (by show (N.1 k c).toInt < 36; omega)⟩
      · have := (i3 c hc).2 (fun h => g h.1)
        exact ⟨by omega, .inr this⟩
    · rcases i4 c (D1 c hc hd) (h0 c) with h | ⟨c', h1, h2, h3, h4⟩
      · exact .inl h
      · exact .inr ⟨c', i2 c' h1, h3, h4⟩
    · rcases i6 c (D1 c hc hd) (h0 c) d had with ⟨h1, h2, h3⟩ | ⟨h, _⟩
      · exact ⟨i2 d h1, h3⟩
      · rw [h0] at h; cases h
  unfold lb_Nets_measure_34 at e
  dsimp only at e
  rcases io e with ⟨g, e⟩ | ⟨g, e⟩
  · have := q_le g
    obtain rfl := Option.some.inj e
    refine fin (fun c => ?_)
    have all := cnt_all (n := 36) (P := fun c => bl fo c && !bl fr c) (by omega)
    cases hb : bl fr c with
    | false => rfl
    | true =>
      have := all c (i2 c (i1 c hb))
      simp [hb] at this
  have g1 := q_ng g
  rcases io e with ⟨g, e⟩ | ⟨g, e⟩
  · have := lc_0.mp g
    obtain rfl := Option.some.inj e
    exact fin (fun c => by rw [this]; exact bl_0 c)
  have frn : ∃ c, bl fr c = true := by
    by_cases h : ∃ c, bl fr c = true
    · exact h
    · exact absurd (lc_0.mpr (bl_0i (fun d => by
        cases hb : bl fr d with
        | false => rfl
        | true => exact absurd ⟨d, hb⟩ h))) g
  obtain ⟨x7, e7, e⟩ := bo e
  obtain ⟨x8, e8, e⟩ := bo e
  obtain rfl := Option.some.inj e
  obtain ⟨b1, b2, b3⟩ := fill_i e7
  have ar := around_i hv h1 l2 e8
  rw [b3, i10] at ar
  -- the new front
  have nf : ∀ d, d < 64 → bl (x8 &&& (fo ^^^ (-1 : Int64))) d = (bl x8 d && !bl fo d) := fun d hd => by rw [bl_and, bl_not hd]
  have nf1 : ∀ d, bl (x8 &&& (fo ^^^ (-1 : Int64))) d = true ↔ bl x8 d = true ∧ bl fo d = false := by
    intro d
    by_cases hd : d < 64
    · rw [nf d hd]; cases bl x8 d <;> cases bl fo d <;> simp
    · rw [bl_hi (by omega)]
      constructor
      · intro h; cases h
      · rintro ⟨h, _⟩; rw [bl_hi (by omega)] at h; cases h
  have n36 : ∀ d, bl x8 d = true → d < 36 := fun d h => by
    obtain ⟨c, hc, _, h3⟩ := (ar d).mp h
    exact adjb c d hc h3
  -- found before: neither in the new front
  have old : ∀ c, bl (fo ||| (x8 &&& (fo ^^^ (-1 : Int64)))) c = true ∧ bl (x8 &&& (fo ^^^ (-1 : Int64))) c = false ↔ bl fo c = true := by
    intro c
    rw [bl_or, Bool.or_eq_true]
    constructor
    · rintro ⟨h | h, h2⟩
      · exact h
      · rw [h] at h2; cases h2
    · intro h
      refine ⟨.inl h, ?_⟩
      cases hb : bl (x8 &&& (fo ^^^ (-1 : Int64))) c with
      | false => rfl
      | true => rw [((nf1 c).mp hb).2] at h; cases h
  have D7 : ∀ c, c < 36 → (bl fr c = true → (x7.1 k c).toInt = (t : Int)) ∧ (bl fr c = false → x7.1 k c = N.1 k c) := fun c hc => ⟨fun h => by rw [b1 c hc, if_pos h]; exact ht, fun h => by rw [b1 c hc, if_neg (by rw [h]; decide)]⟩
  have c0 : ∀ c, bl fo c = true → (0 ≤ (x7.1 k c).toInt ∧ (x7.1 k c).toInt < ((t + 1 : Nat) : Int)) := by
    intro c h
    have hc := i2 c h
    cases hb : bl fr c with
    | true => rw [(D7 c hc).1 hb]; omega
    | false =>
      rw [(D7 c hc).2 hb]
      have := (i3 c hc).1 ⟨h, hb⟩
      omega
  refine ⟨t + 1, by omega, add_ti ht o1 (by omega) (by omega), fun c h => ?_, fun c h => ?_, fun c hc => ⟨fun h => c0 c ((old c).mp h), fun h => ?_⟩, fun c h1 h2 => ?_, fun c h => ?_, fun c h1 h2 d had => ?_, ⟨?_, .inr ⟨by omega, ?_, ?_⟩⟩, ?_, fun kx i h => ?_, ?_⟩
  · dsimp only at h ⊢
    rw [bl_or, h, Bool.or_true]
  · dsimp only at h
    rw [bl_or, Bool.or_eq_true] at h
    rcases h with h | h
    · exact i2 c h
    · exact n36 c ((nf1 c).mp h).1
  · dsimp only at h ⊢
    have hn : ¬ bl fo c = true := fun q => h ((old c).mpr q)
    have hfr : bl fr c = false := by
      cases hb : bl fr c with
      | false => rfl
      | true => exact absurd (i1 c hb) hn
    rw [(D7 c hc).2 hfr]
    exact (i3 c hc).2 (fun q => hn q.1)
  · dsimp only at h1 h2 ⊢
    have hfo := (old c).mp ⟨h1, h2⟩
    have hc := i2 c hfo
    cases hb : bl fr c with
    | true =>
      rcases i5 c hb with ⟨h, _⟩ | ⟨c', q1, q2, q3, q4⟩
      · exact .inl h
      · refine .inr ⟨c', ((old c').mpr q1).1, ((old c').mpr q1).2, ?_, q4⟩
        rw [(D7 c' (i2 c' q1)).2 q2, (D7 c hc).1 hb]; exact q3
    | false =>
      rcases i4 c hfo hb with h | ⟨c', q1, q2, q3, q4⟩
      · exact .inl h
      · refine .inr ⟨c', ((old c').mpr q1).1, ((old c').mpr q1).2, ?_, q4⟩
        rw [(D7 c' (i2 c' q1)).2 q2, (D7 c hc).2 hb]; exact q3
  · dsimp only at h ⊢
    obtain ⟨q1, q2⟩ := (nf1 c).mp h
    obtain ⟨c', hc', q3, q4⟩ := (ar c).mp q1
    refine .inr ⟨c', ((old c').mpr (i1 c' q3)).1, ((old c').mpr (i1 c' q3)).2, ?_, q4⟩
    rw [(D7 c' hc').1 q3]; omega
  · dsimp only at h1 h2 had ⊢
    have hfo := (old c).mp ⟨h1, h2⟩
    have hc := i2 c hfo
    have d36 := adjb c d hc had
    cases hb : bl fr c with
    | true =>
      have hx8 : bl x8 d = true := (ar d).mpr ⟨c, hc, hb, had⟩
      cases hd : bl fo d with
      | true =>
        refine .inl ⟨((old d).mpr hd).1, ((old d).mpr hd).2, ?_⟩
        have := c0 d hd
        rw [(D7 c hc).1 hb]; omega
      | false =>
        refine .inr ⟨(nf1 d).mpr ⟨hx8, hd⟩, ?_⟩
        rw [(D7 c hc).1 hb]; omega
    | false =>
      rcases i6 c hfo hb d had with ⟨q1, q2, q3⟩ | ⟨q1, q2⟩
      · refine .inl ⟨((old d).mpr q1).1, ((old d).mpr q1).2, ?_⟩
        rw [(D7 d d36).2 q2, (D7 c hc).2 hb]; exact q3
      · refine .inl ⟨((old d).mpr (i1 d q1)).1, ((old d).mpr (i1 d q1)).2, ?_⟩
        rw [(D7 d d36).1 q1, (D7 c hc).2 hb]; omega
  · exact ((old f).mpr i7.1).1
  · exact ((old f).mpr i7.1).2
  · dsimp only
    rcases i7.2 with ⟨h0, hb⟩ | ⟨_, hb, hd⟩
    · rw [(D7 f f36).1 hb]; omega
    · rw [(D7 f f36).2 hb]; exact hd
  · dsimp only
    obtain ⟨c, hc⟩ := frn
    have lt := cnt_lt (n := 36) (c := c) (P := fun c => bl fo c && !bl fr c) (Q := fun c => bl (fo ||| (x8 &&& (fo ^^^ (-1 : Int64)))) c && !bl (x8 &&& (fo ^^^ (-1 : Int64))) c) (i2 c (i1 c hc)) (fun i _ h => by
      simp only [Bool.and_eq_true, Bool.not_eq_true'] at h ⊢
      exact (old i).mpr h.1) (by simp [hc]) (by
      simp only [Bool.and_eq_true, Bool.not_eq_true']
      exact (old c).mpr (i1 c hc))
    omega
  · dsimp only
    rw [b2 kx i h]; exact i9 kx i h
  · dsimp only
    rw [b3]; exact i10
end MEAS
end
section
/-! the class's nets and the reference's steps; both measures are one -/
theorem near_go {X R : Mem} {v0 a n l c d : Nat} (jR : J R) (zv : ZV R (R.1 a) n) (zx : ZX v0 R (onA R) (fun c d => plk R a c d) X) (l2 : l < 2) (c36 : c < 36) : bl (X.2.1 (v0 + 2) (l * 36 + c)) d = true ↔ (onN R l c ∧ d < 36 ∧ ∃ s : Int, 0 ≤ s ∧ s ≤ 3 ∧ goR R a ((36 * l + c : Nat) : Int) s ((36 * l + d : Nat) : Int)) := by
  have hw := aw jR
  have hh := ah jR
  have wh := awh jR
  have pm : ((36 * l + c : Nat) : Int) % 36 = (c : Int) := by omega
  have pd : ((36 * l + c : Nat) : Int) / 36 = (l : Int) := by omega
  rw [zx.2 l c l2 c36 d]
  constructor
  · rintro (⟨s, s4, ⟨o1, o2, o3⟩, o4⟩ | ⟨hl, s, s4, hb, hp⟩)
    · have onl := (onA_i jR).mp o1
      have on2 := (onA_i jR).mp o3
      rw [o4] at on2
      rw [show (((d : Int)).toNat : Int) = (d : Int) by omega] at on2
      refine ⟨onl, by have := on2.2.1; omega, s, by omega, by omega, .inr ⟨by omega, .inr (.inl ⟨by rw [pm]; exact o2, by rw [pm, pd, o4]; exact on2, by rw [pm, pd, o4]; omega⟩)⟩⟩
    · subst hl
      have onl := (plk_on (KP_v zv) hp).1
      have ond := (plk_on (KP_v zv) hp).2
      have b1 : bes (xw R) (xh R) c s ≠ -1 := by
        intro h
        unfold bb at hb
        rw [if_pos h] at hb
        omega
      have b2 : bb (xw R) (xh R) c s = bes (xw R) (xh R) (bes (xw R) (xh R) c s) s := by unfold bb; rw [if_neg b1]
      have no := mid_no jR zv onl s4 (by omega) (by rw [hb]; exact hp)
      refine ⟨onl, by have := ond.2.1; omega, s, by omega, by omega, .inr ⟨by omega, .inr (.inr (.inr (.inl ⟨by rw [pm]; exact b1, by rw [pm, pd]; exact no, by rw [pd]; omega, ?_, ?_, ?_⟩)))⟩⟩
      · rw [pm, ← b2]; omega
      · rw [pm, ← b2, hb]; exact hp
      · rw [pm, ← b2, hb]; omega
  · rintro ⟨onl, d36, s, s0, s3, g⟩
    rcases g with ⟨h, _⟩ | ⟨_, g⟩
    · omega
    rw [pm, pd] at g
    obtain ⟨s', hs'⟩ : ∃ s' : Nat, s = (s' : Int) := ⟨s.toNat, by omega⟩
    subst hs'
    rcases g with ⟨g1, g2⟩ | ⟨g1, g2, g3⟩ | ⟨g1, g2, g3, g4⟩ | ⟨g1, g2, g3, g4, g5, g6⟩ | ⟨g1, g2, g3, g4, g5⟩
    · omega
    · have e : bes (xw R) (xh R) c s' = (d : Int) := by omega
      refine .inl ⟨s', by omega, ⟨(onA_i jR).mpr onl, g1, (onA_i jR).mpr ?_⟩, e⟩
      rw [e]
      rw [e] at g2
      rw [show (((d : Int)).toNat : Int) = (d : Int) by omega]
      exact g2
    · omega
    · have l1 : l = 1 := by omega
      have b2 : bb (xw R) (xh R) c s' = bes (xw R) (xh R) (bes (xw R) (xh R) c s') s' := by unfold bb; rw [if_neg g1]
      rw [← b2] at g4 g5 g6
      have e : bb (xw R) (xh R) c s' = (d : Int) := by omega
      rw [e] at g5
      exact .inr ⟨l1, s', by omega, e, g5⟩
    · omega
theorem onP_lc {R : Mem} {l c : Nat} (l2 : l < 2) (c36 : c < 36) : onP R ((36 * l + c : Nat) : Int) ↔ onN R l c := by
  unfold onP
  rw [show ((36 * l + c : Nat) : Int) % 36 = (c : Int) by omega, show ((36 * l + c : Nat) : Int) / 36 = (l : Int) by omega]
  constructor
  · intro h; exact h.2.2
  · intro h; exact ⟨by omega, by omega, h⟩
/-- one stays on one's level -/
theorem go_lev {R : Mem} {a : Nat} {p s m : Int} (jR : J R) (hp : 0 ≤ p ∧ p ≤ 71) (s0 : 0 ≤ s ∧ s ≤ 3) (h : goR R a p s m) (hm : m ≠ -1) : ∃ d : Nat, d < 36 ∧ m = 36 * (p / 36) + d := by
  have hw := aw jR
  have hh := ah jR
  have wh := awh jR
  rcases h with ⟨h, _⟩ | ⟨_, g⟩
  · omega
  have inn : ∀ q : Int, bes (xw R) (xh R) q s ≠ -1 → 0 ≤ bes (xw R) (xh R) q s ∧ bes (xw R) (xh R) q s < 36 := by
    intro q hq
    unfold bes at hq ⊢
    by_cases c : 0 ≤ q % xw R + (if s = 1 then 1 else if s = 3 then -1 else 0) ∧ q % xw R + (if s = 1 then 1 else if s = 3 then -1 else 0) ≤ xw R - 1 ∧ 0 ≤ q / xw R + (if s = 2 then 1 else if s = 0 then -1 else 0) ∧ q / xw R + (if s = 2 then 1 else if s = 0 then -1 else 0) ≤ xh R - 1
    · rw [if_pos c]
      generalize q % xw R + (if s = 1 then 1 else if s = 3 then -1 else 0) = u at c ⊢
      generalize q / xw R + (if s = 2 then 1 else if s = 0 then -1 else 0) = v at c ⊢
      have v5 : v ≤ xh R - 1 := c.2.2.2
      have mul : xw R * v ≤ xw R * (xh R - 1) := Int.mul_le_mul_of_nonneg_left v5 (by omega)
      have mul0 : 0 ≤ xw R * v := Int.mul_nonneg (by omega) (by omega)
      rw [Int.mul_sub, Int.mul_one] at mul
      constructor <;> omega
    · rw [if_neg c] at hq; exact absurd rfl hq
  rcases g with ⟨g1, g2⟩ | ⟨g1, g2, g3⟩ | ⟨g1, g2, g3, g4⟩ | ⟨g1, g2, g3, g4, g5, g6⟩ | ⟨g1, g2, g3, g4, g5⟩
  · exact absurd g2 hm
  · have := inn _ g1
    exact ⟨(bes (xw R) (xh R) (p % 36) s).toNat, by omega, by omega⟩
  · exact absurd g4 hm
  · have := inn _ g4
    exact ⟨(bes (xw R) (xh R) (bes (xw R) (xh R) (p % 36) s) s).toNat, by omega, by omega⟩
  · exact absurd g5 hm
/-- both measures are one -/
theorem far_eq {X R r : Mem} {v0 n l f : Nat} {D : Nat → Int} (jR : J R) (jr : J r) (zv : ZV R (R.1 163) n) (zx : ZX v0 R (onA R) (fun c d => plk R 163 c d) X) (l2 : l < 2) (f36 : f < 36) (onf : onN R l f) (ms : MSR (fun c d => bl (X.2.1 (v0 + 2) (l * 36 + c)) d = true) f D) (ff : FF R ((36 * l + f : Nat) : Int) r) : ∀ c, c < 36 → D c = (r.1 177 (36 * l + c)).toInt := by
  obtain ⟨m1, m2, m3, m4⟩ := ms
  have kp := KP_v zv
  have onp : onP R ((36 * l + f : Nat) : Int) := (onP_lc l2 f36).mpr onf
  obtain ⟨⟨_, _, _, q0, q1⟩, cl⟩ := ff
  have q0 : (r.1 177 (36 * l + f)).toInt = 0 := q0
  have up : ∀ (m : Nat) (c : Nat), c < 36 → D c < 1000000 → (D c).toNat ≤ m → (r.1 177 (36 * l + c)).toInt ≤ D c := by
    intro m
    induction m with
    | zero =>
      intro c hc hd hm
      rcases m3 c hc hd with h | ⟨c', hc', h1, h2⟩
      · subst h; rw [q0, m1]; omega
      · have := (m2 c' hc').1; omega
    | succ m ih =>
      intro c hc hd hm
      rcases m3 c hc hd with h | ⟨c', hc', h1, h2⟩
      · subst h; rw [q0, m1]; omega
      · have k := (m2 c' hc').1
        have i := ih c' hc' (by omega) (by omega)
        obtain ⟨_, _, s, s0, s3, g⟩ := (near_go jR zv zx l2 hc').mp h2
        have := cl (36 * l + c') (by omega) (by omega) s s0 s3 _ g (by omega)
        rw [show (((36 * l + c : Nat) : Int)).toNat = 36 * l + c by omega, show (((36 * l + c' : Nat) : Int)).toNat = 36 * l + c' by omega] at this
        omega
  have ffR : FF R ((36 * l + f : Nat) : Int) r := ⟨⟨‹_›, ‹_›, ‹_›, q0, q1⟩, cl⟩
  have dn : ∀ (m : Nat) (k : Nat), k < 72 → (r.1 177 k).toInt < 1000000 → (r.1 177 k).toInt.toNat ≤ m → ∃ c, c < 36 ∧ k = 36 * l + c ∧ D c ≤ (r.1 177 k).toInt := by
    intro m
    induction m with
    | zero =>
      intro k hk hd hm
      have b := (Jr_177 jr k).1
      rcases q1 k hk hd with h | ⟨q, hq, s, s0, s3, g, h⟩
      · exact ⟨f, f36, by omega, by rw [m1]; omega⟩
      · have := (Jr_177 jr q).1; omega
    | succ m ih =>
      intro k hk hd hm
      have b := (Jr_177 jr k).1
      rcases q1 k hk hd with h | ⟨q, hq, s, s0, s3, g, h⟩
      · exact ⟨f, f36, by omega, by rw [m1]; omega⟩
      · have bq := (Jr_177 jr q).1
        obtain ⟨c', hc', e', hD⟩ := ih q hq (by omega) (by omega)
        subst e'
        have onq := far_on jR kp onp ffR ((r.1 177 (36 * l + c')).toInt.toNat) (36 * l + c') hq (by omega) (Nat.le_refl _)
        obtain ⟨d, d36, hd'⟩ := go_lev jR (by omega) ⟨s0, s3⟩ g (by omega)
        have e2 : k = 36 * l + d := by omega
        subst e2
        have := m4 c' hc' (by omega) d ((near_go jR zv zx l2 hc').mpr ⟨(onP_lc l2 hc').mp onq, d36, s, s0, s3, g⟩)
        exact ⟨d, d36, rfl, by omega⟩
  intro c hc
  have b := Jr_177 jr (36 * l + c)
  rcases (m2 c hc).2 with h | h
  · have u := up (D c).toNat c hc (by omega) (Nat.le_refl _)
    obtain ⟨c', hc', e', hD⟩ := dn ((r.1 177 (36 * l + c)).toInt.toNat) (36 * l + c) (by omega) (by omega) (Nat.le_refl _)
    have : c' = c := by omega
    subst this
    omega
  · by_cases g : (r.1 177 (36 * l + c)).toInt < 1000000
    · obtain ⟨c', hc', e', hD⟩ := dn ((r.1 177 (36 * l + c)).toInt.toNat) (36 * l + c) (by omega) g (Nat.le_refl _)
      have : c' = c := by omega
      subst this
      omega
    · omega
/-- the class measures, the reference finds: from the same place the same numbers -/
theorem meas_2 {X R x r : Mem} {n l f k : Nat} {v1 v2 p : Int32} (jR : J R) (zv : ZV R (R.1 163) n) (zw : ZW X R 163) (h1 : v1.toInt = (l : Int)) (l2 : l < 2) (h2 : v2.toInt = (f : Int)) (f36 : f < 36) (onf : onN R l f) (hp : p.toInt = ((36 * l + f : Nat) : Int)) (ex : f_Nets_measure 32 v1 v2 k X = some x) (er : f_Mod_findFar p R = some r) : (∀ c, c < 36 → x.1 k c = r.1 177 (36 * l + c)) ∧ (∀ kx i, kx ≠ k → x.1 kx i = X.1 kx i) ∧ x.2 = X.2 ∧ J r ∧ (∀ kx i, kx ≠ 177 → r.1 kx i = R.1 kx i) ∧ r.2 = R.2 := by
  have wh := awh jR
  obtain ⟨ms, fx, q⟩ := meas_i (.inl rfl) h1 l2 h2 f36 (fun c d hc h => ((near_go jR zv zw.2 l2 hc).mp h).2.1) ex
  have ff := some_of (fs_findFar jR p (by omega)) er
  rw [hp] at ff
  have jr : J r := ff.1.1
  have E := far_eq jR jr zv zw.2 l2 f36 onf ms ff
  refine ⟨fun c hc => Int32.toInt_inj.mp (E c hc), fx, q, jr, fun kx i h => ff.1.2.1 kx i h, ff.1.2.2.1⟩
end
section
/-! path, tryst -/
theorem plc_2 {X R : Mem} {lv cv x y : Int32} (zg : ZG X R) (jR : J R) (ex : f_Ground_holds lv cv X = some x) (ey : f_Mod_isPlaceOf lv cv R = some y) : (x = 0 ∧ y = 0) ∨ (x = 1 ∧ y = 1 ∧ ∃ l c : Nat, l < 2 ∧ c < 36 ∧ lv.toInt = (l : Int) ∧ cv.toInt = (c : Int) ∧ onN R l c) := by
  have wh := awh jR
  have h := holdsC zg jR ex
  unfold f_Mod_isPlaceOf at ey
  obtain ⟨y1, ey1, ey⟩ := bo ey
  have h1 := some_of (sp_in lv 0 1) ey1
  rw [o0, o1] at h1
  rcases h1 with ⟨a, b⟩ | ⟨a, b⟩
  · rw [a, if_neg (by decide)] at ey
    obtain ⟨y2, ey2, ey⟩ := bo ey
    have h2 := some_of (fs_isOf jR lv cv) ey2
    rcases h2 with ⟨c, d⟩ | ⟨c, d⟩
    · rw [c, if_neg (by decide)] at ey
      obtain rfl := Option.some.inj ey
      rcases h with ⟨hx, _⟩ | ⟨_, hx⟩
      · obtain ⟨l, hl⟩ := ti_ofn b.1
        obtain ⟨c', hc'⟩ := ti_ofn d.1
        have := d.2.1
        exact .inr ⟨hx, rfl, l, c', by omega, by omega, hl, hc', by rw [← hl, ← hc']; exact d⟩
      · exact absurd ⟨b.1, b.2, d⟩ hx
    · rw [c, if_pos rfl] at ey
      obtain rfl := Option.some.inj ey
      rcases h with ⟨_, hx⟩ | ⟨hx, _⟩
      · exact absurd hx.2.2 d
      · exact .inl ⟨hx, rfl⟩
  · rw [a, if_pos rfl] at ey
    obtain rfl := Option.some.inj ey
    rcases h with ⟨_, hx⟩ | ⟨hx, _⟩
    · exact absurd ⟨hx.1, hx.2.1⟩ b
    · exact .inl ⟨hx, rfl⟩
theorem place_c {lv cv x : Int32} {l c : Nat} (hl : lv.toInt = (l : Int)) (hc : cv.toInt = (c : Int)) (l2 : l < 2) (c36 : c < 36) (e : f_Mod_placeOf lv cv = some x) : x.toInt = ((36 * l + c : Nat) : Int) := by
  have k36 : (36 : Int32).toInt = 36 := rfl
  unfold f_Mod_placeOf at e
  obtain rfl := Option.some.inj e
  rw [add_ti (mul_ti k36 hl (by omega) (by omega)) hc (by omega) (by omega)]; omega
theorem path_q {X R : Mem} {n : Nat} {v1 v2 v3 : Int32} {x r : Int32 × Mem} (za : ZA X R n) (ex : f_Top_path v1 v2 v3 X = some x) (er : f_Mod_path v1 v2 v3 R = some r) : x.1 = r.1 := by
  unfold f_Mod_path at er
  obtain ⟨M1, m1, er⟩ := mo er
  obtain ⟨zaM, fqM⟩ := ZA_M1 za m1
  obtain ⟨n8, jM, ⟨zg, zc, zl⟩, zs, zv, zw⟩ := zaM.1
  unfold f_Top_path at ex
  obtain ⟨x1, ex1, ex⟩ := bo ex
  obtain ⟨y2, ey2, er⟩ := bo er
  rcases plc_2 zg jM ex1 ey2 with ⟨a, b⟩ | ⟨a, b, l, c, l2, c36, hl, hc, onc⟩
  · rw [a, if_pos rfl] at ex
    rw [b, if_pos rfl] at er
    obtain rfl := Option.some.inj ex
    obtain rfl := Option.some.inj er
    rfl
  rw [a, if_neg (by decide)] at ex
  rw [b, if_neg (by decide)] at er
  obtain ⟨x2, ex2, ex⟩ := bo ex
  obtain ⟨y3, ey3, er⟩ := bo er
  rcases plc_2 zg jM ex2 ey3 with ⟨a, b⟩ | ⟨a, b, l', f, l2', f36, hl', hf, onf⟩
  · rw [a, if_pos rfl] at ex
    rw [b, if_pos rfl] at er
    obtain rfl := Option.some.inj ex
    obtain rfl := Option.some.inj er
    rfl
  have : l' = l := by omega
  subst this
  rw [a, if_neg (by decide)] at ex
  rw [b, if_neg (by decide)] at er
  obtain ⟨x3, ex3, ex⟩ := bo ex
  obtain ⟨p4, e4, er⟩ := bo er
  obtain ⟨r5, e5, er⟩ := bo er
  obtain ⟨p6, e6, er⟩ := bo er
  obtain ⟨_, ex⟩ := io_n ex
  obtain ⟨_, er⟩ := io_n er
  obtain ⟨E, _⟩ := meas_2 jM zv zw hl l2 hf f36 onf (place_c hl hf l2 f36 e4) ex3 e5
  rw [q_nat hc, E c c36] at ex
  rw [q_nat (place_c hl hc l2 c36 e6)] at er
  rcases io ex with ⟨g, ex⟩ | ⟨g, ex⟩
  · rw [if_pos g] at er
    obtain ⟨x4, _, ex⟩ := bo ex
    obtain ⟨x11, _, ex⟩ := bo ex
    obtain rfl := Option.some.inj ex
    obtain ⟨M7, _, er⟩ := mo er
    obtain ⟨y17, _, er⟩ := bo er
    obtain rfl := Option.some.inj er
    rfl
  · rw [if_neg g] at er
    obtain rfl := Option.some.inj ex
    obtain rfl := Option.some.inj er
    rfl
/-- the soonest of cells below k, the first of equal ones -/
def pick (P : Nat → Bool) (V : Nat → Int) : Nat → Int × Int
  | 0 => (1000000, -1)
  | k + 1 => if P k = true ∧ V k < (pick P V k).1 then (V k, (k : Int)) else pick P V k
theorem pick_p {P : Nat → Bool} {V : Nat → Int} {k : Nat} (h : P k = true ∧ V k < (pick P V k).1) : pick P V (k + 1) = (V k, (k : Int)) := if_pos h
theorem pick_n {P : Nat → Bool} {V : Nat → Int} {k : Nat} (h : ¬ (P k = true ∧ V k < (pick P V k).1)) : pick P V (k + 1) = pick P V k := if_neg h
theorem pick_b {P : Nat → Bool} {V : Nat → Int} (hV : ∀ c, P c = true → 0 ≤ V c) : ∀ k, 0 ≤ (pick P V k).1 ∧ (pick P V k).1 ≤ 1000000 ∧ -1 ≤ (pick P V k).2 ∧ (pick P V k).2 < (k : Int) ∧ ((pick P V k).1 = 1000000 ↔ (pick P V k).2 = -1) ∧ (∀ c : Nat, (pick P V k).2 = (c : Int) → (pick P V k).1 = V c) := by
  intro k
  induction k with
  | zero => exact ⟨by show (0 : Int) ≤ 1000000; decide, by show (1000000 : Int) ≤ 1000000; decide, by show (-1 : Int) ≤ -1; decide, by show (-1 : Int) < ((0 : Nat) : Int); decide, ⟨fun _ => rfl, fun _ => rfl⟩, fun c h => by simp only [pick] at h; omega⟩
  | succ k ih =>
    simp only [pick]
    by_cases g : P k = true ∧ V k < (pick P V k).1
    · rw [if_pos g]
      have := hV k g.1
      refine ⟨this, by dsimp only; omega, by dsimp only; omega, by dsimp only; omega, ⟨fun h => by dsimp only at h; omega, fun h => by dsimp only at h; omega⟩, fun c h => ?_⟩
      dsimp only at h ⊢
      have : c = k := by omega
      subst this; rfl
    · rw [if_neg g]
      exact ⟨ih.1, ih.2.1, ih.2.2.1, by have := ih.2.2.2.1; omega, ih.2.2.2.2.1, ih.2.2.2.2.2⟩
theorem pick_s {P : Nat → Bool} {V : Nat → Int} {k : Nat} (j : Nat) (h : ∀ c, k ≤ c → c < k + j → P c = false) : pick P V (k + j) = pick P V k := by
  induction j with
  | zero => rfl
  | succ j ih =>
    show (if P (k + j) = true ∧ V (k + j) < (pick P V (k + j)).1 then (V (k + j), ((k + j : Nat) : Int)) else pick P V (k + j)) = _
    rw [if_neg (fun w => by rw [h (k + j) (by omega) (by omega)] at w; cases w.1), ih (fun c h1 h2 => h c h1 (by omega))]
theorem pick_c {P Q : Nat → Bool} {V W : Nat → Int} {k : Nat} (h : ∀ c, c < k → P c = Q c) (g : ∀ c, c < k → P c = true → V c = W c) : pick P V k = pick Q W k := by
  induction k with
  | zero => rfl
  | succ k ih =>
    have i := ih (fun c hc => h c (by omega)) (fun c hc => g c (by omega))
    simp only [pick]
    rw [i, ← h k (by omega)]
    by_cases b : P k = true
    · rw [g k (by omega) b]
    · rw [if_neg (fun w => b w.1), if_neg (fun w => b w.1)]
def mxi (a b : Int32) : Int := if a < b then b.toInt else a.toInt
theorem mxi_i (a b : Int32) : (if a < b then b else a).toInt = mxi a b := by
  unfold mxi
  by_cases g : a < b
  · rw [if_pos g, if_pos g]
  · rw [if_neg g, if_neg g]
theorem later_i {X : Mem} {v x : Int32} {c : Nat} (hv : v.toInt = (c : Int)) (e : f_Ways_later v X = some x) : x.toInt = mxi (X.1 155 c) (X.1 156 c) := by
  unfold f_Ways_later at e
  obtain ⟨_, e⟩ := io_n e
  obtain ⟨_, e⟩ := io_n e
  obtain rfl := Option.some.inj e
  rw [q_nat hv]
  exact mxi_i _ _
theorem soon_c {v1 : Nat} {X : Mem} {x : Int32} {sv : Int64} (hs : f_Nets_stairs v1 X = some sv) (hb : ∀ c, bl sv c = true → 0 ≤ (X.1 155 c).toInt ∧ 0 ≤ (X.1 156 c).toInt) (e : iter (lb_Top_soonestStair_69 v1 X) FU ((-1 : Int32), (1000000 : Int32), (0 : Int32)) = some x) : x.toInt = (pick (fun c => bl sv c) (fun c => mxi (X.1 155 c) (X.1 156 c)) 36).2 := by
  have k36 : (36 : Int32).toInt = 36 := rfl
  refine it_r (I := fun s : Int32 × Int32 × Int32 => ∃ k : Nat, k ≤ 36 ∧ s.2.2.toInt = (k : Int) ∧ s.1.toInt = (pick (fun c => bl sv c) (fun c => mxi (X.1 155 c) (X.1 156 c)) k).2 ∧ s.2.1.toInt = (pick (fun c => bl sv c) (fun c => mxi (X.1 155 c) (X.1 156 c)) k).1) (Q := fun x : Int32 => x.toInt = (pick (fun c => bl sv c) (fun c => mxi (X.1 155 c) (X.1 156 c)) 36).2) ?_ e ⟨0, by omega, rfl, rfl, rfl⟩
  rintro ⟨b, so, i⟩ r ⟨k, k36', hk, h1, h2⟩ e
  dsimp only at hk h1 h2
  unfold lb_Top_soonestStair_69 at e
  dsimp only at e
  rcases io e with ⟨g, e⟩ | ⟨g, e⟩
  · have := q_le g
    obtain rfl := Option.some.inj e
    have : k = 36 := by omega
    subst this
    exact h1
  have g1 := q_ng g
  have i1 : (i + (1 : Int32)).toInt = ((k + 1 : Nat) : Int) := add_ti hk o1 (by omega) (by omega)
  obtain ⟨x3, e3, e⟩ := bo e
  rw [hs] at e3
  obtain rfl := Option.some.inj e3
  rcases io e with ⟨g, e⟩ | ⟨g, e⟩
  · have gb := (bl_cmp hk (by omega)).mp g
    obtain rfl := Option.some.inj e
    refine ⟨k + 1, by omega, i1, ?_⟩
    simp only [pick]
    rw [if_neg (fun w => by rw [gb] at w; cases w.1)]
    exact ⟨h1, h2⟩
  have gb : bl sv k = true := by
    cases hb : bl sv k with
    | true => rfl
    | false => exact absurd ((bl_cmp hk (by omega)).mpr hb) g
  obtain ⟨x4, e4, e⟩ := bo e
  have l4 := later_i hk e4
  rcases io e with ⟨g, e⟩ | ⟨g, e⟩
  · have := q_le g
    obtain rfl := Option.some.inj e
    refine ⟨k + 1, by omega, i1, ?_⟩
    simp only [pick]
    rw [if_neg (fun w => by have := w.2; omega)]
    exact ⟨h1, h2⟩
  · have := q_ng g
    obtain ⟨x5, e5, e⟩ := bo e
    have l5 := later_i hk e5
    obtain rfl := Option.some.inj e
    refine ⟨k + 1, by omega, i1, ?_⟩
    simp only [pick]
    rw [if_pos ⟨gb, by omega⟩]
    exact ⟨hk, l5⟩
end
section
/-! tryst: both sides -/
theorem meas_v {X R x r : Mem} {v0 n l f k : Nat} {v1 v2 p : Int32} (hv : isN v0) (jR : J R) (zv : ZV R (R.1 163) n) (zx : ZX v0 R (onA R) (fun c d => plk R 163 c d) X) (h1 : v1.toInt = (l : Int)) (l2 : l < 2) (h2 : v2.toInt = (f : Int)) (f36 : f < 36) (onf : onN R l f) (hp : p.toInt = ((36 * l + f : Nat) : Int)) (ex : f_Nets_measure v0 v1 v2 k X = some x) (er : f_Mod_findFar p R = some r) : (∀ c, c < 36 → x.1 k c = r.1 177 (36 * l + c)) ∧ (∀ kx i, kx ≠ k → x.1 kx i = X.1 kx i) ∧ x.2 = X.2 ∧ J r ∧ (∀ kx i, kx ≠ 177 → r.1 kx i = R.1 kx i) ∧ r.2 = R.2 := by
  have wh := awh jR
  obtain ⟨ms, fx, q⟩ := meas_i hv h1 l2 h2 f36 (fun c d hc h => ((near_go jR zv zx l2 hc).mp h).2.1) ex
  have ff := some_of (fs_findFar jR p (by omega)) er
  rw [hp] at ff
  have jr : J r := ff.1.1
  have E := far_eq jR jr zv zx l2 f36 onf ms ff
  refine ⟨fun c hc => Int32.toInt_inj.mp (E c hc), fx, q, jr, fun kx i h => ff.1.2.1 kx i h, ff.1.2.2.1⟩
theorem ln_far : ln 177 = 72 ∧ ln 181 = 72 ∧ ln 182 = 72 ∧ ln 183 = 72 := by decide +kernel
theorem copy_r {R r : Mem} {k : Nat} (hk : k ≠ 177) (e : f_Mod_copy 177 k R = some r) : (∀ i, i < 72 → r.1 k i = R.1 177 i) ∧ (∀ kx i, kx ≠ k → r.1 kx i = R.1 kx i) ∧ r.2 = R.2 := by
  have k72 : (Int32.ofNat (ln 177)).toInt = 72 := by rw [ln_far.1]; rfl
  unfold f_Mod_copy at e
  obtain ⟨_, e⟩ := io_n e
  obtain ⟨_, e⟩ := io_n e
  obtain ⟨x3, e3, e⟩ := bo e
  obtain rfl := Option.some.inj e
  refine it_r (I := fun s : Int32 × Mem => ∃ q : Nat, q ≤ 72 ∧ s.1.toInt = (q : Int) ∧ (∀ i, i < q → s.2.1 k i = R.1 177 i) ∧ (∀ kx i, kx ≠ k → s.2.1 kx i = R.1 kx i) ∧ s.2.2 = R.2) (Q := fun r : Mem => (∀ i, i < 72 → r.1 k i = R.1 177 i) ∧ (∀ kx i, kx ≠ k → r.1 kx i = R.1 kx i) ∧ r.2 = R.2) ?_ e3 ⟨0, by omega, rfl, fun i h => by omega, fun _ _ _ => rfl, rfl⟩
  rintro ⟨i, N⟩ r ⟨q, q72, hq, hd, hf, h2⟩ e
  dsimp only at hq hd hf h2
  unfold lb_Mod_copy_2 at e
  dsimp only at e
  rcases io e with ⟨g, e⟩ | ⟨g, e⟩
  · have := q_le g
    obtain rfl := Option.some.inj e
    exact ⟨fun i hi => hd i (by omega), hf, h2⟩
  have g1 := q_ng g
  obtain ⟨_, e⟩ := io_n e
  obtain ⟨_, e⟩ := io_n e
  obtain ⟨M1, m1, e⟩ := mo e
  obtain rfl := Option.some.inj e
  rw [q_nat hq] at m1
  refine ⟨q + 1, by omega, add_ti hq o1 (by omega) (by omega), fun j hj => ?_, fun kx j h => ?_, ?_⟩
  · dsimp only
    rw [m1]
    by_cases b : j = q
    · subst b; rw [si_eq]; exact hf 177 j (fun h => hk h.symm)
    · rw [si_ne (by omega)]; exact hd j (by omega)
  · dsimp only
    rw [m1, si_ne (by omega)]; exact hf kx j h
  · dsimp only
    rw [m1, si_2]; exact h2
/-- where two of the people are, both sides -/
theorem at_2 {X R : Mem} {n p : Nat} (n8 : n ≤ 8) (zs : ZS (scn X 11) (R.1 163) n) (zv : ZV R (R.1 163) n) (pn : p < n) : ∃ l c : Nat, l < 2 ∧ c < 36 ∧ (X.1 13 p).toInt = (l : Int) ∧ (X.1 12 p).toInt = (c : Int) ∧ (R.1 163 p).toInt = ((36 * l + c : Nat) : Int) ∧ onN R l c := by
  obtain ⟨s1, s2, s3, s4, s5, _⟩ := zs.1 p pn
  have s1 : (R.1 163 p).toInt = (X.1 12 p).toInt + 36 * (X.1 13 p).toInt := s1
  have s2 : 0 ≤ (X.1 12 p).toInt := s2
  have s3 : (X.1 12 p).toInt ≤ 35 := s3
  have s4 : 0 ≤ (X.1 13 p).toInt := s4
  have s5 : (X.1 13 p).toInt ≤ 1 := s5
  obtain ⟨c, hc⟩ := ti_ofn s2
  obtain ⟨l, hl⟩ := ti_ofn s4
  have v := (zv.1 p pn).1
  have e : (R.1 163 p).toInt = ((36 * l + c : Nat) : Int) := by omega
  rw [e] at v
  exact ⟨l, c, by omega, by omega, hl, hc, e, (onP_lc (by omega) (by omega)).mp v⟩
theorem stairs_i {X R : Mem} {v0 : Nat} {sv : Int64} (hv : isN v0) (jR : J R) (kr : ∀ i, i < 36 → 0 ≤ (R.1 164 i).toInt ∧ (R.1 164 i).toInt ≤ 3) (nb : NB v0 (onA R) 36 X) (e : f_Nets_stairs v0 X = some sv) (c : Nat) : bl sv c = true ↔ (c : Int) < xw R * xh R ∧ (R.1 164 c).toInt = 3 := by
  have wh := awh jR
  unfold f_Nets_stairs at e
  obtain ⟨_, e⟩ := io_n e
  obtain rfl := Option.some.inj e
  rw [(isN_r hv).1, show (0 : Int32).toNatClampNeg = 0 from rfl, show (1 : Int32).toNatClampNeg = 1 from rfl, bl_and, Bool.and_eq_true, nb 0 c (by omega), nb 1 c (by omega), onA_i jR, onA_i jR]
  unfold onN
  rw [show ((c : Int)).toNat = c by omega]
  constructor
  · rintro ⟨⟨_, _, h1, h2⟩, _, _, _, h3⟩
    rw [if_pos (by decide)] at h2
    rw [if_neg (by decide)] at h3
    exact ⟨h1, by omega⟩
  · rintro ⟨h1, h2⟩
    refine ⟨⟨by omega, by omega, h1, ?_⟩, by omega, by omega, h1, ?_⟩
    · rw [if_pos (by decide)]; omega
    · rw [if_neg (by decide)]; omega
theorem soon_2 {X R : Mem} {v0 n p q : Nat} {a b : Int32} {x r : Int32 × Mem} (hv : isN v0) (n8 : n ≤ 8) (jR : J R) (kr : ∀ i, i < 36 → 0 ≤ (R.1 164 i).toInt ∧ (R.1 164 i).toInt ≤ 3) (zs : ZS (scn X 11) (R.1 163) n) (zv : ZV R (R.1 163) n) (nb : NB v0 (onA R) 36 X) (zx : ZX v0 R (onA R) (fun c d => plk R 163 c d) X) (hp : a.toInt = (p : Int)) (hq : b.toInt = (q : Int)) (pn : p < n) (qn : q < n) (ex : f_Top_soonestStair v0 a b X = some x) (er : f_Mod_findTryst a b R = some r) : ∃ pk : Int × Int, x.1.toInt = pk.2 ∧ r.1.toInt = pk.1 ∧ (pk.1 = 1000000 ↔ pk.2 = -1) ∧ (0 ≤ pk.1 ∧ pk.1 ≤ 1000000 ∧ -1 ≤ pk.2 ∧ pk.2 < 36) ∧ (pk.2 ≠ -1 → (r.2.1 162 42).toInt = pk.2) ∧ (∀ c : Nat, pk.2 = (c : Int) → mxi (x.2.1 155 c) (x.2.1 156 c) = pk.1) ∧ ((∀ kx i, kx ≠ 155 → kx ≠ 156 → x.2.1 kx i = X.1 kx i) ∧ x.2.2 = X.2) ∧ (∀ kx i, kx ≠ 177 → kx ≠ 183 → ¬ (kx = 162 ∧ i = 42) → r.2.1 kx i = R.1 kx i) := by
  have wh := awh jR
  obtain ⟨l1, c1, l12, c136, hl1, hc1, hP1, on1⟩ := at_2 n8 zs zv pn
  obtain ⟨l2, c2, l22, c236, hl2, hc2, hP2, on2⟩ := at_2 n8 zs zv qn
  unfold f_Top_soonestStair at ex
  obtain ⟨_, ex⟩ := io_n ex
  obtain ⟨_, ex⟩ := io_n ex
  obtain ⟨_, ex⟩ := io_n ex
  obtain ⟨x1, e1, ex⟩ := bo ex
  obtain ⟨_, ex⟩ := io_n ex
  obtain ⟨_, ex⟩ := io_n ex
  obtain ⟨x2, e2, ex⟩ := bo ex
  obtain ⟨x9, e9, ex⟩ := bo ex
  obtain rfl := Option.some.inj ex
  unfold f_Mod_findTryst at er
  obtain ⟨_, er⟩ := io_n er
  obtain ⟨r1, f1, er⟩ := bo er
  obtain ⟨r2, f2, er⟩ := bo er
  obtain ⟨_, er⟩ := io_n er
  obtain ⟨r3, f3, er⟩ := bo er
  obtain ⟨y13, f13, er⟩ := bo er
  obtain rfl := Option.some.inj er
  rw [q_nat hp] at e1 f1
  rw [q_nat hq] at e2 f3
  obtain ⟨E1, fx1, qx1, jr1, fr1, qr1⟩ := meas_v hv jR zv zx hl1 l12 hc1 c136 on1 hP1 e1 f1
  obtain ⟨g1, g2, g3⟩ := copy_r (by omega) f2
  have j2 := (some_of (sf_Mod_copy 177 183 r1 (.inl rfl) (.inr (.inr (.inr rfl))) jr1) f2).1
  have fr2 : ∀ kx i, kx ≠ 177 → kx ≠ 183 → r2.1 kx i = R.1 kx i := fun kx i h1 h2 => by rw [g2 kx i h2]; exact fr1 kx i h1
  have x13 : x1.1 13 q = X.1 13 q := fx1 13 q (by omega)
  have x12 : x1.1 12 q = X.1 12 q := fx1 12 q (by omega)
  rw [x13, x12] at e2
  rw [fr2 163 q (by omega) (by omega)] at f3
  have mE : MapEq r2 R := ⟨fr2 162 2 (by omega) (by omega), fr2 162 3 (by omega) (by omega), fun i => fr2 164 i (by omega) (by omega)⟩
  have agr : AgR R r2 := ⟨fr2 162 2 (by omega) (by omega), fr2 162 3 (by omega) (by omega), fr2 162 4 (by omega) (by omega), fr2 162 5 (by omega) (by omega), fr2 162 23 (by omega) (by omega), fun i => fr2 164 i (by omega) (by omega), fun i => fr2 165 i (by omega) (by omega), fun i => fr2 166 i (by omega) (by omega), fun i => fr2 172 i (by omega) (by omega)⟩
  have zv2 : ZV r2 (r2.1 163) n := ZV_a n8 agr (fun i _ => fr2 163 i (by omega) (by omega)) zv
  have zx2 : ZX v0 r2 (onA r2) (fun c d => plk r2 163 c d) x1 := by
    have w1 : xw r2 = xw R := congrArg Int32.toInt mE.1
    have w2 : xh r2 = xh R := congrArg Int32.toInt mE.2.1
    have on : onA r2 = onA R := by funext l d; exact propext (by unfold onA; rw [onN_c mE])
    have pk : (fun c d => plk r2 163 c d) = (fun c d => plk R 163 c d) := by funext c d; exact propext (plk_c (fun i _ _ => fr2 163 i (by omega) (by omega)) zv.2.1.2 c d)
    unfold ZX NXT NRD LKn lk
    rw [on, pk, w1, w2, qx1]
    refine ⟨fun l c s hl hc hs => ?_, zx.2⟩
    have : ∀ i, x1.1 (v0 + 3) i = X.1 (v0 + 3) i := fun i => fx1 _ i (by rcases hv with rfl | rfl <;> omega)
    rw [this]
    exact zx.1 l c s hl hc hs
  obtain ⟨E2, fx2, qx2, jr3, fr3, qr3⟩ := meas_v hv j2 zv2 zx2 hl2 l22 hc2 c236 ((onN_c mE).mpr on2) hP2 e2 f3
  have k155 : ∀ c, c < 36 → x2.1 155 c = r3.1 183 (36 * l1 + c) := fun c hc => by rw [fx2 155 c (by omega), E1 c hc, fr3 183 _ (by omega), g1 _ (by omega)]
  have k156 : ∀ c, c < 36 → x2.1 156 c = r3.1 177 (36 * l2 + c) := E2
  have fr3R : ∀ kx i, kx ≠ 177 → kx ≠ 183 → r3.1 kx i = R.1 kx i := fun kx i h1 h2 => by rw [fr3 kx i h1]; exact fr2 kx i h1 h2
  have b177 : ∀ i, 0 ≤ (r3.1 177 i).toInt := fun i => (Jr_177 jr3 i).1
  have b183 : ∀ i, i < 72 → 0 ≤ (r3.1 183 i).toInt := fun i hi => by rw [fr3 183 i (by omega), g1 i hi]; exact (Jr_177 jr1 i).1
  -- the class's look round
  have fxa : ∀ kx i, kx ≠ 155 → kx ≠ 156 → x2.1 kx i = X.1 kx i := fun kx i h1 h2 => by rw [fx2 kx i h2]; exact fx1 kx i h1
  have qxa : x2.2 = X.2 := by rw [qx2, qx1]
  have hst : ∃ sv, f_Nets_stairs v0 x2 = some sv := by
    unfold f_Nets_stairs
    rw [if_pos (by rcases hv with rfl | rfl <;> decide +kernel)]
    exact ⟨_, rfl⟩
  obtain ⟨sv, hsv⟩ := hst
  have nb2 : NB v0 (onA R) 36 x2 := by
    intro l d hl
    rw [qxa]; exact nb l d hl
  have st := stairs_i hv jR kr nb2 hsv
  have S := soon_c hsv (fun c h => by
    have := (st c).mp h
    rw [k155 c (by omega), k156 c (by omega)]
    exact ⟨b183 _ (by omega), b177 _⟩) e9
  obtain ⟨W, hW⟩ : ∃ W : Nat, xw R * xh R = (W : Int) := ⟨(xw R * xh R).toNat, by omega⟩
  have W36 : W ≤ 36 := by omega
  have PE : pick (fun c => bl sv c) (fun c => mxi (x2.1 155 c) (x2.1 156 c)) 36 = pick (fun c => bl sv c) (fun c => mxi (x2.1 155 c) (x2.1 156 c)) W := by
    have := pick_s (P := fun c => bl sv c) (V := fun c => mxi (x2.1 155 c) (x2.1 156 c)) (k := W) (36 - W) (fun c h1 h2 => by
      cases hb : bl sv c with
      | false => rfl
      | true => have := ((st c).mp hb).1; omega)
    rwa [show W + (36 - W) = 36 by omega] at this
  have PB := pick_b (P := fun c => bl sv c) (V := fun c => mxi (x2.1 155 c) (x2.1 156 c)) (fun c h => by
    have := (st c).mp h
    unfold mxi
    rw [k155 c (by omega), k156 c (by omega)]
    have q1 := b183 (36 * l1 + c) (by omega)
    have q2 := b177 (36 * l2 + c)
    split
    · exact q2
    · exact q1) W
  -- the reference's
  have K : y13.1.toInt = (pick (fun c => bl sv c) (fun c => mxi (x2.1 155 c) (x2.1 156 c)) W).1 ∧ ((pick (fun c => bl sv c) (fun c => mxi (x2.1 155 c) (x2.1 156 c)) W).2 ≠ -1 → (y13.2.1 162 42).toInt = (pick (fun c => bl sv c) (fun c => mxi (x2.1 155 c) (x2.1 156 c)) W).2) ∧ (∀ kx i, ¬ (kx = 162 ∧ i = 42) → y13.2.1 kx i = r3.1 kx i) := by
    refine it_r (I := fun s : Int32 × Int32 × Mem => ∃ k : Nat, k ≤ W ∧ s.2.1.toInt = (k : Int) ∧ s.1.toInt = (pick (fun c => bl sv c) (fun c => mxi (x2.1 155 c) (x2.1 156 c)) k).1 ∧ ((pick (fun c => bl sv c) (fun c => mxi (x2.1 155 c) (x2.1 156 c)) k).2 ≠ -1 → (s.2.2.1 162 42).toInt = (pick (fun c => bl sv c) (fun c => mxi (x2.1 155 c) (x2.1 156 c)) k).2) ∧ (∀ kx i, ¬ (kx = 162 ∧ i = 42) → s.2.2.1 kx i = r3.1 kx i)) (Q := fun y13 : Int32 × Mem => y13.1.toInt = (pick (fun c => bl sv c) (fun c => mxi (x2.1 155 c) (x2.1 156 c)) W).1 ∧ ((pick (fun c => bl sv c) (fun c => mxi (x2.1 155 c) (x2.1 156 c)) W).2 ≠ -1 → (y13.2.1 162 42).toInt = (pick (fun c => bl sv c) (fun c => mxi (x2.1 155 c) (x2.1 156 c)) W).2) ∧ (∀ kx i, ¬ (kx = 162 ∧ i = 42) → y13.2.1 kx i = r3.1 kx i)) ?_ f13 ⟨0, by omega, rfl, rfl, fun h => absurd rfl h, fun _ _ _ => rfl⟩
    rintro ⟨bs, i, N⟩ u ⟨k, kW, hk, h1, h2, h3⟩ e
    dsimp only at hk h1 h2 h3
    unfold lb_Mod_findTryst_38 at e
    dsimp only at e
    obtain ⟨x4, e4, e⟩ := bo e
    have h4 : x4.toInt = (W : Int) := by
      unfold f_Mod_cells at e4
      obtain rfl := Option.some.inj e4
      rw [h3 162 2 (by omega), h3 162 3 (by omega), fr3R 162 2 (by omega) (by omega), fr3R 162 3 (by omega) (by omega)]
      rw [wh_ti jR]; exact hW
    rcases io e with ⟨g, e⟩ | ⟨g, e⟩
    · have := q_le g
      obtain rfl := Option.some.inj e
      have : k = W := by omega
      subst this
      exact ⟨h1, h2, h3⟩
    have g1 := q_ng g
    have i1 : (i + (1 : Int32)).toInt = ((k + 1 : Nat) : Int) := add_ti hk o1 (by omega) (by omega)
    obtain ⟨_, e⟩ := io_n e
    rw [q_nat hk, h3 164 k (by omega), fr3R 164 k (by omega) (by omega)] at e
    rcases io e with ⟨g3', e⟩ | ⟨g3', e⟩
    · have gb : bl sv k = true := (st k).mpr ⟨by omega, by rw [g3']; rfl⟩
      obtain ⟨_, e⟩ := io_n e
      obtain ⟨x5, e5, e⟩ := bo e
      obtain ⟨x6, e6, e⟩ := bo e
      obtain ⟨_, e⟩ := io_n e
      obtain ⟨_, e⟩ := io_n e
      obtain ⟨x7, e7, e⟩ := bo e
      obtain ⟨x8, e8, e⟩ := bo e
      obtain ⟨_, e⟩ := io_n e
      rw [q_nat hp, h3 163 p (by omega), fr3R 163 p (by omega) (by omega)] at e5
      rw [q_nat hq, h3 163 q (by omega), fr3R 163 q (by omega) (by omega)] at e7
      have v5 : x5.toInt = (l1 : Int) := by rw [(place_i (v := R.1 163 p) (by omega) (by omega)).2 e5]; omega
      have v7 : x7.toInt = (l2 : Int) := by rw [(place_i (v := R.1 163 q) (by omega) (by omega)).2 e7]; omega
      have v6 := place_c v5 hk l12 (by omega) e6
      have v8 := place_c v7 hk l22 (by omega) e8
      rw [q_nat v6, q_nat v8, h3 183 _ (by omega), h3 177 _ (by omega), ← k155 k (by omega), ← k156 k (by omega)] at e
      rcases io e with ⟨g, e⟩ | ⟨g, e⟩
      · have gl := q_lt g
        rw [mxi_i] at gl
        obtain ⟨M9, m9, e⟩ := mo e
        obtain rfl := Option.some.inj e
        refine ⟨k + 1, by omega, i1, ?_⟩
        have hlt : mxi (x2.1 155 k) (x2.1 156 k) < (pick (fun c => bl sv c) (fun c => mxi (x2.1 155 c) (x2.1 156 c)) k).1 := by omega
        rw [pick_p (P := fun c => bl sv c) (V := fun c => mxi (x2.1 155 c) (x2.1 156 c)) ⟨gb, hlt⟩]
        refine ⟨mxi_i _ _, fun _ => by rw [m9, si_eq]; exact hk, fun kx j h => by rw [m9, si_ne h]; exact h3 kx j h⟩
      · have gl := q_nl g
        rw [mxi_i] at gl
        obtain rfl := Option.some.inj e
        refine ⟨k + 1, by omega, i1, ?_⟩
        rw [pick_n (fun w => by have := w.2; omega)]
        exact ⟨h1, h2, h3⟩
    · have gb : ¬ bl sv k = true := fun h => g3' (Int32.toInt_inj.mp (((st k).mp h).2))
      obtain rfl := Option.some.inj e
      refine ⟨k + 1, by omega, i1, ?_⟩
      rw [pick_n (fun w => gb w.1)]
      exact ⟨h1, h2, h3⟩
  refine ⟨pick (fun c => bl sv c) (fun c => mxi (x2.1 155 c) (x2.1 156 c)) W, by rw [← PE]; exact S, K.1, PB.2.2.2.2.1, ⟨PB.1, PB.2.1, PB.2.2.1, by have := PB.2.2.2.1; omega⟩, K.2.1, fun c h => (PB.2.2.2.2.2 c h).symm, ⟨fxa, qxa⟩, fun kx i h1 h2 h3 => by rw [K.2.2 kx i h3]; exact fr3R kx i h1 h2⟩
theorem mw_2 {X R : Mem} {n : Nat} {a b x y : Int32} (zc : ZC X R n) (n8 : n ≤ 8) (ex : f_Top_areManAndWoman a b X = some x) (ey : f_Mod_areManWoman a b R = some y) : (x = 0 ∧ y = 0) ∨ (x = 1 ∧ y = 1 ∧ ∃ p q : Nat, a.toInt = (p : Int) ∧ b.toInt = (q : Int) ∧ p < n ∧ q < n) := by
  unfold f_Top_areManAndWoman at ex
  unfold f_Mod_areManWoman at ey
  obtain ⟨x1, ex1, ex⟩ := bo ex
  obtain ⟨y1, ey1, ey⟩ := bo ey
  have h1 := crowd_has (n := n) (by rw [zc.2.1]; exact zc.1) n8 ex1
  have g1 := isOne_i zc.1 n8 ey1
  rcases h1 with ⟨a1, b1⟩ | ⟨a1, b1⟩
  rotate_left
  · rcases g1 with ⟨_, c⟩ | ⟨c, _⟩
    · exact absurd c b1
    rw [a1, if_pos rfl] at ex
    rw [c, if_pos rfl] at ey
    exact .inl ⟨(Option.some.inj ex).symm, (Option.some.inj ey).symm⟩
  rcases g1 with ⟨c1, _⟩ | ⟨_, c⟩
  rotate_left
  · exact absurd b1 c
  rw [a1, if_neg (by decide)] at ex
  rw [c1, if_neg (by decide)] at ey
  obtain ⟨x2, ex2, ex⟩ := bo ex
  obtain ⟨y2, ey2, ey⟩ := bo ey
  have h2 := crowd_has (n := n) (by rw [zc.2.1]; exact zc.1) n8 ex2
  have g2 := isOne_i zc.1 n8 ey2
  rcases h2 with ⟨a2, b2⟩ | ⟨a2, b2⟩
  rotate_left
  · rcases g2 with ⟨_, c⟩ | ⟨c, _⟩
    · exact absurd c b2
    rw [a2, if_pos rfl] at ex
    rw [c, if_pos rfl] at ey
    exact .inl ⟨(Option.some.inj ex).symm, (Option.some.inj ey).symm⟩
  rcases g2 with ⟨c2, _⟩ | ⟨_, c⟩
  rotate_left
  · exact absurd b2 c
  rw [a2, if_neg (by decide)] at ex
  rw [c2, if_neg (by decide)] at ey
  obtain ⟨p, hp⟩ := ti_ofn b1.1
  obtain ⟨q, hq⟩ := ti_ofn b2.1
  obtain ⟨x3, ex3, ex⟩ := bo ex
  obtain ⟨y3, ey3, ey⟩ := bo ey
  have w3 := womanC hp (by omega) ex3
  have v3 := hasR hp (by omega) ey3
  rw [zc.2.2.1] at w3
  rcases io ex with ⟨g, ex⟩ | ⟨g, ex⟩
  · rw [if_pos (v3.mpr (w3.mp g))] at ey
    obtain ⟨x4, ex4, ex⟩ := bo ex
    obtain ⟨y4, ey4, ey⟩ := bo ey
    have w4 := womanC hq (by omega) ex4
    have v4 := hasR hq (by omega) ey4
    rw [zc.2.2.1] at w4
    rcases io ex with ⟨g, ex⟩ | ⟨g, ex⟩
    · rw [if_pos (v4.mpr (w4.mp g))] at ey
      exact .inl ⟨(Option.some.inj ex).symm, (Option.some.inj ey).symm⟩
    · rw [if_neg (fun h => g (w4.mpr (v4.mp h)))] at ey
      exact .inr ⟨(Option.some.inj ex).symm, (Option.some.inj ey).symm, p, q, hp, hq, by omega, by omega⟩
  · rw [if_neg (fun h => g (w3.mpr (v3.mp h)))] at ey
    exact .inl ⟨(Option.some.inj ex).symm, (Option.some.inj ey).symm⟩
theorem tryst_q {X R : Mem} {n : Nat} {a b : Int32} {x r : Int32 × Mem} (za : ZA X R n) (ex : f_Top_tryst a b X = some x) (er : f_Mod_tryst a b R = some r) : x.1 = r.1 ∧ (RR X R → RR x.2 r.2) := by
  have n8 := za.1.1
  have ym := om
  have kF : (1000000 : Int32).toInt = 1000000 := rfl
  unfold f_Mod_tryst at er
  obtain ⟨M1, m1, er⟩ := mo er
  obtain ⟨zaM, fqM⟩ := ZA_M1 za m1
  obtain ⟨_, jM, ⟨zg, zc, zl⟩, zs, zv, zw⟩ := zaM.1
  unfold f_Top_tryst at ex
  obtain ⟨x1, ex1, ex⟩ := bo ex
  obtain ⟨y2, ey2, er⟩ := bo er
  rcases mw_2 zc n8 ex1 ey2 with ⟨h1, h2⟩ | ⟨h1, h2, p, q, hp, hq, pn, qn⟩
  · rw [h1, if_pos rfl] at ex
    rw [h2, if_pos rfl] at er
    obtain rfl := Option.some.inj ex
    obtain rfl := Option.some.inj er
    exact ⟨rfl, FQ2_RR fqM⟩
  rw [h1, if_neg (by decide)] at ex
  rw [h2, if_neg (by decide)] at er
  obtain ⟨x2, ex2, ex⟩ := bo ex
  obtain ⟨y3, ey3, er⟩ := bo er
  obtain ⟨pk, s1, s2, s3, s4, s5, s6, s7, s8⟩ := soon_2 (.inl rfl) n8 jM zg.2.2.2 zs zv zw.1 zw.2 hp hq pn qn ex2 ey3
  rcases io ex with ⟨g, ex⟩ | ⟨g, ex⟩
  · have gg := q_eq g
    rw [if_pos (Int32.toInt_inj.mp (by rw [s2, s3.mpr (by omega)]; rfl))] at er
    obtain rfl := Option.some.inj ex
    obtain rfl := Option.some.inj er
    refine ⟨rfl, fun h => ?_⟩
    have h := FQ2_RR fqM h
    exact RR_f (s7.1 0 15 (by omega) (by omega)) (fun i => s7.1 161 i (by omega) (by omega)) (s8 162 12 (by omega) (by omega) (by omega)) (fun i => s8 168 i (by omega) (by omega) (by omega)) h
  · have gg := q_ne g
    rw [if_neg (fun h => by have := q_eq h; rw [s2] at this; have := s3.mp (by omega); omega)] at er
    obtain ⟨x3, e3, ex⟩ := bo ex
    obtain ⟨x4, e4, ex⟩ := bo ex
    obtain ⟨x5, e5, ex⟩ := bo ex
    obtain rfl := Option.some.inj ex
    obtain ⟨M4, m4, er⟩ := mo er
    obtain ⟨y5, ey5, er⟩ := bo er
    obtain rfl := Option.some.inj er
    obtain ⟨c, hc⟩ := ti_ofn (show 0 ≤ x2.1.toInt by omega)
    have em := empty_i e3
    have l4 := later_i hc e4
    rw [em.1 155 c (by omega), em.1 156 c (by omega), s6 c (by omega)] at l4
    have pf := put_i ey5
    refine ⟨?_, fun _ => RRn_r (by omega) (RR_n (RR_0 e3 m4) (by omega) (Int32.toInt_inj.mp (by rw [l4, s2])) e5 ey5)⟩
    show x2.1 = y5.1 162 42
    rw [pf 162 42 (by omega) (by omega), m4, si_ne (by omega)]
    exact Int32.toInt_inj.mp (by rw [s1, s5 (by omega)])
end
section
/-! bits: the lowest one -/
theorem pred_bits : ∀ (t N : Nat), N.testBit t = true → (∀ j, j < t → N.testBit j = false) → ∀ j, (N - 1).testBit j = if j < t then true else if j = t then false else N.testBit j := by
  intro t
  induction t with
  | zero =>
    intro N ht _ j
    rw [Nat.testBit_zero, decide_eq_true_eq] at ht
    cases j with
    | zero =>
      rw [if_neg (by omega), if_pos rfl, Nat.testBit_zero]
      exact decide_eq_false (by omega)
    | succ i =>
      rw [if_neg (by omega), if_neg (by omega), Nat.testBit_add_one, Nat.testBit_add_one, show (N - 1) / 2 = N / 2 by omega]
  | succ t ih =>
    intro N ht hl j
    have h0 := hl 0 (by omega)
    rw [Nat.testBit_zero, decide_eq_false_iff_not] at h0
    rw [Nat.testBit_add_one] at ht
    have pos : N / 2 ≠ 0 := by
      intro h
      rw [h, Nat.zero_testBit] at ht
      cases ht
    have hl2 : ∀ j, j < t → (N / 2).testBit j = false := fun j hj => by rw [← Nat.testBit_add_one]; exact hl (j + 1) (by omega)
    cases j with
    | zero =>
      rw [if_pos (by omega), Nat.testBit_zero]
      exact decide_eq_true (by omega)
    | succ i =>
      rw [Nat.testBit_add_one, show (N - 1) / 2 = N / 2 - 1 by omega, ih (N / 2) ht hl2 i, Nat.testBit_add_one]
      by_cases c : i < t
      · rw [if_pos c, if_pos (show i + 1 < t + 1 by omega)]
      · rw [if_neg c, if_neg (show ¬ i + 1 < t + 1 by omega)]
        by_cases g : i = t
        · rw [if_pos g, if_pos (show i + 1 = t + 1 by omega)]
        · rw [if_neg g, if_neg (show ¬ i + 1 = t + 1 by omega)]
theorem pred_bv {w : Nat} (hw : w ≠ 0) {v : BitVec w} {t : Nat} (ht : v.getLsbD t = true) (hl : ∀ j, j < t → v.getLsbD j = false) (j : Nat) : (v - 1#w).getLsbD j = if j < t then true else if j = t then false else v.getLsbD j := by
  have n0 : v.toNat ≠ 0 := by
    intro h
    have g : v.toNat.testBit t = true := ht
    rw [h, Nat.zero_testBit] at g
    cases g
  have e : (v - 1#w).toNat = v.toNat - 1 := by
    have k := v.isLt
    have p := Nat.one_lt_two_pow hw
    rw [BitVec.toNat_sub, BitVec.toNat_ofNat, Nat.mod_eq_of_lt p, show 2 ^ w - 1 + v.toNat = (v.toNat - 1) + 2 ^ w by omega, Nat.add_mod_right, Nat.mod_eq_of_lt (by omega)]
  show (v - 1#w).toNat.testBit j = _
  rw [e]
  exact pred_bits t v.toNat ht hl j
theorem bl_pop {x : Int64} {t : Nat} (ht : bl x t = true) (hl : ∀ j, j < t → bl x j = false) (d : Nat) : bl (x &&& (x - 1)) d = true ↔ (bl x d = true ∧ d ≠ t) := by
  have p : bl (x - 1) d = if d < t then true else if d = t then false else bl x d := pred_bv (w := 64) (by decide) ht hl d
  rw [bl_and, Bool.and_eq_true, p]
  constructor
  · rintro ⟨a, b⟩
    refine ⟨a, ?_⟩
    rintro rfl
    rw [if_neg (by omega), if_pos rfl] at b
    cases b
  · rintro ⟨a, b⟩
    refine ⟨a, ?_⟩
    by_cases c : d < t
    · rw [if_pos c]
    · rw [if_neg c, if_neg b]; exact a
theorem low_ex {P : Nat → Bool} : ∀ d, P d = true → ∃ t, P t = true ∧ ∀ j, j < t → P j = false := by
  intro d
  induction d using Nat.strongRecOn with
  | ind d ih =>
    intro h
    by_cases c : ∃ j, j < d ∧ P j = true
    · obtain ⟨j, hj, hp⟩ := c
      exact ih j hj hp
    · refine ⟨d, h, fun j hj => ?_⟩
      cases hp : P j with
      | false => rfl
      | true => exact absurd ⟨j, hj, hp⟩ c
def ntzX (X : Int32) : Option Int32 :=
  if 0 < X then
  if X ≤ (65536 : Int32) then j_JInteger_numberOfTrailingZeros_34 X (1 : Int32)
  else j_JInteger_numberOfTrailingZeros_34 ((X.toUInt32 >>> ((16 : Int32).toUInt32 &&& Int32.toUInt32 31)).toInt32) ((1 : Int32) + (16 : Int32))
  else some (X &&& (32 : Int32))
theorem ntzX_t : ∀ t : Fin 32, ntzX (Int32.ofBitVec (BitVec.ofNat 32 (2 ^ t.val - 1))) = some (Int32.ofNat t.val) := by decide +kernel
theorem ntz_i {v : Int32} {t : Nat} (t32 : t < 32) (ht : v.toBitVec.getLsbD t = true) (hl : ∀ j, j < t → v.toBitVec.getLsbD j = false) : f_JInteger_numberOfTrailingZeros v = some (Int32.ofNat t) := by
  have m1 : ∀ j : Fin 32, (-1 : Int32).toBitVec.getLsbD j.val = true := by decide +kernel
  have e : ((v ^^^ (-1 : Int32)) &&& (v - (1 : Int32))) = Int32.ofBitVec (BitVec.ofNat 32 (2 ^ t - 1)) := by
    refine Int32.toBitVec_inj.mp (BitVec.eq_of_getLsbD_eq ?_)
    intro j hj
    have p : (v - (1 : Int32)).toBitVec.getLsbD j = if j < t then true else if j = t then false else v.toBitVec.getLsbD j := pred_bv (w := 32) (by decide) ht hl j
    rw [Int32.toBitVec_and, Int32.toBitVec_xor, BitVec.getLsbD_and, BitVec.getLsbD_xor, m1 ⟨j, hj⟩, p]
    show _ = (BitVec.ofNat 32 (2 ^ t - 1)).getLsbD j
    rw [BitVec.getLsbD_ofNat, Nat.testBit_two_pow_sub_one]
    by_cases c : j < t
    · rw [if_pos c, hl j c, decide_eq_true c, decide_eq_true hj]; rfl
    · rw [if_neg c, decide_eq_false c, Bool.and_false]
      by_cases g : j = t
      · rw [if_pos g, Bool.and_false]
      · rw [if_neg g]; cases v.toBitVec.getLsbD j <;> rfl
  show ntzX ((v ^^^ (-1 : Int32)) &&& (v - (1 : Int32))) = _
  rw [e]
  exact ntzX_t ⟨t, t32⟩
theorem ti_ofNat {t : Nat} (h : t < 64) : (Int32.ofNat t).toInt = (t : Int) := by
  have : ∀ t : Fin 64, (Int32.ofNat t.val).toInt = (t.val : Int) := by decide +kernel
  exact this ⟨t, h⟩
theorem ntz_l {x : Int64} {y : Int32} {t : Nat} (ht : bl x t = true) (hl : ∀ j, j < t → bl x j = false) (e : f_JLong_numberOfTrailingZeros x = some y) : y.toInt = (t : Int) := by
  have t64 : t < 64 := by
    rcases Nat.lt_or_ge t 64 with h | h
    · exact h
    · rw [bl_hi h] at ht; cases ht
  have lo : ∀ j, j < 32 → x.toInt32.toBitVec.getLsbD j = bl x j := by
    intro j hj
    rw [Int64.toBitVec_toInt32, BitVec.getLsbD_signExtend, decide_eq_true hj, if_pos (by omega), Bool.true_and]
    rfl
  unfold f_JLong_numberOfTrailingZeros at e
  rcases Nat.lt_or_ge t 32 with c | c
  · have nz : ¬ x.toInt32 = 0 := by
      intro h
      have := lo t c
      rw [h, ht] at this
      have z : (0 : Int32).toBitVec.getLsbD t = false := BitVec.getLsbD_zero
      rw [z] at this; cases this
    rw [if_neg nz, ntz_i c (by rw [lo t c]; exact ht) (fun j hj => by rw [lo j (by omega)]; exact hl j hj)] at e
    have e : some (Int32.ofNat t) = some y := e
    obtain rfl := Option.some.inj e
    exact ti_ofNat t64
  · have z0 : x.toInt32 = 0 := by
      refine Int32.toBitVec_inj.mp (BitVec.eq_of_getLsbD_eq ?_)
      intro j hj
      rw [lo j hj, hl j (by omega)]
      exact BitVec.getLsbD_zero.symm
    have hi : ∀ j, j < 32 → (((x.toUInt64 >>> ((32 : Int32).toInt64.toUInt64 &&& Int64.toUInt64 63)).toInt64).toInt32).toBitVec.getLsbD j = bl x (32 + j) := by
      intro j hj
      rw [Int64.toBitVec_toInt32, BitVec.getLsbD_signExtend, decide_eq_true hj, if_pos (by omega), Bool.true_and, UInt64.toBitVec_toInt64, UInt64.toBitVec_shiftRight, BitVec.ushiftRight_eq']
      have s : (((32 : Int32).toInt64.toUInt64 &&& Int64.toUInt64 63).toBitVec % 64).toNat = 32 := by decide +kernel
      rw [s, BitVec.getLsbD_ushiftRight]
      rfl
    rw [if_pos z0, ntz_i (t := t - 32) (by omega) (by rw [hi _ (by omega), show 32 + (t - 32) = t by omega]; exact ht) (fun j hj => by rw [hi j (by omega)]; exact hl _ (by omega))] at e
    have e : some ((32 : Int32) + Int32.ofNat (t - 32)) = some y := e
    obtain rfl := Option.some.inj e
    have k32 : (32 : Int32).toInt = 32 := rfl
    rw [add_ti k32 (ti_ofNat (by omega)) (by omega) (by omega)]
    omega
end
section
/-! the class's flood: the least set that holds the first cell and is closed under steps to cells not barred -/
theorem flood_i {v0 l f : Nat} {v1 v2 : Int32} {bar y : Int64} {M : Mem} (hv : isN v0) (h1 : v1.toInt = (l : Int)) (l2 : l < 2) (h2 : v2.toInt = (f : Int)) (f36 : f < 36) (hN : ∀ c d, c < 36 → bl (M.2.1 (v0 + 2) (l * 36 + c)) d = true → d < 36) (e : f_Nets_flood v0 v1 v2 bar M = some y) : bl y f = true ∧ (∀ c, bl y c = true → c < 36) ∧ (∀ c d, bl y c = true → bl (M.2.1 (v0 + 2) (l * 36 + c)) d = true → bl bar d = false → bl y d = true) ∧ (∀ P : Nat → Prop, P f → (∀ c d, c < 36 → P c → bl (M.2.1 (v0 + 2) (l * 36 + c)) d = true → bl bar d = false → P d) → ∀ c, bl y c = true → P c) := by
  have k36 : (36 : Int32).toInt = 36 := rfl
  unfold f_Nets_flood at e
  obtain ⟨_, e⟩ := io_n e
  obtain ⟨x5, e5, e⟩ := bo e
  obtain rfl := Option.some.inj e
  have b1 := bl_one h2 (show f < 64 by omega)
  refine it_r (I := fun s : Int64 × Int64 × Int32 => ∃ q : Nat, q ≤ 36 ∧ s.2.2.toInt = (q : Int) ∧ bl s.1 f = true ∧ (∀ c, bl s.1 c = true → c < 36) ∧ (∀ c, bl s.2.1 c = true → bl s.1 c = true) ∧ (∀ c d, bl s.1 c = true → bl s.2.1 c = false → bl (M.2.1 (v0 + 2) (l * 36 + c)) d = true → bl bar d = false → bl s.1 d = true) ∧ (∀ P : Nat → Prop, P f → (∀ c d, c < 36 → P c → bl (M.2.1 (v0 + 2) (l * 36 + c)) d = true → bl bar d = false → P d) → ∀ c, bl s.1 c = true → P c) ∧ q ≤ (List.range 36).countP (fun c => bl s.1 c && !bl s.2.1 c)) (Q := fun y : Int64 => bl y f = true ∧ (∀ c, bl y c = true → c < 36) ∧ (∀ c d, bl y c = true → bl (M.2.1 (v0 + 2) (l * 36 + c)) d = true → bl bar d = false → bl y d = true) ∧ (∀ P : Nat → Prop, P f → (∀ c d, c < 36 → P c → bl (M.2.1 (v0 + 2) (l * 36 + c)) d = true → bl bar d = false → P d) → ∀ c, bl y c = true → P c)) ?_ e5 ⟨0, by omega, rfl, ?_⟩
  · rintro ⟨S, F, k⟩ r ⟨q, q36, hk, a1, a2, a3, a4, a5, a6⟩ e
    dsimp only at hk a1 a2 a3 a4 a5 a6
    unfold lb_Nets_flood_12 at e
    dsimp only at e
    rcases io e with ⟨g, e⟩ | ⟨g, e⟩
    · have g := q_le g
      obtain rfl := Option.some.inj e
      have all := cnt_all (P := fun c => bl S c && !bl F c) (n := 36) (by omega)
      refine ⟨a1, a2, fun c d hc hd hb => a4 c d hc ?_ hd hb, a5⟩
      have := all c (a2 c hc)
      cases hF : bl F c with
      | false => rfl
      | true => simp [hF] at this
    have g1 := q_ng g
    rcases io e with ⟨g, e⟩ | ⟨g, e⟩
    · have z := lc_0.mp g
      obtain rfl := Option.some.inj e
      exact ⟨a1, a2, fun c d hc hd hb => a4 c d hc (by rw [z, bl_0]) hd hb, a5⟩
    have nz : ¬ F = 0 := fun h => g (lc_0.mpr h)
    have ex : ∃ d, bl F d = true := by
      refine Classical.byContradiction (fun h => nz (bl_0i (fun d => ?_)))
      cases hF : bl F d with
      | false => rfl
      | true => exact absurd ⟨d, hF⟩ h
    obtain ⟨d0, hd0⟩ := ex
    obtain ⟨t, ht, hl⟩ := low_ex (P := fun d => bl F d) d0 hd0
    have ht : bl F t = true := ht
    have t36 := a2 t (a3 t ht)
    obtain ⟨x1, e1, e⟩ := bo e
    have n1 := ntz_l ht hl e1
    rw [if_neg (fun h => by have := q_le h; omega)] at e
    obtain ⟨_, e⟩ := io_n e
    unfold j_Nets_flood_78_12 at e
    obtain rfl := Option.some.inj e
    have i2 : (v1 * (36 : Int32) + x1).toInt = ((l * 36 + t : Nat) : Int) := by rw [add_ti (mul_ti h1 k36 (by omega) (by omega)) n1 (by omega) (by omega)]; omega
    have i1 : (k + (1 : Int32)).toInt = ((q + 1 : Nat) : Int) := add_ti hk o1 (by omega) (by omega)
    rw [(isN_r hv).2.1, q_nat i2]
    have hw : ∀ d, bl ((M.2.1 (v0 + 2) (l * 36 + t) &&& (S ^^^ (-1 : Int64))) &&& (bar ^^^ (-1 : Int64))) d = true ↔ (bl (M.2.1 (v0 + 2) (l * 36 + t)) d = true ∧ bl S d = false ∧ bl bar d = false) := by
      intro d
      rw [bl_and, bl_and, Bool.and_eq_true, Bool.and_eq_true]
      rcases Nat.lt_or_ge d 64 with h | h
      · rw [bl_not h, bl_not h, Bool.not_eq_true', Bool.not_eq_true', and_assoc]
      · rw [bl_hi (x := M.2.1 (v0 + 2) (l * 36 + t)) h]
        constructor
        · rintro ⟨⟨w, _⟩, _⟩; cases w
        · rintro ⟨w, _⟩; cases w
    generalize ((M.2.1 (v0 + 2) (l * 36 + t) &&& (S ^^^ (-1 : Int64))) &&& (bar ^^^ (-1 : Int64))) = w0 at hw ⊢
    have hS : ∀ d, bl (S ||| w0) d = true ↔ (bl S d = true ∨ bl w0 d = true) := fun d => by rw [bl_or, Bool.or_eq_true]
    have hF : ∀ d, bl ((F &&& (F - (1 : Int64))) ||| w0) d = true ↔ ((bl F d = true ∧ d ≠ t) ∨ bl w0 d = true) := fun d => by rw [bl_or, Bool.or_eq_true, bl_pop ht hl]
    have nF : ∀ d, bl ((F &&& (F - (1 : Int64))) ||| w0) d = false → ¬ bl w0 d = true ∧ (bl F d = false ∨ d = t) := by
      intro d h
      have n : ¬ bl ((F &&& (F - (1 : Int64))) ||| w0) d = true := by rw [h]; decide
      rw [hF] at n
      refine ⟨fun w => n (.inr w), ?_⟩
      cases hd : bl F d with
      | false => exact .inl rfl
      | true =>
        refine .inr (Classical.byContradiction (fun w => n (.inl ⟨hd, w⟩)))
    refine ⟨q + 1, by omega, i1, (hS f).mpr (.inl a1), ?_, ?_, ?_, ?_, ?_⟩
    · intro c hc
      rcases (hS c).mp hc with h | h
      · exact a2 c h
      · exact hN t c t36 ((hw c).mp h).1
    · intro c hc
      rcases (hF c).mp hc with h | h
      · exact (hS c).mpr (.inl (a3 c h.1))
      · exact (hS c).mpr (.inr h)
    · intro c d hc hf hd hb
      obtain ⟨n1', n2⟩ := nF c hf
      have hc' : bl S c = true := by
        rcases (hS c).mp hc with h | h
        · exact h
        · exact absurd h n1'
      rcases n2 with h | h
      · exact (hS d).mpr (.inl (a4 c d hc' h hd hb))
      · subst h
        cases hs : bl S d with
        | true => exact (hS d).mpr (.inl hs)
        | false => exact (hS d).mpr (.inr ((hw d).mpr ⟨hd, hs, hb⟩))
    · intro P pf pc c hc
      rcases (hS c).mp hc with h | h
      · exact a5 P pf pc c h
      · have w := (hw c).mp h
        exact pc t c t36 (a5 P pf pc t (a3 t ht)) w.1 w.2.2
    · have lt := cnt_lt (P := fun c => bl S c && !bl F c) (Q := fun c => bl (S ||| w0) c && !bl ((F &&& (F - (1 : Int64))) ||| w0) c) (n := 36) (c := t) t36 ?_ ?_ ?_
      · exact Nat.le_trans (Nat.succ_le_succ a6) lt
      · intro i _ h
        rw [Bool.and_eq_true, Bool.not_eq_true'] at h ⊢
        refine ⟨(hS i).mpr (.inl h.1), ?_⟩
        cases hb : bl ((F &&& (F - (1 : Int64))) ||| w0) i with
        | false => rfl
        | true =>
          rcases (hF i).mp hb with w | w
          · rw [h.2] at w; cases w.1
          · have := ((hw i).mp w).2.1
            rw [h.1] at this; cases this
      · rw [ht]; simp
      · rw [Bool.and_eq_true, Bool.not_eq_true']
        refine ⟨(hS t).mpr (.inl (a3 t ht)), ?_⟩
        cases hb : bl ((F &&& (F - (1 : Int64))) ||| w0) t with
        | false => rfl
        | true =>
          rcases (hF t).mp hb with w | w
          · exact absurd rfl w.2
          · have := ((hw t).mp w).2.1
            rw [a3 t ht] at this; cases this
  · dsimp only
    have one : ∀ c, bl ((1 : Int64) <<< (v2.toInt64 &&& 63)) c = true ↔ c = f := fun c => by rw [b1, decide_eq_true_eq]
    refine ⟨(one f).mpr rfl, fun c h => by have := (one c).mp h; omega, fun c h => h, fun c d h1 h2 => ?_, fun P pf pc c h => by rw [(one c).mp h]; exact pf, Nat.zero_le _⟩
    rw [h1] at h2; cases h2
/-- flooded from a cell: what a measure from it reaches -/
theorem flood_m {v0 l f : Nat} {v1 v2 : Int32} {y : Int64} {M : Mem} {D : Nat → Int} (hv : isN v0) (h1 : v1.toInt = (l : Int)) (l2 : l < 2) (h2 : v2.toInt = (f : Int)) (f36 : f < 36) (hN : ∀ c d, c < 36 → bl (M.2.1 (v0 + 2) (l * 36 + c)) d = true → d < 36) (e : f_Nets_flood v0 v1 v2 (0 : Int64) M = some y) (ms : MSR (fun c d => bl (M.2.1 (v0 + 2) (l * 36 + c)) d = true) f D) : ∀ c, bl y c = true ↔ (c < 36 ∧ D c < 1000000) := by
  obtain ⟨b1, b2, b3, b4⟩ := flood_i hv h1 l2 h2 f36 hN e
  obtain ⟨m1, m2, m3, m4⟩ := ms
  intro c
  constructor
  · intro h
    refine ⟨b2 c h, (b4 (fun c => c < 36 ∧ D c < 1000000) ⟨f36, by rw [m1]; decide⟩ ?_ c h).2⟩
    rintro c d hc ⟨_, hD⟩ hd _
    have k := m4 c hc hD d hd
    have k1 := (m2 c hc).2
    have k2 := (m2 d k.1).2
    exact ⟨k.1, by omega⟩
  · rintro ⟨hc, hD⟩
    have key : ∀ (m : Nat) (c : Nat), c < 36 → D c < 1000000 → (D c).toNat ≤ m → bl y c = true := by
      intro m
      induction m with
      | zero =>
        intro c hc hd hm
        rcases m3 c hc hd with h | ⟨c', hc', h1, h2⟩
        · subst h; exact b1
        · have := (m2 c' hc').1; omega
      | succ m ih =>
        intro c hc hd hm
        rcases m3 c hc hd with h | ⟨c', hc', h1, h2⟩
        · subst h; exact b1
        · have := (m2 c' hc').1
          exact b3 c' c (ih c' hc' (by omega) (by omega)) h2 (bl_0 c)
    exact key (D c).toNat c hc hD (Nat.le_refl _)
/-- the class floods, the reference finds -/
theorem flood_2 {X R r : Mem} {n l f : Nat} {v1 v2 p : Int32} {y : Int64} (hJ : J X) (jR : J R) (zv : ZV R (R.1 163) n) (zw : ZW X R 163) (h1 : v1.toInt = (l : Int)) (l2 : l < 2) (h2 : v2.toInt = (f : Int)) (f36 : f < 36) (onf : onN R l f) (hp : p.toInt = ((36 * l + f : Nat) : Int)) (ex : f_Nets_flood 32 v1 v2 (0 : Int64) X = some y) (er : f_Mod_findFar p R = some r) : (∀ c, bl y c = true ↔ (c < 36 ∧ (r.1 177 (36 * l + c)).toInt < 1000000)) ∧ J r ∧ (∀ kx i, kx ≠ 177 → r.1 kx i = R.1 kx i) := by
  have near : ∀ c d, c < 36 → bl (X.2.1 (32 + 2) (l * 36 + c)) d = true → d < 36 := fun c d hc h => ((near_go jR zv zw.2 l2 hc).mp h).2.1
  have ff := some_of (fs_findFar jR p (by omega)) er
  rw [hp] at ff
  have jr : J r := ff.1.1
  obtain ⟨x, ex2, _⟩ := sf_Nets_measure 32 v1 v2 155 X kd_32 ⟨by omega, by omega⟩ ⟨by omega, by omega⟩ FA_155 hJ
  obtain ⟨ms, _, _⟩ := meas_i (.inl rfl) h1 l2 h2 f36 near ex2
  have E := far_eq jR jr zv zw.2 l2 f36 onf ms ff
  refine ⟨fun c => ?_, jr, fun kx i h => ff.1.2.1 kx i h⟩
  rw [flood_m (.inl rfl) h1 l2 h2 f36 near ex ms c]
  constructor
  · rintro ⟨a, b⟩; exact ⟨a, by rw [← E c a]; exact b⟩
  · rintro ⟨a, b⟩; exact ⟨a, by rw [E c a]; exact b⟩
end
section
/-! part: the map with stairs closed -/
def CSx (R S : Mem) (C : Nat → Bool) : Prop := S.1 162 2 = R.1 162 2 ∧ S.1 162 3 = R.1 162 3 ∧ (∀ i, S.1 163 i = R.1 163 i) ∧ (∀ i, C i = false → S.1 164 i = R.1 164 i) ∧ (∀ i, C i = true → R.1 164 i = 3 ∧ S.1 164 i = 2)
theorem onS_x {R S : Mem} {C : Nat → Bool} (cs : CSx R S C) {l : Nat} (l2 : l < 2) {x : Int} : onN S (l : Int) x ↔ (onN R (l : Int) x ∧ ¬ (l = 0 ∧ C x.toNat = true)) := by
  obtain ⟨f2, f3, _, f0, f1⟩ := cs
  have w1 : xw S = xw R := congrArg Int32.toInt f2
  have w2 : xh S = xh R := congrArg Int32.toInt f3
  have k2 : (2 : Int32).toInt = 2 := rfl
  have k3 : (3 : Int32).toInt = 3 := rfl
  unfold onN
  rw [w1, w2]
  cases hc : C x.toNat with
  | false =>
    rw [f0 _ hc]
    constructor
    · intro h; exact ⟨h, fun w => absurd w.2 (by decide)⟩
    · intro h; exact h.1
  | true =>
    obtain ⟨a, b⟩ := f1 _ hc
    rw [a, b]
    by_cases z : l = 0
    · subst z
      constructor
      · rintro ⟨_, _, h⟩
        rw [if_pos (by rfl)] at h
        omega
      · rintro ⟨_, h⟩; exact absurd ⟨rfl, rfl⟩ h
    · rw [if_neg (by omega), if_neg (by omega)]
      constructor
      · rintro ⟨h1, h2, _⟩; exact ⟨⟨h1, h2, .inr k3⟩, fun w => z w.1⟩
      · rintro ⟨⟨h1, h2, _⟩, _⟩; exact ⟨h1, h2, .inl k2⟩
theorem plkS {R S : Mem} {C : Nat → Bool} (cs : CSx R S C) {a b : Int} : plk S 163 a b ↔ plk R 163 a b := by
  unfold plk plkA
  rw [cs.2.2.1 92]
  simp only [cs.2.2.1]
theorem KPS {R S : Mem} {C : Nat → Bool} (cs : CSx R S C) (kp : KP R 163 0) : KP S 163 0 := by
  intro j hj
  rw [cs.2.2.1] at hj
  have := kp j hj
  rw [cs.2.2.1, cs.2.2.1]
  exact ⟨(onS_x cs (l := 1) (by omega)).mpr ⟨this.1, by omega⟩, (onS_x cs (l := 1) (by omega)).mpr ⟨this.2, by omega⟩⟩
theorem goS {R S : Mem} {C : Nat → Bool} (cs : CSx R S C) {l c d : Nat} (l2 : l < 2) (c36 : c < 36) {s : Int} (s3 : s ≤ 3) : goR S 163 ((36 * l + c : Nat) : Int) s ((36 * l + d : Nat) : Int) ↔ (goR R 163 ((36 * l + c : Nat) : Int) s ((36 * l + d : Nat) : Int) ∧ ¬ (l = 0 ∧ C d = true)) := by
  have pm : ((36 * l + c : Nat) : Int) % 36 = (c : Int) := by omega
  have pd : ((36 * l + c : Nat) : Int) / 36 = (l : Int) := by omega
  have w1 : xw S = xw R := congrArg Int32.toInt cs.1
  have w2 : xh S = xh R := congrArg Int32.toInt cs.2.1
  unfold goR
  rw [pm, pd, w1, w2]
  constructor
  · rintro (⟨h, _⟩ | ⟨h4, ⟨g1, g2⟩ | ⟨g1, g2, g3⟩ | ⟨g1, g2, g3, g4⟩ | ⟨g1, g2, g3, g4, g5, g6⟩ | ⟨g1, g2, g3, g4, g5⟩⟩)
    · omega
    · omega
    · obtain ⟨a, b⟩ := (onS_x cs l2).mp g2
      have e : bes (xw R) (xh R) c s = (d : Int) := by omega
      have e2 : (bes (xw R) (xh R) c s).toNat = d := by omega
      rw [e2] at b
      exact ⟨.inr ⟨h4, .inr (.inl ⟨g1, a, g3⟩)⟩, b⟩
    · omega
    · have l1 : l ≠ 0 := by omega
      exact ⟨.inr ⟨h4, .inr (.inr (.inr (.inl ⟨g1, fun w => g2 ((onS_x cs l2).mpr ⟨w, fun z => l1 z.1⟩), g3, g4, (plkS cs).mp g5, g6⟩)))⟩, fun z => l1 z.1⟩
    · omega
  · rintro ⟨⟨h, _⟩ | ⟨h4, ⟨g1, g2⟩ | ⟨g1, g2, g3⟩ | ⟨g1, g2, g3, g4⟩ | ⟨g1, g2, g3, g4, g5, g6⟩ | ⟨g1, g2, g3, g4, g5⟩⟩, b⟩
    · omega
    · omega
    · have e2 : (bes (xw R) (xh R) c s).toNat = d := by omega
      exact .inr ⟨h4, .inr (.inl ⟨g1, (onS_x cs l2).mpr ⟨g2, by rw [e2]; exact b⟩, g3⟩)⟩
    · omega
    · exact .inr ⟨h4, .inr (.inr (.inr (.inl ⟨g1, fun w => g2 ((onS_x cs l2).mp w).1, g3, g4, (plkS cs).mpr g5, g6⟩)))⟩
    · omega
theorem far72 {M r : Mem} (h : J M) (hk : KP M 163 0) {p : Int} (hp : onP M p) (hf : FF M p r) {n : Nat} (hn : n < 72) (hd : (r.1 177 n).toInt < 1000000) : (r.1 177 n).toInt < 72 := by
  have jr : J r := hf.1.1
  have b := (Jr_177 jr n).1
  have dn : ∀ k : Nat, (k : Int) ≤ (r.1 177 n).toInt → ∃ q : Nat, q < 72 ∧ (r.1 177 q).toInt = (r.1 177 n).toInt - (k : Int) := by
    intro k
    induction k with
    | zero => intro _; exact ⟨n, hn, by omega⟩
    | succ k ih =>
      intro hk9
      obtain ⟨q, q72, e⟩ := ih (by omega)
      obtain ⟨q', h1, _, _, _, _, h2⟩ := nearer h hk hp hf q72 (by omega) (by omega)
      exact ⟨q', h1, by omega⟩
  have up : ∀ m : Nat, (m : Int) ≤ (r.1 177 n).toInt → m + 1 ≤ (List.range 72).countP (fun q => decide ((r.1 177 q).toInt ≤ (m : Int))) := by
    intro m
    induction m with
    | zero =>
      intro _
      obtain ⟨q, q72, e⟩ := dn (r.1 177 n).toInt.toNat (by omega)
      have := cnt_lt (P := fun _ => false) (Q := fun q => decide ((r.1 177 q).toInt ≤ ((0 : Nat) : Int))) (n := 72) q72 (fun _ _ w => by cases w) rfl (decide_eq_true (by omega))
      omega
    | succ m ih =>
      intro hm
      have i := ih (by omega)
      obtain ⟨q, q72, e⟩ := dn ((r.1 177 n).toInt.toNat - (m + 1)) (by omega)
      have := cnt_lt (P := fun q => decide ((r.1 177 q).toInt ≤ (m : Int))) (Q := fun q => decide ((r.1 177 q).toInt ≤ ((m + 1 : Nat) : Int))) (n := 72) q72 (fun i _ w => decide_eq_true (by have := of_decide_eq_true w; omega)) (decide_eq_false (by omega)) (decide_eq_true (by omega))
      omega
  rcases Int.lt_or_le (r.1 177 n).toInt 72 with z | z
  · exact z
  · have a := up 72 (by omega)
    have := cnt_le (fun q => decide ((r.1 177 q).toInt ≤ ((72 : Nat) : Int))) 72
    omega
theorem roam_r {X R S r : Mem} {n l f : Nat} {C : Nat → Bool} {bar y : Int64} {v1 v2 p : Int32} (jR : J R) (jS : J S) (zv : ZV R (R.1 163) n) (zw : ZW X R 163) (cs : CSx R S C) (hbar : ∀ d, d < 36 → (bl bar d = true ↔ l = 0 ∧ C d = true)) (h1 : v1.toInt = (l : Int)) (l2 : l < 2) (h2 : v2.toInt = (f : Int)) (f36 : f < 36) (onf : onN S l f) (hp : p.toInt = ((36 * l + f : Nat) : Int)) (ex : f_Nets_flood 32 v1 v2 bar X = some y) (er : f_Mod_findFar p S = some r) : (∀ c, bl y c = true ↔ (c < 36 ∧ (r.1 177 (36 * l + c)).toInt < 1000000)) ∧ J r ∧ (∀ kx i, kx ≠ 177 → r.1 kx i = S.1 kx i) ∧ r.2 = S.2 := by
  have near : ∀ c d, c < 36 → bl (X.2.1 (32 + 2) (l * 36 + c)) d = true → d < 36 := fun c d hc h => ((near_go jR zv zw.2 l2 hc).mp h).2.1
  have ff := some_of (fs_findFar jS p (by omega)) er
  rw [hp] at ff
  have kpS := KPS cs (KP_v zv)
  have onp : onP S ((36 * l + f : Nat) : Int) := (onP_lc l2 f36).mpr onf
  have jr : J r := ff.1.1
  have q0 : (r.1 177 (36 * l + f)).toInt = 0 := ff.1.2.2.2.1
  obtain ⟨y1, y2, y3, y4⟩ := flood_i (.inl rfl) h1 l2 h2 f36 near ex
  refine ⟨fun c => ⟨fun hy => ?_, fun ⟨hc, hd⟩ => ?_⟩, jr, fun kx i h => ff.1.2.1 kx i h, ff.1.2.2.1⟩
  · refine y4 (fun c => c < 36 ∧ (r.1 177 (36 * l + c)).toInt < 1000000) ⟨f36, by omega⟩ ?_ c hy
    rintro c d hc ⟨_, hd⟩ hn hb
    obtain ⟨_, d36, s, s0, s3, g⟩ := (near_go jR zv zw.2 l2 hc).mp hn
    have gS := (goS cs l2 hc s3).mpr ⟨g, fun w => by rw [(hbar d d36).mpr w] at hb; cases hb⟩
    have b72 := far72 jS kpS onp ff (n := 36 * l + c) (by omega) hd
    have := ff.2 (36 * l + c) (by omega) hd s s0 s3 _ gS (by omega)
    rw [show (((36 * l + d : Nat) : Int)).toNat = 36 * l + d by omega, show (((36 * l + c : Nat) : Int)).toNat = 36 * l + c by omega] at this
    exact ⟨d36, by omega⟩
  · have dn : ∀ (m : Nat) (k : Nat), k < 72 → (r.1 177 k).toInt < 1000000 → (r.1 177 k).toInt.toNat ≤ m → ∃ c, c < 36 ∧ k = 36 * l + c ∧ bl y c = true := by
      intro m
      induction m with
      | zero =>
        intro k hk hd hm
        rcases ff.1.2.2.2.2 k hk hd with h | ⟨q, hq, s, s0, s3, g, h⟩
        · exact ⟨f, f36, by omega, y1⟩
        · have := (Jr_177 jr q).1; omega
      | succ m ih =>
        intro k hk hd hm
        rcases ff.1.2.2.2.2 k hk hd with h | ⟨q, hq, s, s0, s3, g, h⟩
        · exact ⟨f, f36, by omega, y1⟩
        · have bq := (Jr_177 jr q).1
          obtain ⟨c', hc', e', hy⟩ := ih q hq (by omega) (by omega)
          subst e'
          obtain ⟨d, d36, hd'⟩ := go_lev jS (by omega) ⟨s0, s3⟩ g (by omega)
          have e2 : k = 36 * l + d := by omega
          subst e2
          obtain ⟨gR, nb⟩ := (goS cs l2 hc' s3).mp g
          have onS := far_on jS kpS onp ff ((r.1 177 (36 * l + c')).toInt.toNat) (36 * l + c') hq (by omega) (Nat.le_refl _)
          have onR := ((onS_x cs l2).mp ((onP_lc l2 hc').mp onS)).1
          refine ⟨d, d36, rfl, y3 c' d hy ((near_go jR zv zw.2 l2 hc').mpr ⟨onR, d36, s, s0, s3, gR⟩) ?_⟩
          cases hb : bl bar d with
          | false => rfl
          | true => exact absurd ((hbar d d36).mp hb) nb
    obtain ⟨c', hc', e', hy⟩ := dn ((r.1 177 (36 * l + c)).toInt.toNat) (36 * l + c) (by omega) hd (Nat.le_refl _)
    have : c' = c := by omega
    subst this
    exact hy
end
section
/-! part: may two meet, with stairs closed -/
theorem find_l {N : Mem} {v1 v2 : Int32} {p q la lb ca cb : Nat} {wv : Int} (hw : ((N.1 162 2) * (N.1 162 3)).toInt = wv) (w36 : wv ≤ 36) (hp : v1.toInt = (p : Int)) (hq : v2.toInt = (q : Int)) (ha : (N.1 163 p).toInt = ((36 * la + ca : Nat) : Int)) (hb : (N.1 163 q).toInt = ((36 * lb + cb : Nat) : Int)) (la2 : la < 2) (lb2 : lb < 2) (ca36 : ca < 36) (cb36 : cb < 36) (bd : ∀ i, (N.1 183 i).toInt ≤ 1000000 ∧ (N.1 177 i).toInt ≤ 1000000) {x : Int32 × Mem} (e : iter (lb_Mod_findTryst_38 v1 v2) FU ((1000000 : Int32), (0 : Int32), N) = some x) : (x.1 = 1000000 ↔ ∀ c : Nat, (c : Int) < wv → N.1 164 c = 3 → ¬ ((N.1 183 (36 * la + c)).toInt < 1000000 ∧ (N.1 177 (36 * lb + c)).toInt < 1000000)) ∧ (∀ kx i, ¬ (kx = 162 ∧ i = 42) → x.2.1 kx i = N.1 kx i) ∧ x.2.2 = N.2 := by
  have z36 : (36 : Int32).toInt = 36 := rfl
  have kF : (1000000 : Int32).toInt = 1000000 := rfl
  have key : (x.1.toInt = 1000000 ↔ ∀ c : Nat, (c : Int) < wv → N.1 164 c = 3 → ¬ ((N.1 183 (36 * la + c)).toInt < 1000000 ∧ (N.1 177 (36 * lb + c)).toInt < 1000000)) ∧ (∀ kx i, ¬ (kx = 162 ∧ i = 42) → x.2.1 kx i = N.1 kx i) ∧ x.2.2 = N.2 := by
    refine it_r (I := fun s : Int32 × Int32 × Mem => ∃ k : Nat, s.2.1.toInt = (k : Int) ∧ k ≤ 36 ∧ s.1.toInt ≤ 1000000 ∧ (s.1.toInt = 1000000 ↔ ∀ c : Nat, c < k → N.1 164 c = 3 → ¬ ((N.1 183 (36 * la + c)).toInt < 1000000 ∧ (N.1 177 (36 * lb + c)).toInt < 1000000)) ∧ ((k : Int) ≤ wv ∨ k = 0) ∧ (∀ kx i, ¬ (kx = 162 ∧ i = 42) → s.2.2.1 kx i = N.1 kx i) ∧ s.2.2.2 = N.2)
      (Q := fun x : Int32 × Mem => (x.1.toInt = 1000000 ↔ ∀ c : Nat, (c : Int) < wv → N.1 164 c = 3 → ¬ ((N.1 183 (36 * la + c)).toInt < 1000000 ∧ (N.1 177 (36 * lb + c)).toInt < 1000000)) ∧ (∀ kx i, ¬ (kx = 162 ∧ i = 42) → x.2.1 kx i = N.1 kx i) ∧ x.2.2 = N.2) ?_ e ⟨0, rfl, by omega, by show (1000000 : Int32).toInt ≤ _; omega, ⟨fun _ c hc => absurd hc (by omega), fun _ => rfl⟩, .inr rfl, fun _ _ _ => rfl, rfl⟩
    rintro ⟨m, kv, P⟩ r ⟨k, hk, k36, mF, iff, kw, fP, nP⟩ e
    dsimp only at hk mF iff fP nP
    unfold lb_Mod_findTryst_38 at e
    dsimp only at e
    obtain ⟨x4, e4, e⟩ := bo e
    have e4 := cells_e.symm.trans e4
    obtain rfl := Option.some.inj e4
    rw [fP 162 2 (by omega), fP 162 3 (by omega)] at e
    rcases io e with ⟨g, e⟩ | ⟨g, e⟩
    · have := q_le g
      obtain rfl := Option.some.inj e
      refine ⟨?_, fP, nP⟩
      refine iff.trans ⟨fun h c hc => h c (by omega), fun h c hc => h c ?_⟩
      rcases kw with w | w
      · omega
      · omega
    have g1 := q_ng g
    have b1 : (kv + (1 : Int32)).toInt = ((k + 1 : Nat) : Int) := add_ti hk o1 (by omega) (by omega)
    obtain ⟨_, e⟩ := io_n e
    rw [q_nat hk, fP 164 k (by omega)] at e
    have nos : N.1 164 k ≠ 3 → ∀ m9 : Int32, m9 = m → (m9.toInt = 1000000 ↔ ∀ c : Nat, c < k + 1 → N.1 164 c = 3 → ¬ ((N.1 183 (36 * la + c)).toInt < 1000000 ∧ (N.1 177 (36 * lb + c)).toInt < 1000000)) := by
      rintro hn m9 rfl
      refine iff.trans ⟨fun h c hc h3 => ?_, fun h c hc => h c (by omega)⟩
      by_cases q : c = k
      · subst q; exact absurd h3 hn
      · exact h c (by omega) h3
    rcases io e with ⟨g3, e⟩ | ⟨g3, e⟩
    rotate_left
    · obtain rfl := Option.some.inj e
      exact ⟨k + 1, b1, by omega, mF, nos g3 m rfl, .inl (by omega), fP, nP⟩
    obtain ⟨_, e⟩ := io_n e
    rw [q_nat hp, fP 163 p (by omega)] at e
    obtain ⟨x5, e5, e⟩ := bo e
    unfold f_Mod_levelOf at e5
    obtain rfl := Option.some.inj e5
    obtain ⟨x6, e6, e⟩ := bo e
    unfold f_Mod_placeOf at e6
    obtain rfl := Option.some.inj e6
    obtain ⟨_, e⟩ := io_n e
    obtain ⟨_, e⟩ := io_n e
    rw [q_nat hq, fP 163 q (by omega)] at e
    obtain ⟨x7, e7, e⟩ := bo e
    unfold f_Mod_levelOf at e7
    obtain rfl := Option.some.inj e7
    obtain ⟨x8, e8, e⟩ := bo e
    unfold f_Mod_placeOf at e8
    obtain rfl := Option.some.inj e8
    obtain ⟨_, e⟩ := io_n e
    have da : (N.1 163 p / (36 : Int32)).toInt = (la : Int) := by rw [div_ti ha z36 (by omega) (by omega)]; omega
    have db : (N.1 163 q / (36 : Int32)).toInt = (lb : Int) := by rw [div_ti hb z36 (by omega) (by omega)]; omega
    have ia : ((36 : Int32) * (N.1 163 p / (36 : Int32)) + kv).toInt = ((36 * la + k : Nat) : Int) := by rw [add_ti (mul_ti z36 da (by omega) (by omega)) hk (by omega) (by omega)]; omega
    have ib : ((36 : Int32) * (N.1 163 q / (36 : Int32)) + kv).toInt = ((36 * lb + k : Nat) : Int) := by rw [add_ti (mul_ti z36 db (by omega) (by omega)) hk (by omega) (by omega)]; omega
    rw [q_nat ia, q_nat ib, fP 183 _ (by omega), fP 177 _ (by omega)] at e
    have bA := (bd (36 * la + k)).1
    have bB := (bd (36 * lb + k)).2
    have mx : ∃ t : Int, (if N.1 183 (36 * la + k) < N.1 177 (36 * lb + k) then N.1 177 (36 * lb + k) else N.1 183 (36 * la + k)).toInt = t ∧ (N.1 183 (36 * la + k)).toInt ≤ t ∧ (N.1 177 (36 * lb + k)).toInt ≤ t ∧ (t = (N.1 183 (36 * la + k)).toInt ∨ t = (N.1 177 (36 * lb + k)).toInt) := by
      by_cases z : N.1 183 (36 * la + k) < N.1 177 (36 * lb + k)
      · have := q_lt z
        rw [if_pos z]; exact ⟨_, rfl, by omega, by omega, .inr rfl⟩
      · have := q_nl z
        rw [if_neg z]; exact ⟨_, rfl, by omega, by omega, .inl rfl⟩
    obtain ⟨t, ht, t1, t2, t3⟩ := mx
    rcases io e with ⟨g5, e⟩ | ⟨g5, e⟩
    · have h5 := q_lt g5
      rw [ht] at h5
      obtain ⟨M9, m9, e⟩ := mo e
      obtain rfl := Option.some.inj e
      refine ⟨k + 1, b1, by omega, by dsimp only; omega, ?_, .inl (by omega), fun kx i h => ?_, ?_⟩
      · dsimp only
        rw [ht]
        refine ⟨fun w => by omega, fun h => absurd ⟨by omega, by omega⟩ (h k (by omega) g3)⟩
      · show M9.1 kx i = _
        rw [m9, si_ne (by omega)]; exact fP kx i h
      · show M9.2 = _
        rw [m9, si_2]; exact nP
    · have h5 := q_nl g5
      rw [ht] at h5
      obtain rfl := Option.some.inj e
      refine ⟨k + 1, b1, by omega, mF, ?_, .inl (by omega), fP, nP⟩
      refine iff.trans ⟨fun h c hc h3 => ?_, fun h c hc => h c (by omega)⟩
      by_cases q9 : c = k
      · subst q9
        have hm := iff.mpr h
        rintro ⟨u1, u2⟩
        omega
      · exact h c (by omega) h3
  exact ⟨⟨fun h => key.1.mp (by rw [h]; exact kF), fun h => Int32.toInt_inj.mp ((key.1.mpr h).trans kF.symm)⟩, key.2⟩
theorem roaming_i {X : Mem} {a : Int32} {p l c : Nat} {bar y : Int64} {C : Nat → Bool} (hp : a.toInt = (p : Int)) (hl : (X.1 13 p).toInt = (l : Int)) (hb : ∀ d, d < 36 → (bl bar d = true ↔ C d = true)) (e : f_Top_roaming a bar X = some y) : ∃ bar', f_Nets_flood 32 (X.1 13 p) (X.1 12 p) bar' X = some y ∧ ∀ d, d < 36 → (bl bar' d = true ↔ l = 0 ∧ C d = true) := by
  have z0 := o0
  unfold f_Top_roaming at e
  obtain ⟨_, e⟩ := io_n e
  obtain ⟨_, e⟩ := io_n e
  rw [q_nat hp] at e
  have fin : ∀ b9, j_Top_roaming_36 b9 (X.1 12 p) (X.1 13 p) X = some y → f_Nets_flood 32 (X.1 13 p) (X.1 12 p) b9 X = some y := by
    intro b9 e
    unfold j_Top_roaming_36 at e
    obtain ⟨x1, e1, e⟩ := bo e
    obtain rfl := Option.some.inj e
    exact e1
  rcases io e with ⟨g, e⟩ | ⟨g, e⟩
  · have := q_eq g
    exact ⟨bar, fin _ e, fun d hd => (hb d hd).trans ⟨fun h => ⟨by omega, h⟩, fun h => h.2⟩⟩
  · have := q_ne g
    refine ⟨0, fin _ e, fun d hd => ?_⟩
    rw [bl_0]
    exact ⟨fun h => absurd h (by decide), fun h => absurd h.1 (by omega)⟩
theorem may_r {X R S : Mem} {n p q : Nat} {C : Nat → Bool} {a b : Int32} {bar : Int64} {x : Int32} {r : Int32 × Mem} (n8 : n ≤ 8) (jR : J R) (jS : J S) (kr : ∀ i, i < 36 → 0 ≤ (R.1 164 i).toInt ∧ (R.1 164 i).toInt ≤ 3) (zs : ZS (scn X 11) (R.1 163) n) (zv : ZV R (R.1 163) n) (zw : ZW X R 163) (cs : CSx R S C) (hbar : ∀ d, d < 36 → (bl bar d = true ↔ C d = true)) (hp : a.toInt = (p : Int)) (hq : b.toInt = (q : Int)) (pn : p < n) (qn : q < n) (offa : C (X.1 12 p).toInt.toNat = false) (offb : C (X.1 12 q).toInt.toNat = false) (ex : f_Top_canTryst a b bar X = some x) (er : f_Mod_findTryst a b S = some r) : (x = 0 ↔ r.1 = 1000000) ∧ (x = 0 ∨ x = 1) ∧ (∀ kx i, kx ≠ 177 → kx ≠ 183 → ¬ (kx = 162 ∧ i = 42) → r.2.1 kx i = S.1 kx i) := by
  have wh := awh jR
  have k3 : (3 : Int32).toInt = 3 := rfl
  obtain ⟨la, ca, la2, ca36, hla, hca, hPa, ona⟩ := at_2 n8 zs zv pn
  obtain ⟨lb, cb, lb2, cb36, hlb, hcb, hPb, onb⟩ := at_2 n8 zs zv qn
  have onaS : onN S la ca := (onS_x cs la2).mpr ⟨ona, fun w => by
    have := w.2
    rw [hca] at offa
    rw [offa] at this; cases this⟩
  have onbS : onN S lb cb := (onS_x cs lb2).mpr ⟨onb, fun w => by
    have := w.2
    rw [hcb] at offb
    rw [offb] at this; cases this⟩
  unfold f_Top_canTryst at ex
  obtain ⟨y1, ey1, ex⟩ := bo ex
  obtain ⟨y2, ey2, ex⟩ := bo ex
  obtain ⟨y3, ey3, ex⟩ := bo ex
  obtain ⟨b1, fl1, hb1⟩ := roaming_i (c := 0) hp hla hbar ey1
  obtain ⟨b2, fl2, hb2⟩ := roaming_i (c := 0) hq hlb hbar ey2
  unfold f_Mod_findTryst at er
  obtain ⟨_, er⟩ := io_n er
  obtain ⟨r1, f1, er⟩ := bo er
  obtain ⟨r2, f2, er⟩ := bo er
  obtain ⟨_, er⟩ := io_n er
  obtain ⟨r3, f3, er⟩ := bo er
  obtain ⟨y13, f13, er⟩ := bo er
  obtain rfl := Option.some.inj er
  rw [q_nat hp, cs.2.2.1] at f1
  rw [q_nat hq] at f3
  obtain ⟨A1, jr1, fr1, nr1⟩ := roam_r jR jS zv zw cs hb1 hla la2 hca ca36 onaS hPa fl1 f1
  obtain ⟨g1, g2, g3⟩ := copy_r (by omega) f2
  have j2 := (some_of (sf_Mod_copy 177 183 r1 (.inl rfl) (.inr (.inr (.inr rfl))) jr1) f2).1
  have fr2 : ∀ kx i, kx ≠ 177 → kx ≠ 183 → r2.1 kx i = S.1 kx i := fun kx i h1 h2 => by rw [g2 kx i h2]; exact fr1 kx i h1
  have cs2 : CSx R r2 C := ⟨by rw [fr2 162 2 (by omega) (by omega)]; exact cs.1, by rw [fr2 162 3 (by omega) (by omega)]; exact cs.2.1, fun i => by rw [fr2 163 i (by omega) (by omega)]; exact cs.2.2.1 i, fun i h => by rw [fr2 164 i (by omega) (by omega)]; exact cs.2.2.2.1 i h, fun i h => by rw [fr2 164 i (by omega) (by omega)]; exact cs.2.2.2.2 i h⟩
  have onb2 : onN r2 lb cb := (onS_x cs2 lb2).mpr ((onS_x cs lb2).mp onbS)
  rw [fr2 163 q (by omega) (by omega), cs.2.2.1] at f3
  obtain ⟨A2, jr3, fr3, nr3⟩ := roam_r jR j2 zv zw cs2 hb2 hlb lb2 hcb cb36 onb2 hPb fl2 f3
  have fr3S : ∀ kx i, kx ≠ 177 → kx ≠ 183 → r3.1 kx i = S.1 kx i := fun kx i h1 h2 => by rw [fr3 kx i h1]; exact fr2 kx i h1 h2
  have w1 : xw r3 = xw R := congrArg Int32.toInt ((fr3S 162 2 (by omega) (by omega)).trans cs.1)
  have w2 : xh r3 = xh R := congrArg Int32.toInt ((fr3S 162 3 (by omega) (by omega)).trans cs.2.1)
  have hw : ((r3.1 162 2) * (r3.1 162 3)).toInt = xw R * xh R := by rw [wh_ti jr3, w1, w2]
  have b183 : ∀ i, (r3.1 183 i).toInt ≤ 1000000 := fun i => by
    exact (Jr_183 jr3 i).2
  obtain ⟨L1, L2, L3⟩ := find_l hw wh.2 hp hq (by rw [fr3S 163 p (by omega) (by omega), cs.2.2.1]; exact hPa) (by rw [fr3S 163 q (by omega) (by omega), cs.2.2.1]; exact hPb) la2 lb2 ca36 cb36 (fun i => ⟨b183 i, (Jr_177 jr3 i).2⟩) f13
  have k183 : ∀ c, c < 36 → (r3.1 183 (36 * la + c)).toInt = (r1.1 177 (36 * la + c)).toInt := fun c hc => by rw [fr3 183 _ (by omega), g1 _ (by omega)]
  have st := stairs_i (.inl rfl) jR kr zw.1 ey3
  -- a place for both
  have ok : (∃ c : Nat, bl (((y1 &&& y2) &&& y3) &&& (bar ^^^ (-1 : Int64))) c = true) ↔ ∃ c : Nat, (c : Int) < xw R * xh R ∧ r3.1 164 c = 3 ∧ (r3.1 183 (36 * la + c)).toInt < 1000000 ∧ (r3.1 177 (36 * lb + c)).toInt < 1000000 := by
    constructor
    · rintro ⟨c, h⟩
      rw [bl_and, bl_and, bl_and, Bool.and_eq_true, Bool.and_eq_true, Bool.and_eq_true] at h
      obtain ⟨⟨⟨h1, h2⟩, h3⟩, h4⟩ := h
      obtain ⟨c36, d1⟩ := (A1 c).mp h1
      obtain ⟨_, d2⟩ := (A2 c).mp h2
      obtain ⟨cw, s3⟩ := (st c).mp h3
      rw [bl_not (by omega)] at h4
      have nc : C c = false := by
        cases hc : C c with
        | false => rfl
        | true => rw [(hbar c c36).mpr hc] at h4; cases h4
      refine ⟨c, cw, ?_, by rw [k183 c c36]; exact d1, d2⟩
      rw [fr3S 164 c (by omega) (by omega), cs.2.2.2.1 c nc]
      exact Int32.toInt_inj.mp (s3.trans k3.symm)
    · rintro ⟨c, cw, s3, d1, d2⟩
      have c36 : c < 36 := by omega
      rw [fr3S 164 c (by omega) (by omega)] at s3
      rw [k183 c c36] at d1
      have nc : C c = false := by
        cases hc : C c with
        | false => rfl
        | true =>
          have := (cs.2.2.2.2 c hc).2
          rw [s3] at this
          exact absurd this (by decide)
      refine ⟨c, ?_⟩
      rw [bl_and, bl_and, bl_and, Bool.and_eq_true, Bool.and_eq_true, Bool.and_eq_true, bl_not (by omega)]
      refine ⟨⟨⟨(A1 c).mpr ⟨c36, d1⟩, (A2 c).mpr ⟨c36, d2⟩⟩, (st c).mpr ⟨cw, ?_⟩⟩, ?_⟩
      · rw [← cs.2.2.2.1 c nc, s3]; exact k3
      · cases hb : bl bar c with
        | false => rfl
        | true => rw [(hbar c c36).mp hb] at nc; cases nc
  have fr : ∀ kx i, kx ≠ 177 → kx ≠ 183 → ¬ (kx = 162 ∧ i = 42) → y13.2.1 kx i = S.1 kx i := fun kx i h1 h2 h3 => by rw [L2 kx i h3]; exact fr3S kx i h1 h2
  rcases io ex with ⟨g, ex⟩ | ⟨g, ex⟩
  · have g0 := lc_0.mp g
    obtain rfl := Option.some.inj ex
    refine ⟨⟨fun _ => ?_, fun _ => rfl⟩, .inl rfl, fr⟩
    show y13.1 = 1000000
    refine L1.mpr (fun c cw s3 d => ?_)
    obtain ⟨c', h⟩ := ok.mpr ⟨c, cw, s3, d.1, d.2⟩
    rw [g0, bl_0] at h
    cases h
  · obtain rfl := Option.some.inj ex
    refine ⟨⟨fun h => absurd h (by decide), fun h => ?_⟩, .inr rfl, fr⟩
    have all := L1.mp h
    refine absurd (lc_0.mpr (bl_0i (fun c => ?_))) g
    cases hb : bl (((y1 &&& y2) &&& y3) &&& (bar ^^^ (-1 : Int64))) c with
    | false => rfl
    | true =>
      obtain ⟨c', a9, b9, d1, d2⟩ := ok.mp ⟨c, hb⟩
      exact absurd ⟨d1, d2⟩ (all c' a9 b9)
end
section
/-! part: closing stairs one behind the other -/
theorem sr_0 {x : Int64} (hx : ∀ d, bl x d = true → d < 36) {v : Int32} {s : Nat} (hv : v.toInt = (s : Int)) (s36 : s < 36) : x >>> (v.toInt64 &&& 63) = 0 ↔ ∀ d, bl x d = true → d < s := by
  constructor
  · intro h d hd
    rcases Nat.lt_or_ge d s with g | g
    · exact g
    · have e := bl_sr (x := x) hv (by omega) (i := d - s) (by have := hx d hd; omega)
      rw [h, bl_0, show s + (d - s) = d by omega, hd] at e
      cases e
  · intro h
    refine bl_ext (fun i hi => ?_)
    rw [bl_0]
    have no : ∀ d, s ≤ d → bl x d = false := fun d hd => by
      cases hb : bl x d with
      | false => rfl
      | true => have := h d hb; omega
    by_cases g : s + i < 64
    · rw [bl_sr hv (by omega) g]; exact no _ (by omega)
    · have m : x.toBitVec.getLsbD (64 - 1) = false := no 63 (by omega)
      unfold bl
      rw [Int64.toBitVec_shiftRight, BitVec.sshiftRight_eq', smd6_v hv (by omega), BitVec.getLsbD_sshiftRight, if_neg g, BitVec.msb_eq_getLsbD_last, m, Bool.and_false]
theorem nn_64 {x : Int64} (hx : ∀ d, bl x d = true → d < 36) : ¬ lg_cmp x (0 : Int64) < 0 := by
  have m : x.toBitVec.msb = false := by
    rw [BitVec.msb_eq_getLsbD_last]
    cases hb : x.toBitVec.getLsbD (64 - 1) with
    | false => rfl
    | true => have := hx 63 hb; omega
  rw [lg_cmp_lt, Int64.lt_iff_toInt_lt]
  have e : x.toInt = (x.toBitVec.toNat : Int) := BitVec.toInt_eq_toNat_of_msb m
  have z : (0 : Int64).toInt = 0 := rfl
  omega
def PC (rc : Int32 → Int32 → Int64 → Int32 → Int64 → Mem → Option Int64) (X : Mem) (v1 v2 : Int32) (v3 : Int64) (v5 : Int32) (v6 : Int64) (s : Nat) (P : Int64 → Prop) : Prop := ∃ (sv : Int32) (z : Int64), sv.toInt = (s : Int) ∧ rc v1 v2 v3 (v5 - (1 : Int32)) (v6 ||| ((1 : Int64) <<< (sv.toInt64 &&& 63))) X = some z ∧ P z
theorem pbyl_r {rc : Int32 → Int32 → Int64 → Int32 → Int64 → Mem → Option Int64} {X : Mem} {v1 v2 v5 : Int32} {v3 v6 : Int64} {w lo : Nat} (hw : (X.1 3 3).toInt = (w : Int)) (w36 : w ≤ 36) (hx : ∀ d, bl v6 d = true → d < 36) (hlo : ∀ s, lo ≤ s ↔ ∀ d, bl v6 d = true → d < s) {x : Unit ⊕ Int64} (e : iter (lb_Top_partedBy_28 rc v1 v2 v3 v5 v6 X) FU (0 : Int32) = some x) :
    Sum.elim (fun _ : Unit => ∀ s : Nat, s < w → lo ≤ s → bl v3 s = true → PC rc X v1 v2 v3 v5 v6 s (fun z => lg_cmp z (0 : Int64) < 0)) (fun z : Int64 => ¬ lg_cmp z (0 : Int64) < 0 ∧ ∃ s : Nat, s < w ∧ lo ≤ s ∧ bl v3 s = true ∧ PC rc X v1 v2 v3 v5 v6 s (fun z => ¬ lg_cmp z (0 : Int64) < 0)) x := by
  refine it_r (I := fun s : Int32 => ∃ k : Nat, s.toInt = (k : Int) ∧ k ≤ 36 ∧ ∀ s : Nat, s < k → lo ≤ s → bl v3 s = true → PC rc X v1 v2 v3 v5 v6 s (fun z => lg_cmp z (0 : Int64) < 0))
    (Q := fun x : Unit ⊕ Int64 => Sum.elim (fun _ : Unit => ∀ s : Nat, s < w → lo ≤ s → bl v3 s = true → PC rc X v1 v2 v3 v5 v6 s (fun z => lg_cmp z (0 : Int64) < 0)) (fun z : Int64 => ¬ lg_cmp z (0 : Int64) < 0 ∧ ∃ s : Nat, s < w ∧ lo ≤ s ∧ bl v3 s = true ∧ PC rc X v1 v2 v3 v5 v6 s (fun z => ¬ lg_cmp z (0 : Int64) < 0)) x) ?_ e ⟨0, rfl, by omega, fun s h => absurd h (by omega)⟩
  rintro sv r ⟨k, hk, k36, ih⟩ e
  unfold lb_Top_partedBy_28 at e
  rcases io e with ⟨g, e⟩ | ⟨g, e⟩
  · have := q_le g
    obtain rfl := Option.some.inj e
    show ∀ s : Nat, s < w → lo ≤ s → bl v3 s = true → PC rc X v1 v2 v3 v5 v6 s (fun z => lg_cmp z (0 : Int64) < 0)
    exact fun s hs => ih s (by omega)
  have g1 := q_ng g
  have b1 : (sv + (1 : Int32)).toInt = ((k + 1 : Nat) : Int) := add_ti hk o1 (by omega) (by omega)
  have nx : (lo ≤ k → bl v3 k = true → PC rc X v1 v2 v3 v5 v6 k (fun z => lg_cmp z (0 : Int64) < 0)) → ∃ k' : Nat, (sv + (1 : Int32)).toInt = (k' : Int) ∧ k' ≤ 36 ∧ ∀ s : Nat, s < k' → lo ≤ s → bl v3 s = true → PC rc X v1 v2 v3 v5 v6 s (fun z => lg_cmp z (0 : Int64) < 0) := fun h => ⟨k + 1, b1, by omega, fun s hs h1 h2 => by
    by_cases q : s = k
    · subst q; exact h h1 h2
    · exact ih s (by omega) h1 h2⟩
  rcases io e with ⟨g2, e⟩ | ⟨g2, e⟩
  · have lk9 : lo ≤ k := (hlo k).mpr ((sr_0 hx hk (by omega)).mp (lc_0.mp g2))
    unfold j_Top_partedBy_55_28 at e
    rw [if_neg (by decide)] at e
    rcases io e with ⟨g3, e⟩ | ⟨g3, e⟩
    · have h3 := (bl_cmp hk (by omega)).mp g3
      obtain rfl := Option.some.inj e
      exact nx (fun _ h => by rw [h3] at h; cases h)
    have h3 : bl v3 k = true := by
      cases hb : bl v3 k with
      | true => rfl
      | false => exact absurd ((bl_cmp hk (by omega)).mpr hb) g3
    obtain ⟨z, ez, e⟩ := bo e
    rcases io e with ⟨g4, e⟩ | ⟨g4, e⟩
    · obtain rfl := Option.some.inj e
      exact nx (fun _ _ => ⟨sv, z, hk, ez, g4⟩)
    · obtain rfl := Option.some.inj e
      show ¬ lg_cmp z (0 : Int64) < 0 ∧ _
      exact ⟨g4, k, by omega, lk9, h3, sv, z, hk, ez, g4⟩
  · have lk9 : ¬ lo ≤ k := fun h => g2 (lc_0.mpr ((sr_0 hx hk (by omega)).mpr ((hlo k).mp h)))
    unfold j_Top_partedBy_55_28 at e
    rw [if_pos rfl] at e
    obtain rfl := Option.some.inj e
    exact nx (fun h => absurd h lk9)
def PR (R : Mem) (F : Nat) (a b i i4 : Int32) (v6 : Int64) (s : Nat) (P : Int32 → Prop) : Prop := ∃ (M5 : Mem) (sv : Int32) (y : Int32 × Mem), sv.toInt = (s : Int) ∧ CSx R M5 (fun d => bl (v6 ||| ((1 : Int64) <<< (sv.toInt64 &&& 63))) d) ∧ J M5 ∧ fr_parts F a b (i + (1 : Int32)) i4 (sv + (1 : Int32)) M5 = some y ∧ P y.1
theorem CS_gd {R S N : Mem} {C : Nat → Bool} (cs : CSx R S C) (g : Gd 1000 S N) : CSx R N C := by
  have e : ∀ i, N.1 164 i = S.1 164 i := fun i => g 164 i (.inl ⟨rfl, by decide⟩)
  exact ⟨(g 162 2 (.inl ⟨rfl, by decide⟩)).trans cs.1, (g 162 3 (.inl ⟨rfl, by decide⟩)).trans cs.2.1, fun i => (g 163 i (.inl ⟨rfl, by decide⟩)).trans (cs.2.2.1 i), fun i h => (e i).trans (cs.2.2.2.1 i h), fun i h => ⟨(cs.2.2.2.2 i h).1, (e i).trans (cs.2.2.2.2 i h).2⟩⟩
theorem partsl_r {X R : Mem} {n p q ca cb w lo F : Nat} {a b i i4 fm : Int32} {v6 : Int64} {S : Mem} {x : Mem ⊕ Mem} (zq : ZQ X R n) (hp : a.toInt = (p : Int)) (hq : b.toInt = (q : Int)) (pn : p < n) (qn : q < n) (hca : (X.1 12 p).toInt = (ca : Int)) (hcb : (X.1 12 q).toInt = (cb : Int)) (hw : xw R * xh R = (w : Int)) (w36 : w ≤ 36) (i0 : 0 ≤ i.toInt) (ii : i.toInt + 1 ≤ i4.toInt) (i3 : i4.toInt ≤ 3) (fu : i4.toInt - (i.toInt + 1) < (F : Int)) (hfm : fm.toInt = (lo : Int)) (lo36 : lo ≤ 36) (hb6 : ∀ d, bl v6 d = true → d < lo) (cs : CSx R S (fun d => bl v6 d)) (jS : J S) (e : iter (lb_Mod_parts_28 (fr_parts F) a b i i4) FU (fm, S) = some x) :
    Sum.elim (fun _ : Mem => ∀ s : Nat, s < w → lo ≤ s → (R.1 164 s).toInt = 3 → s ≠ ca → s ≠ cb → PR R F a b i i4 v6 s (fun y => y = 0)) (fun _ : Mem => ∃ s : Nat, s < w ∧ lo ≤ s ∧ (R.1 164 s).toInt = 3 ∧ s ≠ ca ∧ s ≠ cb ∧ PR R F a b i i4 v6 s (fun y => y ≠ 0)) x := by
  have n8 := zq.1
  have z3 := o3
  refine it_r (I := fun s : Int32 × Mem => ∃ k : Nat, s.1.toInt = (k : Int) ∧ k ≤ 36 ∧ lo ≤ k ∧ J s.2 ∧ CSx R s.2 (fun d => bl v6 d) ∧ ∀ s' : Nat, s' < k → lo ≤ s' → (R.1 164 s').toInt = 3 → s' ≠ ca → s' ≠ cb → PR R F a b i i4 v6 s' (fun y => y = 0))
    (Q := fun x : Mem ⊕ Mem => Sum.elim (fun _ : Mem => ∀ s : Nat, s < w → lo ≤ s → (R.1 164 s).toInt = 3 → s ≠ ca → s ≠ cb → PR R F a b i i4 v6 s (fun y => y = 0)) (fun _ : Mem => ∃ s : Nat, s < w ∧ lo ≤ s ∧ (R.1 164 s).toInt = 3 ∧ s ≠ ca ∧ s ≠ cb ∧ PR R F a b i i4 v6 s (fun y => y ≠ 0)) x) ?_ e ⟨lo, hfm, lo36, Nat.le_refl _, jS, cs, fun s h1 h2 => absurd h1 (by omega)⟩
  clear cs jS e
  rintro ⟨sv, N⟩ r ⟨k, hk, k36, lk9, jN, cs, ih⟩ e
  dsimp only at hk jN cs
  unfold lb_Mod_parts_28 at e
  dsimp only at e
  obtain ⟨x4, e4, e⟩ := bo e
  have e4 := cells_e.symm.trans e4
  obtain rfl := Option.some.inj e4
  have we := wh_ti jN
  rw [show xw N = xw R from congrArg Int32.toInt cs.1, show xh N = xh R from congrArg Int32.toInt cs.2.1, hw] at we
  rcases io e with ⟨g, e⟩ | ⟨g, e⟩
  · have := q_le g
    obtain rfl := Option.some.inj e
    show ∀ s : Nat, s < w → _
    exact fun s hs => ih s (by omega)
  have g1 := q_ng g
  have b1 : (sv + (1 : Int32)).toInt = ((k + 1 : Nat) : Int) := add_ti hk o1 (by omega) (by omega)
  have nx : ∀ K : Mem, J K → CSx R K (fun d => bl v6 d) → ((R.1 164 k).toInt = 3 → k ≠ ca → k ≠ cb → PR R F a b i i4 v6 k (fun y => y = 0)) → ∃ k' : Nat, (sv + (1 : Int32)).toInt = (k' : Int) ∧ k' ≤ 36 ∧ lo ≤ k' ∧ J K ∧ CSx R K (fun d => bl v6 d) ∧ ∀ s' : Nat, s' < k' → lo ≤ s' → (R.1 164 s').toInt = 3 → s' ≠ ca → s' ≠ cb → PR R F a b i i4 v6 s' (fun y => y = 0) := fun K h1 h2 h => ⟨k + 1, b1, by omega, by omega, h1, h2, fun s hs u1 u2 u3 u4 => by
    by_cases q9 : s = k
    · subst q9; exact h u2 u3 u4
    · exact ih s (by omega) u1 u2 u3 u4⟩
  have nk : bl v6 k = false := by
    cases hb : bl v6 k with
    | false => rfl
    | true => have := hb6 k hb; omega
  have ek : N.1 164 k = R.1 164 k := cs.2.2.2.1 k nk
  obtain ⟨_, e⟩ := io_n e
  rw [q_nat hk] at e
  rcases io e with ⟨g2, e⟩ | ⟨g2, e⟩
  rotate_left
  · obtain rfl := Option.some.inj e
    exact nx N jN cs (fun h => absurd (by rw [ek]; exact Int32.toInt_inj.mp (h.trans z3.symm)) g2)
  obtain ⟨_, e⟩ := io_n e
  rw [q_nat hp, cs.2.2.1 p] at e
  obtain ⟨x2, e2, e⟩ := bo e
  have c2 := (whr zq pn).1 x2 e2
  rcases io e with ⟨g3, e⟩ | ⟨g3, e⟩
  · obtain rfl := Option.some.inj e
    refine nx N jN cs (fun _ h => absurd ?_ h)
    rw [g3, c2] at hk; omega
  obtain ⟨_, e⟩ := io_n e
  rw [q_nat hq, cs.2.2.1 q] at e
  obtain ⟨x3, e3, e⟩ := bo e
  have c3 := (whr zq qn).1 x3 e3
  rcases io e with ⟨g4, e⟩ | ⟨g4, e⟩
  · obtain rfl := Option.some.inj e
    refine nx N jN cs (fun _ _ h => absurd ?_ h)
    rw [g4, c3] at hk; omega
  have nca : k ≠ ca := fun h => g3 (Int32.toInt_inj.mp (by rw [c2]; omega))
  have ncb : k ≠ cb := fun h => g4 (Int32.toInt_inj.mp (by rw [c3]; omega))
  have r3 : R.1 164 k = 3 := by rw [← ek]; exact g2
  obtain ⟨_, e⟩ := io_n e
  obtain ⟨M4, m4, e⟩ := mo e
  obtain ⟨_, e⟩ := io_n e
  obtain ⟨M5, m5, e⟩ := mo e
  obtain ⟨x6, e6, e⟩ := bo e
  obtain ⟨_, e⟩ := io_n e
  obtain ⟨M7, m7, e⟩ := mo e
  have j5 : J M5 := by rw [m5]; exact Jw_any ok_164 (by rw [m4]; exact Jw_any ok_184 jN _ _) _ _
  have f5 : ∀ kx j, kx ≠ 184 → ¬ (kx = 164 ∧ j = k) → M5.1 kx j = N.1 kx j := fun kx j h1 h2 => by rw [m5, si_ne (by omega), m4, si_ne (by omega)]
  have cs5 : CSx R M5 (fun d => bl (v6 ||| ((1 : Int64) <<< (sv.toInt64 &&& 63))) d) := by
    refine ⟨(f5 162 2 (by omega) (by omega)).trans cs.1, (f5 162 3 (by omega) (by omega)).trans cs.2.1, fun j => (f5 163 j (by omega) (by omega)).trans (cs.2.2.1 j), fun j hj => ?_, fun j hj => ?_⟩
    · dsimp only at hj
      rw [bl_or, bl_one hk (by omega), Bool.or_eq_false_iff] at hj
      have := of_decide_eq_false hj.2
      exact (f5 164 j (by omega) (by omega)).trans (cs.2.2.2.1 j hj.1)
    · dsimp only at hj
      rw [bl_or, bl_one hk (by omega), Bool.or_eq_true, decide_eq_true_iff] at hj
      by_cases z : j = k
      · subst z
        exact ⟨r3, by rw [m5, si_eq]⟩
      · rcases hj with hj | hj
        · exact ⟨(cs.2.2.2.2 j hj).1, (f5 164 j (by omega) (by omega)).trans (cs.2.2.2.2 j hj).2⟩
        · exact absurd hj z
  have i1 : (i + (1 : Int32)).toInt = i.toInt + 1 := add_ti rfl o1 (by omega) (by omega)
  obtain ⟨j6, g6, _⟩ := some_of (sp_parts a b (by omega) (by omega) F (i + (1 : Int32)) i4 (sv + (1 : Int32)) M5 j5 (by omega) (by omega) i3 (by omega) (by omega) (by omega)) e6
  have cs6 := CS_gd cs5 g6
  have j7 : J M7 := by rw [m7]; exact Jw_any ok_164 j6 _ _
  have f7 : ∀ kx j, ¬ (kx = 164 ∧ j = k) → M7.1 kx j = x6.2.1 kx j := fun kx j h => by rw [m7, si_ne h]
  have cs7 : CSx R M7 (fun d => bl v6 d) := by
    refine ⟨(f7 162 2 (by omega)).trans cs6.1, (f7 162 3 (by omega)).trans cs6.2.1, fun j => (f7 163 j (by omega)).trans (cs6.2.2.1 j), fun j hj => ?_, fun j hj => ?_⟩
    · by_cases z : j = k
      · subst z; rw [m7, si_eq, r3]
      · refine (f7 164 j (by omega)).trans (cs6.2.2.2.1 j ?_)
        dsimp only
        rw [bl_or, bl_one hk (by omega), decide_eq_false z, Bool.or_false]; exact hj
    · have z : j ≠ k := fun h => by subst h; dsimp only at hj; rw [nk] at hj; cases hj
      have := cs6.2.2.2.2 j (by dsimp only; rw [bl_or]; dsimp only at hj; rw [hj]; rfl)
      exact ⟨this.1, (f7 164 j (by omega)).trans this.2⟩
  rcases io e with ⟨g8, e⟩ | ⟨g8, e⟩
  · obtain rfl := Option.some.inj e
    exact nx M7 j7 cs7 (fun _ _ _ => ⟨M5, sv, x6, hk, cs5, j5, e6, g8⟩)
  · obtain rfl := Option.some.inj e
    show ∃ s : Nat, s < w ∧ _
    exact ⟨k, by omega, lk9, by rw [r3]; rfl, nca, ncb, M5, sv, x6, hk, cs5, j5, e6, g8⟩
end
section
/-! part: both go through the same closings -/
theorem cls_1 {w ca cb lo s : Nat} {R : Mem} {v3 v6 : Int64} {sv : Int32} (hv3 : ∀ d, bl v3 d = true ↔ d < w ∧ (R.1 164 d).toInt = 3 ∧ d ≠ ca ∧ d ≠ cb) (w36 : w ≤ 36) (hs : sv.toInt = (s : Int)) (sw : s < w) (ls : lo ≤ s) (h3 : bl v3 s = true) (hsub : ∀ d, bl v6 d = true → bl v3 d = true) (hlo : ∀ s, lo ≤ s ↔ ∀ d, bl v6 d = true → d < s) : (∀ d, bl (v6 ||| ((1 : Int64) <<< (sv.toInt64 &&& 63))) d = true → bl v3 d = true) ∧ ∀ t, s + 1 ≤ t ↔ ∀ d, bl (v6 ||| ((1 : Int64) <<< (sv.toInt64 &&& 63))) d = true → d < t := by
  have m : ∀ d, bl (v6 ||| ((1 : Int64) <<< (sv.toInt64 &&& 63))) d = true ↔ bl v6 d = true ∨ d = s := fun d => by
    rw [bl_or, bl_one hs (by omega), Bool.or_eq_true, decide_eq_true_iff]
  refine ⟨fun d hd => ?_, fun t => ⟨fun ht d hd => ?_, fun h => ?_⟩⟩
  · rcases (m d).mp hd with h | h
    · exact hsub d h
    · subst h; exact h3
  · rcases (m d).mp hd with h | h
    · have := (hlo s).mp ls d h; omega
    · omega
  · have := h s ((m s).mpr (.inr rfl)); omega
theorem pby_2 {X R : Mem} {n p q ca cb w : Nat} {a b : Int32} {v3 : Int64} (zq : ZQ X R n) (hp : a.toInt = (p : Int)) (hq : b.toInt = (q : Int)) (pn : p < n) (qn : q < n) (hca : (X.1 12 p).toInt = (ca : Int)) (hcb : (X.1 12 q).toInt = (cb : Int)) (hw : xw R * xh R = (w : Int)) (w36 : w ≤ 36) (hv3 : ∀ d, bl v3 d = true ↔ d < w ∧ (R.1 164 d).toInt = 3 ∧ d ≠ ca ∧ d ≠ cb) :
    ∀ (k F1 F2 lo : Nat) (a5 i i4 fm : Int32) (v6 : Int64) (S : Mem) (x : Int64) (y : Int32 × Mem), a5.toInt = (k : Int) → 0 ≤ i.toInt → i4.toInt = i.toInt + (k : Int) → i4.toInt ≤ 3 → k < F2 → fm.toInt = (lo : Int) → lo ≤ 36 → (∀ d, bl v6 d = true → bl v3 d = true) → (∀ s, lo ≤ s ↔ ∀ d, bl v6 d = true → d < s) → CSx R S (fun d => bl v6 d) → J S → fr_pby F1 a b v3 a5 v6 X = some x → fr_parts F2 a b i i4 fm S = some y → (¬ lg_cmp x (0 : Int64) < 0 ↔ y.1 ≠ 0) := by
  have zq' := zq
  obtain ⟨n8, jR, ⟨zg, zc, zl⟩, zs, zv, zw⟩ := zq'
  have neg : lg_cmp (-1 : Int64) (0 : Int64) < 0 := by decide
  have z0 := o0
  intro k
  induction k with
  | zero =>
    intro F1 F2 lo a5 i i4 fm v6 S x y h5 i0 hi4 i3 hF hfm l36 hsub hlo cs jS ex ey
    cases F1 with
    | zero => exact nomatch (show (none : Option Int64) = some x from ex)
    | succ F1 =>
    obtain ⟨F, rfl⟩ : ∃ F, F2 = F + 1 := ⟨F2 - 1, by omega⟩
    have ex : fb_Top_partedBy (fr_pby F1) a b v3 a5 v6 X = some x := ex
    have ey : fb_Mod_parts (fr_parts F) a b i i4 fm S = some y := ey
    have b6 : ∀ d, bl v6 d = true → d < 36 := fun d h => by have := ((hv3 d).mp (hsub d h)).1; omega
    have oca : bl v6 ca = false := by
      cases hb : bl v6 ca with
      | false => rfl
      | true => exact absurd rfl ((hv3 ca).mp (hsub ca hb)).2.2.1
    have ocb : bl v6 cb = false := by
      cases hb : bl v6 cb with
      | false => rfl
      | true => exact absurd rfl ((hv3 cb).mp (hsub cb hb)).2.2.2
    unfold fb_Top_partedBy at ex
    rcases io ex with ⟨g, _⟩ | ⟨_, ex⟩
    · have := q_lt g; omega
    obtain ⟨x10, e10, ex⟩ := bo ex
    unfold fb_Mod_parts at ey
    rcases io ey with ⟨_, ey⟩ | ⟨g, _⟩
    rotate_left
    · exact absurd (Int32.toInt_inj.mp (by omega)) g
    obtain ⟨x16, e16, ey⟩ := bo ey
    obtain ⟨mr, m01, _⟩ := may_r n8 jR jS zg.2.2.2 zs zv zw cs (fun d _ => Iff.rfl) hp hq pn qn (by show bl v6 _ = false; rw [hca, Int.toNat_natCast]; exact oca) (by show bl v6 _ = false; rw [hcb, Int.toNat_natCast]; exact ocb) e10 e16
    rcases io ex with ⟨g, ex⟩ | ⟨g, ex⟩
    · obtain rfl := Option.some.inj ex
      rcases io ey with ⟨g2, ey⟩ | ⟨g2, ey⟩
      · obtain rfl := Option.some.inj ey
        exact ⟨fun _ => by show ¬ (1 : Int32) = 0; decide, fun _ => nn_64 b6⟩
      · exact absurd (mr.mp g) g2
    · obtain rfl := Option.some.inj ex
      rcases io ey with ⟨g2, ey⟩ | ⟨g2, ey⟩
      · exact absurd (mr.mpr g2) g
      · obtain rfl := Option.some.inj ey
        exact ⟨fun h => absurd neg h, fun h => absurd rfl h⟩
  | succ k ih =>
    intro F1 F2 lo a5 i i4 fm v6 S x y h5 i0 hi4 i3 hF hfm l36 hsub hlo cs jS ex ey
    cases F1 with
    | zero => exact nomatch (show (none : Option Int64) = some x from ex)
    | succ F1 =>
    obtain ⟨F, rfl⟩ : ∃ F, F2 = F + 1 := ⟨F2 - 1, by omega⟩
    have ex : fb_Top_partedBy (fr_pby F1) a b v3 a5 v6 X = some x := ex
    have ey : fb_Mod_parts (fr_parts F) a b i i4 fm S = some y := ey
    have b6 : ∀ d, bl v6 d = true → d < 36 := fun d h => by have := ((hv3 d).mp (hsub d h)).1; omega
    unfold fb_Top_partedBy at ex
    rcases io ex with ⟨_, ex⟩ | ⟨g, _⟩
    rotate_left
    · have := q_nl g; omega
    obtain ⟨xl, exl, ex⟩ := bo ex
    unfold fb_Mod_parts at ey
    rcases io ey with ⟨g, _⟩ | ⟨_, ey⟩
    · rw [g] at hi4; omega
    obtain ⟨yl, eyl, ey⟩ := bo ey
    have CL := pbyl_r (rc := fr_pby F1) (w := w) (by rw [zg.2.1]; exact hw) w36 b6 hlo exl
    have RL := partsl_r (F := F) zq hp hq pn qn hca hcb hw w36 i0 (by omega) i3 (by omega) hfm l36 (fun d h => (hlo lo).mp (Nat.le_refl _) d h) cs jS eyl
    have a51 : (a5 - (1 : Int32)).toInt = (k : Int) := by rw [sub_ti h5 o1 (by omega) (by omega)]; omega
    have i1 : (i + (1 : Int32)).toInt = i.toInt + 1 := add_ti rfl o1 (by omega) (by omega)
    have EQ : ∀ (s : Nat) (P : Int64 → Prop) (P' : Int32 → Prop), s < w → lo ≤ s → bl v3 s = true → PC (fr_pby F1) X a b v3 a5 v6 s P → PR R F a b i i4 v6 s P' → ∃ z y, P z ∧ P' y ∧ (¬ lg_cmp z (0 : Int64) < 0 ↔ y ≠ 0) := by
      rintro s P P' sw ls h3 ⟨sv, z, hs, ez, pz⟩ ⟨M5, sv', y', hs', cs5, j5, ey', py⟩
      have : sv' = sv := Int32.toInt_inj.mp (by omega)
      subst this
      obtain ⟨c1, c2⟩ := cls_1 hv3 w36 hs sw ls h3 hsub hlo
      exact ⟨z, y'.1, pz, py, ih F1 F (s + 1) _ _ i4 (sv' + (1 : Int32)) _ M5 z y' a51 (by omega) (by omega) i3 (by omega) (by rw [add_ti hs o1 (by omega) (by omega)]; omega) (by omega) c1 c2 cs5 j5 ez ey'⟩
    rcases xl with u | z
    · have ex' : (-1 : Int64) = x := Option.some.inj ex
      rcases yl with N | N
      · obtain rfl := Option.some.inj ey
        rw [← ex']
        exact ⟨fun h => absurd neg h, fun h => absurd rfl h⟩
      · exfalso
        obtain ⟨s, sw, ls, h3, n1, n2, pr⟩ := RL
        have b3 := (hv3 s).mpr ⟨sw, h3, n1, n2⟩
        obtain ⟨z, y', e1, e2, e3⟩ := EQ s _ _ sw ls b3 (CL s sw ls b3) pr
        exact e3.mpr e2 e1
    · have ex' : z = x := Option.some.inj ex
      obtain ⟨zn, s, sw, ls, b3, pc⟩ := CL
      rcases yl with N | N
      · exfalso
        obtain ⟨_, h3, n1, n2⟩ := (hv3 s).mp b3
        obtain ⟨z', y', e1, e2, e3⟩ := EQ s _ _ sw ls b3 pc (RL s sw ls h3 n1 n2)
        exact e3.mp e1 e2
      · obtain rfl := Option.some.inj ey
        rw [← ex']
        exact ⟨fun _ => by show ¬ (1 : Int32) = 0; decide, fun _ => zn⟩
theorem can_mono {X R : Mem} {n p q : Nat} {a b : Int32} {v3 v6 : Int64} {x3 x6 : Int32} (zq : ZQ X R n) (hp : a.toInt = (p : Int)) (hq : b.toInt = (q : Int)) (pn : p < n) (qn : q < n) (hsub : ∀ d, bl v6 d = true → bl v3 d = true) (e3 : f_Top_canTryst a b v3 X = some x3) (e6 : f_Top_canTryst a b v6 X = some x6) (h : x3 ≠ 0) : x6 ≠ 0 := by
  obtain ⟨n8, jR, ⟨zg, zc, zl⟩, zs, zv, zw⟩ := zq
  have wh := awh jR
  obtain ⟨la, ca, la2, ca36, hla, hca, hPa, ona⟩ := at_2 n8 zs zv pn
  obtain ⟨lb, cb, lb2, cb36, hlb, hcb, hPb, onb⟩ := at_2 n8 zs zv qn
  have one : ∀ {v : Int32} {t l c : Nat} {y3 y6 : Int64}, v.toInt = (t : Int) → l < 2 → c < 36 → (X.1 13 t).toInt = (l : Int) → (X.1 12 t).toInt = (c : Int) → f_Top_roaming v v3 X = some y3 → f_Top_roaming v v6 X = some y6 → ∀ d, bl y3 d = true → bl y6 d = true := by
    intro v t l c y3 y6 hv l2 c36 hl hc r3 r6
    obtain ⟨b3, f3, s3⟩ := roaming_i (c := 0) (C := fun d => bl v3 d) hv hl (fun d _ => Iff.rfl) r3
    obtain ⟨b6, f6, s6⟩ := roaming_i (c := 0) (C := fun d => bl v6 d) hv hl (fun d _ => Iff.rfl) r6
    have near : ∀ c d, c < 36 → bl (X.2.1 (32 + 2) (l * 36 + c)) d = true → d < 36 := fun c d hc h => ((near_go jR zv zw.2 l2 hc).mp h).2.1
    obtain ⟨_, _, _, m3⟩ := flood_i (.inl rfl) hl l2 hc c36 near f3
    obtain ⟨k1, k2, k3, _⟩ := flood_i (.inl rfl) hl l2 hc c36 near f6
    refine m3 (fun d => bl y6 d = true) k1 (fun c' d hc' h1 h2 h4 => k3 c' d h1 h2 ?_)
    cases hb : bl b6 d with
    | false => rfl
    | true =>
      have d36 := near c' d hc' h2
      have := (s6 d d36).mp hb
      rw [(s3 d d36).mpr ⟨this.1, hsub d this.2⟩] at h4
      cases h4
  unfold f_Top_canTryst at e3 e6
  obtain ⟨y1, ey1, e3⟩ := bo e3
  obtain ⟨y2, ey2, e3⟩ := bo e3
  obtain ⟨y3, ey3, e3⟩ := bo e3
  obtain ⟨u1, eu1, e6⟩ := bo e6
  obtain ⟨u2, eu2, e6⟩ := bo e6
  obtain ⟨u3, eu3, e6⟩ := bo e6
  rw [ey3] at eu3
  obtain rfl := Option.some.inj eu3
  have k1 := one hp la2 ca36 hla hca ey1 eu1
  have k2 := one hq lb2 cb36 hlb hcb ey2 eu2
  have st := stairs_i (.inl rfl) jR zg.2.2.2 zw.1 ey3
  rcases io e3 with ⟨_, e3⟩ | ⟨g, _⟩
  · exact absurd (Option.some.inj e3).symm h
  rcases io e6 with ⟨g6, _⟩ | ⟨_, e6⟩
  rotate_left
  · obtain rfl := Option.some.inj e6; decide
  exfalso
  refine g (lc_0.mpr (bl_0i (fun c => ?_)))
  cases hb : bl (((y1 &&& y2) &&& y3) &&& (v3 ^^^ (-1 : Int64))) c with
  | false => rfl
  | true =>
    rw [bl_and, bl_and, bl_and, Bool.and_eq_true, Bool.and_eq_true, Bool.and_eq_true] at hb
    obtain ⟨⟨⟨h1, h2⟩, h3⟩, h4⟩ := hb
    have c64 : c < 64 := by have := ((st c).mp h3).1; omega
    rw [bl_not c64] at h4
    have z6 := lc_0.mp g6
    have : bl (((u1 &&& u2) &&& y3) &&& (v6 ^^^ (-1 : Int64))) c = true := by
      rw [bl_and, bl_and, bl_and, Bool.and_eq_true, Bool.and_eq_true, Bool.and_eq_true, bl_not c64]
      refine ⟨⟨⟨k1 c h1, k2 c h2⟩, h3⟩, ?_⟩
      cases hb6 : bl v6 c with
      | false => rfl
      | true => rw [hsub c hb6] at h4; cases h4
    rw [z6, bl_0] at this
    cases this
theorem pby_neg {X R : Mem} {n p q ca cb w : Nat} {a b x3 : Int32} {v3 : Int64} (zq : ZQ X R n) (hp : a.toInt = (p : Int)) (hq : b.toInt = (q : Int)) (pn : p < n) (qn : q < n) (hw : xw R * xh R = (w : Int)) (w36 : w ≤ 36) (hv3 : ∀ d, bl v3 d = true ↔ d < w ∧ (R.1 164 d).toInt = 3 ∧ d ≠ ca ∧ d ≠ cb) (e3 : f_Top_canTryst a b v3 X = some x3) (h3 : x3 ≠ 0) :
    ∀ (k F lo : Nat) (a5 : Int32) (v6 : Int64) (x : Int64), a5.toInt = (k : Int) → k ≤ 3 → (∀ d, bl v6 d = true → bl v3 d = true) → (∀ s, lo ≤ s ↔ ∀ d, bl v6 d = true → d < s) → fr_pby F a b v3 a5 v6 X = some x → lg_cmp x (0 : Int64) < 0 := by
  have neg : lg_cmp (-1 : Int64) (0 : Int64) < 0 := by decide
  have z0 := o0
  have zg := zq.2.2.1.1
  intro k
  induction k with
  | zero =>
    intro F lo a5 v6 x h5 _ hsub hlo ex
    cases F with
    | zero => exact nomatch (show (none : Option Int64) = some x from ex)
    | succ F =>
    have ex : fb_Top_partedBy (fr_pby F) a b v3 a5 v6 X = some x := ex
    unfold fb_Top_partedBy at ex
    rcases io ex with ⟨g, _⟩ | ⟨_, ex⟩
    · have := q_lt g; omega
    obtain ⟨x10, e10, ex⟩ := bo ex
    rcases io ex with ⟨g, _⟩ | ⟨_, ex⟩
    · exact absurd g (can_mono zq hp hq pn qn hsub e3 e10 h3)
    · obtain rfl := Option.some.inj ex
      exact neg
  | succ k ih =>
    intro F lo a5 v6 x h5 k3 hsub hlo ex
    cases F with
    | zero => exact nomatch (show (none : Option Int64) = some x from ex)
    | succ F =>
    have ex : fb_Top_partedBy (fr_pby F) a b v3 a5 v6 X = some x := ex
    have b6 : ∀ d, bl v6 d = true → d < 36 := fun d h => by have := ((hv3 d).mp (hsub d h)).1; omega
    unfold fb_Top_partedBy at ex
    rcases io ex with ⟨_, ex⟩ | ⟨g, _⟩
    rotate_left
    · have := q_nl g; omega
    obtain ⟨xl, exl, ex⟩ := bo ex
    have CL := pbyl_r (rc := fr_pby F) (w := w) (by rw [zg.2.1]; exact hw) w36 b6 hlo exl
    have a51 : (a5 - (1 : Int32)).toInt = (k : Int) := by rw [sub_ti h5 o1 (by omega) (by omega)]; omega
    rcases xl with u | z
    · have ex' : (-1 : Int64) = x := Option.some.inj ex
      rw [← ex']; exact neg
    · obtain ⟨_, s, sw, ls, b3, sv, z', hs, ez, pz⟩ := CL
      obtain ⟨c1, c2⟩ := cls_1 hv3 w36 hs sw ls b3 hsub hlo
      exact absurd (ih F (s + 1) _ _ z' a51 (by omega) c1 c2 ez) pz
end
