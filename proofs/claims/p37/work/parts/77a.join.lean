section
/-! steps counted from a cell: the class's measure -/
theorem lc_0 {x : Int64} : lg_cmp x (0 : Int64) = 0 ↔ x = 0 := by
  unfold lg_cmp
  constructor
  · intro h
    by_cases c : x > 0
    · rw [if_pos c] at h; exact absurd h (by decide)
    · rw [if_neg c] at h
      by_cases e : x = 0
      · exact e
      · rw [if_neg e] at h; exact absurd h (by decide)
  · rintro rfl
    decide
theorem bl_0i {x : Int64} (h : ∀ d, bl x d = false) : x = 0 := bl_ext (fun d _ => by rw [h d, bl_0])
theorem bl_not {x : Int64} {d : Nat} (hd : d < 64) : bl (x ^^^ (-1 : Int64)) d = !bl x d := by
  have m1 : ∀ d : Fin 64, bl (-1) d.val = true := by decide +kernel
  rw [bl_xor, m1 ⟨d, hd⟩]
  cases bl x d <;> rfl
theorem cnt_lt {P Q : Nat → Bool} {n c : Nat} (hc : c < n) (h : ∀ i, i < n → P i = true → Q i = true) (hp : P c = false) (hq : Q c = true) : (List.range n).countP P < (List.range n).countP Q := by
  have mono : ∀ m, m ≤ n → (List.range m).countP P ≤ (List.range m).countP Q := by
    intro m
    induction m with
    | zero => intro _; exact Nat.le_refl _
    | succ m ih =>
      intro hm
      rw [cnt_s, cnt_s]
      have := ih (by omega)
      have k := h m (by omega)
      by_cases g : P m = true
      · rw [if_pos g, if_pos (k g)]; omega
      · rw [if_neg g]; split <;> omega
  have key : ∀ m, m ≤ n → c < m → (List.range m).countP P < (List.range m).countP Q := by
    intro m
    induction m with
    | zero => intro _ h; omega
    | succ m ih =>
      intro hm hcm
      rw [cnt_s, cnt_s]
      rcases Nat.lt_or_ge c m with g | g
      · have := ih (by omega) g
        have k := h m (by omega)
        by_cases g : P m = true
        · rw [if_pos g, if_pos (k g)]; omega
        · rw [if_neg g]; split <;> omega
      · have : c = m := by omega
        subst this
        have := mono c (by omega)
        rw [if_neg (by rw [hp]; decide), if_pos hq]; omega
  exact key n (Nat.le_refl _) hc
theorem cnt_le (P : Nat → Bool) (n : Nat) : (List.range n).countP P ≤ n := by
  have := List.countP_le_length (p := P) (l := List.range n)
  rwa [List.length_range] at this
theorem cnt_all {P : Nat → Bool} {n : Nat} (h : n ≤ (List.range n).countP P) : ∀ c, c < n → P c = true := by
  intro c hc
  have e : (List.range n).countP P = (List.range n).length := by rw [List.length_range]; exact Nat.le_antisymm (cnt_le P n) h
  exact List.countP_eq_length.mp e c (List.mem_range.mpr hc)
section MEAS
variable {v0 l : Nat} {v1 : Int32} {M : Mem}
theorem around_i (hv : isN v0) (h1 : v1.toInt = (l : Int)) (l2 : l < 2) {set y : Int64} (e : f_Nets_around v0 v1 set M = some y) : ∀ d, bl y d = true ↔ ∃ c, c < 36 ∧ bl set c = true ∧ bl (M.2.1 (v0 + 2) (l * 36 + c)) d = true := by
  have k36 : (36 : Int32).toInt = 36 := rfl
  unfold f_Nets_around at e
  obtain ⟨_, e⟩ := io_n e
  obtain ⟨x3, e3, e⟩ := bo e
  obtain rfl := Option.some.inj e
  refine it_r (I := fun s : Int64 × Int32 => ∃ k : Nat, k ≤ 36 ∧ s.2.toInt = (k : Int) ∧ ∀ d, bl s.1 d = true ↔ ∃ c, c < k ∧ bl set c = true ∧ bl (M.2.1 (v0 + 2) (l * 36 + c)) d = true) (Q := fun y : Int64 => ∀ d, bl y d = true ↔ ∃ c, c < 36 ∧ bl set c = true ∧ bl (M.2.1 (v0 + 2) (l * 36 + c)) d = true) ?_ e3 ⟨0, by omega, rfl, fun d => ?_⟩
  · rintro ⟨acc, i⟩ r ⟨k, k36', hk, hd⟩ e
    dsimp only at hk hd
    unfold lb_Nets_around_6 at e
    dsimp only at e
    rcases io e with ⟨g, e⟩ | ⟨g, e⟩
    · have := q_le g
      obtain rfl := Option.some.inj e
      have : k = 36 := by omega
      subst this
      exact hd
    have g1 := q_ng g
    have i1 : (i + (1 : Int32)).toInt = ((k + 1 : Nat) : Int) := add_ti hk o1 (by omega) (by omega)
    rcases io e with ⟨g, e⟩ | ⟨g, e⟩
    · have gb := (bl_cmp hk (by omega)).mp g
      obtain rfl := Option.some.inj e
      refine ⟨k + 1, by omega, i1, fun d => ?_⟩
      dsimp only
      rw [hd]
      constructor
      · rintro ⟨c, h1, h2⟩; exact ⟨c, by omega, h2⟩
      · rintro ⟨c, h1, h2, h3⟩
        refine ⟨c, ?_, h2, h3⟩
        rcases Nat.lt_or_ge c k with q | q
        · exact q
        · have : c = k := by omega
          subst this
          rw [gb] at h2; cases h2
    · have gb : bl set k = true := by
        cases hb : bl set k with
        | true => rfl
        | false => exact absurd ((bl_cmp hk (by omega)).mpr hb) g
      obtain ⟨_, e⟩ := io_n e
      obtain rfl := Option.some.inj e
      have i2 : (v1 * (36 : Int32) + i).toInt = ((l * 36 + k : Nat) : Int) := by rw [add_ti (mul_ti h1 k36 (by omega) (by omega)) hk (by omega) (by omega)]; omega
      refine ⟨k + 1, by omega, i1, fun d => ?_⟩
      dsimp only
      rw [bl_or, Bool.or_eq_true, hd, (isN_r hv).2.1, q_nat i2]
      constructor
      · rintro (⟨c, h1, h2⟩ | h)
        · exact ⟨c, by omega, h2⟩
        · exact ⟨k, by omega, gb, h⟩
      · rintro ⟨c, h1, h2, h3⟩
        rcases Nat.lt_or_ge c k with q | q
        · exact .inl ⟨c, q, h2, h3⟩
        · have : c = k := by omega
          subst this
          exact .inr h3
  · dsimp only
    rw [bl_0]
    constructor
    · intro h; cases h
    · rintro ⟨c, h, _⟩; omega
theorem fill_i {k : Nat} {v8 : Int32} {v4 v6 : Int64} {x : Mem} (e : iter (lb_Nets_measure_51 v0 v1 k v4 v6 v8) FU ((0 : Int32), M) = some x) : (∀ c, c < 36 → x.1 k c = if bl v6 c = true then v8 else M.1 k c) ∧ (∀ kx i, kx ≠ k → x.1 kx i = M.1 kx i) ∧ x.2 = M.2 := by
  have k36 : (36 : Int32).toInt = 36 := rfl
  refine it_r (I := fun s : Int32 × Mem => ∃ q : Nat, q ≤ 36 ∧ s.1.toInt = (q : Int) ∧ (∀ c, c < 36 → s.2.1 k c = if c < q ∧ bl v6 c = true then v8 else M.1 k c) ∧ (∀ kx i, kx ≠ k → s.2.1 kx i = M.1 kx i) ∧ s.2.2 = M.2) (Q := fun x : Mem => (∀ c, c < 36 → x.1 k c = if bl v6 c = true then v8 else M.1 k c) ∧ (∀ kx i, kx ≠ k → x.1 kx i = M.1 kx i) ∧ x.2 = M.2) ?_ e ⟨0, by omega, rfl, fun c _ => by rw [if_neg (by omega)], fun _ _ _ => rfl, rfl⟩
  rintro ⟨i, N⟩ r ⟨q, q36, hq, hd, hf, h2⟩ e
  dsimp only at hq hd hf h2
  unfold lb_Nets_measure_51 at e
  dsimp only at e
  rcases io e with ⟨g, e⟩ | ⟨g, e⟩
  · have := q_le g
    obtain rfl := Option.some.inj e
    refine ⟨fun c hc => ?_, hf, h2⟩
    rw [hd c hc]
    by_cases b : bl v6 c = true
    · rw [if_pos b, if_pos ⟨by omega, b⟩]
    · rw [if_neg b, if_neg (fun h => b h.2)]
  have g1 := q_ng g
  have i1 : (i + (1 : Int32)).toInt = ((q + 1 : Nat) : Int) := add_ti hq o1 (by omega) (by omega)
  rcases io e with ⟨g, e⟩ | ⟨g, e⟩
  · have gb := (bl_cmp hq (by omega)).mp g
    obtain rfl := Option.some.inj e
    refine ⟨q + 1, by omega, i1, fun c hc => ?_, hf, h2⟩
    dsimp only
    rw [hd c hc]
    by_cases b : bl v6 c = true
    · by_cases b2 : c < q
      · rw [if_pos ⟨b2, b⟩, if_pos ⟨by omega, b⟩]
      · rw [if_neg (fun h => b2 h.1), if_neg (fun h => by
          have : c = q := by omega
          subst this
          rw [gb] at b; cases b)]
    · rw [if_neg (fun h => b h.2), if_neg (fun h => b h.2)]
  · have gb : bl v6 q = true := by
      cases hb : bl v6 q with
      | true => rfl
      | false => exact absurd ((bl_cmp hq (by omega)).mpr hb) g
    obtain ⟨_, e⟩ := io_n e
    obtain ⟨M4, m4, e⟩ := mo e
    obtain rfl := Option.some.inj e
    rw [q_nat hq] at m4
    refine ⟨q + 1, by omega, i1, fun c hc => ?_, fun kx i h => ?_, ?_⟩
    · dsimp only
      rw [m4]
      by_cases b : c = q
      · subst b; rw [si_eq, if_pos ⟨by omega, gb⟩]
      · rw [si_ne (by omega), hd c hc]
        by_cases b3 : bl v6 c = true
        · by_cases b2 : c < q
          · rw [if_pos ⟨b2, b3⟩, if_pos ⟨by omega, b3⟩]
          · rw [if_neg (fun h => b2 h.1), if_neg (fun h => by omega)]
        · rw [if_neg (fun h => b3 h.2), if_neg (fun h => b3 h.2)]
    · dsimp only
      rw [m4, si_ne (by omega)]; exact hf kx i h
    · dsimp only
      rw [m4, si_2]; exact h2
theorem far_i {k : Nat} {v2 : Int32} {x : Mem} (e : iter (lb_Nets_measure_3 v0 v1 v2 k) FU ((0 : Int32), M) = some x) : (∀ c, c < 36 → x.1 k c = 1000000) ∧ (∀ kx i, kx ≠ k → x.1 kx i = M.1 kx i) ∧ x.2 = M.2 := by
  have k36 : (36 : Int32).toInt = 36 := rfl
  refine it_r (I := fun s : Int32 × Mem => ∃ q : Nat, q ≤ 36 ∧ s.1.toInt = (q : Int) ∧ (∀ c, c < q → s.2.1 k c = 1000000) ∧ (∀ kx i, kx ≠ k → s.2.1 kx i = M.1 kx i) ∧ s.2.2 = M.2) (Q := fun x : Mem => (∀ c, c < 36 → x.1 k c = 1000000) ∧ (∀ kx i, kx ≠ k → x.1 kx i = M.1 kx i) ∧ x.2 = M.2) ?_ e ⟨0, by omega, rfl, fun c h => by omega, fun _ _ _ => rfl, rfl⟩
  rintro ⟨i, N⟩ r ⟨q, q36, hq, hd, hf, h2⟩ e
  dsimp only at hq hd hf h2
  unfold lb_Nets_measure_3 at e
  dsimp only at e
  rcases io e with ⟨g, e⟩ | ⟨g, e⟩
  · have := q_le g
    obtain rfl := Option.some.inj e
    exact ⟨fun c hc => hd c (by omega), hf, h2⟩
  have g1 := q_ng g
  obtain ⟨_, e⟩ := io_n e
  obtain ⟨M1, m1, e⟩ := mo e
  obtain rfl := Option.some.inj e
  rw [q_nat hq] at m1
  refine ⟨q + 1, by omega, add_ti hq o1 (by omega) (by omega), fun c hc => ?_, fun kx i h => ?_, ?_⟩
  · dsimp only
    rw [m1]
    by_cases b : c = q
    · subst b; rw [si_eq]
    · rw [si_ne (by omega)]; exact hd c (by omega)
  · dsimp only
    rw [m1, si_ne (by omega)]; exact hf kx i h
  · dsimp only
    rw [m1, si_2]; exact h2
/-- what it is to be measured from f -/
def MSR (adj : Nat → Nat → Prop) (f : Nat) (D : Nat → Int) : Prop := D f = 0 ∧ (∀ c, c < 36 → 0 ≤ D c ∧ (D c < 36 ∨ D c = 1000000)) ∧ (∀ c, c < 36 → D c < 1000000 → c = f ∨ ∃ c', c' < 36 ∧ D c' + 1 = D c ∧ adj c' c) ∧ (∀ c, c < 36 → D c < 1000000 → ∀ d, adj c d → d < 36 ∧ D d ≤ D c + 1)
def MI (adj : Nat → Nat → Prop) (f k : Nat) (M0_ : Mem) (s : Int64 × Int64 × Int32 × Mem) : Prop := ∃ t : Nat, t ≤ 36 ∧ s.2.2.1.toInt = (t : Int) ∧ (∀ c, bl s.2.1 c = true → bl s.1 c = true) ∧ (∀ c, bl s.1 c = true → c < 36) ∧ (∀ c, c < 36 → (bl s.1 c = true ∧ bl s.2.1 c = false → 0 ≤ (s.2.2.2.1 k c).toInt ∧ (s.2.2.2.1 k c).toInt < (t : Int)) ∧ (¬ (bl s.1 c = true ∧ bl s.2.1 c = false) → (s.2.2.2.1 k c).toInt = 1000000)) ∧ (∀ c, bl s.1 c = true → bl s.2.1 c = false → c = f ∨ ∃ c', bl s.1 c' = true ∧ bl s.2.1 c' = false ∧ (s.2.2.2.1 k c').toInt + 1 = (s.2.2.2.1 k c).toInt ∧ adj c' c) ∧ (∀ c, bl s.2.1 c = true → (c = f ∧ t = 0) ∨ ∃ c', bl s.1 c' = true ∧ bl s.2.1 c' = false ∧ (s.2.2.2.1 k c').toInt + 1 = (t : Int) ∧ adj c' c) ∧ (∀ c, bl s.1 c = true → bl s.2.1 c = false → ∀ d, adj c d → (bl s.1 d = true ∧ bl s.2.1 d = false ∧ (s.2.2.2.1 k d).toInt ≤ (s.2.2.2.1 k c).toInt + 1) ∨ (bl s.2.1 d = true ∧ (s.2.2.2.1 k c).toInt + 1 = (t : Int))) ∧ (bl s.1 f = true ∧ ((t = 0 ∧ bl s.2.1 f = true) ∨ (0 < t ∧ bl s.2.1 f = false ∧ (s.2.2.2.1 k f).toInt = 0))) ∧ t ≤ (List.range 36).countP (fun c => bl s.1 c && !bl s.2.1 c) ∧ (∀ kx i, kx ≠ k → s.2.2.2.1 kx i = M0_.1 kx i) ∧ s.2.2.2.2 = M0_.2
theorem meas_i {f k : Nat} {v2 : Int32} {x : Mem} (hv : isN v0) (h1 : v1.toInt = (l : Int)) (l2 : l < 2) (h2 : v2.toInt = (f : Int)) (f36 : f < 36) (adjb : ∀ c d, c < 36 → bl (M.2.1 (v0 + 2) (l * 36 + c)) d = true → d < 36) (e : f_Nets_measure v0 v1 v2 k M = some x) : MSR (fun c d => bl (M.2.1 (v0 + 2) (l * 36 + c)) d = true) f (fun c => (x.1 k c).toInt) ∧ (∀ kx i, kx ≠ k → x.1 kx i = M.1 kx i) ∧ x.2 = M.2 := by
  have k36 : (36 : Int32).toInt = 36 := rfl
  have kF : (1000000 : Int32).toInt = 1000000 := rfl
  unfold f_Nets_measure at e
  obtain ⟨_, e⟩ := io_n e
  obtain ⟨_, e⟩ := io_n e
  obtain ⟨x3, e3, e⟩ := bo e
  obtain ⟨x11, e11, e⟩ := bo e
  obtain rfl := Option.some.inj e
  obtain ⟨a1, a2, a3⟩ := far_i e3
  have one : ∀ d, bl ((1 : Int64) <<< (v2.toInt64 &&& 63)) d = decide (d = f) := bl_one h2 (by omega)
  refine it_r (I := MI (fun c d => bl (M.2.1 (v0 + 2) (l * 36 + c)) d = true) f k M) (Q := fun x : Mem => MSR (fun c d => bl (M.2.1 (v0 + 2) (l * 36 + c)) d = true) f (fun c => (x.1 k c).toInt) ∧ (∀ kx i, kx ≠ k → x.1 kx i = M.1 kx i) ∧ x.2 = M.2) ?_ e11 ⟨0, by omega, rfl, fun c h => h, fun c h => ?_, fun c hc => ⟨fun h => ?_, fun _ => ?_⟩, fun c h1 h2 => ?_, fun c h => ?_, fun c h1 h2 => ?_, ⟨?_, .inl ⟨rfl, ?_⟩⟩, by omega, a2, a3⟩
  rotate_left
  · dsimp only at h; rw [one] at h; have := of_decide_eq_true h; omega
  · dsimp only at h; rw [h.1] at h; cases h.2
  · show (x3.1 k c).toInt = _; rw [a1 c hc]; rfl
  · dsimp only at h1 h2; rw [h1] at h2; cases h2
  · dsimp only at h; rw [one] at h; exact .inl ⟨of_decide_eq_true h, rfl⟩
  · dsimp only at h1 h2; rw [h1] at h2; cases h2
  · dsimp only; rw [one]; exact decide_eq_true rfl
  · dsimp only; rw [one]; exact decide_eq_true rfl
  rintro ⟨fo, fr, st, N⟩ r ⟨t, t36, ht, i1, i2, i3, i4, i5, i6, i7, i8, i9, i10⟩ e
  dsimp only at ht i1 i2 i3 i4 i5 i6 i7 i8 i9 i10
  -- the end: nobody is in front
  have fin : (∀ c, bl fr c = false) → MSR (fun c d => bl (M.2.1 (v0 + 2) (l * 36 + c)) d = true) f (fun c => (N.1 k c).toInt) ∧ (∀ kx i, kx ≠ k → N.1 kx i = M.1 kx i) ∧ N.2 = M.2 := by
    intro h0
    have D1 : ∀ c, c < 36 → (N.1 k c).toInt < 1000000 → bl fo c = true := by
      intro c hc hd
      cases hb : bl fo c with
      | true => rfl
      | false =>
        have := (i3 c hc).2 (fun h => by rw [hb] at h; cases h.1)
        omega
    refine ⟨⟨?_, fun c hc => ?_, fun c hc hd => ?_, fun c hc hd d had => ?_⟩, i9, i10⟩
    · rcases i7.2 with ⟨_, h⟩ | ⟨_, _, h⟩
      · rw [h0] at h; cases h
      · exact h
    · show 0 ≤ (N.1 k c).toInt ∧ _
      by_cases g : bl fo c = true
      · have := (i3 c hc).1 ⟨g, h0 c⟩
        exact ⟨this.1, .inl (by show (N.1 k c).toInt < 36; omega)⟩
      · have := (i3 c hc).2 (fun h => g h.1)
        exact ⟨by omega, .inr this⟩
    · rcases i4 c (D1 c hc hd) (h0 c) with h | ⟨c', h1, h2, h3, h4⟩
      · exact .inl h
      · exact .inr ⟨c', i2 c' h1, h3, h4⟩
    · rcases i6 c (D1 c hc hd) (h0 c) d had with ⟨h1, h2, h3⟩ | ⟨h, _⟩
      · exact ⟨i2 d h1, h3⟩
      · rw [h0] at h; cases h
  unfold lb_Nets_measure_34 at e
  dsimp only at e
  rcases io e with ⟨g, e⟩ | ⟨g, e⟩
  · have := q_le g
    obtain rfl := Option.some.inj e
    refine fin (fun c => ?_)
    have all := cnt_all (n := 36) (P := fun c => bl fo c && !bl fr c) (by omega)
    cases hb : bl fr c with
    | false => rfl
    | true =>
      have := all c (i2 c (i1 c hb))
      simp [hb] at this
  have g1 := q_ng g
  rcases io e with ⟨g, e⟩ | ⟨g, e⟩
  · have := lc_0.mp g
    obtain rfl := Option.some.inj e
    exact fin (fun c => by rw [this]; exact bl_0 c)
  have frn : ∃ c, bl fr c = true := by
    by_cases h : ∃ c, bl fr c = true
    · exact h
    · exact absurd (lc_0.mpr (bl_0i (fun d => by
        cases hb : bl fr d with
        | false => rfl
        | true => exact absurd ⟨d, hb⟩ h))) g
  obtain ⟨x7, e7, e⟩ := bo e
  obtain ⟨x8, e8, e⟩ := bo e
  obtain rfl := Option.some.inj e
  obtain ⟨b1, b2, b3⟩ := fill_i e7
  have ar := around_i hv h1 l2 e8
  rw [b3, i10] at ar
  -- the new front
  have nf : ∀ d, d < 64 → bl (x8 &&& (fo ^^^ (-1 : Int64))) d = (bl x8 d && !bl fo d) := fun d hd => by rw [bl_and, bl_not hd]
  have nf1 : ∀ d, bl (x8 &&& (fo ^^^ (-1 : Int64))) d = true ↔ bl x8 d = true ∧ bl fo d = false := by
    intro d
    by_cases hd : d < 64
    · rw [nf d hd]; cases bl x8 d <;> cases bl fo d <;> simp
    · rw [bl_hi (by omega)]
      constructor
      · intro h; cases h
      · rintro ⟨h, _⟩; rw [bl_hi (by omega)] at h; cases h
  have n36 : ∀ d, bl x8 d = true → d < 36 := fun d h => by
    obtain ⟨c, hc, _, h3⟩ := (ar d).mp h
    exact adjb c d hc h3
  -- found before: neither in the new front
  have old : ∀ c, bl (fo ||| (x8 &&& (fo ^^^ (-1 : Int64)))) c = true ∧ bl (x8 &&& (fo ^^^ (-1 : Int64))) c = false ↔ bl fo c = true := by
    intro c
    rw [bl_or, Bool.or_eq_true]
    constructor
    · rintro ⟨h | h, h2⟩
      · exact h
      · rw [h] at h2; cases h2
    · intro h
      refine ⟨.inl h, ?_⟩
      cases hb : bl (x8 &&& (fo ^^^ (-1 : Int64))) c with
      | false => rfl
      | true => rw [((nf1 c).mp hb).2] at h; cases h
  have D7 : ∀ c, c < 36 → (bl fr c = true → (x7.1 k c).toInt = (t : Int)) ∧ (bl fr c = false → x7.1 k c = N.1 k c) := fun c hc => ⟨fun h => by rw [b1 c hc, if_pos h]; exact ht, fun h => by rw [b1 c hc, if_neg (by rw [h]; decide)]⟩
  have c0 : ∀ c, bl fo c = true → (0 ≤ (x7.1 k c).toInt ∧ (x7.1 k c).toInt < ((t + 1 : Nat) : Int)) := by
    intro c h
    have hc := i2 c h
    cases hb : bl fr c with
    | true => rw [(D7 c hc).1 hb]; omega
    | false =>
      rw [(D7 c hc).2 hb]
      have := (i3 c hc).1 ⟨h, hb⟩
      omega
  refine ⟨t + 1, by omega, add_ti ht o1 (by omega) (by omega), fun c h => ?_, fun c h => ?_, fun c hc => ⟨fun h => c0 c ((old c).mp h), fun h => ?_⟩, fun c h1 h2 => ?_, fun c h => ?_, fun c h1 h2 d had => ?_, ⟨?_, .inr ⟨by omega, ?_, ?_⟩⟩, ?_, fun kx i h => ?_, ?_⟩
  · dsimp only at h ⊢
    rw [bl_or, h, Bool.or_true]
  · dsimp only at h
    rw [bl_or, Bool.or_eq_true] at h
    rcases h with h | h
    · exact i2 c h
    · exact n36 c ((nf1 c).mp h).1
  · dsimp only at h ⊢
    have hn : ¬ bl fo c = true := fun q => h ((old c).mpr q)
    have hfr : bl fr c = false := by
      cases hb : bl fr c with
      | false => rfl
      | true => exact absurd (i1 c hb) hn
    rw [(D7 c hc).2 hfr]
    exact (i3 c hc).2 (fun q => hn q.1)
  · dsimp only at h1 h2 ⊢
    have hfo := (old c).mp ⟨h1, h2⟩
    have hc := i2 c hfo
    cases hb : bl fr c with
    | true =>
      rcases i5 c hb with ⟨h, _⟩ | ⟨c', q1, q2, q3, q4⟩
      · exact .inl h
      · refine .inr ⟨c', ((old c').mpr q1).1, ((old c').mpr q1).2, ?_, q4⟩
        rw [(D7 c' (i2 c' q1)).2 q2, (D7 c hc).1 hb]; exact q3
    | false =>
      rcases i4 c hfo hb with h | ⟨c', q1, q2, q3, q4⟩
      · exact .inl h
      · refine .inr ⟨c', ((old c').mpr q1).1, ((old c').mpr q1).2, ?_, q4⟩
        rw [(D7 c' (i2 c' q1)).2 q2, (D7 c hc).2 hb]; exact q3
  · dsimp only at h ⊢
    obtain ⟨q1, q2⟩ := (nf1 c).mp h
    obtain ⟨c', hc', q3, q4⟩ := (ar c).mp q1
    refine .inr ⟨c', ((old c').mpr (i1 c' q3)).1, ((old c').mpr (i1 c' q3)).2, ?_, q4⟩
    rw [(D7 c' hc').1 q3]; omega
  · dsimp only at h1 h2 had ⊢
    have hfo := (old c).mp ⟨h1, h2⟩
    have hc := i2 c hfo
    have d36 := adjb c d hc had
    cases hb : bl fr c with
    | true =>
      have hx8 : bl x8 d = true := (ar d).mpr ⟨c, hc, hb, had⟩
      cases hd : bl fo d with
      | true =>
        refine .inl ⟨((old d).mpr hd).1, ((old d).mpr hd).2, ?_⟩
        have := c0 d hd
        rw [(D7 c hc).1 hb]; omega
      | false =>
        refine .inr ⟨(nf1 d).mpr ⟨hx8, hd⟩, ?_⟩
        rw [(D7 c hc).1 hb]; omega
    | false =>
      rcases i6 c hfo hb d had with ⟨q1, q2, q3⟩ | ⟨q1, q2⟩
      · refine .inl ⟨((old d).mpr q1).1, ((old d).mpr q1).2, ?_⟩
        rw [(D7 d d36).2 q2, (D7 c hc).2 hb]; exact q3
      · refine .inl ⟨((old d).mpr (i1 d q1)).1, ((old d).mpr (i1 d q1)).2, ?_⟩
        rw [(D7 d d36).1 q1, (D7 c hc).2 hb]; omega
  · exact ((old f).mpr i7.1).1
  · exact ((old f).mpr i7.1).2
  · dsimp only
    rcases i7.2 with ⟨h0, hb⟩ | ⟨_, hb, hd⟩
    · rw [(D7 f f36).1 hb]; omega
    · rw [(D7 f f36).2 hb]; exact hd
  · dsimp only
    obtain ⟨c, hc⟩ := frn
    have lt := cnt_lt (n := 36) (c := c) (P := fun c => bl fo c && !bl fr c) (Q := fun c => bl (fo ||| (x8 &&& (fo ^^^ (-1 : Int64)))) c && !bl (x8 &&& (fo ^^^ (-1 : Int64))) c) (i2 c (i1 c hc)) (fun i _ h => by
      simp only [Bool.and_eq_true, Bool.not_eq_true'] at h ⊢
      exact (old i).mpr h.1) (by simp [hc]) (by
      simp only [Bool.and_eq_true, Bool.not_eq_true']
      exact (old c).mpr (i1 c hc))
    omega
  · dsimp only
    rw [b2 kx i h]; exact i9 kx i h
  · dsimp only
    rw [b3]; exact i10
end MEAS
end
section
/-! cell: what stands at a cell, the ways out of it -/
theorem cnt_put {P P' : Nat → Bool} {c : Nat} : ∀ {n : Nat}, c < n → (∀ d, d < n → d ≠ c → P d = P' d) → P' c = false → P c = true → (List.range n).countP P = (List.range n).countP P' + 1 := by
  intro n
  induction n with
  | zero => intro h; omega
  | succ n ih =>
    intro hc h h0 h1
    rw [cnt_s, cnt_s]
    by_cases q : c = n
    · subst q
      have e : (List.range c).countP P = (List.range c).countP P' := List.countP_congr (fun i hi => by rw [h i (by have := List.mem_range.mp hi; omega) (by have := List.mem_range.mp hi; omega)])
      rw [e, if_pos h1, if_neg (by rw [h0]; decide)]
    · rw [ih (by omega) (fun d hd => h d (by omega)) h0 h1, h n (by omega) (fun w => q w.symm)]
      omega
theorem cnt_rel {rel : Nat → Nat → Prop} {n : Nat} (h1 : ∀ d s s', rel d s → rel d s' → s < 4 → s' < 4 → s = s') (h2 : ∀ d d' s, s < 4 → rel d s → rel d' s → d = d') (h3 : ∀ d s, s < 4 → rel d s → d < n) {W : Nat → Bool} (hW : ∀ s, W s = true ↔ ∃ d, rel d s) : ∀ m, m ≤ 4 → ∀ P : Nat → Bool, (∀ d, d < n → (P d = true ↔ ∃ s, s < m ∧ rel d s)) → (List.range n).countP P = (List.range m).countP W := by
  classical
  intro m
  induction m with
  | zero =>
    intro _ P hP
    rw [List.countP_eq_zero.mpr (fun d hd w => by obtain ⟨s, hs, _⟩ := (hP d (List.mem_range.mp hd)).mp w; omega)]
    rfl
  | succ m ih =>
    intro hm P hP
    rw [cnt_s, ← ih (by omega) (fun d => decide (∃ s, s < m ∧ rel d s)) (fun d _ => decide_eq_true_iff)]
    by_cases w : ∃ d, rel d m
    · rw [if_pos ((hW m).mpr w)]
      obtain ⟨d0, hd0⟩ := w
      refine cnt_put (c := d0) (h3 d0 m (by omega) hd0) (fun d hd hn => ?_) ?_ ?_
      · refine Bool.eq_iff_iff.mpr ?_
        rw [hP d hd, decide_eq_true_iff]
        constructor
        · rintro ⟨s, hs, r⟩
          by_cases q : s = m
          · subst q; exact absurd (h2 d d0 s (by omega) r hd0) hn
          · exact ⟨s, by omega, r⟩
        · rintro ⟨s, hs, r⟩; exact ⟨s, by omega, r⟩
      · refine decide_eq_false ?_
        rintro ⟨s, hs, r⟩
        have := h1 d0 s m r hd0 (by omega) (by omega)
        omega
      · exact (hP d0 (h3 d0 m (by omega) hd0)).mpr ⟨m, by omega, hd0⟩
    · rw [if_neg (fun h => w ((hW m).mp h)), Nat.add_zero]
      refine List.countP_congr (fun d hd => ?_)
      rw [hP d (List.mem_range.mp hd), decide_eq_true_iff]
      constructor
      · rintro ⟨s, hs, r⟩
        by_cases q : s = m
        · subst q; exact absurd ⟨d, r⟩ w
        · exact ⟨s, by omega, r⟩
      · rintro ⟨s, hs, r⟩; exact ⟨s, by omega, r⟩
def nbT : Bool := (List.range 6).all fun w => (List.range 6).all fun h => (List.range 36).all fun c => !(decide ((c : Int) < ((w : Int) + 1) * ((h : Int) + 1))) ||
  ((List.range 4).all fun s => (List.range 4).all fun r => (r == s) || (bes (w + 1) (h + 1) c s == -1) || (!(bes (w + 1) (h + 1) c s == bes (w + 1) (h + 1) c r) && !(bes (w + 1) (h + 1) c s == bb (w + 1) (h + 1) c r)))
theorem nbT_t : nbT = true := by decide +kernel
theorem nbs_i {w h c s r : Int} (hw : 1 ≤ w ∧ w ≤ 6) (hh : 1 ≤ h ∧ h ≤ 6) (hc : 0 ≤ c) (hc2 : c < w * h) (hs : 0 ≤ s ∧ s ≤ 3) (hr : 0 ≤ r ∧ r ≤ 3) (hb : bes w h c s ≠ -1) (q : bes w h c s = bes w h c r ∨ bes w h c s = bb w h c r) : s = r := by
  obtain ⟨w', h', c', s', lw, lh, lc, ls, rfl, rfl, rfl, rfl⟩ := rngs hw hh hc hc2 hs
  obtain ⟨r', rfl⟩ : ∃ r' : Nat, r = (r' : Int) := ⟨r.toNat, by omega⟩
  have k := List.all_eq_true.mp (List.all_eq_true.mp (List.all_eq_true.mp nbT_t w' (List.mem_range.mpr lw)) h' (List.mem_range.mpr lh)) c' (List.mem_range.mpr lc)
  rw [decide_eq_true hc2, Bool.not_true, Bool.false_or] at k
  have k := List.all_eq_true.mp (List.all_eq_true.mp k s' (List.mem_range.mpr ls)) r' (List.mem_range.mpr (by omega))
  rw [Bool.or_eq_true, Bool.or_eq_true] at k
  rcases k with (k | k) | k
  · have : r' = s' := by simpa using k
    rw [this]
  · exact absurd (by simpa using k) hb
  · simp only [Bool.and_eq_true, Bool.not_eq_true', beq_eq_false_iff_ne] at k
    rcases q with q | q
    · exact absurd q k.1
    · exact absurd q k.2
def nbr (R : Mem) (l c d s : Nat) : Prop := (lk R (onA R) l c s ∧ bes (xw R) (xh R) c s = (d : Int)) ∨ (l = 1 ∧ bb (xw R) (xh R) c s = (d : Int) ∧ plk R 163 c d)
theorem plk_o1 {R : Mem} {n : Nat} (zv : ZV R (R.1 163) n) {a b : Int} (h : plk R 163 a b) : onN R 1 a := by
  obtain ⟨j, hj, h⟩ := h
  obtain ⟨h1, h2, _⟩ := zv.2.2.2 j hj
  rcases h with ⟨e, _⟩ | ⟨_, e⟩
  · rw [e] at h1; exact h1
  · rw [e] at h2; exact h2
theorem nbr_on {R : Mem} {n : Nat} (jR : J R) (zv : ZV R (R.1 163) n) {l c d s : Nat} (h : nbr R l c d s) : onN R l c := by
  rcases h with ⟨h, _⟩ | ⟨h, _, p⟩
  · exact (onA_i jR).mp h.1
  · subst h; exact plk_o1 zv p
theorem lk_bes {R : Mem} (jR : J R) {l c s : Nat} (c0 : onN R l c) (s4 : s < 4) (h : lk R (onA R) l c s) : onN R l (bes (xw R) (xh R) c s) := by
  have bi := bes_in (aw jR) (ah jR) (c := c) (by omega) c0.2.1 (s := s) (by omega)
  have := (onA_i jR).mp h.2.2
  rw [show (((bes (xw R) (xh R) c s).toNat : Nat) : Int) = bes (xw R) (xh R) c s by have := h.2.1; omega] at this
  exact this
theorem nbr_inj {R : Mem} {n : Nat} (jR : J R) (zv : ZV R (R.1 163) n) {l c d s r : Nat} (h : nbr R l c d s) (g : nbr R l c d r) (hs : s < 4) (hr : r < 4) : s = r := by
  have on := nbr_on jR zv h
  have hw := aw jR
  have hh := ah jR
  have A : ∀ {s r : Nat}, s < 4 → r < 4 → bes (xw R) (xh R) c s = (d : Int) → (bes (xw R) (xh R) c r = (d : Int) ∨ bb (xw R) (xh R) c r = (d : Int)) → s = r := by
    intro s r hs hr e q
    have := nbs_i hw hh (c := c) (by omega) on.2.1 (s := s) (r := r) (by omega) (by omega) (by rw [e]; omega) (by rw [e]; exact q.elim (fun q => .inl q.symm) (fun q => .inr q.symm))
    omega
  rcases h with ⟨_, h⟩ | ⟨_, h, _⟩
  · rcases g with ⟨_, g⟩ | ⟨_, g, _⟩
    · exact A hs hr h (.inl g)
    · exact A hs hr h (.inr g)
  · rcases g with ⟨_, g⟩ | ⟨_, g, _⟩
    · exact (A hr hs g (.inr h)).symm
    · have := (bb_i hw hh (c := c) (by omega) on.2.1 (s := s) (by omega) (by rw [h]; omega)).2.2 r (by omega) (by omega) (by rw [g, h])
      omega
theorem nbr_fun {R : Mem} {n : Nat} (jR : J R) (zv : ZV R (R.1 163) n) {l c d d' s : Nat} (hs : s < 4) (h : nbr R l c d s) (g : nbr R l c d' s) : d = d' := by
  have on := nbr_on jR zv h
  have B : ∀ {d : Nat}, lk R (onA R) l c s → l = 1 → bb (xw R) (xh R) c s = (d : Int) → plk R 163 c d → False := by
    intro d a b e p
    have q := lk_bes jR on hs a
    subst b
    exact mid_no jR zv on hs (by rw [e]; omega) (by rw [e]; exact p) q
  rcases h with ⟨a, h⟩ | ⟨a, h, p⟩
  · rcases g with ⟨b, g⟩ | ⟨b, g, q⟩
    · omega
    · exact (B a b g q).elim
  · rcases g with ⟨b, g⟩ | ⟨b, g, q⟩
    · exact (B b a h p).elim
    · omega
theorem nbr_lt {R : Mem} {n : Nat} (jR : J R) (zv : ZV R (R.1 163) n) {l c d s : Nat} (hs : s < 4) (h : nbr R l c d s) : d < 36 := by
  have on := nbr_on jR zv h
  have wh := awh jR
  rcases h with ⟨_, h⟩ | ⟨_, _, p⟩
  · have bi := bes_in (aw jR) (ah jR) (c := c) (by omega) on.2.1 (s := s) (by omega)
    omega
  · have := (plk_o1 zv (plk_sym p)).2.1
    omega
theorem nbr_go {R : Mem} {n : Nat} (jR : J R) (zv : ZV R (R.1 163) n) {l c s : Nat} {p sI y : Int} (hp : p = 36 * (l : Int) + c) (hs : sI = (s : Int)) (l2 : l < 2) (c36 : c < 36) (on : onN R l c) (s4 : s < 4) (g : goR R 163 p sI y) : (∃ d, nbr R l c d s) ↔ y ≠ -1 := by
  have hw := aw jR
  have hh := ah jR
  have pm : p % 36 = (c : Int) := by omega
  have pd : p / 36 = (l : Int) := by omega
  rcases g with ⟨g, _⟩ | ⟨_, g⟩
  · omega
  rw [pm, pd, hs] at g
  have bi := bes_in hw hh (c := c) (by omega) on.2.1 (s := s) (by omega)
  have noL : ¬ onN R l (bes (xw R) (xh R) c s) → ¬ lk R (onA R) l c s := fun g2 h => g2 (lk_bes jR on s4 h)
  rcases g with ⟨g1, g2⟩ | ⟨g1, g2, g3⟩ | ⟨g1, g2, g3, g4⟩ | ⟨g1, g2, g3, g4, g5, g6⟩ | ⟨g1, g2, g3, g4, g5⟩
  · refine ⟨?_, fun h => absurd g2 h⟩
    rintro ⟨d, ⟨h, _⟩ | ⟨_, h, _⟩⟩
    · exact absurd g1 h.2.1
    · unfold bb at h; rw [if_pos g1] at h; omega
  · refine ⟨fun _ => by omega, fun _ => ⟨(bes (xw R) (xh R) c s).toNat, .inl ⟨⟨(onA_i jR).mpr on, g1, (onA_i jR).mpr ?_⟩, by omega⟩⟩⟩
    rw [show (((bes (xw R) (xh R) c s).toNat : Nat) : Int) = bes (xw R) (xh R) c s by omega]; exact g2
  · refine ⟨?_, fun h => absurd g4 h⟩
    rintro ⟨d, ⟨h, _⟩ | ⟨h, _⟩⟩
    · exact (noL g2 h).elim
    · omega
  · have b2 : bb (xw R) (xh R) c s = bes (xw R) (xh R) (bes (xw R) (xh R) c s) s := by unfold bb; rw [if_neg g1]
    have rb := bes_in hw hh (c := bes (xw R) (xh R) c s) (by omega) (by omega) (s := s) (by omega)
    refine ⟨fun _ => by omega, fun _ => ⟨(bb (xw R) (xh R) c s).toNat, .inr ⟨by omega, by omega, ?_⟩⟩⟩
    rw [show (((bb (xw R) (xh R) c s).toNat : Nat) : Int) = bb (xw R) (xh R) c s by omega, b2]; exact g5
  · refine ⟨?_, fun h => absurd g5 h⟩
    rintro ⟨d, ⟨h, _⟩ | ⟨_, h, q⟩⟩
    · exact (noL g2 h).elim
    · have b2 : bb (xw R) (xh R) c s = bes (xw R) (xh R) (bes (xw R) (xh R) c s) s := by unfold bb; rw [if_neg g1]
      rw [b2] at h
      exact (g4 ⟨by omega, by rw [h]; exact q⟩).elim
end
section
/-! wardrobe: the class's states and the reference's pairs -/
def tos (R : Mem) (c s : Int) : Int := if s = 4 then c else bes (xw R) (xh R) c s
def nbT3 : Bool := (List.range 6).all fun w => (List.range 6).all fun h => (List.range 36).all fun c => !(decide ((c : Int) < ((w : Int) + 1) * ((h : Int) + 1))) ||
  ((List.range 4).all fun s => !(bes (w + 1) (h + 1) c s == (c : Int)))
theorem nbT3_t : nbT3 = true := by decide +kernel
theorem nbs_c {w h c s : Int} (hw : 1 ≤ w ∧ w ≤ 6) (hh : 1 ≤ h ∧ h ≤ 6) (hc : 0 ≤ c) (hc2 : c < w * h) (hs : 0 ≤ s ∧ s ≤ 3) : bes w h c s ≠ c := by
  obtain ⟨w', h', c', s', lw, lh, lc, ls, rfl, rfl, rfl, rfl⟩ := rngs hw hh hc hc2 hs
  have k := List.all_eq_true.mp (List.all_eq_true.mp (List.all_eq_true.mp nbT3_t w' (List.mem_range.mpr lw)) h' (List.mem_range.mpr lh)) c' (List.mem_range.mpr lc)
  rw [decide_eq_true hc2, Bool.not_true, Bool.false_or] at k
  have k := List.all_eq_true.mp k s' (List.mem_range.mpr ls)
  simpa using k
theorem tos_inj {R : Mem} (jR : J R) {c s r : Int} (hc : 0 ≤ c) (hc2 : c < xw R * xh R) (hs : 0 ≤ s ∧ s ≤ 4) (hr : 0 ≤ r ∧ r ≤ 4) (hn : tos R c s ≠ -1) (e : tos R c s = tos R c r) : s = r := by
  have hw := aw jR
  have hh := ah jR
  unfold tos at e hn
  by_cases a : s = 4
  · by_cases b : r = 4
    · omega
    · rw [if_pos a, if_neg b] at e
      exact absurd e.symm (nbs_c hw hh hc hc2 ⟨hr.1, by omega⟩)
  · rw [if_neg a] at e hn
    by_cases b : r = 4
    · rw [if_pos b] at e
      exact absurd e (nbs_c hw hh hc hc2 ⟨hs.1, by omega⟩)
    · rw [if_neg b] at e
      exact nbs_i hw hh hc hc2 ⟨hs.1, by omega⟩ ⟨hr.1, by omega⟩ hn (.inl e)
theorem pl_tos {R : Mem} {l c s n : Int} (on : onN R l c) (h : plR R l c s n) (hn : n ≠ -1) : n = tos R c s ∧ onN R l (tos R c s) := by
  unfold tos
  rcases h with ⟨a, b⟩ | ⟨a, ⟨_, b⟩ | ⟨_, _, b⟩ | ⟨_, d, e⟩⟩
  · rw [if_pos a]; exact ⟨b, on⟩
  · exact absurd b hn
  · exact absurd b hn
  · rw [if_neg a]; exact ⟨e, d⟩
theorem tos_pl {R : Mem} {l c s : Int} (hb : onN R l (tos R c s)) : plR R l c s (tos R c s) := by
  have h0 := hb.1
  by_cases a : s = 4
  · have e : tos R c s = c := by unfold tos; rw [if_pos a]
    rw [e]; exact .inl ⟨a, rfl⟩
  · have e : tos R c s = bes (xw R) (xh R) c s := by unfold tos; rw [if_neg a]
    rw [e] at hb h0 ⊢
    exact .inr ⟨a, .inr (.inr ⟨by omega, hb, rfl⟩)⟩
theorem ne_tos {R : Mem} {a b : Int} : neR R a b ↔ ∃ s : Int, 0 ≤ s ∧ s ≤ 4 ∧ tos R a s = b := by
  unfold neR tos
  constructor
  · rintro (h | ⟨s, h1, h2, h3⟩)
    · exact ⟨4, by omega, by omega, by rw [if_pos rfl]; exact h⟩
    · exact ⟨s, h1, by omega, by rw [if_neg (by omega)]; exact h3⟩
  · rintro ⟨s, h1, h2, h3⟩
    by_cases a : s = 4
    · rw [if_pos a] at h3; exact .inl h3
    · rw [if_neg a] at h3; exact .inr ⟨s, h1, by omega, h3⟩
def sd (R : Mem) (u : Nat) : Int := tos R ((u / 5 : Nat) : Int) ((u % 5 : Nat) : Int)
def vst (R : Mem) (u : Nat) : Prop := u < 180 ∧ onN R 0 ((u / 5 : Nat) : Int) ∧ onN R 1 (sd R u)
def phN (R : Mem) (u : Nat) : Nat := 36 * (u / 5) + (sd R u).toNat
def Aw1 (R : Mem) (u v : Nat) : Prop := v < 180 ∧ ∃ i j : Nat, i < 5 ∧ j < 5 ∧ onN R 0 (tos R ((u / 5 : Nat) : Int) (i : Int)) ∧ onN R 1 (tos R (sd R u) (j : Int)) ∧ ((v / 5 : Nat) : Int) = tos R ((u / 5 : Nat) : Int) (i : Int) ∧ sd R v = tos R (sd R u) (j : Int)
def Acr (R : Mem) (x y : Nat) : Prop := ∃ s u : Int, (0 ≤ s ∧ s ≤ 4) ∧ (0 ≤ u ∧ u ≤ 4) ∧ crR R ((x : Int) / 36) ((x : Int) % 36) (10 * s + u) (y : Int)
theorem ph_e {R : Mem} (jR : J R) {u : Nat} (h : vst R u) : phN R u < 1296 ∧ ((phN R u : Nat) : Int) / 36 = ((u / 5 : Nat) : Int) ∧ ((phN R u : Nat) : Int) % 36 = sd R u := by
  obtain ⟨h1, h2, h3⟩ := h
  have wh := awh jR
  have a := h3.1
  have b := h3.2.1
  unfold phN
  refine ⟨by omega, by omega, by omega⟩
theorem A1_v {R : Mem} {u v : Nat} (h : Aw1 R u v) : vst R v := by
  obtain ⟨h1, i, j, i5, j5, a, b, c, d⟩ := h
  exact ⟨h1, by rw [c]; exact a, by rw [d]; exact b⟩
theorem A1_cr {R : Mem} (jR : J R) {u v : Nat} (hu : vst R u) (h : Aw1 R u v) : Acr R (phN R u) (phN R v) := by
  have hv := A1_v h
  obtain ⟨h1, i, j, i5, j5, a, b, c, d⟩ := h
  obtain ⟨u1, u2, u3⟩ := ph_e jR hu
  obtain ⟨v1, v2, v3⟩ := ph_e jR hv
  refine ⟨(i : Int), (j : Int), by omega, by omega, ?_⟩
  rw [u2, u3]
  have e1 : (10 * (i : Int) + (j : Int)) / 10 = (i : Int) := by omega
  have e2 : (10 * (i : Int) + (j : Int)) % 10 = (j : Int) := by omega
  refine ⟨_, _, by rw [e1]; exact tos_pl a, by rw [e2]; exact tos_pl b, .inr (.inr ⟨?_, ?_, ?_, ?_⟩)⟩
  · have := a.1; omega
  · have := b.1; omega
  · rw [← c, ← d]
    exact ne_tos.mpr ⟨((v % 5 : Nat) : Int), by omega, by omega, rfl⟩
  · rw [← c, ← d]; omega
theorem cr_A1 {R : Mem} (jR : J R) {u y : Nat} (hu : vst R u) (h : Acr R (phN R u) y) : ∃ v, Aw1 R u v ∧ phN R v = y := by
  obtain ⟨s, t, hs, ht, i', j', p1, p2, p3⟩ := h
  obtain ⟨u1, u2, u3⟩ := ph_e jR hu
  have wh := awh jR
  have e1 : (10 * s + t) / 10 = s := by omega
  have e2 : (10 * s + t) % 10 = t := by omega
  rw [u2, e1] at p1
  rw [u3, e2] at p2
  rcases p3 with ⟨_, z⟩ | ⟨_, _, _, z⟩ | ⟨ni, nj, ne, z⟩
  · omega
  · omega
  obtain ⟨ei, oi⟩ := pl_tos hu.2.1 p1 ni
  obtain ⟨ej, oj⟩ := pl_tos hu.2.2 p2 nj
  obtain ⟨q, q0, q4, qe⟩ := ne_tos.mp ne
  have i0 := oi.1
  have i1 := oi.2.1
  have j0 := oj.1
  rw [← ei] at i0 i1
  rw [← ej] at j0
  have d1 : (((5 * i'.toNat + q.toNat) / 5 : Nat) : Int) = i' := by omega
  have d2 : (((5 * i'.toNat + q.toNat) % 5 : Nat) : Int) = q := by omega
  have sv : sd R (5 * i'.toNat + q.toNat) = j' := by unfold sd; rw [d1, d2]; exact qe
  refine ⟨5 * i'.toNat + q.toNat, ⟨by omega, s.toNat, t.toNat, by omega, by omega, ?_, ?_, ?_, ?_⟩, ?_⟩
  · rw [show ((s.toNat : Nat) : Int) = s by omega]; exact oi
  · rw [show ((t.toNat : Nat) : Int) = t by omega]; exact oj
  · rw [show ((s.toNat : Nat) : Int) = s by omega, ← ei]; exact d1
  · rw [show ((t.toNat : Nat) : Int) = t by omega, ← ej]; exact sv
  · unfold phN
    rw [sv]
    have : (5 * i'.toNat + q.toNat) / 5 = i'.toNat := by omega
    rw [this]; omega
theorem ph_inj {R : Mem} (jR : J R) {u v : Nat} (hu : vst R u) (hv : vst R v) (h : phN R u = phN R v) : u = v := by
  obtain ⟨u1, u2, u3⟩ := ph_e jR hu
  obtain ⟨v1, v2, v3⟩ := ph_e jR hv
  have a : u / 5 = v / 5 := by rw [h] at u2; omega
  have b : sd R u = sd R v := by rw [← u3, ← v3, h]
  have c : ((u % 5 : Nat) : Int) = ((v % 5 : Nat) : Int) := by
    have h0 := hu.2.2.1
    unfold sd at b h0
    rw [← a] at b
    exact tos_inj jR hu.2.1.1 hu.2.1.2.1 (by omega) (by omega) (by omega) b
  omega
theorem dist_eq {R : Mem} (jR : J R) {f g : Nat} {D1 D2 : Nat → Int} (hf : vst R f) (hg : vst R g)
    (a0 : D1 f = 0) (a1 : ∀ u, u < 180 → 0 ≤ D1 u) (a2 : ∀ u, u < 180 → D1 u < 1000000 → u = f ∨ ∃ v, v < 180 ∧ Aw1 R v u ∧ D1 v + 1 = D1 u) (av : ∀ u, u < 180 → D1 u < 1000000 → vst R u) (a3 : ∀ u, u < 180 → D1 u < 1000000 → ∀ v, Aw1 R u v → D1 v ≤ D1 u + 1)
    (b0 : D2 (phN R f) = 0) (b1 : ∀ x, x < 1296 → 0 ≤ D2 x) (b2 : ∀ x, x < 1296 → D2 x < 1000000 → x = phN R f ∨ ∃ y, y < 1296 ∧ Acr R y x ∧ D2 y + 1 = D2 x) (b3 : ∀ x, x < 1296 → D2 x < 1000000 → ∀ y, y < 1296 → Acr R x y → D2 y ≤ D2 x + 1) :
    D1 g = D2 (phN R g) ∨ (1000000 ≤ D1 g ∧ 1000000 ≤ D2 (phN R g)) := by
  have A : ∀ n : Nat, ∀ u, u < 180 → D1 u < 1000000 → D1 u = (n : Int) → D2 (phN R u) ≤ D1 u := by
    intro n
    induction n with
    | zero =>
      intro u hu hd e
      rcases a2 u hu hd with q | ⟨v, hv, _, q⟩
      · subst q; rw [a0, b0]; omega
      · have := a1 v hv; omega
    | succ n ih =>
      intro u hu hd e
      rcases a2 u hu hd with q | ⟨v, hv, w, q⟩
      · subst q; rw [a0] at e; omega
      · have i1 := ih v hv (by omega) (by omega)
        have vv := av v hv (by omega)
        have := b3 (phN R v) (ph_e jR vv).1 (by omega) (phN R u) (ph_e jR (A1_v w)).1 (A1_cr jR vv w)
        omega
  have B : ∀ n : Nat, ∀ x, x < 1296 → D2 x < 1000000 → D2 x = (n : Int) → ∃ u, u < 180 ∧ vst R u ∧ phN R u = x ∧ D1 u ≤ D2 x := by
    intro n
    induction n with
    | zero =>
      intro x hx hd e
      rcases b2 x hx hd with q | ⟨y, hy, _, q⟩
      · exact ⟨f, hf.1, hf, q.symm, by rw [a0]; omega⟩
      · have := b1 y hy; omega
    | succ n ih =>
      intro x hx hd e
      rcases b2 x hx hd with q | ⟨y, hy, w, q⟩
      · exact ⟨f, hf.1, hf, q.symm, by rw [a0]; omega⟩
      · obtain ⟨u, u1, u2, u3, u4⟩ := ih y hy (by omega) (by omega)
        subst u3
        obtain ⟨v, v1, v2⟩ := cr_A1 jR u2 w
        have := a3 u u1 (by omega) v v1
        exact ⟨v, v1.1, A1_v v1, v2, by omega⟩
  by_cases k : D2 (phN R g) < 1000000
  · obtain ⟨u, u1, u2, u3, u4⟩ := B (D2 (phN R g)).toNat (phN R g) (ph_e jR hg).1 k (by have := b1 (phN R g) (ph_e jR hg).1; omega)
    have := ph_inj jR u2 hg u3
    subst this
    have := A (D1 u).toNat u u1 (by omega) (by have := a1 u u1; omega)
    exact .inl (by omega)
  · by_cases k1 : D1 g < 1000000
    · have := A (D1 g).toNat g hg.1 k1 (by have := a1 g hg.1; omega)
      omega
    · exact .inr ⟨by omega, by omega⟩
end
section
/-! wardrobe: the class's search over its states -/
theorem side_i {X R : Mem} (zg : ZG X R) (jR : J R) {c s x : Int32} (hc : 0 ≤ c.toInt) (hc2 : c.toInt < xw R * xh R) (hs : 0 ≤ s.toInt ∧ s.toInt ≤ 4) (e : f_Ways_toSide c s X = some x) : x.toInt = tos R c.toInt s.toInt := by
  have z4 := o4
  unfold f_Ways_toSide at e
  unfold tos
  rcases io e with ⟨g, e⟩ | ⟨g, e⟩
  · have := q_eq g
    obtain rfl := Option.some.inj e
    rw [if_pos (by omega)]
  · have := q_ne g
    obtain ⟨x1, e1, e⟩ := bo e
    obtain rfl := Option.some.inj e
    rw [if_neg (by omega), (besC zg jR e1).1 hc hc2 hs.1 (by omega)]
def Ak (R : Mem) (u k v : Nat) : Prop := v < 180 ∧ onN R 0 (tos R ((u / 5 : Nat) : Int) ((k / 5 : Nat) : Int)) ∧ onN R 1 (tos R (sd R u) ((k % 5 : Nat) : Int)) ∧ ((v / 5 : Nat) : Int) = tos R ((u / 5 : Nat) : Int) ((k / 5 : Nat) : Int) ∧ sd R v = tos R (sd R u) ((k % 5 : Nat) : Int)
theorem Ak_A {R : Mem} {u v : Nat} : Aw1 R u v ↔ ∃ k, k < 25 ∧ Ak R u k v := by
  constructor
  · rintro ⟨h1, i, j, i5, j5, a, b, c, d⟩
    have e1 : (5 * i + j) / 5 = i := by omega
    have e2 : (5 * i + j) % 5 = j := by omega
    exact ⟨5 * i + j, by omega, h1, by rw [e1]; exact a, by rw [e2]; exact b, by rw [e1]; exact c, by rw [e2]; exact d⟩
  · rintro ⟨k, hk, h1, a, b, c, d⟩
    exact ⟨h1, k / 5, k % 5, by omega, by omega, a, b, c, d⟩
theorem Ak_f {R : Mem} (jR : J R) {u k v w : Nat} (h : Ak R u k v) (g : Ak R u k w) : v = w := by
  have hv : vst R v := ⟨h.1, by rw [h.2.2.2.1]; exact h.2.1, by rw [h.2.2.2.2]; exact h.2.2.1⟩
  have hw : vst R w := ⟨g.1, by rw [g.2.2.2.1]; exact g.2.1, by rw [g.2.2.2.2]; exact g.2.2.1⟩
  have a := h.2.2.2.1.trans g.2.2.2.1.symm
  have b := h.2.2.2.2.trans g.2.2.2.2.symm
  refine ph_inj jR hv hw ?_
  unfold phN
  rw [b, show v / 5 = w / 5 by omega]
theorem pair_l {X R : Mem} (zg : ZG X R) (jR : J R) {c d : Int32} {x : Unit ⊕ Int32} (hc : 0 ≤ c.toInt) (hc2 : c.toInt < xw R * xh R) (e : iter (lb_Ways_pairAfter_63 c d X) FU (0 : Int32) = some x) : Sum.elim (fun _ : Unit => ∀ s : Nat, s < 5 → tos R c.toInt s ≠ d.toInt) (fun y : Int32 => ∃ s : Nat, s < 5 ∧ y.toInt = (s : Int) ∧ tos R c.toInt s = d.toInt) x := by
  have z5 : (5 : Int32).toInt = 5 := rfl
  refine it_r (I := fun s : Int32 => ∃ i : Nat, i ≤ 5 ∧ s.toInt = (i : Int) ∧ ∀ s : Nat, s < i → tos R c.toInt s ≠ d.toInt) (Q := fun x : Unit ⊕ Int32 => Sum.elim (fun _ : Unit => ∀ s : Nat, s < 5 → tos R c.toInt s ≠ d.toInt) (fun y : Int32 => ∃ s : Nat, s < 5 ∧ y.toInt = (s : Int) ∧ tos R c.toInt s = d.toInt) x) ?_ e ⟨0, by omega, rfl, fun s hs => absurd hs (by omega)⟩
  rintro k r ⟨i, li, hi, hn⟩ e
  unfold lb_Ways_pairAfter_63 at e
  rcases io e with ⟨g, e⟩ | ⟨g, e⟩
  · have := q_le g
    obtain rfl := Option.some.inj e
    show ∀ s : Nat, s < 5 → tos R c.toInt s ≠ d.toInt
    exact fun s hs => hn s (by omega)
  have g1 := q_ng g
  obtain ⟨x6, e6, e⟩ := bo e
  have h6 := side_i zg jR hc hc2 (by omega) e6
  rw [hi] at h6
  rcases io e with ⟨g, e⟩ | ⟨g, e⟩
  · obtain rfl := Option.some.inj e
    show ∃ s : Nat, s < 5 ∧ k.toInt = (s : Int) ∧ tos R c.toInt s = d.toInt
    exact ⟨i, by omega, hi, by rw [← h6, g]⟩
  · have gg := q_ne g
    obtain rfl := Option.some.inj e
    have b1 : (k + (1 : Int32)).toInt = ((i + 1 : Nat) : Int) := add_ti hi o1 (by omega) (by omega)
    refine ⟨i + 1, by omega, b1, fun s hs => ?_⟩
    by_cases q : s = i
    · subst q; rw [← h6]; exact gg
    · exact hn s (by omega)
theorem pair_r {X R : Mem} (zg : ZG X R) (jR : J R) {v2 v3 x : Int32} {u k : Nat} (hu : v2.toInt = (u : Int)) (hv : vst R u) (hk : v3.toInt = (k : Int)) (k25 : k < 25) (e : f_Ways_pairAfter v2 v3 X = some x) : (x.toInt = -1 ∧ ∀ v, ¬ Ak R u k v) ∨ ∃ v : Nat, x.toInt = (v : Int) ∧ Ak R u k v := by
  have z5 : (5 : Int32).toInt = 5 := rfl
  have z0 := o0
  have z1 := o1
  have wh := awh jR
  obtain ⟨hv1, hv2, hv3⟩ := hv
  have d1 : (v2 / (5 : Int32)).toInt = ((u / 5 : Nat) : Int) := by rw [div_ti hu z5 (by omega) (by omega)]; omega
  have d2 : (v2 - v2 / (5 : Int32) * (5 : Int32)).toInt = ((u % 5 : Nat) : Int) := by rw [rem_ti hu z5 (by omega) (by omega)]; omega
  have d3 : (v3 / (5 : Int32)).toInt = ((k / 5 : Nat) : Int) := by rw [div_ti hk z5 (by omega) (by omega)]; omega
  have d4 : (v3 - v3 / (5 : Int32) * (5 : Int32)).toInt = ((k % 5 : Nat) : Int) := by rw [rem_ti hk z5 (by omega) (by omega)]; omega
  unfold f_Ways_pairAfter at e
  obtain ⟨x1, e1, e⟩ := bo e
  obtain ⟨x2, e2, e⟩ := bo e
  obtain ⟨x3, e3, e⟩ := bo e
  obtain ⟨x4, e4, e⟩ := bo e
  have u0 := hv2.1
  have u1 := hv2.2.1
  have h1 := side_i zg jR (by omega) (by omega) (by omega) e1
  have h2 := side_i zg jR (by omega) (by omega) (by omega) e2
  rw [d1, d2] at h1
  rw [d1, d3] at h2
  have h1' : x1.toInt = sd R u := h1
  have h3 := side_i zg jR (by rw [h1']; exact hv3.1) (by rw [h1']; exact hv3.2.1) (by omega) e3
  rw [h1', d4] at h3
  have h4 := holdsC zg jR e4
  rw [z0, h2] at h4
  rcases io e with ⟨g, e⟩ | ⟨g, e⟩
  · obtain rfl := Option.some.inj e
    refine .inl ⟨rfl, fun v a => ?_⟩
    rcases h4 with ⟨h, _⟩ | ⟨_, h⟩
    · rw [h] at g; exact absurd g (by decide)
    · exact h ⟨by omega, by omega, a.2.1⟩
  rcases h4 with ⟨_, _, _, on0⟩ | ⟨h, _⟩
  rotate_left
  · exact absurd h g
  obtain ⟨x5, e5, e⟩ := bo e
  have h5 := holdsC zg jR e5
  rw [z1, h3] at h5
  rcases io e with ⟨g5, e⟩ | ⟨g5, e⟩
  · obtain rfl := Option.some.inj e
    refine .inl ⟨rfl, fun v a => ?_⟩
    rcases h5 with ⟨h, _⟩ | ⟨_, h⟩
    · rw [h] at g5; exact absurd g5 (by decide)
    · exact h ⟨by omega, by omega, a.2.2.1⟩
  rcases h5 with ⟨_, _, _, on1⟩ | ⟨h, _⟩
  rotate_left
  · exact absurd h g5
  have a0 := on0.1
  have a1 := on0.2.1
  obtain ⟨w, ew, e⟩ := bo e
  have L := pair_l zg jR (by rw [h2]; exact a0) (by rw [h2]; exact a1) ew
  rw [h2, h3] at L
  rcases w with w | y
  · obtain rfl := Option.some.inj e
    have L' : ∀ s : Nat, s < 5 → tos R (tos R ((u / 5 : Nat) : Int) ((k / 5 : Nat) : Int)) s ≠ tos R (sd R u) ((k % 5 : Nat) : Int) := L
    refine .inl ⟨rfl, fun v a => ?_⟩
    refine L' (v % 5) (by omega) ?_
    rw [← a.2.2.2.1]
    exact a.2.2.2.2
  · obtain ⟨s, s5, hs, es⟩ : ∃ s : Nat, s < 5 ∧ y.toInt = (s : Int) ∧ tos R (tos R ((u / 5 : Nat) : Int) ((k / 5 : Nat) : Int)) s = tos R (sd R u) ((k % 5 : Nat) : Int) := L
    have e' : x2 * (5 : Int32) + y = x := Option.some.inj e
    have m1 : (x2 * (5 : Int32)).toInt = tos R ((u / 5 : Nat) : Int) ((k / 5 : Nat) : Int) * 5 := mul_ti h2 z5 (by omega) (by omega)
    have m2 : x.toInt = tos R ((u / 5 : Nat) : Int) ((k / 5 : Nat) : Int) * 5 + (s : Int) := by rw [← e']; exact add_ti m1 hs (by omega) (by omega)
    obtain ⟨c, hc⟩ : ∃ c : Nat, tos R ((u / 5 : Nat) : Int) ((k / 5 : Nat) : Int) = (c : Int) := ⟨(tos R ((u / 5 : Nat) : Int) ((k / 5 : Nat) : Int)).toNat, by omega⟩
    have c1 : ((c * 5 + s) / 5 : Nat) = c := by omega
    have c2 : ((c * 5 + s) % 5 : Nat) = s := by omega
    refine .inr ⟨c * 5 + s, by omega, by omega, on0, on1, ?_, ?_⟩
    · rw [c1, hc]
    · unfold sd
      rw [c1, c2, ← hc]
      exact es
/-- the search: found t, of D, in the row Q -/
def CQ (R : Mem) (f t : Nat) (D : Nat → Int) (Q : Nat → Nat) : Prop := 1 ≤ t ∧ D f = 0 ∧ (∀ i, i < t → Q i < 180 ∧ D (Q i) ≤ (i : Int) ∧ vst R (Q i)) ∧ (∀ u, u < 180 → 0 ≤ D u ∧ (D u < 1000000 → ∃ i, i < t ∧ Q i = u)) ∧ (∀ i j, i ≤ j → j < t → D (Q i) ≤ D (Q j)) ∧ (∀ u, u < 180 → D u < 1000000 → u = f ∨ ∃ v, v < 180 ∧ Aw1 R v u ∧ D v + 1 = D u) ∧ (List.range 180).countP (fun u => decide (D u < 1000000)) = t
def CC (R : Mem) (h : Nat) (D : Nat → Int) (Q : Nat → Nat) : Prop := ∀ i, i < h → ∀ v, Aw1 R (Q i) v → D v ≤ D (Q i) + 1
theorem CQ_180 {R : Mem} {f t : Nat} {D : Nat → Int} {Q : Nat → Nat} (c : CQ R f t D Q) : t ≤ 180 := by
  rw [← c.2.2.2.2.2.2]; exact cnt_le _ _
theorem CQ_add {R : Mem} {f t h w : Nat} {D D' : Nat → Int} {Q Q' : Nat → Nat} (c : CQ R f t D Q) (ht : h < t) (front : ∀ j, j < t → D (Q j) ≤ D (Q h) + 1) (w180 : w < 180) (hw : ¬ D w < 1000000) (ad : Aw1 R (Q h) w) (e1 : D' w = D (Q h) + 1) (e2 : ∀ u, u ≠ w → D' u = D u) (e3 : Q' t = w) (e4 : ∀ i, i ≠ t → Q' i = Q i) : t < 180 ∧ CQ R f (t + 1) D' Q' ∧ (∀ j, j < t + 1 → D' (Q' j) ≤ D' (Q' h) + 1) ∧ Q' h = Q h ∧ (∀ u, D u < 1000000 → D' u = D u) := by
  have t180 := CQ_180 c
  obtain ⟨c1, c2, c3, c4, c5, c6, c7⟩ := c
  have lt : t < 180 := by
    rcases Nat.lt_or_ge t 180 with q | q
    · exact q
    · exact absurd (of_decide_eq_true (cnt_all (P := fun u => decide (D u < 1000000)) (n := 180) (by omega) w w180)) hw
  have nf : ∀ u, D u < 1000000 → u ≠ w := fun u hu e => hw (by rw [← e]; exact hu)
  have kp : ∀ u, D u < 1000000 → D' u = D u := fun u hu => e2 u (nf u hu)
  have fd : ∀ i, i < t → D (Q i) < 1000000 := fun i hi => by have := (c3 i hi).2.1; omega
  have q : ∀ i, i < t → Q' i = Q i ∧ D' (Q' i) = D (Q i) := fun i hi => by
    have a := e4 i (by omega)
    exact ⟨a, by rw [a]; exact kp _ (fd i hi)⟩
  have qt : D' (Q' t) = D (Q h) + 1 := by rw [e3]; exact e1
  have h0 := (c4 (Q h) (c3 h ht).1).1
  refine ⟨lt, ⟨by omega, ?_, fun i hi => ?_, fun u hu => ?_, fun i j hij hj => ?_, fun u hu hd => ?_, ?_⟩, fun j hj => ?_, (q h ht).1, kp⟩
  · rw [kp f (by omega)]; exact c2
  · by_cases g : i = t
    · subst g
      rw [qt, e3]
      have := (c3 h ht).2.1
      exact ⟨w180, by omega, A1_v ad⟩
    · have := q i (by omega)
      rw [this.2, this.1]
      exact c3 i (by omega)
  · by_cases g : u = w
    · subst g
      exact ⟨by omega, fun _ => ⟨t, by omega, e3⟩⟩
    · rw [e2 u g]
      refine ⟨(c4 u hu).1, fun hd => ?_⟩
      obtain ⟨i, hi, e⟩ := (c4 u hu).2 hd
      exact ⟨i, by omega, by rw [(q i hi).1]; exact e⟩
  · by_cases g : j = t
    · subst g
      rw [qt]
      by_cases g2 : i = j
      · rw [g2, qt]; omega
      · rw [(q i (by omega)).2]; exact front i (by omega)
    · rw [(q i (by omega)).2, (q j (by omega)).2]; exact c5 i j hij (by omega)
  · by_cases g : u = w
    · subst g
      exact .inr ⟨Q h, (c3 h ht).1, ad, by rw [kp _ (fd h ht)]; exact e1.symm⟩
    · rw [e2 u g] at hd ⊢
      rcases c6 u hu hd with z | ⟨v, v1, v2, v3⟩
      · exact .inl z
      · exact .inr ⟨v, v1, v2, by rw [kp v (by omega)]; exact v3⟩
  · rw [cnt_put (c := w) (P' := fun u => decide (D u < 1000000)) w180 (fun d _ hd => by rw [e2 d hd]) (decide_eq_false hw) (decide_eq_true (by rw [e1]; have := fd h ht; have := (c3 h ht).2.1; omega)), c7]
  · rw [(q h ht).2]
    by_cases g : j = t
    · subst g; rw [qt]; omega
    · rw [(q j (by omega)).2]; exact front j (by omega)
theorem CC_add {R : Mem} {f t h : Nat} {D D' : Nat → Int} {Q Q' : Nat → Nat} (c : CQ R f t D Q) (ht : h ≤ t) (k : CC R h D Q) (e4 : ∀ i, i ≠ t → Q' i = Q i) (kp : ∀ u, D u < 1000000 → D' u = D u) : CC R h D' Q' := by
  have t180 := CQ_180 c
  intro i hi v hv
  rw [e4 i (by omega)] at hv ⊢
  have a := k i hi v hv
  have b := (c.2.2.1 i (by omega)).2.1
  rw [kp v (by omega), kp (Q i) (by omega)]
  exact a
end
section
/-! wardrobe: the class's search, as it runs -/
def Dm (N : Mem) (u : Nat) : Int := (N.1 159 u).toInt
def Qm (N : Mem) (i : Nat) : Nat := (N.1 160 i).toInt.toNat
def QFw (X N : Mem) : Prop := (∀ kx i, kx ≠ 159 → kx ≠ 160 → N.1 kx i = X.1 kx i) ∧ N.2 = X.2
def QO (t : Nat) (N : Mem) : Prop := ∀ i, i < t → 0 ≤ (N.1 160 i).toInt
theorem ZG_q {X N R : Mem} (zg : ZG X R) (f : QFw X N) : ZG N R :=
  ⟨by rw [f.1 3 2 (by omega) (by omega)]; exact zg.1, by rw [f.1 3 3 (by omega) (by omega)]; exact zg.2.1, fun i hi => by rw [f.1 4 i (by omega) (by omega)]; exact zg.2.2.1 i hi, zg.2.2.2⟩
theorem CQ_lt {R : Mem} {f t w : Nat} {D : Nat → Int} {Q : Nat → Nat} (c : CQ R f t D Q) (w180 : w < 180) (hw : ¬ D w < 1000000) : t < 180 := by
  have t180 := CQ_180 c
  have c7 := c.2.2.2.2.2.2
  rcases Nat.lt_or_ge t 180 with q | q
  · exact q
  · exact absurd (of_decide_eq_true (cnt_all (P := fun u => decide (D u < 1000000)) (n := 180) (by omega) w w180)) hw
theorem mp_in {X R : Mem} (zg : ZG X R) (jR : J R) {f t0 h : Nat} {v4 a0 : Int32} {N0 : Mem} {y : Int32 × Mem} (h4 : v4.toInt = (h : Int)) (ht : h < t0) (a0t : a0.toInt = (t0 : Int)) (fx : QFw X N0) (qo : QO t0 N0) (c : CQ R f t0 (Dm N0) (Qm N0)) (cc : CC R h (Dm N0) (Qm N0)) (fr : ∀ j, j < t0 → Dm N0 (Qm N0 j) ≤ Dm N0 (Qm N0 h) + 1) (e : iter (lb_Ways_measurePairs_68 v4) FU (a0, (0 : Int32), N0) = some y) : ∃ t : Nat, y.1.toInt = (t : Int) ∧ h < t ∧ QFw X y.2 ∧ QO t y.2 ∧ CQ R f t (Dm y.2) (Qm y.2) ∧ CC R (h + 1) (Dm y.2) (Qm y.2) ∧ ∀ j, j < t → Dm y.2 (Qm y.2 j) ≤ Dm y.2 (Qm y.2 h) + 1 := by
  have z25 : (25 : Int32).toInt = 25 := rfl
  have z180 : (180 : Int32).toInt = 180 := rfl
  have kF : (1000000 : Int32).toInt = 1000000 := rfl
  have zm := om
  refine it_r (I := fun s : Int32 × Int32 × Mem => ∃ t k : Nat, s.1.toInt = (t : Int) ∧ s.2.1.toInt = (k : Int) ∧ k ≤ 25 ∧ h < t ∧ QFw X s.2.2 ∧ QO t s.2.2 ∧ CQ R f t (Dm s.2.2) (Qm s.2.2) ∧ CC R h (Dm s.2.2) (Qm s.2.2) ∧ (∀ j, j < t → Dm s.2.2 (Qm s.2.2 j) ≤ Dm s.2.2 (Qm s.2.2 h) + 1) ∧ ∀ k', k' < k → ∀ v, Ak R (Qm s.2.2 h) k' v → Dm s.2.2 v ≤ Dm s.2.2 (Qm s.2.2 h) + 1)
    (Q := fun y : Int32 × Mem => ∃ t : Nat, y.1.toInt = (t : Int) ∧ h < t ∧ QFw X y.2 ∧ QO t y.2 ∧ CQ R f t (Dm y.2) (Qm y.2) ∧ CC R (h + 1) (Dm y.2) (Qm y.2) ∧ ∀ j, j < t → Dm y.2 (Qm y.2 j) ≤ Dm y.2 (Qm y.2 h) + 1) ?_ e ⟨t0, 0, a0t, rfl, by omega, ht, fx, qo, c, cc, fr, fun k' hk' => absurd hk' (by omega)⟩
  clear fx qo c cc fr e a0t ht
  rintro ⟨a, k, N⟩ r ⟨t, kk, ha, hk, k25, ht, fx, qo, c, cc, fr, cl⟩ e
  dsimp only at ha hk fx qo c cc fr cl
  unfold lb_Ways_measurePairs_68 at e
  dsimp only at e
  rcases io e with ⟨g, e⟩ | ⟨g, e⟩
  · have := q_le g
    obtain rfl := Option.some.inj e
    have : kk = 25 := by omega
    subst this
    refine ⟨t, ha, ht, fx, qo, c, fun i hi v hv => ?_, fr⟩
    by_cases q : i = h
    · subst q
      obtain ⟨k', hk', a'⟩ := Ak_A.mp hv
      exact cl k' hk' v a'
    · exact cc i (by omega) v hv
  have g1 := q_ng g
  have t180 := CQ_180 c
  obtain ⟨_, e⟩ := io_n e
  obtain ⟨x6, e6, e⟩ := bo e
  rw [q_nat h4] at e6 e
  have qh : (N.1 160 h).toInt = ((Qm N h : Nat) : Int) := by have := qo h ht; unfold Qm; omega
  have c3 := c.2.2.1 h ht
  have P := pair_r (ZG_q zg fx) jR qh c3.2.2 hk (by omega) e6
  have b1 : (k + (1 : Int32)).toInt = ((kk + 1 : Nat) : Int) := add_ti hk o1 (by omega) (by omega)
  have same : (∀ v, Ak R (Qm N h) kk v → Dm N v ≤ Dm N (Qm N h) + 1) → ∀ k', k' < kk + 1 → ∀ v, Ak R (Qm N h) k' v → Dm N v ≤ Dm N (Qm N h) + 1 := fun z k' hk' v hv => by
    by_cases q : k' = kk
    · subst q; exact z v hv
    · exact cl k' (by omega) v hv
  rcases io e with ⟨g6, e⟩ | ⟨g6, e⟩
  · obtain rfl := Option.some.inj e
    refine ⟨t, kk + 1, ha, b1, by omega, ht, fx, qo, c, cc, fr, same (fun v hv => ?_)⟩
    rcases P with ⟨_, p⟩ | ⟨w, hw, _⟩
    · exact absurd hv (p v)
    · have := q_eq g6; omega
  rcases P with ⟨p, _⟩ | ⟨w, hw, aw⟩
  · exact absurd (Int32.toInt_inj.mp (p.trans zm.symm)) g6
  obtain ⟨_, e⟩ := io_n e
  rw [q_nat hw] at e
  rcases io e with ⟨g7, e⟩ | ⟨g7, e⟩
  · have h7 := q_lt g7
    obtain rfl := Option.some.inj e
    refine ⟨t, kk + 1, ha, b1, by omega, ht, fx, qo, c, cc, fr, same (fun v hv => ?_)⟩
    have ev := Ak_f jR hv aw
    subst ev
    obtain ⟨j, hj, ej⟩ := (c.2.2.2.1 v aw.1).2 (by show (N.1 159 v).toInt < 1000000; omega)
    rw [← ej]; exact fr j hj
  have g7' : ¬ Dm N w < 1000000 := by have := q_nl g7; show ¬ (N.1 159 w).toInt < 1000000; omega
  rcases io e with ⟨g8, e⟩ | ⟨g8, e⟩
  · have := q_le g8; have := CQ_lt c aw.1 g7'; omega
  obtain ⟨_, e⟩ := io_n e
  obtain ⟨_, e⟩ := io_n e
  obtain ⟨_, e⟩ := io_n e
  obtain ⟨M7, m7, e⟩ := mo e
  obtain ⟨_, e⟩ := io_n e
  obtain ⟨M8, m8, e⟩ := mo e
  obtain rfl := Option.some.inj e
  rw [q_nat ha] at m8
  have dh0 := (c.2.2.2.1 (Qm N h) c3.1).1
  have dh1 := c3.2.1
  have e1 : Dm M8 w = Dm N (Qm N h) + 1 := by
    show (M8.1 159 w).toInt = (N.1 159 (Qm N h)).toInt + 1
    rw [m8, si_ne (by omega), m7, si_eq]
    exact add_ti (show (N.1 159 (Qm N h)).toInt = Dm N (Qm N h) from rfl) o1 (by show _ ≤ Dm N (Qm N h) + 1; omega) (by show Dm N (Qm N h) + 1 ≤ _; omega)
  have e2 : ∀ u, u ≠ w → Dm M8 u = Dm N u := fun u hu => by
    show (M8.1 159 u).toInt = (N.1 159 u).toInt
    rw [m8, si_ne (by omega), m7, si_ne (by omega)]
  have e3' : (M8.1 160 t).toInt = (w : Int) := by rw [m8, si_eq]; exact hw
  have e3 : Qm M8 t = w := by unfold Qm; omega
  have e4' : ∀ i, i ≠ t → M8.1 160 i = N.1 160 i := fun i hi => by rw [m8, si_ne (by omega), m7, si_ne (by omega)]
  have e4 : ∀ i, i ≠ t → Qm M8 i = Qm N i := fun i hi => by unfold Qm; rw [e4' i hi]
  obtain ⟨lt, c', fr', q', kp⟩ := CQ_add c ht fr aw.1 g7' (Ak_A.mpr ⟨kk, by omega, aw⟩) e1 e2 e3 e4
  have a1 : (a + (1 : Int32)).toInt = ((t + 1 : Nat) : Int) := add_ti ha o1 (by omega) (by omega)
  refine ⟨t + 1, kk + 1, a1, b1, by omega, by omega, ⟨fun kx i h1 h2 => ?_, ?_⟩, fun i hi => ?_, c', CC_add c (by omega) cc e4 kp, fr', fun k' hk' v hv => ?_⟩
  · show M8.1 kx i = X.1 kx i
    rw [m8, si_ne (by omega), m7, si_ne (by omega)]; exact fx.1 kx i h1 h2
  · show M8.2 = X.2
    rw [m8, si_2, m7, si_2]; exact fx.2
  · show 0 ≤ (M8.1 160 i).toInt
    by_cases q : i = t
    · subst q; omega
    · rw [e4' i q]; exact qo i (by omega)
  · dsimp only at hv ⊢
    rw [q'] at hv ⊢
    have kh := kp (Qm N h) (by omega)
    by_cases q : k' = kk
    · subst q
      have ev := Ak_f jR hv aw
      subst ev
      rw [e1, kh]; omega
    · have := cl k' (by omega) v hv
      rw [kp v (by omega), kh]; exact this
theorem mp_out {X R : Mem} (zg : ZG X R) (jR : J R) {f : Nat} {N0 x : Mem} (fx : QFw X N0) (qo : QO 1 N0) (c : CQ R f 1 (Dm N0) (Qm N0)) (e : iter (lb_Ways_measurePairs_51) FU ((1 : Int32), (0 : Int32), N0) = some x) : QFw X x ∧ ∃ t, CQ R f t (Dm x) (Qm x) ∧ CC R t (Dm x) (Qm x) := by
  have z180 : (180 : Int32).toInt = 180 := rfl
  have fr0 : ∀ j, j < 1 → Dm N0 (Qm N0 j) ≤ Dm N0 (Qm N0 0) + 1 := fun j hj => by
    have : j = 0 := by omega
    subst this
    omega
  refine it_r (I := fun s : Int32 × Int32 × Mem => ∃ t h : Nat, s.1.toInt = (t : Int) ∧ s.2.1.toInt = (h : Int) ∧ h ≤ t ∧ QFw X s.2.2 ∧ QO t s.2.2 ∧ CQ R f t (Dm s.2.2) (Qm s.2.2) ∧ CC R h (Dm s.2.2) (Qm s.2.2) ∧ (h < t → ∀ j, j < t → Dm s.2.2 (Qm s.2.2 j) ≤ Dm s.2.2 (Qm s.2.2 h) + 1))
    (Q := fun x : Mem => QFw X x ∧ ∃ t, CQ R f t (Dm x) (Qm x) ∧ CC R t (Dm x) (Qm x)) ?_ e ⟨1, 0, rfl, rfl, by omega, fx, qo, c, fun i hi => absurd hi (by omega), fun hl j hj => fr0 j hj⟩
  clear fx qo c e
  rintro ⟨a, b, N⟩ r ⟨t, h, ha, hb, ht, fx, qo, c, cc, fr⟩ e
  dsimp only at ha hb fx qo c cc fr
  have t180 := CQ_180 c
  unfold lb_Ways_measurePairs_51 at e
  dsimp only at e
  rcases io e with ⟨g, e⟩ | ⟨g, e⟩
  · have := q_le g
    obtain rfl := Option.some.inj e
    have : h = t := by omega
    subst this
    exact ⟨fx, h, c, cc⟩
  have g1 := q_ng g
  rcases io e with ⟨g, e⟩ | ⟨g, e⟩
  · have := q_le g
    obtain rfl := Option.some.inj e
    have : h = t := by omega
    subst this
    exact ⟨fx, h, c, cc⟩
  obtain ⟨x13, e13, e⟩ := bo e
  obtain rfl := Option.some.inj e
  have hlt : h < t := by omega
  obtain ⟨t', h1, h2, h3, h4, h5, h6, h7⟩ := mp_in zg jR hb hlt ha fx qo c cc (fr hlt) e13
  have b1 : (b + (1 : Int32)).toInt = ((h + 1 : Nat) : Int) := add_ti hb o1 (by omega) (by omega)
  refine ⟨t', h + 1, h1, b1, by omega, h3, h4, h5, h6, fun hl j hj => ?_⟩
  have m := h5.2.2.2.2.1 h (h + 1) (by omega) hl
  have := h7 j hj
  dsimp only
  omega
theorem mp_z {X x : Mem} {v2 : Int32} (e : iter (lb_Ways_measurePairs_2 v2) FU ((0 : Int32), X) = some x) : QFw X x ∧ ∀ u, u < 180 → (x.1 159 u).toInt = 1000000 := by
  have z180 : (180 : Int32).toInt = 180 := rfl
  refine it_r (I := fun s : Int32 × Mem => ∃ i : Nat, i ≤ 180 ∧ s.1.toInt = (i : Int) ∧ QFw X s.2 ∧ ∀ u, u < i → (s.2.1 159 u).toInt = 1000000) (Q := fun x : Mem => QFw X x ∧ ∀ u, u < 180 → (x.1 159 u).toInt = 1000000) ?_ e ⟨0, by omega, rfl, ⟨fun _ _ _ _ => rfl, rfl⟩, fun u hu => absurd hu (by omega)⟩
  rintro ⟨k, N⟩ r ⟨i, li, hi, fx, hd⟩ e
  dsimp only at hi fx hd
  unfold lb_Ways_measurePairs_2 at e
  dsimp only at e
  rcases io e with ⟨g, e⟩ | ⟨g, e⟩
  · have := q_le g
    obtain rfl := Option.some.inj e
    exact ⟨fx, fun u hu => hd u (by omega)⟩
  have g1 := q_ng g
  obtain ⟨_, e⟩ := io_n e
  obtain ⟨M1, m1, e⟩ := mo e
  obtain rfl := Option.some.inj e
  rw [q_nat hi] at m1
  have b1 : (k + (1 : Int32)).toInt = ((i + 1 : Nat) : Int) := add_ti hi o1 (by omega) (by omega)
  refine ⟨i + 1, by omega, b1, ⟨fun kx j h1 h2 => ?_, ?_⟩, fun u hu => ?_⟩
  · show M1.1 kx j = _
    rw [m1, si_ne (by omega)]; exact fx.1 kx j h1 h2
  · show M1.2 = _
    rw [m1, si_2]; exact fx.2
  · show (M1.1 159 u).toInt = _
    rw [m1]
    by_cases q : u = i
    · subst q; rw [si_eq]; rfl
    · rw [si_ne (by omega)]; exact hd u (by omega)
theorem mp_r {X R x : Mem} (zg : ZG X R) (jR : J R) {v2 : Int32} {c : Nat} (h2 : v2.toInt = (c : Int)) (on0 : onN R 0 c) (on1 : onN R 1 c) (e : f_Ways_measurePairs v2 X = some x) : QFw X x ∧ ∃ t, CQ R (5 * c + 4) t (Dm x) (Qm x) ∧ CC R t (Dm x) (Qm x) := by
  have z5 : (5 : Int32).toInt = 5 := rfl
  have z4 := o4
  have wh := awh jR
  have q0 : (0 : Int32).toNatClampNeg = 0 := rfl
  have c36 := on0.2.1
  unfold f_Ways_measurePairs at e
  obtain ⟨x3, e3, e⟩ := bo e
  obtain ⟨M4, m4, e⟩ := mo e
  rw [q0] at m4 e
  obtain ⟨_, e⟩ := io_n e
  obtain ⟨M5, m5, e⟩ := mo e
  obtain ⟨x16, e16, e⟩ := bo e
  obtain rfl := Option.some.inj e
  obtain ⟨fz, hz⟩ := mp_z e3
  have i4 : (v2 * (5 : Int32) + (4 : Int32)).toInt = ((5 * c + 4 : Nat) : Int) := by rw [add_ti (mul_ti h2 z5 (by omega) (by omega)) z4 (by omega) (by omega)]; omega
  have q4 : M4.1 160 0 = v2 * (5 : Int32) + (4 : Int32) := by rw [m4, si_eq]
  rw [q4, q_nat i4] at m5
  have k5 : (5 * c + 4) / 5 = c := by omega
  have k6 : (5 * c + 4) % 5 = 4 := by omega
  have fD : (M5.1 159 (5 * c + 4)).toInt = 0 := by rw [m5, si_eq]; rfl
  have oD : ∀ u, u < 180 → u ≠ 5 * c + 4 → (M5.1 159 u).toInt = 1000000 := fun u hu hn => by rw [m5, si_ne (by omega), m4, si_ne (by omega)]; exact hz u hu
  have fQ : (M5.1 160 0).toInt = ((5 * c + 4 : Nat) : Int) := by rw [m5, si_ne (by omega), q4]; exact i4
  have Q0 : Qm M5 0 = 5 * c + 4 := by unfold Qm; omega
  have sv : sd R (5 * c + 4) = (c : Int) := by unfold sd tos; rw [k6, if_pos (by decide), k5]
  have vf : vst R (5 * c + 4) := ⟨by omega, by rw [k5]; exact on0, by rw [sv]; exact on1⟩
  have dd : ∀ u, u < 180 → Dm M5 u < 1000000 → u = 5 * c + 4 := fun u hu hd => by
    by_cases q : u = 5 * c + 4
    · exact q
    · have := oD u hu q
      have hd' : (M5.1 159 u).toInt < 1000000 := hd
      omega
  refine mp_out zg jR (f := 5 * c + 4) (N0 := M5) ⟨fun kx i h1 h2 => ?_, ?_⟩ (fun i hi => ?_) ⟨by omega, fD, fun i hi => ?_, fun u hu => ⟨?_, fun hd => ⟨0, by omega, by rw [Q0, dd u hu hd]⟩⟩, fun i j hij hj => ?_, fun u hu hd => .inl (dd u hu hd), ?_⟩ e16
  · rw [m5, si_ne (by omega), m4, si_ne (by omega)]; exact fz.1 kx i h1 h2
  · rw [m5, si_2, m4, si_2]; exact fz.2
  · have : i = 0 := by omega
    subst this; omega
  · have : i = 0 := by omega
    subst this
    rw [Q0]
    exact ⟨by omega, by show (M5.1 159 (5 * c + 4)).toInt ≤ _; omega, vf⟩
  · show 0 ≤ (M5.1 159 u).toInt
    by_cases q : u = 5 * c + 4
    · subst q; omega
    · have := oD u hu q; omega
  · have : i = j := by omega
    subst this; exact Int.le_refl _
  · rw [cnt_put (c := 5 * c + 4) (P' := fun _ => false) vf.1 (fun d hd hn => decide_eq_false (fun w => hn (dd d hd w))) rfl (decide_eq_true (by show (M5.1 159 (5 * c + 4)).toInt < 1000000; omega)), List.countP_eq_zero.mpr (fun _ _ => by decide)]
end
section
/-! wardrobe: the reference's search is closed -/
def DR (N : Mem) (x : Nat) : Int := (N.1 185 x).toInt
def TWd (q : Int) (acc : Int32) (M : Mem) (a : Int32) (N : Mem) : Prop := (∀ x, DR M x < 1000000 → N.1 185 x = M.1 185 x) ∧ (∀ x, x < 1296 → DR N x < 1000000 → DR M x < 1000000 ∨ DR N x = q + 1) ∧ (a = 0 → acc = 0 ∧ ∀ x, N.1 185 x = M.1 185 x)
theorem TWd_r {q : Int} {a : Int32} {M : Mem} : TWd q a M a M := ⟨fun _ _ => rfl, fun _ _ h => .inl h, fun h => ⟨h, fun _ => rfl⟩⟩
theorem TWd_t {q : Int} (hq : q ≤ 2000) {a b c : Int32} {M N K : Mem} (h : TWd q a M b N) (g : TWd q b N c K) : TWd q a M c K := by
  obtain ⟨h1, h2, h3⟩ := h
  obtain ⟨g1, g2, g3⟩ := g
  have e : ∀ x, DR M x < 1000000 → DR N x < 1000000 := fun x hx => by unfold DR at hx ⊢; rw [h1 x hx]; exact hx
  refine ⟨fun x hx => (g1 x (e x hx)).trans (h1 x hx), fun x hx hd => ?_, fun z => ⟨(h3 (g3 z).1).1, fun x => ((g3 z).2 x).trans ((h3 (g3 z).1).2 x)⟩⟩
  rcases g2 x hx hd with w | w
  · rcases h2 x hx w with u | u
    · exact .inl u
    · refine .inr ?_
      have : DR K x = DR N x := congrArg Int32.toInt (g1 x w)
      omega
  · exact .inr w
def CLl (B : Mem) (q : Int) (N : Mem) (x : Nat) : Prop := ∀ code : Nat, code < 45 → code % 10 ≤ 4 → ∀ y : Nat, crR B ((x : Int) / 36) ((x : Int) % 36) (code : Int) (y : Int) → DR N y ≤ q + 1
theorem CLl_k {B M N : Mem} {q : Int} {x : Nat} (hq : q ≤ 2000) (kp : ∀ x, DR M x < 1000000 → N.1 185 x = M.1 185 x) (h : CLl B q M x) : CLl B q N x := fun code h1 h2 y h3 => by
  have a := h code h1 h2 y h3
  have b : DR N y = DR M y := congrArg Int32.toInt (kp y (by omega))
  omega
theorem w138_r {B M : Mem} {q : Int} (hq : 0 ≤ q ∧ q ≤ 2000) {v1 v4 v5 v6 acc : Int32} {a b : Nat} (h4 : v4.toInt = q) (h5 : v5.toInt = (a : Int)) (h6 : v6.toInt = (b : Int)) (a36 : a < 36) (b36 : b < 36) (jM : J M) (fM : Fr W85 B M) (hle : ∀ x, x < 1296 → DR M x < 1000000 → DR M x ≤ q + 1) {x : Int32 × Mem} (e : iter (lb_Mod_wardrobe_138 v1 v4 v5 v6) FU (acc, (0 : Int32), M) = some x) : J x.2 ∧ Fr W85 B x.2 ∧ TWd q acc M x.1 x.2 ∧ CLl B q x.2 (36 * a + b) := by
  have z45 : (45 : Int32).toInt = 45 := rfl
  have z10 : (10 : Int32).toInt = 10 := rfl
  have kF : (1000000 : Int32).toInt = 1000000 := rfl
  have z4 := o4
  have zm := om
  have ea : (((36 * a + b : Nat) : Int)) / 36 = (a : Int) := by omega
  have eb : (((36 * a + b : Nat) : Int)) % 36 = (b : Int) := by omega
  refine it_r (I := fun s : Int32 × Int32 × Mem => ∃ k : Nat, s.2.1.toInt = (k : Int) ∧ k ≤ 45 ∧ J s.2.2 ∧ Fr W85 B s.2.2 ∧ TWd q acc M s.1 s.2.2 ∧ ∀ code : Nat, code < k → code % 10 ≤ 4 → ∀ y : Nat, crR B (a : Int) (b : Int) (code : Int) (y : Int) → DR s.2.2 y ≤ q + 1)
    (Q := fun x : Int32 × Mem => J x.2 ∧ Fr W85 B x.2 ∧ TWd q acc M x.1 x.2 ∧ CLl B q x.2 (36 * a + b)) ?_ e ⟨0, rfl, by omega, jM, fM, TWd_r, fun code h => absurd h (by omega)⟩
  rintro ⟨c, kv, N⟩ r ⟨k, hk, k45, jN, fN, tw, cl⟩ e
  dsimp only at hk jN fN tw cl
  unfold lb_Mod_wardrobe_138 at e
  dsimp only at e
  rcases io e with ⟨g, e⟩ | ⟨g, e⟩
  · have := q_le g
    obtain rfl := Option.some.inj e
    refine ⟨jN, fN, tw, fun code h1 h2 y h3 => ?_⟩
    rw [ea, eb] at h3
    exact cl code (by omega) h2 y h3
  have g1 := q_ng g
  have b1 : (kv + (1 : Int32)).toInt = ((k + 1 : Nat) : Int) := add_ti hk o1 (by omega) (by omega)
  have rm : (kv - kv / (10 : Int32) * (10 : Int32)).toInt = ((k % 10 : Nat) : Int) := by rw [rem_ti hk z10 (by omega) (by omega)]; omega
  have nx : ∀ K : Mem, (∀ y, DR N y < 1000000 → K.1 185 y = N.1 185 y) → (k % 10 ≤ 4 → ∀ y : Nat, crR B (a : Int) (b : Int) (k : Int) (y : Int) → DR K y ≤ q + 1) → ∀ code : Nat, code < k + 1 → code % 10 ≤ 4 → ∀ y : Nat, crR B (a : Int) (b : Int) (code : Int) (y : Int) → DR K y ≤ q + 1 := by
    intro K kp z code h1 h2 y h3
    by_cases w : code = k
    · subst w; exact z h2 y h3
    · have a1 := cl code (by omega) h2 y h3
      have a2 : DR K y = DR N y := congrArg Int32.toInt (kp y (by omega))
      omega
  rcases io e with ⟨g, e⟩ | ⟨g, e⟩
  · have g2 := q_le g
    obtain ⟨x10, e10, e⟩ := bo e
    obtain ⟨c1, c2, c3⟩ := some_of (fs_carryTo jN v5 v6 kv (by omega) (by omega) (by omega)) e10
    rw [h5, h6, hk] at c1
    have c1 := (crR_c (W85.map fN)).mp c1
    unfold j_Mod_wardrobe_168_138 at e
    rcases io e with ⟨g3, e⟩ | ⟨g3, e⟩
    · have := q_eq g3
      obtain rfl := Option.some.inj e
      refine ⟨k + 1, b1, by omega, jN, fN, tw, nx N (fun _ _ => rfl) (fun _ y h3 => ?_)⟩
      have := crR_fun c1 h3
      omega
    have g3' := q_ne g3
    obtain ⟨y0, hy0⟩ := ti_ofn (v := x10) (by omega)
    rw [hy0] at c1
    have same : ∀ y : Nat, crR B (a : Int) (b : Int) (k : Int) (y : Int) → y = y0 := fun y h3 => by
      have := crR_fun c1 h3; omega
    obtain ⟨_, e⟩ := io_n e
    rw [q_nat hy0] at e
    rcases io e with ⟨g5, e⟩ | ⟨g5, e⟩
    · have far : 1000000 ≤ (N.1 185 y0).toInt := by have := q_le g5; omega
      obtain ⟨_, e⟩ := io_n e
      obtain ⟨M11, m11, e⟩ := mo e
      obtain rfl := Option.some.inj e
      have ev : (v4 + (1 : Int32)).toInt = q + 1 := add_ti h4 o1 (by omega) (by omega)
      have d0 : DR M11 y0 = q + 1 := by unfold DR; rw [m11, si_eq]; exact ev
      have dn : ∀ y, y ≠ y0 → M11.1 185 y = N.1 185 y := fun y hy => by rw [m11, si_ne (by omega)]
      have kp : ∀ y, DR N y < 1000000 → M11.1 185 y = N.1 185 y := fun y hy => dn y (fun w => by subst w; unfold DR at hy; omega)
      refine ⟨k + 1, b1, by omega, ?_, ?_, TWd_t hq.2 tw ⟨kp, fun y hy hd => ?_, fun w => absurd w (by show ¬ (1 : Int32) = 0; decide)⟩, nx M11 kp (fun _ y h3 => ?_)⟩
      · show J M11
        rw [m11]; exact Jw_185 jN _ _ (by omega) (by omega)
      · show Fr W85 B M11
        rw [m11]; exact fN.i rfl
      · have hd : DR M11 y < 1000000 := hd
        by_cases w : y = y0
        · subst w; exact .inr d0
        · refine .inl ?_
          have : DR M11 y = DR N y := congrArg Int32.toInt (dn y w)
          omega
      · rw [same y h3]; omega
    · have nf : (N.1 185 y0).toInt < 1000000 := by have := q_ng g5; omega
      obtain rfl := Option.some.inj e
      refine ⟨k + 1, b1, by omega, jN, fN, tw, nx N (fun _ _ => rfl) (fun _ y h3 => ?_)⟩
      rw [same y h3]
      rcases tw.2.1 y0 (by omega) nf with w | w
      · have a1 := hle y0 (by omega) w
        have a2 : DR N y0 = DR M y0 := congrArg Int32.toInt (tw.1 y0 w)
        omega
      · omega
  · have g2 := q_ng g
    unfold j_Mod_wardrobe_168_138 at e
    rw [if_pos rfl] at e
    obtain rfl := Option.some.inj e
    exact ⟨k + 1, b1, by omega, jN, fN, tw, nx N (fun _ _ => rfl) (fun w => absurd w (by omega))⟩
theorem hle_t {q : Int} {acc a : Int32} {M N : Mem} (hle : ∀ x, x < 1296 → DR M x < 1000000 → DR M x ≤ q + 1) (tw : TWd q acc M a N) : ∀ x, x < 1296 → DR N x < 1000000 → DR N x ≤ q + 1 := by
  intro x hx hd
  rcases tw.2.1 x hx hd with w | w
  · have a1 := hle x hx w
    have a2 : DR N x = DR M x := congrArg Int32.toInt (tw.1 x w)
    omega
  · omega
theorem lev_t {q : Int} (hq : q ≤ 2000) {acc a : Int32} {M N : Mem} (tw : TWd q acc M a N) {x : Nat} (hx : x < 1296) (h : DR N x = q) : DR M x = q := by
  rcases tw.2.1 x hx (by omega) with w | w
  · have a2 : DR N x = DR M x := congrArg Int32.toInt (tw.1 x w)
    omega
  · omega
theorem w105_r {B M : Mem} {q : Int} (hq : 0 ≤ q ∧ q ≤ 2000) {v1 v4 v5 acc : Int32} {a : Nat} (h4 : v4.toInt = q) (h5 : v5.toInt = (a : Int)) (a36 : a < 36) (jM : J M) (fM : Fr W85 B M) (hle : ∀ x, x < 1296 → DR M x < 1000000 → DR M x ≤ q + 1) {x : Int32 × Mem} (e : iter (lb_Mod_wardrobe_105 v1 v4 v5) FU (acc, (0 : Int32), M) = some x) : J x.2 ∧ Fr W85 B x.2 ∧ TWd q acc M x.1 x.2 ∧ ∀ b : Nat, (b : Int) < xw B * xh B → DR x.2 (36 * a + b) = q → CLl B q x.2 (36 * a + b) := by
  have z36 : (36 : Int32).toInt = 36 := rfl
  refine it_r (I := fun s : Int32 × Int32 × Mem => ∃ k : Nat, s.2.1.toInt = (k : Int) ∧ k ≤ 36 ∧ J s.2.2 ∧ Fr W85 B s.2.2 ∧ TWd q acc M s.1 s.2.2 ∧ ∀ b : Nat, b < k → DR s.2.2 (36 * a + b) = q → CLl B q s.2.2 (36 * a + b))
    (Q := fun x : Int32 × Mem => J x.2 ∧ Fr W85 B x.2 ∧ TWd q acc M x.1 x.2 ∧ ∀ b : Nat, (b : Int) < xw B * xh B → DR x.2 (36 * a + b) = q → CLl B q x.2 (36 * a + b)) ?_ e ⟨0, rfl, by omega, jM, fM, TWd_r, fun b h => absurd h (by omega)⟩
  rintro ⟨c, kv, N⟩ r ⟨k, hk, k36, jN, fN, tw, cl⟩ e
  dsimp only at hk jN fN tw cl
  unfold lb_Mod_wardrobe_105 at e
  dsimp only at e
  obtain ⟨x9, e9, e⟩ := bo e
  have e9 := cells_e.symm.trans e9
  obtain rfl := Option.some.inj e9
  have we := wh_ti jN
  have wh := awh jN
  obtain ⟨mw, mh, _⟩ := mapR_c (W85.map fN)
  rcases io e with ⟨g, e⟩ | ⟨g, e⟩
  · have := q_le g
    obtain rfl := Option.some.inj e
    exact ⟨jN, fN, tw, fun b hb hd => cl b (by rw [← mw, ← mh] at hb; omega) hd⟩
  have g1 := q_ng g
  have b1 : (kv + (1 : Int32)).toInt = ((k + 1 : Nat) : Int) := add_ti hk o1 (by omega) (by omega)
  have ix : ((36 : Int32) * v5 + kv).toInt = ((36 * a + k : Nat) : Int) := by rw [add_ti (mul_ti z36 h5 (by omega) (by omega)) hk (by omega) (by omega)]; omega
  obtain ⟨_, e⟩ := io_n e
  rw [q_nat ix] at e
  rcases io e with ⟨g2, e⟩ | ⟨g2, e⟩
  · obtain ⟨x16, e16, e⟩ := bo e
    obtain rfl := Option.some.inj e
    obtain ⟨j1, f1, t1, c1⟩ := w138_r hq h4 h5 hk a36 (by omega) jN fN (hle_t hle tw) e16
    refine ⟨k + 1, b1, by omega, j1, f1, TWd_t hq.2 tw t1, fun b hb hd => ?_⟩
    by_cases w : b = k
    · subst w; exact c1
    · exact CLl_k hq.2 t1.1 (cl b (by omega) (lev_t hq.2 t1 (by omega) hd))
  · obtain rfl := Option.some.inj e
    refine ⟨k + 1, b1, by omega, jN, fN, tw, fun b hb hd => ?_⟩
    by_cases w : b = k
    · subst w
      exact absurd (Int32.toInt_inj.mp (show (N.1 185 (36 * a + b)).toInt = v4.toInt by rw [h4]; exact hd)) g2
    · exact cl b (by omega) hd
theorem w93_r {B M : Mem} {q : Int} (hq : 0 ≤ q ∧ q ≤ 2000) {v1 v4 acc : Int32} (h4 : v4.toInt = q) (jM : J M) (fM : Fr W85 B M) (hle : ∀ x, x < 1296 → DR M x < 1000000 → DR M x ≤ q + 1) {x : Int32 × Mem} (e : iter (lb_Mod_wardrobe_93 v1 v4) FU (acc, (0 : Int32), M) = some x) : TWd q acc M x.1 x.2 ∧ ∀ a b : Nat, (a : Int) < xw B * xh B → (b : Int) < xw B * xh B → DR x.2 (36 * a + b) = q → CLl B q x.2 (36 * a + b) := by
  have wB : xw B * xh B ≤ 36 := by
    obtain ⟨mw, mh, _⟩ := mapR_c (W85.map fM)
    rw [← mw, ← mh]; exact (awh jM).2
  have key : J x.2 ∧ Fr W85 B x.2 ∧ TWd q acc M x.1 x.2 ∧ ∀ a b : Nat, (a : Int) < xw B * xh B → (b : Int) < xw B * xh B → DR x.2 (36 * a + b) = q → CLl B q x.2 (36 * a + b) := by
    refine it_r (I := fun s : Int32 × Int32 × Mem => ∃ k : Nat, s.2.1.toInt = (k : Int) ∧ k ≤ 36 ∧ J s.2.2 ∧ Fr W85 B s.2.2 ∧ TWd q acc M s.1 s.2.2 ∧ ∀ a b : Nat, a < k → (b : Int) < xw B * xh B → DR s.2.2 (36 * a + b) = q → CLl B q s.2.2 (36 * a + b))
      (Q := fun x : Int32 × Mem => J x.2 ∧ Fr W85 B x.2 ∧ TWd q acc M x.1 x.2 ∧ ∀ a b : Nat, (a : Int) < xw B * xh B → (b : Int) < xw B * xh B → DR x.2 (36 * a + b) = q → CLl B q x.2 (36 * a + b)) ?_ e ⟨0, rfl, by omega, jM, fM, TWd_r, fun a b h => absurd h (by omega)⟩
    rintro ⟨c, kv, N⟩ r ⟨k, hk, k36, jN, fN, tw, cl⟩ e
    dsimp only at hk jN fN tw cl
    unfold lb_Mod_wardrobe_93 at e
    dsimp only at e
    obtain ⟨x9, e9, e⟩ := bo e
    have e9 := cells_e.symm.trans e9
    obtain rfl := Option.some.inj e9
    have we := wh_ti jN
    have wh := awh jN
    obtain ⟨mw, mh, _⟩ := mapR_c (W85.map fN)
    rcases io e with ⟨g, e⟩ | ⟨g, e⟩
    · have := q_le g
      obtain rfl := Option.some.inj e
      exact ⟨jN, fN, tw, fun a b ha hb hd => cl a b (by rw [← mw, ← mh] at ha; omega) hb hd⟩
    have g1 := q_ng g
    have b1 : (kv + (1 : Int32)).toInt = ((k + 1 : Nat) : Int) := add_ti hk o1 (by omega) (by omega)
    obtain ⟨x19, e19, e⟩ := bo e
    obtain rfl := Option.some.inj e
    obtain ⟨j1, f1, t1, c1⟩ := w105_r hq h4 hk (by omega) jN fN (hle_t hle tw) e19
    refine ⟨k + 1, b1, by omega, j1, f1, TWd_t hq.2 tw t1, fun a b ha hb hd => ?_⟩
    by_cases w : a = k
    · subst w; exact c1 b hb hd
    · exact CLl_k hq.2 t1.1 (cl a b (by omega) hb (lev_t hq.2 t1 (by omega) hd))
  exact ⟨key.2.2.1, key.2.2.2⟩
theorem w84_r {B M : Mem} (hB : J B) {t : Int} (ht : 0 ≤ t ∧ t ≤ 35) {v1 : Int32} (h : QC B t M) (h0 : ∀ x, x < 1296 → DR M x < 1000000 → DR M x = 0) {x : Mem} (e : iter (lb_Mod_wardrobe_84 v1) FU ((1 : Int32), (0 : Int32), M) = some x) : QC B t x ∧ ∀ y, y < 1296 → DR x y < 1000000 → CLl B (DR x y) x y := by
  have bM := cn_bd M
  refine it_r (I := fun s : Int32 × Int32 × Mem => ∃ q : Nat, s.2.1.toInt = (q : Int) ∧ QC B t s.2.2 ∧ (s.1 ≠ 0 → (q : Int) + cn s.2.2 ≤ 1296) ∧ q ≤ 1297 ∧ (∀ y, y < 1296 → DR s.2.2 y < 1000000 → DR s.2.2 y ≤ (q : Int)) ∧ (∀ y, y < 1296 → DR s.2.2 y < (q : Int) → CLl B (DR s.2.2 y) s.2.2 y) ∧ (s.1 = 0 → ∀ y, y < 1296 → DR s.2.2 y < 1000000 → DR s.2.2 y < (q : Int)))
    (Q := fun x : Mem => QC B t x ∧ ∀ y, y < 1296 → DR x y < 1000000 → CLl B (DR x y) x y) ?_ e ⟨0, rfl, h, fun _ => by dsimp only; omega, by omega, fun y hy hd => by dsimp only at hd ⊢; rw [h0 y hy hd]; omega, fun y hy hd => ?_, fun w => absurd w (by show ¬ (1 : Int32) = 0; decide)⟩
  rotate_left
  · dsimp only at hd
    have a1 := h0 y hy (by omega)
    omega
  rintro ⟨a, kv, N⟩ r ⟨q, hk, qc, i3, q97, i4, i5, i6⟩ e
  dsimp only at hk qc i3 i4 i5 i6
  unfold lb_Mod_wardrobe_84 at e
  dsimp only at e
  rcases io e with ⟨g, e⟩ | ⟨g, e⟩
  · obtain rfl := Option.some.inj e
    exact ⟨qc, fun y hy hd => i5 y hy (i6 g y hy hd)⟩
  have i3' := i3 g
  have bN := cn_bd N
  obtain ⟨x21, e21, e⟩ := bo e
  obtain rfl := Option.some.inj e
  have b1 : (kv + (1 : Int32)).toInt = ((q + 1 : Nat) : Int) := add_ti hk o1 (by omega) (by omega)
  obtain ⟨s1, -, s3, -, s5, -⟩ := some_of (sl_wardrobe93 hB ht v1 kv ⟨by omega, by omega⟩ qc) e21
  obtain ⟨tw, cl⟩ := w93_r (q := (q : Int)) ⟨by omega, by omega⟩ hk qc.1 qc.2.1 (fun y hy hd => by have := i4 y hy hd; omega) e21
  have old : ∀ y, y < 1296 → DR x21.2 y < 1000000 → (DR N y < 1000000 ∧ DR x21.2 y = DR N y) ∨ DR x21.2 y = (q : Int) + 1 := fun y hy hd => by
    rcases tw.2.1 y hy hd with w | w
    · exact .inl ⟨w, congrArg Int32.toInt (tw.1 y w)⟩
    · exact .inr w
  refine ⟨q + 1, b1, s1, fun w => ?_, by omega, fun y hy hd => ?_, fun y hy hd => ?_, fun w y hy hd => ?_⟩
  · have b2 := cn_bd x21.2
    rcases s5 w with u | u
    · exact absurd rfl u
    · dsimp only; omega
  · dsimp only at hd ⊢
    rcases old y hy hd with ⟨w, u⟩ | u
    · have := i4 y hy w; omega
    · omega
  · dsimp only at hd ⊢
    rcases old y hy (by omega) with ⟨w, u⟩ | u
    · by_cases z : DR N y = (q : Int)
      · obtain ⟨_, _, on0, on1, _⟩ := (qc.2.2.2.2 y hy w).1
        have ey : 36 * (y / 36) + y % 36 = y := by omega
        have := cl (y / 36) (y % 36) (by have := on0.2.1; omega) (by have := on1.2.1; omega) (by rw [ey]; omega)
        rw [ey] at this
        rw [u, z]; exact this
      · have := i4 y hy w
        rw [u]
        exact CLl_k (by omega) tw.1 (i5 y hy (by omega))
    · omega
  · dsimp only at hd ⊢
    have := (tw.2.2 w).2 y
    have a2 : DR x21.2 y = DR N y := congrArg Int32.toInt this
    have := i4 y hy (by omega)
    omega
end
section
/-! wardrobe -/
theorem w45_r {B x : Mem} {v1 v2 : Int32} (jB : J B) (e : iter (lb_Mod_wardrobe_45 v1 v2) FU ((0 : Int32), B) = some x) : J x ∧ Fr W85 B x ∧ x.2 = B.2 ∧ ∀ u, u < 1296 → (x.1 185 u).toInt = 1000000 := by
  have z12 : (1296 : Int32).toInt = 1296 := rfl
  refine it_r (I := fun s : Int32 × Mem => ∃ i : Nat, i ≤ 1296 ∧ s.1.toInt = (i : Int) ∧ J s.2 ∧ Fr W85 B s.2 ∧ s.2.2 = B.2 ∧ ∀ u, u < i → (s.2.1 185 u).toInt = 1000000) (Q := fun x : Mem => J x ∧ Fr W85 B x ∧ x.2 = B.2 ∧ ∀ u, u < 1296 → (x.1 185 u).toInt = 1000000) ?_ e ⟨0, by omega, rfl, jB, Fr.r, rfl, fun u hu => absurd hu (by omega)⟩
  rintro ⟨k, N⟩ r ⟨i, li, hi, jN, fN, n2, hd⟩ e
  dsimp only at hi jN fN n2 hd
  unfold lb_Mod_wardrobe_45 at e
  dsimp only at e
  rcases io e with ⟨g, e⟩ | ⟨g, e⟩
  · have := q_le g
    obtain rfl := Option.some.inj e
    exact ⟨jN, fN, n2, fun u hu => hd u (by omega)⟩
  have g1 := q_ng g
  obtain ⟨_, e⟩ := io_n e
  obtain ⟨M1, m1, e⟩ := mo e
  obtain rfl := Option.some.inj e
  rw [q_nat hi] at m1
  have b1 : (k + (1 : Int32)).toInt = ((i + 1 : Nat) : Int) := add_ti hi o1 (by omega) (by omega)
  refine ⟨i + 1, by omega, b1, ?_, ?_, ?_, fun u hu => ?_⟩
  · show J M1
    rw [m1]; exact Jw_185 jN _ _ (by decide) (by decide)
  · show Fr W85 B M1
    rw [m1]; exact fN.i rfl
  · show M1.2 = _
    rw [m1, si_2]; exact n2
  · show (M1.1 185 u).toInt = _
    rw [m1]
    by_cases q : u = i
    · subst q; rw [si_eq]; rfl
    · rw [si_ne (by omega)]; exact hd u (by omega)
theorem st_on {R : Mem} {c : Nat} (h : stN R (c : Int)) : onN R 0 c ∧ onN R 1 c :=
  ⟨⟨h.1, h.2.1, by rw [if_pos rfl]; exact .inr h.2.2⟩, h.1, h.2.1, by rw [if_neg (by decide)]; exact .inr h.2.2⟩
theorem st_v {R : Mem} (jR : J R) {c : Nat} (h : stN R (c : Int)) : vst R (5 * c + 4) ∧ phN R (5 * c + 4) = 37 * c := by
  have k5 : (5 * c + 4) / 5 = c := by omega
  have k6 : (5 * c + 4) % 5 = 4 := by omega
  have sv : sd R (5 * c + 4) = (c : Int) := by unfold sd tos; rw [k6, if_pos (by decide), k5]
  have wh := awh jR
  have := h.2.1
  refine ⟨⟨by omega, by rw [k5]; exact (st_on h).1, by rw [sv]; exact (st_on h).2⟩, ?_⟩
  unfold phN
  rw [sv, k5]
  omega
theorem wardrobe_q {X R : Mem} {n : Nat} {v1 v2 : Int32} {x r : Int32 × Mem} (za : ZA X R n) (ex : f_Top_wardrobe v1 v2 X = some x) (er : f_Mod_wardrobe v1 v2 R = some r) : x.1 = r.1 := by
  have z0 := o0
  have z3 := o3
  have z4 := o4
  have z5 : (5 : Int32).toInt = 5 := rfl
  have z36 : (36 : Int32).toInt = 36 := rfl
  have kF : (1000000 : Int32).toInt = 1000000 := rfl
  unfold f_Mod_wardrobe at er
  obtain ⟨M1, m1, er⟩ := mo er
  obtain ⟨zaM, fqM⟩ := ZA_M1 za m1
  obtain ⟨n8, jM, ⟨zg, zc, zl⟩, zs, zv, zw⟩ := zaM.1
  have wh := awh jM
  unfold f_Top_wardrobe at ex
  obtain ⟨x1, ex1, ex⟩ := bo ex
  have s1 := stairC zg jM ex1
  obtain ⟨y2, ey2, er⟩ := bo er
  have c2 : (y2 = 1 ∧ 0 ≤ v1.toInt ∧ v1.toInt < xw M1 * xh M1) ∨ (y2 = 0 ∧ ¬ (0 ≤ v1.toInt ∧ v1.toInt < xw M1 * xh M1)) := isCell_i jM ey2
  by_cases hb : stN M1 v1.toInt ∧ stN M1 v2.toInt
  rotate_left
  · have eX : x.1 = -1 := by
      rcases io ex with ⟨_, ex⟩ | ⟨g, ex⟩
      · obtain rfl := Option.some.inj ex; rfl
      rcases s1 with ⟨_, s1⟩ | ⟨h, _⟩
      rotate_left
      · exact absurd h g
      obtain ⟨x2, ex2, ex⟩ := bo ex
      have s2 := stairC zg jM ex2
      rcases io ex with ⟨_, ex⟩ | ⟨g, ex⟩
      · obtain rfl := Option.some.inj ex; rfl
      rcases s2 with ⟨_, s2⟩ | ⟨h, _⟩
      · exact absurd ⟨s1, s2⟩ hb
      · exact absurd h g
    have eR : r.1 = -1 := by
      rcases io er with ⟨_, er⟩ | ⟨g, er⟩
      · obtain rfl := Option.some.inj er; rfl
      rcases c2 with ⟨_, c2⟩ | ⟨h, _⟩
      rotate_left
      · exact absurd h g
      obtain ⟨y3, ey3, er⟩ := bo er
      have c3 : (y3 = 1 ∧ 0 ≤ v2.toInt ∧ v2.toInt < xw M1 * xh M1) ∨ (y3 = 0 ∧ ¬ (0 ≤ v2.toInt ∧ v2.toInt < xw M1 * xh M1)) := isCell_i jM ey3
      rcases io er with ⟨_, er⟩ | ⟨g, er⟩
      · obtain rfl := Option.some.inj er; rfl
      rcases c3 with ⟨_, c3⟩ | ⟨h, _⟩
      rotate_left
      · exact absurd h g
      obtain ⟨_, er⟩ := io_n er
      rcases io er with ⟨g1, er⟩ | ⟨_, er⟩
      rotate_left
      · obtain rfl := Option.some.inj er; rfl
      obtain ⟨_, er⟩ := io_n er
      rcases io er with ⟨g2, er⟩ | ⟨_, er⟩
      rotate_left
      · obtain rfl := Option.some.inj er; rfl
      refine absurd ⟨⟨c2.1, c2.2, ?_⟩, c3.1, c3.2, ?_⟩ hb
      · have := q_eq g1; rw [tcn'] at this; omega
      · have := q_eq g2; rw [tcn'] at this; omega
    rw [eX, eR]
  obtain ⟨hb1, hb2⟩ := hb
  obtain ⟨a, ha⟩ := ti_ofn hb1.1
  obtain ⟨b, hv⟩ := ti_ofn hb2.1
  have a36 : a < 36 := by have := hb1.2.1; omega
  have b36 : b < 36 := by have := hb2.2.1; omega
  -- the class
  rcases io ex with ⟨g, _⟩ | ⟨_, ex⟩
  · rcases s1 with ⟨h, _⟩ | ⟨_, h⟩
    · rw [h] at g; exact absurd g (by decide)
    · exact absurd hb1 h
  obtain ⟨x2, ex2, ex⟩ := bo ex
  have s2 := stairC zg jM ex2
  rcases io ex with ⟨g, _⟩ | ⟨_, ex⟩
  · rcases s2 with ⟨h, _⟩ | ⟨_, h⟩
    · rw [h] at g; exact absurd g (by decide)
    · exact absurd hb2 h
  obtain ⟨x3, ex3, ex⟩ := bo ex
  rw [ha] at hb1
  rw [hv] at hb2
  have on1 := st_on hb1
  have on2 := st_on hb2
  obtain ⟨va, pa⟩ := st_v jM hb1
  obtain ⟨vb, pb⟩ := st_v jM hb2
  obtain ⟨fx, t, c, cc⟩ := mp_r zg jM hv on2.1 on2.2 ex3
  obtain ⟨_, ex⟩ := io_n ex
  have i4 : (v1 * (5 : Int32) + (4 : Int32)).toInt = ((5 * a + 4 : Nat) : Int) := by rw [add_ti (mul_ti ha z5 (by omega) (by omega)) z4 (by omega) (by omega)]; omega
  rw [q_nat i4] at ex
  -- the reference
  rcases io er with ⟨g, _⟩ | ⟨_, er⟩
  · rcases c2 with ⟨h, _⟩ | ⟨_, h⟩
    · rw [h] at g; exact absurd g (by decide)
    · exact absurd ⟨by omega, by rw [ha]; exact hb1.2.1⟩ h
  obtain ⟨y3, ey3, er⟩ := bo er
  have c3 : (y3 = 1 ∧ 0 ≤ v2.toInt ∧ v2.toInt < xw M1 * xh M1) ∨ (y3 = 0 ∧ ¬ (0 ≤ v2.toInt ∧ v2.toInt < xw M1 * xh M1)) := isCell_i jM ey3
  rcases io er with ⟨g, _⟩ | ⟨_, er⟩
  · rcases c3 with ⟨h, _⟩ | ⟨_, h⟩
    · rw [h] at g; exact absurd g (by decide)
    · exact absurd ⟨by omega, by rw [hv]; exact hb2.2.1⟩ h
  obtain ⟨_, er⟩ := io_n er
  rcases io er with ⟨_, er⟩ | ⟨g, _⟩
  rotate_left
  · refine absurd (Int32.toInt_inj.mp ?_) g
    rw [q_nat ha, z3]; exact hb1.2.2
  obtain ⟨_, er⟩ := io_n er
  rcases io er with ⟨_, er⟩ | ⟨g, _⟩
  rotate_left
  · refine absurd (Int32.toInt_inj.mp ?_) g
    rw [q_nat hv, z3]; exact hb2.2.2
  obtain ⟨x6, e6, er⟩ := bo er
  obtain ⟨_, er⟩ := io_n er
  obtain ⟨M7, m7, er⟩ := mo er
  obtain ⟨x23, e23, er⟩ := bo er
  obtain ⟨_, er⟩ := io_n er
  have ib : ((36 : Int32) * v2 + v2).toInt = ((37 * b : Nat) : Int) := by rw [add_ti (mul_ti z36 hv (by omega) (by omega)) hv (by omega) (by omega)]; omega
  have ia : ((36 : Int32) * v1 + v1).toInt = ((37 * a : Nat) : Int) := by rw [add_ti (mul_ti z36 ha (by omega) (by omega)) ha (by omega) (by omega)]; omega
  rw [q_nat ib] at m7
  rw [q_nat ia] at er
  obtain ⟨q1, q2, q3, q4⟩ := w45_r jM e6
  have tb : (37 * (b : Int)).toNat = 37 * b := by omega
  have vpb : vpR M1 (37 * (b : Int)) := by
    have d1 : (37 * (b : Int)) / 36 = (b : Int) := by omega
    have d2 : (37 * (b : Int)) % 36 = (b : Int) := by omega
    exact ⟨by omega, by omega, by rw [d1]; exact on2.1, by rw [d2]; exact on2.2, by rw [d1, d2]; exact .inl rfl⟩
  have qc : QC M1 (b : Int) M7 := by
    refine ⟨by rw [m7]; exact Jw_185 q1 _ _ (by decide) (by decide), by rw [m7]; exact q2.i rfl, by rw [m7]; exact q3, by rw [tb, m7, si_eq]; rfl, fun y hy hd => ?_⟩
    by_cases w : y = 37 * b
    · have : (y : Int) = 37 * (b : Int) := by omega
      rw [this]; exact ⟨vpb, .inl rfl⟩
    · rw [m7, si_ne (fun z => w z.2), q4 y hy] at hd; omega
  obtain ⟨Q, cl⟩ := w84_r jM ⟨by omega, by omega⟩ qc (fun y hy hd => by
    have hd : (M7.1 185 y).toInt < 1000000 := hd
    show (M7.1 185 y).toInt = 0
    by_cases w : y = 37 * b
    · rw [w, m7, si_eq]; rfl
    · rw [m7, si_ne (fun z => w z.2), q4 y hy] at hd; omega) e23
  have E := dist_eq (D1 := Dm x3) (D2 := DR x23) jM vb va c.2.1 (fun u hu => (c.2.2.2.1 u hu).1) c.2.2.2.2.2.1
    (fun u hu hd => by
      obtain ⟨i, hi, e⟩ := (c.2.2.2.1 u hu).2 hd
      rw [← e]; exact (c.2.2.1 i hi).2.2)
    (fun u hu hd v w => by
      obtain ⟨i, hi, e⟩ := (c.2.2.2.1 u hu).2 hd
      rw [← e] at w ⊢; exact cc i hi v w)
    (by rw [pb]; have := Q.2.2.2.1; rw [tb] at this; exact this)
    (fun y _ => (Jr_185 Q.1 y).1)
    (fun y hy hd => by
      rcases (Q.2.2.2.2 y hy hd).2 with z | ⟨y', h1, s, u, h2, h3, h4, h5⟩
      · exact .inl (by rw [pb]; omega)
      · exact .inr ⟨y', h1, ⟨s, u, h2, h3, h4⟩, h5⟩)
    (fun y hy hd y' _ ⟨s, u, h2, h3, h4⟩ => by
      have k1 : (((10 * s + u).toNat : Nat) : Int) = 10 * s + u := by omega
      exact cl y hy hd (10 * s + u).toNat (by omega) (by omega) y' (by rw [k1]; exact h4))
  rw [pa] at E
  have E' : (x3.1 159 (5 * a + 4)).toInt = (x23.1 185 (37 * a)).toInt ∨ (1000000 ≤ (x3.1 159 (5 * a + 4)).toInt ∧ 1000000 ≤ (x23.1 185 (37 * a)).toInt) := E
  rcases io ex with ⟨g, ex⟩ | ⟨g, ex⟩
  · have gg := q_lt g
    obtain ⟨x4, e4, ex⟩ := bo ex
    obtain ⟨x11, e11, ex⟩ := bo ex
    obtain rfl := Option.some.inj ex
    rcases io er with ⟨h, er⟩ | ⟨h, er⟩
    · obtain ⟨M24, m24, er⟩ := mo er
      obtain ⟨x35, e35, er⟩ := bo er
      obtain rfl := Option.some.inj er
      exact Int32.toInt_inj.mp (by show (x3.1 159 (5 * a + 4)).toInt = (x23.1 185 (37 * a)).toInt; omega)
    · have := q_nl h; omega
  · have gg := q_nl g
    obtain rfl := Option.some.inj ex
    rcases io er with ⟨h, er⟩ | ⟨h, er⟩
    · have := q_lt h; omega
    · obtain rfl := Option.some.inj er
      rfl
end
