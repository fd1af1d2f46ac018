section
/-! steps counted from a cell: the class's measure -/
theorem lc_0 {x : Int64} : lg_cmp x (0 : Int64) = 0 ↔ x = 0 := by
  unfold lg_cmp
  constructor
  · intro h
    by_cases c : x > 0
    · rw [if_pos c] at h; exact absurd h (by decide)
    · rw [if_neg c] at h
      by_cases e : x = 0
      · exact e
      · rw [if_neg e] at h; exact absurd h (by decide)
  · rintro rfl
    decide
theorem bl_0i {x : Int64} (h : ∀ d, bl x d = false) : x = 0 := bl_ext (fun d _ => by rw [h d, bl_0])
theorem bl_not {x : Int64} {d : Nat} (hd : d < 64) : bl (x ^^^ (-1 : Int64)) d = !bl x d := by
  have m1 : ∀ d : Fin 64, bl (-1) d.val = true := by decide +kernel
  rw [bl_xor, m1 ⟨d, hd⟩]
  cases bl x d <;> rfl
theorem cnt_lt {P Q : Nat → Bool} {n c : Nat} (hc : c < n) (h : ∀ i, i < n → P i = true → Q i = true) (hp : P c = false) (hq : Q c = true) : (List.range n).countP P < (List.range n).countP Q := by
  have mono : ∀ m, m ≤ n → (List.range m).countP P ≤ (List.range m).countP Q := by
    intro m
    induction m with
    | zero => intro _; exact Nat.le_refl _
    | succ m ih =>
      intro hm
      rw [cnt_s, cnt_s]
      have := ih (by omega)
      have k := h m (by omega)
      by_cases g : P m = true
      · rw [if_pos g, if_pos (k g)]; omega
      · rw [if_neg g]; split <;> omega
  have key : ∀ m, m ≤ n → c < m → (List.range m).countP P < (List.range m).countP Q := by
    intro m
    induction m with
    | zero => intro _ h; omega
    | succ m ih =>
      intro hm hcm
      rw [cnt_s, cnt_s]
      rcases Nat.lt_or_ge c m with g | g
      · have := ih (by omega) g
        have k := h m (by omega)
        by_cases g : P m = true
        · rw [if_pos g, if_pos (k g)]; omega
        · rw [if_neg g]; split <;> omega
      · have : c = m := by omega
        subst this
        have := mono c (by omega)
        rw [if_neg (by rw [hp]; decide), if_pos hq]; omega
  exact key n (Nat.le_refl _) hc
theorem cnt_le (P : Nat → Bool) (n : Nat) : (List.range n).countP P ≤ n := by
  have := List.countP_le_length (p := P) (l := List.range n)
  rwa [List.length_range] at this
theorem cnt_all {P : Nat → Bool} {n : Nat} (h : n ≤ (List.range n).countP P) : ∀ c, c < n → P c = true := by
  intro c hc
  have e : (List.range n).countP P = (List.range n).length := by rw [List.length_range]; exact Nat.le_antisymm (cnt_le P n) h
  exact List.countP_eq_length.mp e c (List.mem_range.mpr hc)
section MEAS
variable {v0 l : Nat} {v1 : Int32} {M : Mem}
theorem around_i (hv : isN v0) (h1 : v1.toInt = (l : Int)) (l2 : l < 2) {set y : Int64} (e : f_Nets_around v0 v1 set M = some y) : ∀ d, bl y d = true ↔ ∃ c, c < 36 ∧ bl set c = true ∧ bl (M.2.1 (v0 + 2) (l * 36 + c)) d = true := by
  have k36 : (36 : Int32).toInt = 36 := rfl
  unfold f_Nets_around at e
  obtain ⟨_, e⟩ := io_n e
  obtain ⟨x3, e3, e⟩ := bo e
  obtain rfl := Option.some.inj e
  refine it_r (I := fun s : Int64 × Int32 => ∃ k : Nat, k ≤ 36 ∧ s.2.toInt = (k : Int) ∧ ∀ d, bl s.1 d = true ↔ ∃ c, c < k ∧ bl set c = true ∧ bl (M.2.1 (v0 + 2) (l * 36 + c)) d = true) (Q := fun y : Int64 => ∀ d, bl y d = true ↔ ∃ c, c < 36 ∧ bl set c = true ∧ bl (M.2.1 (v0 + 2) (l * 36 + c)) d = true) ?_ e3 ⟨0, by omega, rfl, fun d => ?_⟩
  · rintro ⟨acc, i⟩ r ⟨k, k36', hk, hd⟩ e
    dsimp only at hk hd
    unfold lb_Nets_around_6 at e
    dsimp only at e
    rcases io e with ⟨g, e⟩ | ⟨g, e⟩
    · have := q_le g
      obtain rfl := Option.some.inj e
      have : k = 36 := by omega
      subst this
      exact hd
    have g1 := q_ng g
    have i1 : (i + (1 : Int32)).toInt = ((k + 1 : Nat) : Int) := add_ti hk o1 (by omega) (by omega)
    rcases io e with ⟨g, e⟩ | ⟨g, e⟩
    · have gb := (bl_cmp hk (by omega)).mp g
      obtain rfl := Option.some.inj e
      refine ⟨k + 1, by omega, i1, fun d => ?_⟩
      dsimp only
      rw [hd]
      constructor
      · rintro ⟨c, h1, h2⟩; exact ⟨c, by omega, h2⟩
      · rintro ⟨c, h1, h2, h3⟩
        refine ⟨c, ?_, h2, h3⟩
        rcases Nat.lt_or_ge c k with q | q
        · exact q
        · have : c = k := by omega
          subst this
          rw [gb] at h2; cases h2
    · have gb : bl set k = true := by
        cases hb : bl set k with
        | true => rfl
        | false => exact absurd ((bl_cmp hk (by omega)).mpr hb) g
      obtain ⟨_, e⟩ := io_n e
      obtain rfl := Option.some.inj e
      have i2 : (v1 * (36 : Int32) + i).toInt = ((l * 36 + k : Nat) : Int) := by rw [add_ti (mul_ti h1 k36 (by omega) (by omega)) hk (by omega) (by omega)]; omega
      refine ⟨k + 1, by omega, i1, fun d => ?_⟩
      dsimp only
      rw [bl_or, Bool.or_eq_true, hd, (isN_r hv).2.1, q_nat i2]
      constructor
      · rintro (⟨c, h1, h2⟩ | h)
        · exact ⟨c, by omega, h2⟩
        · exact ⟨k, by omega, gb, h⟩
      · rintro ⟨c, h1, h2, h3⟩
        rcases Nat.lt_or_ge c k with q | q
        · exact .inl ⟨c, q, h2, h3⟩
        · have : c = k := by omega
          subst this
          exact .inr h3
  · dsimp only
    rw [bl_0]
    constructor
    · intro h; cases h
    · rintro ⟨c, h, _⟩; omega
theorem fill_i {k : Nat} {v8 : Int32} {v4 v6 : Int64} {x : Mem} (e : iter (lb_Nets_measure_51 v0 v1 k v4 v6 v8) FU ((0 : Int32), M) = some x) : (∀ c, c < 36 → x.1 k c = if bl v6 c = true then v8 else M.1 k c) ∧ (∀ kx i, kx ≠ k → x.1 kx i = M.1 kx i) ∧ x.2 = M.2 := by
  have k36 : (36 : Int32).toInt = 36 := rfl
  refine it_r (I := fun s : Int32 × Mem => ∃ q : Nat, q ≤ 36 ∧ s.1.toInt = (q : Int) ∧ (∀ c, c < 36 → s.2.1 k c = if c < q ∧ bl v6 c = true then v8 else M.1 k c) ∧ (∀ kx i, kx ≠ k → s.2.1 kx i = M.1 kx i) ∧ s.2.2 = M.2) (Q := fun x : Mem => (∀ c, c < 36 → x.1 k c = if bl v6 c = true then v8 else M.1 k c) ∧ (∀ kx i, kx ≠ k → x.1 kx i = M.1 kx i) ∧ x.2 = M.2) ?_ e ⟨0, by omega, rfl, fun c _ => by rw [if_neg (by omega)], fun _ _ _ => rfl, rfl⟩
  rintro ⟨i, N⟩ r ⟨q, q36, hq, hd, hf, h2⟩ e
  dsimp only at hq hd hf h2
  unfold lb_Nets_measure_51 at e
  dsimp only at e
  rcases io e with ⟨g, e⟩ | ⟨g, e⟩
  · have := q_le g
    obtain rfl := Option.some.inj e
    refine ⟨fun c hc => ?_, hf, h2⟩
    rw [hd c hc]
    by_cases b : bl v6 c = true
    · rw [if_pos b, if_pos ⟨by omega, b⟩]
    · rw [if_neg b, if_neg (fun h => b h.2)]
  have g1 := q_ng g
  have i1 : (i + (1 : Int32)).toInt = ((q + 1 : Nat) : Int) := add_ti hq o1 (by omega) (by omega)
  rcases io e with ⟨g, e⟩ | ⟨g, e⟩
  · have gb := (bl_cmp hq (by omega)).mp g
    obtain rfl := Option.some.inj e
    refine ⟨q + 1, by omega, i1, fun c hc => ?_, hf, h2⟩
    dsimp only
    rw [hd c hc]
    by_cases b : bl v6 c = true
    · by_cases b2 : c < q
      · rw [if_pos ⟨b2, b⟩, if_pos ⟨by omega, b⟩]
      · rw [if_neg (fun h => b2 h.1), if_neg (fun h => by
          have : c = q := by omega
          subst this
          rw [gb] at b; cases b)]
    · rw [if_neg (fun h => b h.2), if_neg (fun h => b h.2)]
  · have gb : bl v6 q = true := by
      cases hb : bl v6 q with
      | true => rfl
      | false => exact absurd ((bl_cmp hq (by omega)).mpr hb) g
    obtain ⟨_, e⟩ := io_n e
    obtain ⟨M4, m4, e⟩ := mo e
    obtain rfl := Option.some.inj e
    rw [q_nat hq] at m4
    refine ⟨q + 1, by omega, i1, fun c hc => ?_, fun kx i h => ?_, ?_⟩
    · dsimp only
      rw [m4]
      by_cases b : c = q
      · subst b; rw [si_eq, if_pos ⟨by omega, gb⟩]
      · rw [si_ne (by omega), hd c hc]
        by_cases b3 : bl v6 c = true
        · by_cases b2 : c < q
          · rw [if_pos ⟨b2, b3⟩, if_pos ⟨by omega, b3⟩]
          · rw [if_neg (fun h => b2 h.1), if_neg (fun h => by omega)]
        · rw [if_neg (fun h => b3 h.2), if_neg (fun h => b3 h.2)]
    · dsimp only
      rw [m4, si_ne (by omega)]; exact hf kx i h
    · dsimp only
      rw [m4, si_2]; exact h2
theorem far_i {k : Nat} {v2 : Int32} {x : Mem} (e : iter (lb_Nets_measure_3 v0 v1 v2 k) FU ((0 : Int32), M) = some x) : (∀ c, c < 36 → x.1 k c = 1000000) ∧ (∀ kx i, kx ≠ k → x.1 kx i = M.1 kx i) ∧ x.2 = M.2 := by
  have k36 : (36 : Int32).toInt = 36 := rfl
  refine it_r (I := fun s : Int32 × Mem => ∃ q : Nat, q ≤ 36 ∧ s.1.toInt = (q : Int) ∧ (∀ c, c < q → s.2.1 k c = 1000000) ∧ (∀ kx i, kx ≠ k → s.2.1 kx i = M.1 kx i) ∧ s.2.2 = M.2) (Q := fun x : Mem => (∀ c, c < 36 → x.1 k c = 1000000) ∧ (∀ kx i, kx ≠ k → x.1 kx i = M.1 kx i) ∧ x.2 = M.2) ?_ e ⟨0, by omega, rfl, fun c h => by omega, fun _ _ _ => rfl, rfl⟩
  rintro ⟨i, N⟩ r ⟨q, q36, hq, hd, hf, h2⟩ e
  dsimp only at hq hd hf h2
  unfold lb_Nets_measure_3 at e
  dsimp only at e
  rcases io e with ⟨g, e⟩ | ⟨g, e⟩
  · have := q_le g
    obtain rfl := Option.some.inj e
    exact ⟨fun c hc => hd c (by omega), hf, h2⟩
  have g1 := q_ng g
  obtain ⟨_, e⟩ := io_n e
  obtain ⟨M1, m1, e⟩ := mo e
  obtain rfl := Option.some.inj e
  rw [q_nat hq] at m1
  refine ⟨q + 1, by omega, add_ti hq o1 (by omega) (by omega), fun c hc => ?_, fun kx i h => ?_, ?_⟩
  · dsimp only
    rw [m1]
    by_cases b : c = q
    · subst b; rw [si_eq]
    · rw [si_ne (by omega)]; exact hd c (by omega)
  · dsimp only
    rw [m1, si_ne (by omega)]; exact hf kx i h
  · dsimp only
    rw [m1, si_2]; exact h2
/-- what it is to be measured from f -/
def MSR (adj : Nat → Nat → Prop) (f : Nat) (D : Nat → Int) : Prop := D f = 0 ∧ (∀ c, c < 36 → 0 ≤ D c ∧ (D c < 36 ∨ D c = 1000000)) ∧ (∀ c, c < 36 → D c < 1000000 → c = f ∨ ∃ c', c' < 36 ∧ D c' + 1 = D c ∧ adj c' c) ∧ (∀ c, c < 36 → D c < 1000000 → ∀ d, adj c d → d < 36 ∧ D d ≤ D c + 1)
def MI (adj : Nat → Nat → Prop) (f k : Nat) (M0_ : Mem) (s : Int64 × Int64 × Int32 × Mem) : Prop := ∃ t : Nat, t ≤ 36 ∧ s.2.2.1.toInt = (t : Int) ∧ (∀ c, bl s.2.1 c = true → bl s.1 c = true) ∧ (∀ c, bl s.1 c = true → c < 36) ∧ (∀ c, c < 36 → (bl s.1 c = true ∧ bl s.2.1 c = false → 0 ≤ (s.2.2.2.1 k c).toInt ∧ (s.2.2.2.1 k c).toInt < (t : Int)) ∧ (¬ (bl s.1 c = true ∧ bl s.2.1 c = false) → (s.2.2.2.1 k c).toInt = 1000000)) ∧ (∀ c, bl s.1 c = true → bl s.2.1 c = false → c = f ∨ ∃ c', bl s.1 c' = true ∧ bl s.2.1 c' = false ∧ (s.2.2.2.1 k c').toInt + 1 = (s.2.2.2.1 k c).toInt ∧ adj c' c) ∧ (∀ c, bl s.2.1 c = true → (c = f ∧ t = 0) ∨ ∃ c', bl s.1 c' = true ∧ bl s.2.1 c' = false ∧ (s.2.2.2.1 k c').toInt + 1 = (t : Int) ∧ adj c' c) ∧ (∀ c, bl s.1 c = true → bl s.2.1 c = false → ∀ d, adj c d → (bl s.1 d = true ∧ bl s.2.1 d = false ∧ (s.2.2.2.1 k d).toInt ≤ (s.2.2.2.1 k c).toInt + 1) ∨ (bl s.2.1 d = true ∧ (s.2.2.2.1 k c).toInt + 1 = (t : Int))) ∧ (bl s.1 f = true ∧ ((t = 0 ∧ bl s.2.1 f = true) ∨ (0 < t ∧ bl s.2.1 f = false ∧ (s.2.2.2.1 k f).toInt = 0))) ∧ t ≤ (List.range 36).countP (fun c => bl s.1 c && !bl s.2.1 c) ∧ (∀ kx i, kx ≠ k → s.2.2.2.1 kx i = M0_.1 kx i) ∧ s.2.2.2.2 = M0_.2
theorem meas_i {f k : Nat} {v2 : Int32} {x : Mem} (hv : isN v0) (h1 : v1.toInt = (l : Int)) (l2 : l < 2) (h2 : v2.toInt = (f : Int)) (f36 : f < 36) (adjb : ∀ c d, c < 36 → bl (M.2.1 (v0 + 2) (l * 36 + c)) d = true → d < 36) (e : f_Nets_measure v0 v1 v2 k M = some x) : MSR (fun c d => bl (M.2.1 (v0 + 2) (l * 36 + c)) d = true) f (fun c => (x.1 k c).toInt) ∧ (∀ kx i, kx ≠ k → x.1 kx i = M.1 kx i) ∧ x.2 = M.2 := by
  have k36 : (36 : Int32).toInt = 36 := rfl
  have kF : (1000000 : Int32).toInt = 1000000 := rfl
  unfold f_Nets_measure at e
  obtain ⟨_, e⟩ := io_n e
  obtain ⟨_, e⟩ := io_n e
  obtain ⟨x3, e3, e⟩ := bo e
  obtain ⟨x11, e11, e⟩ := bo e
  obtain rfl := Option.some.inj e
  obtain ⟨a1, a2, a3⟩ := far_i e3
  have one : ∀ d, bl ((1 : Int64) <<< (v2.toInt64 &&& 63)) d = decide (d = f) := bl_one h2 (by omega)
  refine it_r (I := MI (fun c d => bl (M.2.1 (v0 + 2) (l * 36 + c)) d = true) f k M) (Q := fun x : Mem => MSR (fun c d => bl (M.2.1 (v0 + 2) (l * 36 + c)) d = true) f (fun c => (x.1 k c).toInt) ∧ (∀ kx i, kx ≠ k → x.1 kx i = M.1 kx i) ∧ x.2 = M.2) ?_ e11 ⟨0, by omega, rfl, fun c h => h, fun c h => ?_, fun c hc => ⟨fun h => ?_, fun _ => ?_⟩, fun c h1 h2 => ?_, fun c h => ?_, fun c h1 h2 => ?_, ⟨?_, .inl ⟨rfl, ?_⟩⟩, by omega, a2, a3⟩
  rotate_left
  · dsimp only at h; rw [one] at h; have := of_decide_eq_true h; omega
  · dsimp only at h; rw [h.1] at h; cases h.2
  · show (x3.1 k c).toInt = _; rw [a1 c hc]; rfl
  · dsimp only at h1 h2; rw [h1] at h2; cases h2
  · dsimp only at h; rw [one] at h; exact .inl ⟨of_decide_eq_true h, rfl⟩
  · dsimp only at h1 h2; rw [h1] at h2; cases h2
  · dsimp only; rw [one]; exact decide_eq_true rfl
  · dsimp only; rw [one]; exact decide_eq_true rfl
  rintro ⟨fo, fr, st, N⟩ r ⟨t, t36, ht, i1, i2, i3, i4, i5, i6, i7, i8, i9, i10⟩ e
  dsimp only at ht i1 i2 i3 i4 i5 i6 i7 i8 i9 i10
  -- the end: nobody is in front
  have fin : (∀ c, bl fr c = false) → MSR (fun c d => bl (M.2.1 (v0 + 2) (l * 36 + c)) d = true) f (fun c => (N.1 k c).toInt) ∧ (∀ kx i, kx ≠ k → N.1 kx i = M.1 kx i) ∧ N.2 = M.2 := by
    intro h0
    have D1 : ∀ c, c < 36 → (N.1 k c).toInt < 1000000 → bl fo c = true := by
      intro c hc hd
      cases hb : bl fo c with
      | true => rfl
      | false =>
        have := (i3 c hc).2 (fun h => by rw [hb] at h; cases h.1)
        omega
    refine ⟨⟨?_, fun c hc => ?_, fun c hc hd => ?_, fun c hc hd d had => ?_⟩, i9, i10⟩
    · rcases i7.2 with ⟨_, h⟩ | ⟨_, _, h⟩
      · rw [h0] at h; cases h
      · exact h
    · show 0 ≤ (N.1 k c).toInt ∧ _
      by_cases g : bl fo c = true
      · have := (i3 c hc).1 ⟨g, h0 c⟩
        exact ⟨this.1, .inl (by show (N.1 k c).toInt < 36; omega)⟩
      · have := (i3 c hc).2 (fun h => g h.1)
        exact ⟨by omega, .inr this⟩
    · rcases i4 c (D1 c hc hd) (h0 c) with h | ⟨c', h1, h2, h3, h4⟩
      · exact .inl h
      · exact .inr ⟨c', i2 c' h1, h3, h4⟩
    · rcases i6 c (D1 c hc hd) (h0 c) d had with ⟨h1, h2, h3⟩ | ⟨h, _⟩
      · exact ⟨i2 d h1, h3⟩
      · rw [h0] at h; cases h
  unfold lb_Nets_measure_34 at e
  dsimp only at e
  rcases io e with ⟨g, e⟩ | ⟨g, e⟩
  · have := q_le g
    obtain rfl := Option.some.inj e
    refine fin (fun c => ?_)
    have all := cnt_all (n := 36) (P := fun c => bl fo c && !bl fr c) (by omega)
    cases hb : bl fr c with
    | false => rfl
    | true =>
      have := all c (i2 c (i1 c hb))
      simp [hb] at this
  have g1 := q_ng g
  rcases io e with ⟨g, e⟩ | ⟨g, e⟩
  · have := lc_0.mp g
    obtain rfl := Option.some.inj e
    exact fin (fun c => by rw [this]; exact bl_0 c)
  have frn : ∃ c, bl fr c = true := by
    by_cases h : ∃ c, bl fr c = true
    · exact h
    · exact absurd (lc_0.mpr (bl_0i (fun d => by
        cases hb : bl fr d with
        | false => rfl
        | true => exact absurd ⟨d, hb⟩ h))) g
  obtain ⟨x7, e7, e⟩ := bo e
  obtain ⟨x8, e8, e⟩ := bo e
  obtain rfl := Option.some.inj e
  obtain ⟨b1, b2, b3⟩ := fill_i e7
  have ar := around_i hv h1 l2 e8
  rw [b3, i10] at ar
  -- the new front
  have nf : ∀ d, d < 64 → bl (x8 &&& (fo ^^^ (-1 : Int64))) d = (bl x8 d && !bl fo d) := fun d hd => by rw [bl_and, bl_not hd]
  have nf1 : ∀ d, bl (x8 &&& (fo ^^^ (-1 : Int64))) d = true ↔ bl x8 d = true ∧ bl fo d = false := by
    intro d
    by_cases hd : d < 64
    · rw [nf d hd]; cases bl x8 d <;> cases bl fo d <;> simp
    · rw [bl_hi (by omega)]
      constructor
      · intro h; cases h
      · rintro ⟨h, _⟩; rw [bl_hi (by omega)] at h; cases h
  have n36 : ∀ d, bl x8 d = true → d < 36 := fun d h => by
    obtain ⟨c, hc, _, h3⟩ := (ar d).mp h
    exact adjb c d hc h3
  -- found before: neither in the new front
  have old : ∀ c, bl (fo ||| (x8 &&& (fo ^^^ (-1 : Int64)))) c = true ∧ bl (x8 &&& (fo ^^^ (-1 : Int64))) c = false ↔ bl fo c = true := by
    intro c
    rw [bl_or, Bool.or_eq_true]
    constructor
    · rintro ⟨h | h, h2⟩
      · exact h
      · rw [h] at h2; cases h2
    · intro h
      refine ⟨.inl h, ?_⟩
      cases hb : bl (x8 &&& (fo ^^^ (-1 : Int64))) c with
      | false => rfl
      | true => rw [((nf1 c).mp hb).2] at h; cases h
  have D7 : ∀ c, c < 36 → (bl fr c = true → (x7.1 k c).toInt = (t : Int)) ∧ (bl fr c = false → x7.1 k c = N.1 k c) := fun c hc => ⟨fun h => by rw [b1 c hc, if_pos h]; exact ht, fun h => by rw [b1 c hc, if_neg (by rw [h]; decide)]⟩
  have c0 : ∀ c, bl fo c = true → (0 ≤ (x7.1 k c).toInt ∧ (x7.1 k c).toInt < ((t + 1 : Nat) : Int)) := by
    intro c h
    have hc := i2 c h
    cases hb : bl fr c with
    | true => rw [(D7 c hc).1 hb]; omega
    | false =>
      rw [(D7 c hc).2 hb]
      have := (i3 c hc).1 ⟨h, hb⟩
      omega
  refine ⟨t + 1, by omega, add_ti ht o1 (by omega) (by omega), fun c h => ?_, fun c h => ?_, fun c hc => ⟨fun h => c0 c ((old c).mp h), fun h => ?_⟩, fun c h1 h2 => ?_, fun c h => ?_, fun c h1 h2 d had => ?_, ⟨?_, .inr ⟨by omega, ?_, ?_⟩⟩, ?_, fun kx i h => ?_, ?_⟩
  · dsimp only at h ⊢
    rw [bl_or, h, Bool.or_true]
  · dsimp only at h
    rw [bl_or, Bool.or_eq_true] at h
    rcases h with h | h
    · exact i2 c h
    · exact n36 c ((nf1 c).mp h).1
  · dsimp only at h ⊢
    have hn : ¬ bl fo c = true := fun q => h ((old c).mpr q)
    have hfr : bl fr c = false := by
      cases hb : bl fr c with
      | false => rfl
      | true => exact absurd (i1 c hb) hn
    rw [(D7 c hc).2 hfr]
    exact (i3 c hc).2 (fun q => hn q.1)
  · dsimp only at h1 h2 ⊢
    have hfo := (old c).mp ⟨h1, h2⟩
    have hc := i2 c hfo
    cases hb : bl fr c with
    | true =>
      rcases i5 c hb with ⟨h, _⟩ | ⟨c', q1, q2, q3, q4⟩
      · exact .inl h
      · refine .inr ⟨c', ((old c').mpr q1).1, ((old c').mpr q1).2, ?_, q4⟩
        rw [(D7 c' (i2 c' q1)).2 q2, (D7 c hc).1 hb]; exact q3
    | false =>
      rcases i4 c hfo hb with h | ⟨c', q1, q2, q3, q4⟩
      · exact .inl h
      · refine .inr ⟨c', ((old c').mpr q1).1, ((old c').mpr q1).2, ?_, q4⟩
        rw [(D7 c' (i2 c' q1)).2 q2, (D7 c hc).2 hb]; exact q3
  · dsimp only at h ⊢
    obtain ⟨q1, q2⟩ := (nf1 c).mp h
    obtain ⟨c', hc', q3, q4⟩ := (ar c).mp q1
    refine .inr ⟨c', ((old c').mpr (i1 c' q3)).1, ((old c').mpr (i1 c' q3)).2, ?_, q4⟩
    rw [(D7 c' hc').1 q3]; omega
  · dsimp only at h1 h2 had ⊢
    have hfo := (old c).mp ⟨h1, h2⟩
    have hc := i2 c hfo
    have d36 := adjb c d hc had
    cases hb : bl fr c with
    | true =>
      have hx8 : bl x8 d = true := (ar d).mpr ⟨c, hc, hb, had⟩
      cases hd : bl fo d with
      | true =>
        refine .inl ⟨((old d).mpr hd).1, ((old d).mpr hd).2, ?_⟩
        have := c0 d hd
        rw [(D7 c hc).1 hb]; omega
      | false =>
        refine .inr ⟨(nf1 d).mpr ⟨hx8, hd⟩, ?_⟩
        rw [(D7 c hc).1 hb]; omega
    | false =>
      rcases i6 c hfo hb d had with ⟨q1, q2, q3⟩ | ⟨q1, q2⟩
      · refine .inl ⟨((old d).mpr q1).1, ((old d).mpr q1).2, ?_⟩
        rw [(D7 d d36).2 q2, (D7 c hc).2 hb]; exact q3
      · refine .inl ⟨((old d).mpr (i1 d q1)).1, ((old d).mpr (i1 d q1)).2, ?_⟩
        rw [(D7 d d36).1 q1, (D7 c hc).2 hb]; omega
  · exact ((old f).mpr i7.1).1
  · exact ((old f).mpr i7.1).2
  · dsimp only
    rcases i7.2 with ⟨h0, hb⟩ | ⟨_, hb, hd⟩
    · rw [(D7 f f36).1 hb]; omega
    · rw [(D7 f f36).2 hb]; exact hd
  · dsimp only
    obtain ⟨c, hc⟩ := frn
    have lt := cnt_lt (n := 36) (c := c) (P := fun c => bl fo c && !bl fr c) (Q := fun c => bl (fo ||| (x8 &&& (fo ^^^ (-1 : Int64)))) c && !bl (x8 &&& (fo ^^^ (-1 : Int64))) c) (i2 c (i1 c hc)) (fun i _ h => by
      simp only [Bool.and_eq_true, Bool.not_eq_true'] at h ⊢
      exact (old i).mpr h.1) (by simp [hc]) (by
      simp only [Bool.and_eq_true, Bool.not_eq_true']
      exact (old c).mpr (i1 c hc))
    omega
  · dsimp only
    rw [b2 kx i h]; exact i9 kx i h
  · dsimp only
    rw [b3]; exact i10
end MEAS
end
section
/-! the class's nets and the reference's steps; both measures are one -/
theorem near_go {X R : Mem} {v0 a n l c d : Nat} (jR : J R) (zv : ZV R (R.1 a) n) (zx : ZX v0 R (onA R) (fun c d => plk R a c d) X) (l2 : l < 2) (c36 : c < 36) : bl (X.2.1 (v0 + 2) (l * 36 + c)) d = true ↔ (onN R l c ∧ d < 36 ∧ ∃ s : Int, 0 ≤ s ∧ s ≤ 3 ∧ goR R a ((36 * l + c : Nat) : Int) s ((36 * l + d : Nat) : Int)) := by
  have hw := aw jR
  have hh := ah jR
  have wh := awh jR
  have pm : ((36 * l + c : Nat) : Int) % 36 = (c : Int) := by omega
  have pd : ((36 * l + c : Nat) : Int) / 36 = (l : Int) := by omega
  rw [zx.2 l c l2 c36 d]
  constructor
  · rintro (⟨s, s4, ⟨o1, o2, o3⟩, o4⟩ | ⟨hl, s, s4, hb, hp⟩)
    · have onl := (onA_i jR).mp o1
      have on2 := (onA_i jR).mp o3
      rw [o4] at on2
      rw [show (((d : Int)).toNat : Int) = (d : Int) by omega] at on2
      refine ⟨onl, by have := on2.2.1; omega, s, by omega, by omega, .inr ⟨by omega, .inr (.inl ⟨by rw [pm]; exact o2, by rw [pm, pd, o4]; exact on2, by rw [pm, pd, o4]; omega⟩)⟩⟩
    · subst hl
      have onl := (plk_on (KP_v zv) hp).1
      have ond := (plk_on (KP_v zv) hp).2
      have b1 : bes (xw R) (xh R) c s ≠ -1 := by
        intro h
        unfold bb at hb
        rw [if_pos h] at hb
        omega
      have b2 : bb (xw R) (xh R) c s = bes (xw R) (xh R) (bes (xw R) (xh R) c s) s := by unfold bb; rw [if_neg b1]
      have no := mid_no jR zv onl s4 (by omega) (by rw [hb]; exact hp)
      refine ⟨onl, by have := ond.2.1; omega, s, by omega, by omega, .inr ⟨by omega, .inr (.inr (.inr (.inl ⟨by rw [pm]; exact b1, by rw [pm, pd]; exact no, by rw [pd]; omega, ?_, ?_, ?_⟩)))⟩⟩
      · rw [pm, ← b2]; omega
      · rw [pm, ← b2, hb]; exact hp
      · rw [pm, ← b2, hb]; omega
  · rintro ⟨onl, d36, s, s0, s3, g⟩
    rcases g with ⟨h, _⟩ | ⟨_, g⟩
    · omega
    rw [pm, pd] at g
    obtain ⟨s', hs'⟩ : ∃ s' : Nat, s = (s' : Int) := ⟨s.toNat, by omega⟩
    subst hs'
    rcases g with ⟨g1, g2⟩ | ⟨g1, g2, g3⟩ | ⟨g1, g2, g3, g4⟩ | ⟨g1, g2, g3, g4, g5, g6⟩ | ⟨g1, g2, g3, g4, g5⟩
    · omega
    · have e : bes (xw R) (xh R) c s' = (d : Int) := by omega
      refine .inl ⟨s', by omega, ⟨(onA_i jR).mpr onl, g1, (onA_i jR).mpr ?_⟩, e⟩
      rw [e]
      rw [e] at g2
      rw [show (((d : Int)).toNat : Int) = (d : Int) by omega]
      exact g2
    · omega
    · have l1 : l = 1 := by omega
      have b2 : bb (xw R) (xh R) c s' = bes (xw R) (xh R) (bes (xw R) (xh R) c s') s' := by unfold bb; rw [if_neg g1]
      rw [← b2] at g4 g5 g6
      have e : bb (xw R) (xh R) c s' = (d : Int) := by omega
      rw [e] at g5
      exact .inr ⟨l1, s', by omega, e, g5⟩
    · omega
theorem onP_lc {R : Mem} {l c : Nat} (l2 : l < 2) (c36 : c < 36) : onP R ((36 * l + c : Nat) : Int) ↔ onN R l c := by
  unfold onP
  rw [show ((36 * l + c : Nat) : Int) % 36 = (c : Int) by omega, show ((36 * l + c : Nat) : Int) / 36 = (l : Int) by omega]
  constructor
  · intro h; exact h.2.2
  · intro h; exact ⟨by omega, by omega, h⟩
/-- one stays on one's level -/
theorem go_lev {R : Mem} {a : Nat} {p s m : Int} (jR : J R) (hp : 0 ≤ p ∧ p ≤ 71) (s0 : 0 ≤ s ∧ s ≤ 3) (h : goR R a p s m) (hm : m ≠ -1) : ∃ d : Nat, d < 36 ∧ m = 36 * (p / 36) + d := by
  have hw := aw jR
  have hh := ah jR
  have wh := awh jR
  rcases h with ⟨h, _⟩ | ⟨_, g⟩
  · omega
  have inn : ∀ q : Int, bes (xw R) (xh R) q s ≠ -1 → 0 ≤ bes (xw R) (xh R) q s ∧ bes (xw R) (xh R) q s < 36 := by
    intro q hq
    unfold bes at hq ⊢
    by_cases c : 0 ≤ q % xw R + (if s = 1 then 1 else if s = 3 then -1 else 0) ∧ q % xw R + (if s = 1 then 1 else if s = 3 then -1 else 0) ≤ xw R - 1 ∧ 0 ≤ q / xw R + (if s = 2 then 1 else if s = 0 then -1 else 0) ∧ q / xw R + (if s = 2 then 1 else if s = 0 then -1 else 0) ≤ xh R - 1
    · rw [if_pos c]
      generalize q % xw R + (if s = 1 then 1 else if s = 3 then -1 else 0) = u at c ⊢
      generalize q / xw R + (if s = 2 then 1 else if s = 0 then -1 else 0) = v at c ⊢
      have v5 : v ≤ xh R - 1 := c.2.2.2
      have mul : xw R * v ≤ xw R * (xh R - 1) := Int.mul_le_mul_of_nonneg_left v5 (by omega)
      have mul0 : 0 ≤ xw R * v := Int.mul_nonneg (by omega) (by omega)
      rw [Int.mul_sub, Int.mul_one] at mul
      constructor <;> omega
    · rw [if_neg c] at hq; exact absurd rfl hq
  rcases g with ⟨g1, g2⟩ | ⟨g1, g2, g3⟩ | ⟨g1, g2, g3, g4⟩ | ⟨g1, g2, g3, g4, g5, g6⟩ | ⟨g1, g2, g3, g4, g5⟩
  · exact absurd g2 hm
  · have := inn _ g1
    exact ⟨(bes (xw R) (xh R) (p % 36) s).toNat, by omega, by omega⟩
  · exact absurd g4 hm
  · have := inn _ g4
    exact ⟨(bes (xw R) (xh R) (bes (xw R) (xh R) (p % 36) s) s).toNat, by omega, by omega⟩
  · exact absurd g5 hm
/-- both measures are one -/
theorem far_eq {X R r : Mem} {v0 n l f : Nat} {D : Nat → Int} (jR : J R) (jr : J r) (zv : ZV R (R.1 163) n) (zx : ZX v0 R (onA R) (fun c d => plk R 163 c d) X) (l2 : l < 2) (f36 : f < 36) (onf : onN R l f) (ms : MSR (fun c d => bl (X.2.1 (v0 + 2) (l * 36 + c)) d = true) f D) (ff : FF R ((36 * l + f : Nat) : Int) r) : ∀ c, c < 36 → D c = (r.1 177 (36 * l + c)).toInt := by
  obtain ⟨m1, m2, m3, m4⟩ := ms
  have kp := KP_v zv
  have onp : onP R ((36 * l + f : Nat) : Int) := (onP_lc l2 f36).mpr onf
  obtain ⟨⟨_, _, _, q0, q1⟩, cl⟩ := ff
  have q0 : (r.1 177 (36 * l + f)).toInt = 0 := q0
  have up : ∀ (m : Nat) (c : Nat), c < 36 → D c < 1000000 → (D c).toNat ≤ m → (r.1 177 (36 * l + c)).toInt ≤ D c := by
    intro m
    induction m with
    | zero =>
      intro c hc hd hm
      rcases m3 c hc hd with h | ⟨c', hc', h1, h2⟩
      · subst h; rw [q0, m1]; omega
      · have := (m2 c' hc').1; omega
    | succ m ih =>
      intro c hc hd hm
      rcases m3 c hc hd with h | ⟨c', hc', h1, h2⟩
      · subst h; rw [q0, m1]; omega
      · have k := (m2 c' hc').1
        have i := ih c' hc' (by omega) (by omega)
        obtain ⟨_, _, s, s0, s3, g⟩ := (near_go jR zv zx l2 hc').mp h2
        have := cl (36 * l + c') (by omega) (by omega) s s0 s3 _ g (by omega)
        rw [show (((36 * l + c : Nat) : Int)).toNat = 36 * l + c by omega, show (((36 * l + c' : Nat) : Int)).toNat = 36 * l + c' by omega] at this
        omega
  have ffR : FF R ((36 * l + f : Nat) : Int) r := ⟨⟨‹_›, ‹_›, ‹_›, q0, q1⟩, cl⟩
  have dn : ∀ (m : Nat) (k : Nat), k < 72 → (r.1 177 k).toInt < 1000000 → (r.1 177 k).toInt.toNat ≤ m → ∃ c, c < 36 ∧ k = 36 * l + c ∧ D c ≤ (r.1 177 k).toInt := by
    intro m
    induction m with
    | zero =>
      intro k hk hd hm
      have b := (Jr_177 jr k).1
      rcases q1 k hk hd with h | ⟨q, hq, s, s0, s3, g, h⟩
      · exact ⟨f, f36, by omega, by rw [m1]; omega⟩
      · have := (Jr_177 jr q).1; omega
    | succ m ih =>
      intro k hk hd hm
      have b := (Jr_177 jr k).1
      rcases q1 k hk hd with h | ⟨q, hq, s, s0, s3, g, h⟩
      · exact ⟨f, f36, by omega, by rw [m1]; omega⟩
      · have bq := (Jr_177 jr q).1
        obtain ⟨c', hc', e', hD⟩ := ih q hq (by omega) (by omega)
        subst e'
        have onq := far_on jR kp onp ffR ((r.1 177 (36 * l + c')).toInt.toNat) (36 * l + c') hq (by omega) (Nat.le_refl _)
        obtain ⟨d, d36, hd'⟩ := go_lev jR (by omega) ⟨s0, s3⟩ g (by omega)
        have e2 : k = 36 * l + d := by omega
        subst e2
        have := m4 c' hc' (by omega) d ((near_go jR zv zx l2 hc').mpr ⟨(onP_lc l2 hc').mp onq, d36, s, s0, s3, g⟩)
        exact ⟨d, d36, rfl, by omega⟩
  intro c hc
  have b := Jr_177 jr (36 * l + c)
  rcases (m2 c hc).2 with h | h
  · have u := up (D c).toNat c hc (by omega) (Nat.le_refl _)
    obtain ⟨c', hc', e', hD⟩ := dn ((r.1 177 (36 * l + c)).toInt.toNat) (36 * l + c) (by omega) (by omega) (Nat.le_refl _)
    have : c' = c := by omega
    subst this
    omega
  · by_cases g : (r.1 177 (36 * l + c)).toInt < 1000000
    · obtain ⟨c', hc', e', hD⟩ := dn ((r.1 177 (36 * l + c)).toInt.toNat) (36 * l + c) (by omega) g (Nat.le_refl _)
      have : c' = c := by omega
      subst this
      omega
    · omega
/-- the class measures, the reference finds: from the same place the same numbers -/
theorem meas_2 {X R x r : Mem} {n l f k : Nat} {v1 v2 p : Int32} (jR : J R) (zv : ZV R (R.1 163) n) (zw : ZW X R 163) (h1 : v1.toInt = (l : Int)) (l2 : l < 2) (h2 : v2.toInt = (f : Int)) (f36 : f < 36) (onf : onN R l f) (hp : p.toInt = ((36 * l + f : Nat) : Int)) (ex : f_Nets_measure 32 v1 v2 k X = some x) (er : f_Mod_findFar p R = some r) : (∀ c, c < 36 → x.1 k c = r.1 177 (36 * l + c)) ∧ (∀ kx i, kx ≠ k → x.1 kx i = X.1 kx i) ∧ x.2 = X.2 ∧ J r ∧ (∀ kx i, kx ≠ 177 → r.1 kx i = R.1 kx i) ∧ r.2 = R.2 := by
  have wh := awh jR
  obtain ⟨ms, fx, q⟩ := meas_i (.inl rfl) h1 l2 h2 f36 (fun c d hc h => ((near_go jR zv zw.2 l2 hc).mp h).2.1) ex
  have ff := some_of (fs_findFar jR p (by omega)) er
  rw [hp] at ff
  have jr : J r := ff.1.1
  have E := far_eq jR jr zv zw.2 l2 f36 onf ms ff
  refine ⟨fun c hc => Int32.toInt_inj.mp (E c hc), fx, q, jr, fun kx i h => ff.1.2.1 kx i h, ff.1.2.2.1⟩
end
section
/-! path, tryst -/
theorem plc_2 {X R : Mem} {lv cv x y : Int32} (zg : ZG X R) (jR : J R) (ex : f_Ground_holds lv cv X = some x) (ey : f_Mod_isPlaceOf lv cv R = some y) : (x = 0 ∧ y = 0) ∨ (x = 1 ∧ y = 1 ∧ ∃ l c : Nat, l < 2 ∧ c < 36 ∧ lv.toInt = (l : Int) ∧ cv.toInt = (c : Int) ∧ onN R l c) := by
  have wh := awh jR
  have h := holdsC zg jR ex
  unfold f_Mod_isPlaceOf at ey
  obtain ⟨y1, ey1, ey⟩ := bo ey
  have h1 := some_of (sp_in lv 0 1) ey1
  rw [o0, o1] at h1
  rcases h1 with ⟨a, b⟩ | ⟨a, b⟩
  · rw [a, if_neg (by decide)] at ey
    obtain ⟨y2, ey2, ey⟩ := bo ey
    have h2 := some_of (fs_isOf jR lv cv) ey2
    rcases h2 with ⟨c, d⟩ | ⟨c, d⟩
    · rw [c, if_neg (by decide)] at ey
      obtain rfl := Option.some.inj ey
      rcases h with ⟨hx, _⟩ | ⟨_, hx⟩
      · obtain ⟨l, hl⟩ := ti_ofn b.1
        obtain ⟨c', hc'⟩ := ti_ofn d.1
        have := d.2.1
        exact .inr ⟨hx, rfl, l, c', by omega, by omega, hl, hc', by rw [← hl, ← hc']; exact d⟩
      · exact absurd ⟨b.1, b.2, d⟩ hx
    · rw [c, if_pos rfl] at ey
      obtain rfl := Option.some.inj ey
      rcases h with ⟨_, hx⟩ | ⟨hx, _⟩
      · exact absurd hx.2.2 d
      · exact .inl ⟨hx, rfl⟩
  · rw [a, if_pos rfl] at ey
    obtain rfl := Option.some.inj ey
    rcases h with ⟨_, hx⟩ | ⟨hx, _⟩
    · exact absurd ⟨hx.1, hx.2.1⟩ b
    · exact .inl ⟨hx, rfl⟩
theorem place_c {lv cv x : Int32} {l c : Nat} (hl : lv.toInt = (l : Int)) (hc : cv.toInt = (c : Int)) (l2 : l < 2) (c36 : c < 36) (e : f_Mod_placeOf lv cv = some x) : x.toInt = ((36 * l + c : Nat) : Int) := by
  have k36 : (36 : Int32).toInt = 36 := rfl
  unfold f_Mod_placeOf at e
  obtain rfl := Option.some.inj e
  rw [add_ti (mul_ti k36 hl (by omega) (by omega)) hc (by omega) (by omega)]; omega
theorem path_q {X R : Mem} {n : Nat} {v1 v2 v3 : Int32} {x r : Int32 × Mem} (za : ZA X R n) (ex : f_Top_path v1 v2 v3 X = some x) (er : f_Mod_path v1 v2 v3 R = some r) : x.1 = r.1 := by
  unfold f_Mod_path at er
  obtain ⟨M1, m1, er⟩ := mo er
  obtain ⟨zaM, fqM⟩ := ZA_M1 za m1
  obtain ⟨n8, jM, ⟨zg, zc, zl⟩, zs, zv, zw⟩ := zaM.1
  unfold f_Top_path at ex
  obtain ⟨x1, ex1, ex⟩ := bo ex
  obtain ⟨y2, ey2, er⟩ := bo er
  rcases plc_2 zg jM ex1 ey2 with ⟨a, b⟩ | ⟨a, b, l, c, l2, c36, hl, hc, onc⟩
  · rw [a, if_pos rfl] at ex
    rw [b, if_pos rfl] at er
    obtain rfl := Option.some.inj ex
    obtain rfl := Option.some.inj er
    rfl
  rw [a, if_neg (by decide)] at ex
  rw [b, if_neg (by decide)] at er
  obtain ⟨x2, ex2, ex⟩ := bo ex
  obtain ⟨y3, ey3, er⟩ := bo er
  rcases plc_2 zg jM ex2 ey3 with ⟨a, b⟩ | ⟨a, b, l', f, l2', f36, hl', hf, onf⟩
  · rw [a, if_pos rfl] at ex
    rw [b, if_pos rfl] at er
    obtain rfl := Option.some.inj ex
    obtain rfl := Option.some.inj er
    rfl
  have : l' = l := by omega
  subst this
  rw [a, if_neg (by decide)] at ex
  rw [b, if_neg (by decide)] at er
  obtain ⟨x3, ex3, ex⟩ := bo ex
  obtain ⟨p4, e4, er⟩ := bo er
  obtain ⟨r5, e5, er⟩ := bo er
  obtain ⟨p6, e6, er⟩ := bo er
  obtain ⟨_, ex⟩ := io_n ex
  obtain ⟨_, er⟩ := io_n er
  obtain ⟨E, _⟩ := meas_2 jM zv zw hl l2 hf f36 onf (place_c hl hf l2 f36 e4) ex3 e5
  rw [q_nat hc, E c c36] at ex
  rw [q_nat (place_c hl hc l2 c36 e6)] at er
  rcases io ex with ⟨g, ex⟩ | ⟨g, ex⟩
  · rw [if_pos g] at er
    obtain ⟨x4, _, ex⟩ := bo ex
    obtain ⟨x11, _, ex⟩ := bo ex
    obtain rfl := Option.some.inj ex
    obtain ⟨M7, _, er⟩ := mo er
    obtain ⟨y17, _, er⟩ := bo er
    obtain rfl := Option.some.inj er
    rfl
  · rw [if_neg g] at er
    obtain rfl := Option.some.inj ex
    obtain rfl := Option.some.inj er
    rfl
/-- the soonest of cells below k, the first of equal ones -/
def pick (P : Nat → Bool) (V : Nat → Int) : Nat → Int × Int
  | 0 => (1000000, -1)
  | k + 1 => if P k = true ∧ V k < (pick P V k).1 then (V k, (k : Int)) else pick P V k
theorem pick_p {P : Nat → Bool} {V : Nat → Int} {k : Nat} (h : P k = true ∧ V k < (pick P V k).1) : pick P V (k + 1) = (V k, (k : Int)) := if_pos h
theorem pick_n {P : Nat → Bool} {V : Nat → Int} {k : Nat} (h : ¬ (P k = true ∧ V k < (pick P V k).1)) : pick P V (k + 1) = pick P V k := if_neg h
theorem pick_b {P : Nat → Bool} {V : Nat → Int} (hV : ∀ c, P c = true → 0 ≤ V c) : ∀ k, 0 ≤ (pick P V k).1 ∧ (pick P V k).1 ≤ 1000000 ∧ -1 ≤ (pick P V k).2 ∧ (pick P V k).2 < (k : Int) ∧ ((pick P V k).1 = 1000000 ↔ (pick P V k).2 = -1) ∧ (∀ c : Nat, (pick P V k).2 = (c : Int) → (pick P V k).1 = V c) := by
  intro k
  induction k with
  | zero => exact ⟨by show (0 : Int) ≤ 1000000; decide, by show (1000000 : Int) ≤ 1000000; decide, by show (-1 : Int) ≤ -1; decide, by show (-1 : Int) < ((0 : Nat) : Int); decide, ⟨fun _ => rfl, fun _ => rfl⟩, fun c h => by simp only [pick] at h; omega⟩
  | succ k ih =>
    simp only [pick]
    by_cases g : P k = true ∧ V k < (pick P V k).1
    · rw [if_pos g]
      have := hV k g.1
      refine ⟨this, by dsimp only; omega, by dsimp only; omega, by dsimp only; omega, ⟨fun h => by dsimp only at h; omega, fun h => by dsimp only at h; omega⟩, fun c h => ?_⟩
      dsimp only at h ⊢
      have : c = k := by omega
      subst this; rfl
    · rw [if_neg g]
      exact ⟨ih.1, ih.2.1, ih.2.2.1, by have := ih.2.2.2.1; omega, ih.2.2.2.2.1, ih.2.2.2.2.2⟩
theorem pick_s {P : Nat → Bool} {V : Nat → Int} {k : Nat} (j : Nat) (h : ∀ c, k ≤ c → c < k + j → P c = false) : pick P V (k + j) = pick P V k := by
  induction j with
  | zero => rfl
  | succ j ih =>
    show (if P (k + j) = true ∧ V (k + j) < (pick P V (k + j)).1 then (V (k + j), ((k + j : Nat) : Int)) else pick P V (k + j)) = _
    rw [if_neg (fun w => by rw [h (k + j) (by omega) (by omega)] at w; cases w.1), ih (fun c h1 h2 => h c h1 (by omega))]
theorem pick_c {P Q : Nat → Bool} {V W : Nat → Int} {k : Nat} (h : ∀ c, c < k → P c = Q c) (g : ∀ c, c < k → P c = true → V c = W c) : pick P V k = pick Q W k := by
  induction k with
  | zero => rfl
  | succ k ih =>
    have i := ih (fun c hc => h c (by omega)) (fun c hc => g c (by omega))
    simp only [pick]
    rw [i, ← h k (by omega)]
    by_cases b : P k = true
    · rw [g k (by omega) b]
    · rw [if_neg (fun w => b w.1), if_neg (fun w => b w.1)]
def mxi (a b : Int32) : Int := if a < b then b.toInt else a.toInt
theorem mxi_i (a b : Int32) : (if a < b then b else a).toInt = mxi a b := by
  unfold mxi
  by_cases g : a < b
  · rw [if_pos g, if_pos g]
  · rw [if_neg g, if_neg g]
theorem later_i {X : Mem} {v x : Int32} {c : Nat} (hv : v.toInt = (c : Int)) (e : f_Ways_later v X = some x) : x.toInt = mxi (X.1 155 c) (X.1 156 c) := by
  unfold f_Ways_later at e
  obtain ⟨_, e⟩ := io_n e
  obtain ⟨_, e⟩ := io_n e
  obtain rfl := Option.some.inj e
  rw [q_nat hv]
  exact mxi_i _ _
theorem soon_c {v1 : Nat} {X : Mem} {x : Int32} {sv : Int64} (hs : f_Nets_stairs v1 X = some sv) (hb : ∀ c, bl sv c = true → 0 ≤ (X.1 155 c).toInt ∧ 0 ≤ (X.1 156 c).toInt) (e : iter (lb_Top_soonestStair_69 v1 X) FU ((-1 : Int32), (1000000 : Int32), (0 : Int32)) = some x) : x.toInt = (pick (fun c => bl sv c) (fun c => mxi (X.1 155 c) (X.1 156 c)) 36).2 := by
  have k36 : (36 : Int32).toInt = 36 := rfl
  refine it_r (I := fun s : Int32 × Int32 × Int32 => ∃ k : Nat, k ≤ 36 ∧ s.2.2.toInt = (k : Int) ∧ s.1.toInt = (pick (fun c => bl sv c) (fun c => mxi (X.1 155 c) (X.1 156 c)) k).2 ∧ s.2.1.toInt = (pick (fun c => bl sv c) (fun c => mxi (X.1 155 c) (X.1 156 c)) k).1) (Q := fun x : Int32 => x.toInt = (pick (fun c => bl sv c) (fun c => mxi (X.1 155 c) (X.1 156 c)) 36).2) ?_ e ⟨0, by omega, rfl, rfl, rfl⟩
  rintro ⟨b, so, i⟩ r ⟨k, k36', hk, h1, h2⟩ e
  dsimp only at hk h1 h2
  unfold lb_Top_soonestStair_69 at e
  dsimp only at e
  rcases io e with ⟨g, e⟩ | ⟨g, e⟩
  · have := q_le g
    obtain rfl := Option.some.inj e
    have : k = 36 := by omega
    subst this
    exact h1
  have g1 := q_ng g
  have i1 : (i + (1 : Int32)).toInt = ((k + 1 : Nat) : Int) := add_ti hk o1 (by omega) (by omega)
  obtain ⟨x3, e3, e⟩ := bo e
  rw [hs] at e3
  obtain rfl := Option.some.inj e3
  rcases io e with ⟨g, e⟩ | ⟨g, e⟩
  · have gb := (bl_cmp hk (by omega)).mp g
    obtain rfl := Option.some.inj e
    refine ⟨k + 1, by omega, i1, ?_⟩
    simp only [pick]
    rw [if_neg (fun w => by rw [gb] at w; cases w.1)]
    exact ⟨h1, h2⟩
  have gb : bl sv k = true := by
    cases hb : bl sv k with
    | true => rfl
    | false => exact absurd ((bl_cmp hk (by omega)).mpr hb) g
  obtain ⟨x4, e4, e⟩ := bo e
  have l4 := later_i hk e4
  rcases io e with ⟨g, e⟩ | ⟨g, e⟩
  · have := q_le g
    obtain rfl := Option.some.inj e
    refine ⟨k + 1, by omega, i1, ?_⟩
    simp only [pick]
    rw [if_neg (fun w => by have := w.2; omega)]
    exact ⟨h1, h2⟩
  · have := q_ng g
    obtain ⟨x5, e5, e⟩ := bo e
    have l5 := later_i hk e5
    obtain rfl := Option.some.inj e
    refine ⟨k + 1, by omega, i1, ?_⟩
    simp only [pick]
    rw [if_pos ⟨gb, by omega⟩]
    exact ⟨hk, l5⟩
end
section
/-! tryst: both sides -/
theorem meas_v {X R x r : Mem} {v0 n l f k : Nat} {v1 v2 p : Int32} (hv : isN v0) (jR : J R) (zv : ZV R (R.1 163) n) (zx : ZX v0 R (onA R) (fun c d => plk R 163 c d) X) (h1 : v1.toInt = (l : Int)) (l2 : l < 2) (h2 : v2.toInt = (f : Int)) (f36 : f < 36) (onf : onN R l f) (hp : p.toInt = ((36 * l + f : Nat) : Int)) (ex : f_Nets_measure v0 v1 v2 k X = some x) (er : f_Mod_findFar p R = some r) : (∀ c, c < 36 → x.1 k c = r.1 177 (36 * l + c)) ∧ (∀ kx i, kx ≠ k → x.1 kx i = X.1 kx i) ∧ x.2 = X.2 ∧ J r ∧ (∀ kx i, kx ≠ 177 → r.1 kx i = R.1 kx i) ∧ r.2 = R.2 := by
  have wh := awh jR
  obtain ⟨ms, fx, q⟩ := meas_i hv h1 l2 h2 f36 (fun c d hc h => ((near_go jR zv zx l2 hc).mp h).2.1) ex
  have ff := some_of (fs_findFar jR p (by omega)) er
  rw [hp] at ff
  have jr : J r := ff.1.1
  have E := far_eq jR jr zv zx l2 f36 onf ms ff
  refine ⟨fun c hc => Int32.toInt_inj.mp (E c hc), fx, q, jr, fun kx i h => ff.1.2.1 kx i h, ff.1.2.2.1⟩
theorem ln_far : ln 177 = 72 ∧ ln 181 = 72 ∧ ln 182 = 72 ∧ ln 183 = 72 := by decide +kernel
theorem copy_r {R r : Mem} {k : Nat} (hk : k ≠ 177) (e : f_Mod_copy 177 k R = some r) : (∀ i, i < 72 → r.1 k i = R.1 177 i) ∧ (∀ kx i, kx ≠ k → r.1 kx i = R.1 kx i) ∧ r.2 = R.2 := by
  have k72 : (Int32.ofNat (ln 177)).toInt = 72 := by rw [ln_far.1]; rfl
  unfold f_Mod_copy at e
  obtain ⟨_, e⟩ := io_n e
  obtain ⟨_, e⟩ := io_n e
  obtain ⟨x3, e3, e⟩ := bo e
  obtain rfl := Option.some.inj e
  refine it_r (I := fun s : Int32 × Mem => ∃ q : Nat, q ≤ 72 ∧ s.1.toInt = (q : Int) ∧ (∀ i, i < q → s.2.1 k i = R.1 177 i) ∧ (∀ kx i, kx ≠ k → s.2.1 kx i = R.1 kx i) ∧ s.2.2 = R.2) (Q := fun r : Mem => (∀ i, i < 72 → r.1 k i = R.1 177 i) ∧ (∀ kx i, kx ≠ k → r.1 kx i = R.1 kx i) ∧ r.2 = R.2) ?_ e3 ⟨0, by omega, rfl, fun i h => by omega, fun _ _ _ => rfl, rfl⟩
  rintro ⟨i, N⟩ r ⟨q, q72, hq, hd, hf, h2⟩ e
  dsimp only at hq hd hf h2
  unfold lb_Mod_copy_2 at e
  dsimp only at e
  rcases io e with ⟨g, e⟩ | ⟨g, e⟩
  · have := q_le g
    obtain rfl := Option.some.inj e
    exact ⟨fun i hi => hd i (by omega), hf, h2⟩
  have g1 := q_ng g
  obtain ⟨_, e⟩ := io_n e
  obtain ⟨_, e⟩ := io_n e
  obtain ⟨M1, m1, e⟩ := mo e
  obtain rfl := Option.some.inj e
  rw [q_nat hq] at m1
  refine ⟨q + 1, by omega, add_ti hq o1 (by omega) (by omega), fun j hj => ?_, fun kx j h => ?_, ?_⟩
  · dsimp only
    rw [m1]
    by_cases b : j = q
    · subst b; rw [si_eq]; exact hf 177 j (fun h => hk h.symm)
    · rw [si_ne (by omega)]; exact hd j (by omega)
  · dsimp only
    rw [m1, si_ne (by omega)]; exact hf kx j h
  · dsimp only
    rw [m1, si_2]; exact h2
/-- where two of the people are, both sides -/
theorem at_2 {X R : Mem} {n p : Nat} (n8 : n ≤ 8) (zs : ZS (scn X 11) (R.1 163) n) (zv : ZV R (R.1 163) n) (pn : p < n) : ∃ l c : Nat, l < 2 ∧ c < 36 ∧ (X.1 13 p).toInt = (l : Int) ∧ (X.1 12 p).toInt = (c : Int) ∧ (R.1 163 p).toInt = ((36 * l + c : Nat) : Int) ∧ onN R l c := by
  obtain ⟨s1, s2, s3, s4, s5, _⟩ := zs.1 p pn
  have s1 : (R.1 163 p).toInt = (X.1 12 p).toInt + 36 * (X.1 13 p).toInt := s1
  have s2 : 0 ≤ (X.1 12 p).toInt := s2
  have s3 : (X.1 12 p).toInt ≤ 35 := s3
  have s4 : 0 ≤ (X.1 13 p).toInt := s4
  have s5 : (X.1 13 p).toInt ≤ 1 := s5
  obtain ⟨c, hc⟩ := ti_ofn s2
  obtain ⟨l, hl⟩ := ti_ofn s4
  have v := (zv.1 p pn).1
  have e : (R.1 163 p).toInt = ((36 * l + c : Nat) : Int) := by omega
  rw [e] at v
  exact ⟨l, c, by omega, by omega, hl, hc, e, (onP_lc (by omega) (by omega)).mp v⟩
theorem stairs_i {X R : Mem} {v0 : Nat} {sv : Int64} (hv : isN v0) (jR : J R) (kr : ∀ i, i < 36 → 0 ≤ (R.1 164 i).toInt ∧ (R.1 164 i).toInt ≤ 3) (nb : NB v0 (onA R) 36 X) (e : f_Nets_stairs v0 X = some sv) (c : Nat) : bl sv c = true ↔ (c : Int) < xw R * xh R ∧ (R.1 164 c).toInt = 3 := by
  have wh := awh jR
  unfold f_Nets_stairs at e
  obtain ⟨_, e⟩ := io_n e
  obtain rfl := Option.some.inj e
  rw [(isN_r hv).1, show (0 : Int32).toNatClampNeg = 0 from rfl, show (1 : Int32).toNatClampNeg = 1 from rfl, bl_and, Bool.and_eq_true, nb 0 c (by omega), nb 1 c (by omega), onA_i jR, onA_i jR]
  unfold onN
  rw [show ((c : Int)).toNat = c by omega]
  constructor
  · rintro ⟨⟨_, _, h1, h2⟩, _, _, _, h3⟩
    rw [if_pos (by decide)] at h2
    rw [if_neg (by decide)] at h3
    exact ⟨h1, by omega⟩
  · rintro ⟨h1, h2⟩
    refine ⟨⟨by omega, by omega, h1, ?_⟩, by omega, by omega, h1, ?_⟩
    · rw [if_pos (by decide)]; omega
    · rw [if_neg (by decide)]; omega
theorem soon_2 {X R : Mem} {v0 n p q : Nat} {a b : Int32} {x r : Int32 × Mem} (hv : isN v0) (n8 : n ≤ 8) (jR : J R) (kr : ∀ i, i < 36 → 0 ≤ (R.1 164 i).toInt ∧ (R.1 164 i).toInt ≤ 3) (zs : ZS (scn X 11) (R.1 163) n) (zv : ZV R (R.1 163) n) (nb : NB v0 (onA R) 36 X) (zx : ZX v0 R (onA R) (fun c d => plk R 163 c d) X) (hp : a.toInt = (p : Int)) (hq : b.toInt = (q : Int)) (pn : p < n) (qn : q < n) (ex : f_Top_soonestStair v0 a b X = some x) (er : f_Mod_findTryst a b R = some r) : ∃ pk : Int × Int, x.1.toInt = pk.2 ∧ r.1.toInt = pk.1 ∧ (pk.1 = 1000000 ↔ pk.2 = -1) ∧ (0 ≤ pk.1 ∧ pk.1 ≤ 1000000 ∧ -1 ≤ pk.2 ∧ pk.2 < 36) ∧ (pk.2 ≠ -1 → (r.2.1 162 42).toInt = pk.2) ∧ (∀ c : Nat, pk.2 = (c : Int) → mxi (x.2.1 155 c) (x.2.1 156 c) = pk.1) ∧ ((∀ kx i, kx ≠ 155 → kx ≠ 156 → x.2.1 kx i = X.1 kx i) ∧ x.2.2 = X.2) ∧ (∀ kx i, kx ≠ 177 → kx ≠ 183 → ¬ (kx = 162 ∧ i = 42) → r.2.1 kx i = R.1 kx i) := by
  have wh := awh jR
  obtain ⟨l1, c1, l12, c136, hl1, hc1, hP1, on1⟩ := at_2 n8 zs zv pn
  obtain ⟨l2, c2, l22, c236, hl2, hc2, hP2, on2⟩ := at_2 n8 zs zv qn
  unfold f_Top_soonestStair at ex
  obtain ⟨_, ex⟩ := io_n ex
  obtain ⟨_, ex⟩ := io_n ex
  obtain ⟨_, ex⟩ := io_n ex
  obtain ⟨x1, e1, ex⟩ := bo ex
  obtain ⟨_, ex⟩ := io_n ex
  obtain ⟨_, ex⟩ := io_n ex
  obtain ⟨x2, e2, ex⟩ := bo ex
  obtain ⟨x9, e9, ex⟩ := bo ex
  obtain rfl := Option.some.inj ex
  unfold f_Mod_findTryst at er
  obtain ⟨_, er⟩ := io_n er
  obtain ⟨r1, f1, er⟩ := bo er
  obtain ⟨r2, f2, er⟩ := bo er
  obtain ⟨_, er⟩ := io_n er
  obtain ⟨r3, f3, er⟩ := bo er
  obtain ⟨y13, f13, er⟩ := bo er
  obtain rfl := Option.some.inj er
  rw [q_nat hp] at e1 f1
  rw [q_nat hq] at e2 f3
  obtain ⟨E1, fx1, qx1, jr1, fr1, qr1⟩ := meas_v hv jR zv zx hl1 l12 hc1 c136 on1 hP1 e1 f1
  obtain ⟨g1, g2, g3⟩ := copy_r (by omega) f2
  have j2 := (some_of (sf_Mod_copy 177 183 r1 (.inl rfl) (.inr (.inr (.inr rfl))) jr1) f2).1
  have fr2 : ∀ kx i, kx ≠ 177 → kx ≠ 183 → r2.1 kx i = R.1 kx i := fun kx i h1 h2 => by rw [g2 kx i h2]; exact fr1 kx i h1
  have x13 : x1.1 13 q = X.1 13 q := fx1 13 q (by omega)
  have x12 : x1.1 12 q = X.1 12 q := fx1 12 q (by omega)
  rw [x13, x12] at e2
  rw [fr2 163 q (by omega) (by omega)] at f3
  have mE : MapEq r2 R := ⟨fr2 162 2 (by omega) (by omega), fr2 162 3 (by omega) (by omega), fun i => fr2 164 i (by omega) (by omega)⟩
  have agr : AgR R r2 := ⟨fr2 162 2 (by omega) (by omega), fr2 162 3 (by omega) (by omega), fr2 162 4 (by omega) (by omega), fr2 162 5 (by omega) (by omega), fr2 162 23 (by omega) (by omega), fun i => fr2 164 i (by omega) (by omega), fun i => fr2 165 i (by omega) (by omega), fun i => fr2 166 i (by omega) (by omega), fun i => fr2 172 i (by omega) (by omega)⟩
  have zv2 : ZV r2 (r2.1 163) n := ZV_a n8 agr (fun i _ => fr2 163 i (by omega) (by omega)) zv
  have zx2 : ZX v0 r2 (onA r2) (fun c d => plk r2 163 c d) x1 := by
    have w1 : xw r2 = xw R := congrArg Int32.toInt mE.1
    have w2 : xh r2 = xh R := congrArg Int32.toInt mE.2.1
    have on : onA r2 = onA R := by funext l d; exact propext (by unfold onA; rw [onN_c mE])
    have pk : (fun c d => plk r2 163 c d) = (fun c d => plk R 163 c d) := by funext c d; exact propext (plk_c (fun i _ _ => fr2 163 i (by omega) (by omega)) zv.2.1.2 c d)
    unfold ZX NXT NRD LKn lk
    rw [on, pk, w1, w2, qx1]
    refine ⟨fun l c s hl hc hs => ?_, zx.2⟩
    have : ∀ i, x1.1 (v0 + 3) i = X.1 (v0 + 3) i := fun i => fx1 _ i (by rcases hv with rfl | rfl <;> omega)
    rw [this]
    exact zx.1 l c s hl hc hs
  obtain ⟨E2, fx2, qx2, jr3, fr3, qr3⟩ := meas_v hv j2 zv2 zx2 hl2 l22 hc2 c236 ((onN_c mE).mpr on2) hP2 e2 f3
  have k155 : ∀ c, c < 36 → x2.1 155 c = r3.1 183 (36 * l1 + c) := fun c hc => by rw [fx2 155 c (by omega), E1 c hc, fr3 183 _ (by omega), g1 _ (by omega)]
  have k156 : ∀ c, c < 36 → x2.1 156 c = r3.1 177 (36 * l2 + c) := E2
  have fr3R : ∀ kx i, kx ≠ 177 → kx ≠ 183 → r3.1 kx i = R.1 kx i := fun kx i h1 h2 => by rw [fr3 kx i h1]; exact fr2 kx i h1 h2
  have b177 : ∀ i, 0 ≤ (r3.1 177 i).toInt := fun i => (Jr_177 jr3 i).1
  have b183 : ∀ i, i < 72 → 0 ≤ (r3.1 183 i).toInt := fun i hi => by rw [fr3 183 i (by omega), g1 i hi]; exact (Jr_177 jr1 i).1
  -- the class's look round
  have fxa : ∀ kx i, kx ≠ 155 → kx ≠ 156 → x2.1 kx i = X.1 kx i := fun kx i h1 h2 => by rw [fx2 kx i h2]; exact fx1 kx i h1
  have qxa : x2.2 = X.2 := by rw [qx2, qx1]
  have hst : ∃ sv, f_Nets_stairs v0 x2 = some sv := by
    unfold f_Nets_stairs
    rw [if_pos (by rcases hv with rfl | rfl <;> decide +kernel)]
    exact ⟨_, rfl⟩
  obtain ⟨sv, hsv⟩ := hst
  have nb2 : NB v0 (onA R) 36 x2 := by
    intro l d hl
    rw [qxa]; exact nb l d hl
  have st := stairs_i hv jR kr nb2 hsv
  have S := soon_c hsv (fun c h => by
    have := (st c).mp h
    rw [k155 c (by omega), k156 c (by omega)]
    exact ⟨b183 _ (by omega), b177 _⟩) e9
  obtain ⟨W, hW⟩ : ∃ W : Nat, xw R * xh R = (W : Int) := ⟨(xw R * xh R).toNat, by omega⟩
  have W36 : W ≤ 36 := by omega
  have PE : pick (fun c => bl sv c) (fun c => mxi (x2.1 155 c) (x2.1 156 c)) 36 = pick (fun c => bl sv c) (fun c => mxi (x2.1 155 c) (x2.1 156 c)) W := by
    have := pick_s (P := fun c => bl sv c) (V := fun c => mxi (x2.1 155 c) (x2.1 156 c)) (k := W) (36 - W) (fun c h1 h2 => by
      cases hb : bl sv c with
      | false => rfl
      | true => have := ((st c).mp hb).1; omega)
    rwa [show W + (36 - W) = 36 by omega] at this
  have PB := pick_b (P := fun c => bl sv c) (V := fun c => mxi (x2.1 155 c) (x2.1 156 c)) (fun c h => by
    have := (st c).mp h
    unfold mxi
    rw [k155 c (by omega), k156 c (by omega)]
    have q1 := b183 (36 * l1 + c) (by omega)
    have q2 := b177 (36 * l2 + c)
    split
    · exact q2
    · exact q1) W
  -- the reference's
  have K : y13.1.toInt = (pick (fun c => bl sv c) (fun c => mxi (x2.1 155 c) (x2.1 156 c)) W).1 ∧ ((pick (fun c => bl sv c) (fun c => mxi (x2.1 155 c) (x2.1 156 c)) W).2 ≠ -1 → (y13.2.1 162 42).toInt = (pick (fun c => bl sv c) (fun c => mxi (x2.1 155 c) (x2.1 156 c)) W).2) ∧ (∀ kx i, ¬ (kx = 162 ∧ i = 42) → y13.2.1 kx i = r3.1 kx i) := by
    refine it_r (I := fun s : Int32 × Int32 × Mem => ∃ k : Nat, k ≤ W ∧ s.2.1.toInt = (k : Int) ∧ s.1.toInt = (pick (fun c => bl sv c) (fun c => mxi (x2.1 155 c) (x2.1 156 c)) k).1 ∧ ((pick (fun c => bl sv c) (fun c => mxi (x2.1 155 c) (x2.1 156 c)) k).2 ≠ -1 → (s.2.2.1 162 42).toInt = (pick (fun c => bl sv c) (fun c => mxi (x2.1 155 c) (x2.1 156 c)) k).2) ∧ (∀ kx i, ¬ (kx = 162 ∧ i = 42) → s.2.2.1 kx i = r3.1 kx i)) (Q := fun y13 : Int32 × Mem => y13.1.toInt = (pick (fun c => bl sv c) (fun c => mxi (x2.1 155 c) (x2.1 156 c)) W).1 ∧ ((pick (fun c => bl sv c) (fun c => mxi (x2.1 155 c) (x2.1 156 c)) W).2 ≠ -1 → (y13.2.1 162 42).toInt = (pick (fun c => bl sv c) (fun c => mxi (x2.1 155 c) (x2.1 156 c)) W).2) ∧ (∀ kx i, ¬ (kx = 162 ∧ i = 42) → y13.2.1 kx i = r3.1 kx i)) ?_ f13 ⟨0, by omega, rfl, rfl, fun h => absurd rfl h, fun _ _ _ => rfl⟩
    rintro ⟨bs, i, N⟩ u ⟨k, kW, hk, h1, h2, h3⟩ e
    dsimp only at hk h1 h2 h3
    unfold lb_Mod_findTryst_38 at e
    dsimp only at e
    obtain ⟨x4, e4, e⟩ := bo e
    have h4 : x4.toInt = (W : Int) := by
      unfold f_Mod_cells at e4
      obtain rfl := Option.some.inj e4
      rw [h3 162 2 (by omega), h3 162 3 (by omega), fr3R 162 2 (by omega) (by omega), fr3R 162 3 (by omega) (by omega)]
      rw [wh_ti jR]; exact hW
    rcases io e with ⟨g, e⟩ | ⟨g, e⟩
    · have := q_le g
      obtain rfl := Option.some.inj e
      have : k = W := by omega
      subst this
      exact ⟨h1, h2, h3⟩
    have g1 := q_ng g
    have i1 : (i + (1 : Int32)).toInt = ((k + 1 : Nat) : Int) := add_ti hk o1 (by omega) (by omega)
    obtain ⟨_, e⟩ := io_n e
    rw [q_nat hk, h3 164 k (by omega), fr3R 164 k (by omega) (by omega)] at e
    rcases io e with ⟨g3', e⟩ | ⟨g3', e⟩
    · have gb : bl sv k = true := (st k).mpr ⟨by omega, by rw [g3']; rfl⟩
      obtain ⟨_, e⟩ := io_n e
      obtain ⟨x5, e5, e⟩ := bo e
      obtain ⟨x6, e6, e⟩ := bo e
      obtain ⟨_, e⟩ := io_n e
      obtain ⟨_, e⟩ := io_n e
      obtain ⟨x7, e7, e⟩ := bo e
      obtain ⟨x8, e8, e⟩ := bo e
      obtain ⟨_, e⟩ := io_n e
      rw [q_nat hp, h3 163 p (by omega), fr3R 163 p (by omega) (by omega)] at e5
      rw [q_nat hq, h3 163 q (by omega), fr3R 163 q (by omega) (by omega)] at e7
      have v5 : x5.toInt = (l1 : Int) := by rw [(place_i (v := R.1 163 p) (by omega) (by omega)).2 e5]; omega
      have v7 : x7.toInt = (l2 : Int) := by rw [(place_i (v := R.1 163 q) (by omega) (by omega)).2 e7]; omega
      have v6 := place_c v5 hk l12 (by omega) e6
      have v8 := place_c v7 hk l22 (by omega) e8
      rw [q_nat v6, q_nat v8, h3 183 _ (by omega), h3 177 _ (by omega), ← k155 k (by omega), ← k156 k (by omega)] at e
      rcases io e with ⟨g, e⟩ | ⟨g, e⟩
      · have gl := q_lt g
        rw [mxi_i] at gl
        obtain ⟨M9, m9, e⟩ := mo e
        obtain rfl := Option.some.inj e
        refine ⟨k + 1, by omega, i1, ?_⟩
        have hlt : mxi (x2.1 155 k) (x2.1 156 k) < (pick (fun c => bl sv c) (fun c => mxi (x2.1 155 c) (x2.1 156 c)) k).1 := by omega
        rw [pick_p (P := fun c => bl sv c) (V := fun c => mxi (x2.1 155 c) (x2.1 156 c)) ⟨gb, hlt⟩]
        refine ⟨mxi_i _ _, fun _ => by rw [m9, si_eq]; exact hk, fun kx j h => by rw [m9, si_ne h]; exact h3 kx j h⟩
      · have gl := q_nl g
        rw [mxi_i] at gl
        obtain rfl := Option.some.inj e
        refine ⟨k + 1, by omega, i1, ?_⟩
        rw [pick_n (fun w => by have := w.2; omega)]
        exact ⟨h1, h2, h3⟩
    · have gb : ¬ bl sv k = true := fun h => g3' (Int32.toInt_inj.mp (((st k).mp h).2))
      obtain rfl := Option.some.inj e
      refine ⟨k + 1, by omega, i1, ?_⟩
      rw [pick_n (fun w => gb w.1)]
      exact ⟨h1, h2, h3⟩
  refine ⟨pick (fun c => bl sv c) (fun c => mxi (x2.1 155 c) (x2.1 156 c)) W, by rw [← PE]; exact S, K.1, PB.2.2.2.2.1, ⟨PB.1, PB.2.1, PB.2.2.1, by have := PB.2.2.2.1; omega⟩, K.2.1, fun c h => (PB.2.2.2.2.2 c h).symm, ⟨fxa, qxa⟩, fun kx i h1 h2 h3 => by rw [K.2.2 kx i h3]; exact fr3R kx i h1 h2⟩
theorem mw_2 {X R : Mem} {n : Nat} {a b x y : Int32} (zc : ZC X R n) (n8 : n ≤ 8) (ex : f_Top_areManAndWoman a b X = some x) (ey : f_Mod_areManWoman a b R = some y) : (x = 0 ∧ y = 0) ∨ (x = 1 ∧ y = 1 ∧ ∃ p q : Nat, a.toInt = (p : Int) ∧ b.toInt = (q : Int) ∧ p < n ∧ q < n) := by
  unfold f_Top_areManAndWoman at ex
  unfold f_Mod_areManWoman at ey
  obtain ⟨x1, ex1, ex⟩ := bo ex
  obtain ⟨y1, ey1, ey⟩ := bo ey
  have h1 := crowd_has (n := n) (by rw [zc.2.1]; exact zc.1) n8 ex1
  have g1 := isOne_i zc.1 n8 ey1
  rcases h1 with ⟨a1, b1⟩ | ⟨a1, b1⟩
  rotate_left
  · rcases g1 with ⟨_, c⟩ | ⟨c, _⟩
    · exact absurd c b1
    rw [a1, if_pos rfl] at ex
    rw [c, if_pos rfl] at ey
    exact .inl ⟨(Option.some.inj ex).symm, (Option.some.inj ey).symm⟩
  rcases g1 with ⟨c1, _⟩ | ⟨_, c⟩
  rotate_left
  · exact absurd b1 c
  rw [a1, if_neg (by decide)] at ex
  rw [c1, if_neg (by decide)] at ey
  obtain ⟨x2, ex2, ex⟩ := bo ex
  obtain ⟨y2, ey2, ey⟩ := bo ey
  have h2 := crowd_has (n := n) (by rw [zc.2.1]; exact zc.1) n8 ex2
  have g2 := isOne_i zc.1 n8 ey2
  rcases h2 with ⟨a2, b2⟩ | ⟨a2, b2⟩
  rotate_left
  · rcases g2 with ⟨_, c⟩ | ⟨c, _⟩
    · exact absurd c b2
    rw [a2, if_pos rfl] at ex
    rw [c, if_pos rfl] at ey
    exact .inl ⟨(Option.some.inj ex).symm, (Option.some.inj ey).symm⟩
  rcases g2 with ⟨c2, _⟩ | ⟨_, c⟩
  rotate_left
  · exact absurd b2 c
  rw [a2, if_neg (by decide)] at ex
  rw [c2, if_neg (by decide)] at ey
  obtain ⟨p, hp⟩ := ti_ofn b1.1
  obtain ⟨q, hq⟩ := ti_ofn b2.1
  obtain ⟨x3, ex3, ex⟩ := bo ex
  obtain ⟨y3, ey3, ey⟩ := bo ey
  have w3 := womanC hp (by omega) ex3
  have v3 := hasR hp (by omega) ey3
  rw [zc.2.2.1] at w3
  rcases io ex with ⟨g, ex⟩ | ⟨g, ex⟩
  · rw [if_pos (v3.mpr (w3.mp g))] at ey
    obtain ⟨x4, ex4, ex⟩ := bo ex
    obtain ⟨y4, ey4, ey⟩ := bo ey
    have w4 := womanC hq (by omega) ex4
    have v4 := hasR hq (by omega) ey4
    rw [zc.2.2.1] at w4
    rcases io ex with ⟨g, ex⟩ | ⟨g, ex⟩
    · rw [if_pos (v4.mpr (w4.mp g))] at ey
      exact .inl ⟨(Option.some.inj ex).symm, (Option.some.inj ey).symm⟩
    · rw [if_neg (fun h => g (w4.mpr (v4.mp h)))] at ey
      exact .inr ⟨(Option.some.inj ex).symm, (Option.some.inj ey).symm, p, q, hp, hq, by omega, by omega⟩
  · rw [if_neg (fun h => g (w3.mpr (v3.mp h)))] at ey
    exact .inl ⟨(Option.some.inj ex).symm, (Option.some.inj ey).symm⟩
theorem tryst_q {X R : Mem} {n : Nat} {a b : Int32} {x r : Int32 × Mem} (za : ZA X R n) (ex : f_Top_tryst a b X = some x) (er : f_Mod_tryst a b R = some r) : x.1 = r.1 ∧ (RR X R → RR x.2 r.2) := by
  have n8 := za.1.1
  have ym := om
  have kF : (1000000 : Int32).toInt = 1000000 := rfl
  unfold f_Mod_tryst at er
  obtain ⟨M1, m1, er⟩ := mo er
  obtain ⟨zaM, fqM⟩ := ZA_M1 za m1
  obtain ⟨_, jM, ⟨zg, zc, zl⟩, zs, zv, zw⟩ := zaM.1
  unfold f_Top_tryst at ex
  obtain ⟨x1, ex1, ex⟩ := bo ex
  obtain ⟨y2, ey2, er⟩ := bo er
  rcases mw_2 zc n8 ex1 ey2 with ⟨h1, h2⟩ | ⟨h1, h2, p, q, hp, hq, pn, qn⟩
  · rw [h1, if_pos rfl] at ex
    rw [h2, if_pos rfl] at er
    obtain rfl := Option.some.inj ex
    obtain rfl := Option.some.inj er
    exact ⟨rfl, FQ2_RR fqM⟩
  rw [h1, if_neg (by decide)] at ex
  rw [h2, if_neg (by decide)] at er
  obtain ⟨x2, ex2, ex⟩ := bo ex
  obtain ⟨y3, ey3, er⟩ := bo er
  obtain ⟨pk, s1, s2, s3, s4, s5, s6, s7, s8⟩ := soon_2 (.inl rfl) n8 jM zg.2.2.2 zs zv zw.1 zw.2 hp hq pn qn ex2 ey3
  rcases io ex with ⟨g, ex⟩ | ⟨g, ex⟩
  · have gg := q_eq g
    rw [if_pos (Int32.toInt_inj.mp (by rw [s2, s3.mpr (by omega)]; rfl))] at er
    obtain rfl := Option.some.inj ex
    obtain rfl := Option.some.inj er
    refine ⟨rfl, fun h => ?_⟩
    have h := FQ2_RR fqM h
    exact RR_f (s7.1 0 15 (by omega) (by omega)) (fun i => s7.1 161 i (by omega) (by omega)) (s8 162 12 (by omega) (by omega) (by omega)) (fun i => s8 168 i (by omega) (by omega) (by omega)) h
  · have gg := q_ne g
    rw [if_neg (fun h => by have := q_eq h; rw [s2] at this; have := s3.mp (by omega); omega)] at er
    obtain ⟨x3, e3, ex⟩ := bo ex
    obtain ⟨x4, e4, ex⟩ := bo ex
    obtain ⟨x5, e5, ex⟩ := bo ex
    obtain rfl := Option.some.inj ex
    obtain ⟨M4, m4, er⟩ := mo er
    obtain ⟨y5, ey5, er⟩ := bo er
    obtain rfl := Option.some.inj er
    obtain ⟨c, hc⟩ := ti_ofn (show 0 ≤ x2.1.toInt by omega)
    have em := empty_i e3
    have l4 := later_i hc e4
    rw [em.1 155 c (by omega), em.1 156 c (by omega), s6 c (by omega)] at l4
    have pf := put_i ey5
    refine ⟨?_, fun _ => RRn_r (by omega) (RR_n (RR_0 e3 m4) (by omega) (Int32.toInt_inj.mp (by rw [l4, s2])) e5 ey5)⟩
    show x2.1 = y5.1 162 42
    rw [pf 162 42 (by omega) (by omega), m4, si_ne (by omega)]
    exact Int32.toInt_inj.mp (by rw [s1, s5 (by omega)])
end
section
/-! bits: the lowest one -/
theorem pred_bits : ∀ (t N : Nat), N.testBit t = true → (∀ j, j < t → N.testBit j = false) → ∀ j, (N - 1).testBit j = if j < t then true else if j = t then false else N.testBit j := by
  intro t
  induction t with
  | zero =>
    intro N ht _ j
    rw [Nat.testBit_zero, decide_eq_true_eq] at ht
    cases j with
    | zero =>
      rw [if_neg (by omega), if_pos rfl, Nat.testBit_zero]
      exact decide_eq_false (by omega)
    | succ i =>
      rw [if_neg (by omega), if_neg (by omega), Nat.testBit_add_one, Nat.testBit_add_one, show (N - 1) / 2 = N / 2 by omega]
  | succ t ih =>
    intro N ht hl j
    have h0 := hl 0 (by omega)
    rw [Nat.testBit_zero, decide_eq_false_iff_not] at h0
    rw [Nat.testBit_add_one] at ht
    have pos : N / 2 ≠ 0 := by
      intro h
      rw [h, Nat.zero_testBit] at ht
      cases ht
    have hl2 : ∀ j, j < t → (N / 2).testBit j = false := fun j hj => by rw [← Nat.testBit_add_one]; exact hl (j + 1) (by omega)
    cases j with
    | zero =>
      rw [if_pos (by omega), Nat.testBit_zero]
      exact decide_eq_true (by omega)
    | succ i =>
      rw [Nat.testBit_add_one, show (N - 1) / 2 = N / 2 - 1 by omega, ih (N / 2) ht hl2 i, Nat.testBit_add_one]
      by_cases c : i < t
      · rw [if_pos c, if_pos (show i + 1 < t + 1 by omega)]
      · rw [if_neg c, if_neg (show ¬ i + 1 < t + 1 by omega)]
        by_cases g : i = t
        · rw [if_pos g, if_pos (show i + 1 = t + 1 by omega)]
        · rw [if_neg g, if_neg (show ¬ i + 1 = t + 1 by omega)]
theorem pred_bv {w : Nat} (hw : w ≠ 0) {v : BitVec w} {t : Nat} (ht : v.getLsbD t = true) (hl : ∀ j, j < t → v.getLsbD j = false) (j : Nat) : (v - 1#w).getLsbD j = if j < t then true else if j = t then false else v.getLsbD j := by
  have n0 : v.toNat ≠ 0 := by
    intro h
    have g : v.toNat.testBit t = true := ht
    rw [h, Nat.zero_testBit] at g
    cases g
  have e : (v - 1#w).toNat = v.toNat - 1 := by
    have k := v.isLt
    have p := Nat.one_lt_two_pow hw
    rw [BitVec.toNat_sub, BitVec.toNat_ofNat, Nat.mod_eq_of_lt p, show 2 ^ w - 1 + v.toNat = (v.toNat - 1) + 2 ^ w by omega, Nat.add_mod_right, Nat.mod_eq_of_lt (by omega)]
  show (v - 1#w).toNat.testBit j = _
  rw [e]
  exact pred_bits t v.toNat ht hl j
theorem bl_pop {x : Int64} {t : Nat} (ht : bl x t = true) (hl : ∀ j, j < t → bl x j = false) (d : Nat) : bl (x &&& (x - 1)) d = true ↔ (bl x d = true ∧ d ≠ t) := by
  have p : bl (x - 1) d = if d < t then true else if d = t then false else bl x d := pred_bv (w := 64) (by decide) ht hl d
  rw [bl_and, Bool.and_eq_true, p]
  constructor
  · rintro ⟨a, b⟩
    refine ⟨a, ?_⟩
    rintro rfl
    rw [if_neg (by omega), if_pos rfl] at b
    cases b
  · rintro ⟨a, b⟩
    refine ⟨a, ?_⟩
    by_cases c : d < t
    · rw [if_pos c]
    · rw [if_neg c, if_neg b]; exact a
theorem low_ex {P : Nat → Bool} : ∀ d, P d = true → ∃ t, P t = true ∧ ∀ j, j < t → P j = false := by
  intro d
  induction d using Nat.strongRecOn with
  | ind d ih =>
    intro h
    by_cases c : ∃ j, j < d ∧ P j = true
    · obtain ⟨j, hj, hp⟩ := c
      exact ih j hj hp
    · refine ⟨d, h, fun j hj => ?_⟩
      cases hp : P j with
      | false => rfl
      | true => exact absurd ⟨j, hj, hp⟩ c
def ntzX (X : Int32) : Option Int32 :=
  if 0 < X then
  if X ≤ (65536 : Int32) then j_JInteger_numberOfTrailingZeros_34 X (1 : Int32)
  else j_JInteger_numberOfTrailingZeros_34 ((X.toUInt32 >>> ((16 : Int32).toUInt32 &&& Int32.toUInt32 31)).toInt32) ((1 : Int32) + (16 : Int32))
  else some (X &&& (32 : Int32))
theorem ntzX_t : ∀ t : Fin 32, ntzX (Int32.ofBitVec (BitVec.ofNat 32 (2 ^ t.val - 1))) = some (Int32.ofNat t.val) := by decide +kernel
theorem ntz_i {v : Int32} {t : Nat} (t32 : t < 32) (ht : v.toBitVec.getLsbD t = true) (hl : ∀ j, j < t → v.toBitVec.getLsbD j = false) : f_JInteger_numberOfTrailingZeros v = some (Int32.ofNat t) := by
  have m1 : ∀ j : Fin 32, (-1 : Int32).toBitVec.getLsbD j.val = true := by decide +kernel
  have e : ((v ^^^ (-1 : Int32)) &&& (v - (1 : Int32))) = Int32.ofBitVec (BitVec.ofNat 32 (2 ^ t - 1)) := by
    refine Int32.toBitVec_inj.mp (BitVec.eq_of_getLsbD_eq ?_)
    intro j hj
    have p : (v - (1 : Int32)).toBitVec.getLsbD j = if j < t then true else if j = t then false else v.toBitVec.getLsbD j := pred_bv (w := 32) (by decide) ht hl j
    rw [Int32.toBitVec_and, Int32.toBitVec_xor, BitVec.getLsbD_and, BitVec.getLsbD_xor, m1 ⟨j, hj⟩, p]
    show _ = (BitVec.ofNat 32 (2 ^ t - 1)).getLsbD j
    rw [BitVec.getLsbD_ofNat, Nat.testBit_two_pow_sub_one]
    by_cases c : j < t
    · rw [if_pos c, hl j c, decide_eq_true c, decide_eq_true hj]; rfl
    · rw [if_neg c, decide_eq_false c, Bool.and_false]
      by_cases g : j = t
      · rw [if_pos g, Bool.and_false]
      · rw [if_neg g]; cases v.toBitVec.getLsbD j <;> rfl
  show ntzX ((v ^^^ (-1 : Int32)) &&& (v - (1 : Int32))) = _
  rw [e]
  exact ntzX_t ⟨t, t32⟩
theorem ti_ofNat {t : Nat} (h : t < 64) : (Int32.ofNat t).toInt = (t : Int) := by
  have : ∀ t : Fin 64, (Int32.ofNat t.val).toInt = (t.val : Int) := by decide +kernel
  exact this ⟨t, h⟩
theorem ntz_l {x : Int64} {y : Int32} {t : Nat} (ht : bl x t = true) (hl : ∀ j, j < t → bl x j = false) (e : f_JLong_numberOfTrailingZeros x = some y) : y.toInt = (t : Int) := by
  have t64 : t < 64 := by
    rcases Nat.lt_or_ge t 64 with h | h
    · exact h
    · rw [bl_hi h] at ht; cases ht
  have lo : ∀ j, j < 32 → x.toInt32.toBitVec.getLsbD j = bl x j := by
    intro j hj
    rw [Int64.toBitVec_toInt32, BitVec.getLsbD_signExtend, decide_eq_true hj, if_pos (by omega), Bool.true_and]
    rfl
  unfold f_JLong_numberOfTrailingZeros at e
  rcases Nat.lt_or_ge t 32 with c | c
  · have nz : ¬ x.toInt32 = 0 := by
      intro h
      have := lo t c
      rw [h, ht] at this
      have z : (0 : Int32).toBitVec.getLsbD t = false := BitVec.getLsbD_zero
      rw [z] at this; cases this
    rw [if_neg nz, ntz_i c (by rw [lo t c]; exact ht) (fun j hj => by rw [lo j (by omega)]; exact hl j hj)] at e
    have e : some (Int32.ofNat t) = some y := e
    obtain rfl := Option.some.inj e
    exact ti_ofNat t64
  · have z0 : x.toInt32 = 0 := by
      refine Int32.toBitVec_inj.mp (BitVec.eq_of_getLsbD_eq ?_)
      intro j hj
      rw [lo j hj, hl j (by omega)]
      exact BitVec.getLsbD_zero.symm
    have hi : ∀ j, j < 32 → (((x.toUInt64 >>> ((32 : Int32).toInt64.toUInt64 &&& Int64.toUInt64 63)).toInt64).toInt32).toBitVec.getLsbD j = bl x (32 + j) := by
      intro j hj
      rw [Int64.toBitVec_toInt32, BitVec.getLsbD_signExtend, decide_eq_true hj, if_pos (by omega), Bool.true_and, UInt64.toBitVec_toInt64, UInt64.toBitVec_shiftRight, BitVec.ushiftRight_eq']
      have s : (((32 : Int32).toInt64.toUInt64 &&& Int64.toUInt64 63).toBitVec % 64).toNat = 32 := by decide +kernel
      rw [s, BitVec.getLsbD_ushiftRight]
      rfl
    rw [if_pos z0, ntz_i (t := t - 32) (by omega) (by rw [hi _ (by omega), show 32 + (t - 32) = t by omega]; exact ht) (fun j hj => by rw [hi j (by omega)]; exact hl _ (by omega))] at e
    have e : some ((32 : Int32) + Int32.ofNat (t - 32)) = some y := e
    obtain rfl := Option.some.inj e
    have k32 : (32 : Int32).toInt = 32 := rfl
    rw [add_ti k32 (ti_ofNat (by omega)) (by omega) (by omega)]
    omega
end
section
/-! the class's flood: the least set that holds the first cell and is closed under steps to cells not barred -/
theorem flood_i {v0 l f : Nat} {v1 v2 : Int32} {bar y : Int64} {M : Mem} (hv : isN v0) (h1 : v1.toInt = (l : Int)) (l2 : l < 2) (h2 : v2.toInt = (f : Int)) (f36 : f < 36) (hN : ∀ c d, c < 36 → bl (M.2.1 (v0 + 2) (l * 36 + c)) d = true → d < 36) (e : f_Nets_flood v0 v1 v2 bar M = some y) : bl y f = true ∧ (∀ c, bl y c = true → c < 36) ∧ (∀ c d, bl y c = true → bl (M.2.1 (v0 + 2) (l * 36 + c)) d = true → bl bar d = false → bl y d = true) ∧ (∀ P : Nat → Prop, P f → (∀ c d, c < 36 → P c → bl (M.2.1 (v0 + 2) (l * 36 + c)) d = true → bl bar d = false → P d) → ∀ c, bl y c = true → P c) := by
  have k36 : (36 : Int32).toInt = 36 := rfl
  unfold f_Nets_flood at e
  obtain ⟨_, e⟩ := io_n e
  obtain ⟨x5, e5, e⟩ := bo e
  obtain rfl := Option.some.inj e
  have b1 := bl_one h2 (show f < 64 by omega)
  refine it_r (I := fun s : Int64 × Int64 × Int32 => ∃ q : Nat, q ≤ 36 ∧ s.2.2.toInt = (q : Int) ∧ bl s.1 f = true ∧ (∀ c, bl s.1 c = true → c < 36) ∧ (∀ c, bl s.2.1 c = true → bl s.1 c = true) ∧ (∀ c d, bl s.1 c = true → bl s.2.1 c = false → bl (M.2.1 (v0 + 2) (l * 36 + c)) d = true → bl bar d = false → bl s.1 d = true) ∧ (∀ P : Nat → Prop, P f → (∀ c d, c < 36 → P c → bl (M.2.1 (v0 + 2) (l * 36 + c)) d = true → bl bar d = false → P d) → ∀ c, bl s.1 c = true → P c) ∧ q ≤ (List.range 36).countP (fun c => bl s.1 c && !bl s.2.1 c)) (Q := fun y : Int64 => bl y f = true ∧ (∀ c, bl y c = true → c < 36) ∧ (∀ c d, bl y c = true → bl (M.2.1 (v0 + 2) (l * 36 + c)) d = true → bl bar d = false → bl y d = true) ∧ (∀ P : Nat → Prop, P f → (∀ c d, c < 36 → P c → bl (M.2.1 (v0 + 2) (l * 36 + c)) d = true → bl bar d = false → P d) → ∀ c, bl y c = true → P c)) ?_ e5 ⟨0, by omega, rfl, ?_⟩
  · rintro ⟨S, F, k⟩ r ⟨q, q36, hk, a1, a2, a3, a4, a5, a6⟩ e
    dsimp only at hk a1 a2 a3 a4 a5 a6
    unfold lb_Nets_flood_12 at e
    dsimp only at e
    rcases io e with ⟨g, e⟩ | ⟨g, e⟩
    · have g := q_le g
      obtain rfl := Option.some.inj e
      have all := cnt_all (P := fun c => bl S c && !bl F c) (n := 36) (by omega)
      refine ⟨a1, a2, fun c d hc hd hb => a4 c d hc ?_ hd hb, a5⟩
      have := all c (a2 c hc)
      cases hF : bl F c with
      | false => rfl
      | true => simp [hF] at this
    have g1 := q_ng g
    rcases io e with ⟨g, e⟩ | ⟨g, e⟩
    · have z := lc_0.mp g
      obtain rfl := Option.some.inj e
      exact ⟨a1, a2, fun c d hc hd hb => a4 c d hc (by rw [z, bl_0]) hd hb, a5⟩
    have nz : ¬ F = 0 := fun h => g (lc_0.mpr h)
    have ex : ∃ d, bl F d = true := by
      refine Classical.byContradiction (fun h => nz (bl_0i (fun d => ?_)))
      cases hF : bl F d with
      | false => rfl
      | true => exact absurd ⟨d, hF⟩ h
    obtain ⟨d0, hd0⟩ := ex
    obtain ⟨t, ht, hl⟩ := low_ex (P := fun d => bl F d) d0 hd0
    have ht : bl F t = true := ht
    have t36 := a2 t (a3 t ht)
    obtain ⟨x1, e1, e⟩ := bo e
    have n1 := ntz_l ht hl e1
    rw [if_neg (fun h => by have := q_le h; omega)] at e
    obtain ⟨_, e⟩ := io_n e
    unfold j_Nets_flood_78_12 at e
    obtain rfl := Option.some.inj e
    have i2 : (v1 * (36 : Int32) + x1).toInt = ((l * 36 + t : Nat) : Int) := by rw [add_ti (mul_ti h1 k36 (by omega) (by omega)) n1 (by omega) (by omega)]; omega
    have i1 : (k + (1 : Int32)).toInt = ((q + 1 : Nat) : Int) := add_ti hk o1 (by omega) (by omega)
    rw [(isN_r hv).2.1, q_nat i2]
    have hw : ∀ d, bl ((M.2.1 (v0 + 2) (l * 36 + t) &&& (S ^^^ (-1 : Int64))) &&& (bar ^^^ (-1 : Int64))) d = true ↔ (bl (M.2.1 (v0 + 2) (l * 36 + t)) d = true ∧ bl S d = false ∧ bl bar d = false) := by
      intro d
      rw [bl_and, bl_and, Bool.and_eq_true, Bool.and_eq_true]
      rcases Nat.lt_or_ge d 64 with h | h
      · rw [bl_not h, bl_not h, Bool.not_eq_true', Bool.not_eq_true', and_assoc]
      · rw [bl_hi (x := M.2.1 (v0 + 2) (l * 36 + t)) h]
        constructor
        · rintro ⟨⟨w, _⟩, _⟩; cases w
        · rintro ⟨w, _⟩; cases w
    generalize ((M.2.1 (v0 + 2) (l * 36 + t) &&& (S ^^^ (-1 : Int64))) &&& (bar ^^^ (-1 : Int64))) = w0 at hw ⊢
    have hS : ∀ d, bl (S ||| w0) d = true ↔ (bl S d = true ∨ bl w0 d = true) := fun d => by rw [bl_or, Bool.or_eq_true]
    have hF : ∀ d, bl ((F &&& (F - (1 : Int64))) ||| w0) d = true ↔ ((bl F d = true ∧ d ≠ t) ∨ bl w0 d = true) := fun d => by rw [bl_or, Bool.or_eq_true, bl_pop ht hl]
    have nF : ∀ d, bl ((F &&& (F - (1 : Int64))) ||| w0) d = false → ¬ bl w0 d = true ∧ (bl F d = false ∨ d = t) := by
      intro d h
      have n : ¬ bl ((F &&& (F - (1 : Int64))) ||| w0) d = true := by rw [h]; decide
      rw [hF] at n
      refine ⟨fun w => n (.inr w), ?_⟩
      cases hd : bl F d with
      | false => exact .inl rfl
      | true =>
        refine .inr (Classical.byContradiction (fun w => n (.inl ⟨hd, w⟩)))
    refine ⟨q + 1, by omega, i1, (hS f).mpr (.inl a1), ?_, ?_, ?_, ?_, ?_⟩
    · intro c hc
      rcases (hS c).mp hc with h | h
      · exact a2 c h
      · exact hN t c t36 ((hw c).mp h).1
    · intro c hc
      rcases (hF c).mp hc with h | h
      · exact (hS c).mpr (.inl (a3 c h.1))
      · exact (hS c).mpr (.inr h)
    · intro c d hc hf hd hb
      obtain ⟨n1', n2⟩ := nF c hf
      have hc' : bl S c = true := by
        rcases (hS c).mp hc with h | h
        · exact h
        · exact absurd h n1'
      rcases n2 with h | h
      · exact (hS d).mpr (.inl (a4 c d hc' h hd hb))
      · subst h
        cases hs : bl S d with
        | true => exact (hS d).mpr (.inl hs)
        | false => exact (hS d).mpr (.inr ((hw d).mpr ⟨hd, hs, hb⟩))
    · intro P pf pc c hc
      rcases (hS c).mp hc with h | h
      · exact a5 P pf pc c h
      · have w := (hw c).mp h
        exact pc t c t36 (a5 P pf pc t (a3 t ht)) w.1 w.2.2
    · have lt := cnt_lt (P := fun c => bl S c && !bl F c) (Q := fun c => bl (S ||| w0) c && !bl ((F &&& (F - (1 : Int64))) ||| w0) c) (n := 36) (c := t) t36 ?_ ?_ ?_
      · exact Nat.le_trans (Nat.succ_le_succ a6) lt
      · intro i _ h
        rw [Bool.and_eq_true, Bool.not_eq_true'] at h ⊢
        refine ⟨(hS i).mpr (.inl h.1), ?_⟩
        cases hb : bl ((F &&& (F - (1 : Int64))) ||| w0) i with
        | false => rfl
        | true =>
          rcases (hF i).mp hb with w | w
          · rw [h.2] at w; cases w.1
          · have := ((hw i).mp w).2.1
            rw [h.1] at this; cases this
      · rw [ht]; simp
      · rw [Bool.and_eq_true, Bool.not_eq_true']
        refine ⟨(hS t).mpr (.inl (a3 t ht)), ?_⟩
        cases hb : bl ((F &&& (F - (1 : Int64))) ||| w0) t with
        | false => rfl
        | true =>
          rcases (hF t).mp hb with w | w
          · exact absurd rfl w.2
          · have := ((hw t).mp w).2.1
            rw [a3 t ht] at this; cases this
  · dsimp only
    have one : ∀ c, bl ((1 : Int64) <<< (v2.toInt64 &&& 63)) c = true ↔ c = f := fun c => by rw [b1, decide_eq_true_eq]
    refine ⟨(one f).mpr rfl, fun c h => by have := (one c).mp h; omega, fun c h => h, fun c d h1 h2 => ?_, fun P pf pc c h => by rw [(one c).mp h]; exact pf, Nat.zero_le _⟩
    rw [h1] at h2; cases h2
/-- flooded from a cell: what a measure from it reaches -/
theorem flood_m {v0 l f : Nat} {v1 v2 : Int32} {y : Int64} {M : Mem} {D : Nat → Int} (hv : isN v0) (h1 : v1.toInt = (l : Int)) (l2 : l < 2) (h2 : v2.toInt = (f : Int)) (f36 : f < 36) (hN : ∀ c d, c < 36 → bl (M.2.1 (v0 + 2) (l * 36 + c)) d = true → d < 36) (e : f_Nets_flood v0 v1 v2 (0 : Int64) M = some y) (ms : MSR (fun c d => bl (M.2.1 (v0 + 2) (l * 36 + c)) d = true) f D) : ∀ c, bl y c = true ↔ (c < 36 ∧ D c < 1000000) := by
  obtain ⟨b1, b2, b3, b4⟩ := flood_i hv h1 l2 h2 f36 hN e
  obtain ⟨m1, m2, m3, m4⟩ := ms
  intro c
  constructor
  · intro h
    refine ⟨b2 c h, (b4 (fun c => c < 36 ∧ D c < 1000000) ⟨f36, by rw [m1]; decide⟩ ?_ c h).2⟩
    rintro c d hc ⟨_, hD⟩ hd _
    have k := m4 c hc hD d hd
    have k1 := (m2 c hc).2
    have k2 := (m2 d k.1).2
    exact ⟨k.1, by omega⟩
  · rintro ⟨hc, hD⟩
    have key : ∀ (m : Nat) (c : Nat), c < 36 → D c < 1000000 → (D c).toNat ≤ m → bl y c = true := by
      intro m
      induction m with
      | zero =>
        intro c hc hd hm
        rcases m3 c hc hd with h | ⟨c', hc', h1, h2⟩
        · subst h; exact b1
        · have := (m2 c' hc').1; omega
      | succ m ih =>
        intro c hc hd hm
        rcases m3 c hc hd with h | ⟨c', hc', h1, h2⟩
        · subst h; exact b1
        · have := (m2 c' hc').1
          exact b3 c' c (ih c' hc' (by omega) (by omega)) h2 (bl_0 c)
    exact key (D c).toNat c hc hD (Nat.le_refl _)
/-- the class floods, the reference finds -/
theorem flood_2 {X R r : Mem} {n l f : Nat} {v1 v2 p : Int32} {y : Int64} (hJ : J X) (jR : J R) (zv : ZV R (R.1 163) n) (zw : ZW X R 163) (h1 : v1.toInt = (l : Int)) (l2 : l < 2) (h2 : v2.toInt = (f : Int)) (f36 : f < 36) (onf : onN R l f) (hp : p.toInt = ((36 * l + f : Nat) : Int)) (ex : f_Nets_flood 32 v1 v2 (0 : Int64) X = some y) (er : f_Mod_findFar p R = some r) : (∀ c, bl y c = true ↔ (c < 36 ∧ (r.1 177 (36 * l + c)).toInt < 1000000)) ∧ J r ∧ (∀ kx i, kx ≠ 177 → r.1 kx i = R.1 kx i) := by
  have near : ∀ c d, c < 36 → bl (X.2.1 (32 + 2) (l * 36 + c)) d = true → d < 36 := fun c d hc h => ((near_go jR zv zw.2 l2 hc).mp h).2.1
  have ff := some_of (fs_findFar jR p (by omega)) er
  rw [hp] at ff
  have jr : J r := ff.1.1
  obtain ⟨x, ex2, _⟩ := sf_Nets_measure 32 v1 v2 155 X kd_32 ⟨by omega, by omega⟩ ⟨by omega, by omega⟩ FA_155 hJ
  obtain ⟨ms, _, _⟩ := meas_i (.inl rfl) h1 l2 h2 f36 near ex2
  have E := far_eq jR jr zv zw.2 l2 f36 onf ms ff
  refine ⟨fun c => ?_, jr, fun kx i h => ff.1.2.1 kx i h⟩
  rw [flood_m (.inl rfl) h1 l2 h2 f36 near ex ms c]
  constructor
  · rintro ⟨a, b⟩; exact ⟨a, by rw [← E c a]; exact b⟩
  · rintro ⟨a, b⟩; exact ⟨a, by rw [E c a]; exact b⟩
end
section
/-! pieces: counted alike -/
def pcs (P : Nat → Bool) (Rc : Nat → Nat → Bool) : Nat → (Nat → Bool) × Int
  | 0 => (fun _ => false, 0)
  | k + 1 => if P k = true ∧ (pcs P Rc k).1 k = false then (fun c => (pcs P Rc k).1 c || Rc k c, (pcs P Rc k).2 + 1) else pcs P Rc k
theorem pcs_p {P : Nat → Bool} {Rc : Nat → Nat → Bool} {k : Nat} (h : P k = true ∧ (pcs P Rc k).1 k = false) : pcs P Rc (k + 1) = (fun c => (pcs P Rc k).1 c || Rc k c, (pcs P Rc k).2 + 1) := if_pos h
theorem pcs_n {P : Nat → Bool} {Rc : Nat → Nat → Bool} {k : Nat} (h : ¬ (P k = true ∧ (pcs P Rc k).1 k = false)) : pcs P Rc (k + 1) = pcs P Rc k := if_neg h
theorem pcs_b {P : Nat → Bool} {Rc : Nat → Nat → Bool} : ∀ k, 0 ≤ (pcs P Rc k).2 ∧ (pcs P Rc k).2 ≤ (k : Int) := by
  intro k
  induction k with
  | zero => exact ⟨by show (0 : Int) ≤ 0; decide, by show (0 : Int) ≤ ((0 : Nat) : Int); decide⟩
  | succ k ih =>
    by_cases g : P k = true ∧ (pcs P Rc k).1 k = false
    · rw [pcs_p g]; dsimp only; omega
    · rw [pcs_n g]; omega
theorem pcs_s {P : Nat → Bool} {Rc : Nat → Nat → Bool} {k : Nat} (j : Nat) (h : ∀ c, k ≤ c → P c = false) : pcs P Rc (k + j) = pcs P Rc k := by
  induction j with
  | zero => rfl
  | succ j ih =>
    rw [show k + (j + 1) = (k + j) + 1 by omega, pcs_n (fun w => by rw [h (k + j) (by omega)] at w; cases w.1)]
    exact ih
/-- what the class's flood from a cell reaches -/
def rcX (v1 : Int32) (X : Mem) (k c : Nat) : Bool := match f_Nets_flood 32 v1 (Int32.ofNat k) (0 : Int64) X with
  | some y => bl y c
  | none => false
theorem rcX_i {v1 i : Int32} {X : Mem} {k : Nat} {y : Int64} (hk : i.toInt = (k : Int)) (k36 : k < 36) (e : f_Nets_flood 32 v1 i (0 : Int64) X = some y) (c : Nat) : rcX v1 X k c = bl y c := by
  unfold rcX
  rw [← ofn_eq hk (by omega), e]
theorem pcs_c {X : Mem} {v1 : Int32} {net : Int64} {x : Int32 × Int32 × Int32} (e : iter (lb_Top_pieces_33 v1 X) FU (net, (0 : Int32), (0 : Int32), (-1 : Int32), (0 : Int32)) = some x) : x.1.toInt = (pcs (fun c => bl net c) (rcX v1 X) 36).2 := by
  have k36 : (36 : Int32).toInt = 36 := rfl
  refine it_r (I := fun s : Int64 × Int32 × Int32 × Int32 × Int32 => ∃ k : Nat, k ≤ 36 ∧ s.2.2.2.2.toInt = (k : Int) ∧ s.2.1.toInt = (pcs (fun c => bl net c) (rcX v1 X) k).2 ∧ ∀ c, c < 64 → bl s.1 c = (bl net c && !(pcs (fun c => bl net c) (rcX v1 X) k).1 c)) (Q := fun x : Int32 × Int32 × Int32 => x.1.toInt = (pcs (fun c => bl net c) (rcX v1 X) 36).2) ?_ e ⟨0, by omega, rfl, rfl, fun c _ => by show bl net c = (bl net c && !false); rw [Bool.not_false, Bool.and_true]⟩
  rintro ⟨left, cn, best, cell, i⟩ r ⟨k, k36', hk, h1, h2⟩ e
  dsimp only at hk h1 h2
  unfold lb_Top_pieces_33 at e
  dsimp only at e
  rcases io e with ⟨g, e⟩ | ⟨g, e⟩
  · have := q_le g
    obtain rfl := Option.some.inj e
    have : k = 36 := by omega
    subst this
    exact h1
  have g1 := q_ng g
  have i1 : (i + (1 : Int32)).toInt = ((k + 1 : Nat) : Int) := add_ti hk o1 (by omega) (by omega)
  have bk := h2 k (by omega)
  have pb := pcs_b (P := fun c => bl net c) (Rc := rcX v1 X) k
  rcases io e with ⟨g, e⟩ | ⟨g, e⟩
  · have gb := (bl_cmp hk (by omega)).mp g
    obtain rfl := Option.some.inj e
    refine ⟨k + 1, by omega, i1, ?_⟩
    rw [pcs_n (P := fun c => bl net c) (Rc := rcX v1 X) (fun w => by
      have w1 : bl net k = true := w.1
      rw [gb, w1, w.2] at bk; cases bk)]
    exact ⟨h1, h2⟩
  · have gb : bl left k = true := by
      cases hb : bl left k with
      | true => rfl
      | false => exact absurd ((bl_cmp hk (by omega)).mpr hb) g
    rw [gb] at bk
    have bk := bk.symm
    rw [Bool.and_eq_true, Bool.not_eq_true'] at bk
    obtain ⟨x1, e1, e⟩ := bo e
    obtain ⟨x2, e2, e⟩ := bo e
    have rc := rcX_i hk (by omega) e1
    have c1 : (cn + (1 : Int32)).toInt = (pcs (fun c => bl net c) (rcX v1 X) k).2 + 1 := by
      rw [add_ti h1 o1 (by omega) (by omega)]
    have L : ∀ c, c < 64 → bl (left &&& (x1 ^^^ (-1 : Int64))) c = (bl net c && !(pcs (fun c => bl net c) (rcX v1 X) (k + 1)).1 c) := by
      intro c hc
      rw [pcs_p (P := fun c => bl net c) (Rc := rcX v1 X) ⟨bk.1, bk.2⟩, bl_and, bl_not hc, h2 c hc]
      dsimp only
      rw [rc c]
      cases bl net c <;> cases (pcs (fun c => bl net c) (rcX v1 X) k).1 c <;> cases bl x1 c <;> rfl
    have C : (cn + (1 : Int32)).toInt = (pcs (fun c => bl net c) (rcX v1 X) (k + 1)).2 := by
      rw [pcs_p (P := fun c => bl net c) (Rc := rcX v1 X) ⟨bk.1, bk.2⟩]; exact c1
    rcases io e with ⟨_, e⟩ | ⟨_, e⟩
    · obtain rfl := Option.some.inj e
      exact ⟨k + 1, by omega, i1, C, L⟩
    · obtain ⟨x3, _, e⟩ := bo e
      obtain rfl := Option.some.inj e
      exact ⟨k + 1, by omega, i1, C, L⟩
theorem vb_0 : vp_nar .boolean (0 : Int32) = 0 := by decide +kernel
theorem vb_o0 {a : Int32} (h : a = 0 ∨ a = 1) : vp_nar .boolean (a ||| (0 : Int32)) = a := by
  rcases h with rfl | rfl <;> decide +kernel
theorem vb_o1 {a : Int32} (h : a = 0 ∨ a = 1) : vp_nar .boolean (a ||| (1 : Int32)) = 1 := by
  rcases h with rfl | rfl <;> decide +kernel
theorem b179 {N : Mem} (h : J N) (i : Nat) : N.1 179 i = 0 ∨ N.1 179 i = 1 := by
  have := Jr_179 h i
  by_cases c : (N.1 179 i).toInt = 0
  · exact .inl (Int32.toInt_inj.mp c)
  · exact .inr (Int32.toInt_inj.mp (by show (N.1 179 i).toInt = 1; omega))
theorem wipe_r {a b c d : Int32} {N x : Mem} (jN : J N) (e : iter (lb_Mod_pieces_26 a b c d) FU ((0 : Int32), N) = some x) : J x ∧ (∀ kx i, kx ≠ 179 → x.1 kx i = N.1 kx i) ∧ ∀ c, c < 36 → x.1 179 c = 0 := by
  have k36 : (36 : Int32).toInt = 36 := rfl
  refine it_r (I := fun s : Int32 × Mem => ∃ q : Nat, q ≤ 36 ∧ s.1.toInt = (q : Int) ∧ J s.2 ∧ (∀ kx i, kx ≠ 179 → s.2.1 kx i = N.1 kx i) ∧ ∀ c, c < q → s.2.1 179 c = 0) (Q := fun x : Mem => J x ∧ (∀ kx i, kx ≠ 179 → x.1 kx i = N.1 kx i) ∧ ∀ c, c < 36 → x.1 179 c = 0) ?_ e ⟨0, by omega, rfl, jN, fun _ _ _ => rfl, fun c h => by omega⟩
  rintro ⟨i, T⟩ r ⟨q, q36, hq, jT, hf, hd⟩ e
  dsimp only at hq jT hf hd
  unfold lb_Mod_pieces_26 at e
  dsimp only at e
  rcases io e with ⟨g, e⟩ | ⟨g, e⟩
  · have := q_le g
    obtain rfl := Option.some.inj e
    exact ⟨jT, hf, fun c hc => hd c (by omega)⟩
  have g1 := q_ng g
  have i1 : (i + (1 : Int32)).toInt = ((q + 1 : Nat) : Int) := add_ti hq o1 (by omega) (by omega)
  obtain ⟨_, e⟩ := io_n e
  obtain ⟨M3, m3, e⟩ := mo e
  obtain rfl := Option.some.inj e
  rw [q_nat hq, vb_0] at m3
  refine ⟨q + 1, by omega, i1, by rw [m3]; exact Jw_179 jT q 0 (by decide) (by decide), fun kx j h => by rw [m3, si_ne (by omega)]; exact hf kx j h, fun c hc => ?_⟩
  rw [m3]
  by_cases w : c = q
  · subst w; exact si_eq
  · rw [si_ne (by omega)]; exact hd c (by omega)
theorem mark_r {v1 a b c d : Int32} {l : Nat} {N x : Mem} (h1 : v1.toInt = (l : Int)) (l2 : l < 2) (jN : J N) (e : iter (lb_Mod_pieces_98 v1 a b c d) FU ((0 : Int32), N) = some x) : J x ∧ (∀ kx i, kx ≠ 179 → x.1 kx i = N.1 kx i) ∧ ∀ c, c < 36 → x.1 179 c = if (N.1 177 (36 * l + c)).toInt < 1000000 then 1 else N.1 179 c := by
  have k36 : (36 : Int32).toInt = 36 := rfl
  have km : (1000000 : Int32).toInt = 1000000 := rfl
  refine it_r (I := fun s : Int32 × Mem => ∃ q : Nat, q ≤ 36 ∧ s.1.toInt = (q : Int) ∧ J s.2 ∧ (∀ kx i, kx ≠ 179 → s.2.1 kx i = N.1 kx i) ∧ (∀ c, q ≤ c → s.2.1 179 c = N.1 179 c) ∧ ∀ c, c < q → s.2.1 179 c = if (N.1 177 (36 * l + c)).toInt < 1000000 then 1 else N.1 179 c) (Q := fun x : Mem => J x ∧ (∀ kx i, kx ≠ 179 → x.1 kx i = N.1 kx i) ∧ ∀ c, c < 36 → x.1 179 c = if (N.1 177 (36 * l + c)).toInt < 1000000 then 1 else N.1 179 c) ?_ e ⟨0, by omega, rfl, jN, fun _ _ _ => rfl, fun _ _ => rfl, fun c h => by omega⟩
  rintro ⟨i, T⟩ r ⟨q, q36, hq, jT, hf, hu, hd⟩ e
  dsimp only at hq jT hf hu hd
  unfold lb_Mod_pieces_98 at e
  dsimp only at e
  rcases io e with ⟨g, e⟩ | ⟨g, e⟩
  · have := q_le g
    obtain rfl := Option.some.inj e
    exact ⟨jT, hf, fun c hc => hd c (by omega)⟩
  have g1 := q_ng g
  have i1 : (i + (1 : Int32)).toInt = ((q + 1 : Nat) : Int) := add_ti hq o1 (by omega) (by omega)
  obtain ⟨_, e⟩ := io_n e
  obtain ⟨x10, e10, e⟩ := bo e
  obtain ⟨_, e⟩ := io_n e
  have p10 := place_c h1 hq l2 (by omega) e10
  rw [q_nat p10, hf 177 _ (by omega), q_nat hq, hu q (Nat.le_refl _)] at e
  have b := b179 jN q
  rcases io e with ⟨g, e⟩ | ⟨g, e⟩
  · have gg := q_le g
    obtain ⟨_, e⟩ := io_n e
    obtain ⟨M3, m3, e⟩ := mo e
    obtain rfl := Option.some.inj e
    rw [vb_o0 b] at m3
    have jb := Jr_179 jN q
    refine ⟨q + 1, by omega, i1, by rw [m3]; exact Jw_179 jT q _ jb.1 jb.2, fun kx j h => by rw [m3, si_ne (by omega)]; exact hf kx j h, fun c hc => by rw [m3, si_ne (by omega)]; exact hu c (by omega), fun c hc => ?_⟩
    rw [m3]
    by_cases w : c = q
    · subst w; rw [si_eq, if_neg (by omega)]
    · rw [si_ne (by omega)]; exact hd c (by omega)
  · have gg := q_ng g
    obtain ⟨_, e⟩ := io_n e
    obtain ⟨M3, m3, e⟩ := mo e
    obtain rfl := Option.some.inj e
    rw [vb_o1 b] at m3
    refine ⟨q + 1, by omega, i1, by rw [m3]; exact Jw_179 jT q _ (by decide) (by decide), fun kx j h => by rw [m3, si_ne (by omega)]; exact hf kx j h, fun c hc => by rw [m3, si_ne (by omega)]; exact hu c (by omega), fun c hc => ?_⟩
    rw [m3]
    by_cases w : c = q
    · subst w; rw [si_eq, if_pos (by omega)]
    · rw [si_ne (by omega)]; exact hd c (by omega)
theorem pieces_q {X R : Mem} {n : Nat} {v1 : Int32} {x r : Int32 × Mem} (hJ : J X) (za : ZA X R n) (ex : f_Top_pieces v1 X = some x) (er : f_Mod_pieces v1 R = some r) : x.1 = r.1 := by
  have z0 := o0
  unfold f_Mod_pieces at er
  obtain ⟨M1, m1, er⟩ := mo er
  obtain ⟨zaM, fqM⟩ := ZA_M1 za m1
  obtain ⟨n8, jM, ⟨zg, zc, zl⟩, zs, zv, zw⟩ := zaM.1
  have wh := awh jM
  have jM1 : J M1 := jM
  unfold f_Top_pieces at ex
  obtain ⟨y2, ey2, er⟩ := bo er
  have hin := some_of (sp_in v1 0 1) ey2
  rw [o0, o1] at hin
  rcases io ex with ⟨g, ex⟩ | ⟨g, ex⟩
  · have g := q_lt g
    rcases hin with ⟨a, b⟩ | ⟨a, b⟩
    · omega
    rw [a, if_pos rfl] at er
    obtain rfl := Option.some.inj ex
    obtain rfl := Option.some.inj er
    rfl
  have g1 := q_nl g
  rcases io ex with ⟨g, ex⟩ | ⟨g, ex⟩
  rotate_left
  · have g := q_ng g
    rcases hin with ⟨a, b⟩ | ⟨a, b⟩
    · have := o1; omega
    rw [a, if_pos rfl] at er
    obtain rfl := Option.some.inj ex
    obtain rfl := Option.some.inj er
    rfl
  have g2 := q_le g
  have k1 := o1
  rcases hin with ⟨a, _⟩ | ⟨_, b⟩
  rotate_left
  · exact absurd ⟨by omega, by omega⟩ b
  rw [a, if_neg (by decide)] at er
  obtain ⟨l, hl⟩ := ti_ofn (v := v1) (by omega)
  have l2 : l < 2 := by omega
  obtain ⟨_, ex⟩ := io_n ex
  obtain ⟨x7, e7, ex⟩ := bo ex
  obtain ⟨x8, _, ex⟩ := bo ex
  obtain ⟨x9, _, ex⟩ := bo ex
  obtain ⟨x10, _, ex⟩ := bo ex
  obtain rfl := Option.some.inj ex
  obtain ⟨y5, ey5, er⟩ := bo er
  obtain ⟨y22, ey22, er⟩ := bo er
  obtain ⟨M23, _, er⟩ := mo er
  obtain ⟨y24, _, er⟩ := bo er
  obtain ⟨y25, _, er⟩ := bo er
  obtain rfl := Option.some.inj er
  rw [q_nat hl] at e7
  have C := pcs_c e7
  have nb : ∀ d, bl (X.2.1 33 l) d = true ↔ (d < 36 ∧ onN M1 l d) := fun d => by
    have := zw.1 l d l2
    rw [this, onA_i jM]
  obtain ⟨j5, f5, w5⟩ := wipe_r jM1 ey5
  obtain ⟨W, hW⟩ : ∃ W : Nat, xw M1 * xh M1 = (W : Int) := ⟨(xw M1 * xh M1).toNat, by omega⟩
  have W36 : W ≤ 36 := by omega
  have K : y22.1.toInt = (pcs (fun c => bl (X.2.1 33 l) c) (rcX v1 X) W).2 := by
    refine it_r (I := fun s : Int32 × Int32 × Int32 × Int32 × Mem => ∃ k : Nat, k ≤ W ∧ s.2.2.2.1.toInt = (k : Int) ∧ s.1.toInt = (pcs (fun c => bl (X.2.1 33 l) c) (rcX v1 X) k).2 ∧ (∀ c, c < 36 → s.2.2.2.2.1 179 c = if (pcs (fun c => bl (X.2.1 33 l) c) (rcX v1 X) k).1 c = true then 1 else 0) ∧ J s.2.2.2.2 ∧ (∀ kx i, kx ≠ 177 → kx ≠ 179 → s.2.2.2.2.1 kx i = M1.1 kx i)) (Q := fun y : Int32 × Int32 × Int32 × Mem => y.1.toInt = (pcs (fun c => bl (X.2.1 33 l) c) (rcX v1 X) W).2) ?_ ey22 ⟨0, by omega, rfl, rfl, fun c hc => by show y5.1 179 c = if false = true then 1 else 0; rw [w5 c hc, if_neg (by decide)], j5, fun kx i _ h => f5 kx i h⟩
    rintro ⟨cn, best, cell, i, T⟩ u ⟨k, kW, hk, h1, h2, jT, hf⟩ e
    dsimp only at hk h1 h2 jT hf
    unfold lb_Mod_pieces_50 at e
    dsimp only at e
    obtain ⟨x6, e6, e⟩ := bo e
    have h6 : x6.toInt = (W : Int) := by
      unfold f_Mod_cells at e6
      obtain rfl := Option.some.inj e6
      rw [hf 162 2 (by omega) (by omega), hf 162 3 (by omega) (by omega)]
      rw [wh_ti jM]; exact hW
    rcases io e with ⟨g, e⟩ | ⟨g, e⟩
    · have := q_le g
      obtain rfl := Option.some.inj e
      have : k = W := by omega
      subst this
      exact h1
    have g1 := q_ng g
    have i1 : (i + (1 : Int32)).toInt = ((k + 1 : Nat) : Int) := add_ti hk o1 (by omega) (by omega)
    have zT : ZA X T n := ZA_z zaM jT (fun _ _ _ => rfl) (fun _ => rfl) (fun _ => rfl) (fun _ => rfl) (fun _ => rfl) (fun kx i h => hf kx i (by unfold CRr CR at h; omega) (by unfold CRr CR at h; omega))
    obtain ⟨_, _, _, _, zvT, zwT⟩ := zT.1
    have nbT : bl (X.2.1 33 l) k = true ↔ (k < 36 ∧ onN T l k) := by
      have := zwT.1 l k l2
      rw [this, onA_i jT]
    obtain ⟨x7', e7', e⟩ := bo e
    have hof := some_of (fs_isOf jT v1 i) e7'
    rw [hl, hk] at hof
    rcases hof with ⟨a, on⟩ | ⟨a, on⟩
    rotate_left
    · rw [a, if_pos rfl] at e
      obtain rfl := Option.some.inj e
      refine ⟨k + 1, by omega, i1, ?_⟩
      rw [pcs_n (P := fun c => bl (X.2.1 33 l) c) (Rc := rcX v1 X) (fun w => on (nbT.mp w.1).2)]
      exact ⟨h1, h2, jT, hf⟩
    rw [a, if_neg (by decide)] at e
    have P1 : bl (X.2.1 33 l) k = true := nbT.mpr ⟨by omega, on⟩
    obtain ⟨_, e⟩ := io_n e
    rw [q_nat hk, h2 k (by omega)] at e
    rcases io e with ⟨g, e⟩ | ⟨g, e⟩
    rotate_left
    · obtain rfl := Option.some.inj e
      refine ⟨k + 1, by omega, i1, ?_⟩
      rw [pcs_n (P := fun c => bl (X.2.1 33 l) c) (Rc := rcX v1 X) (fun w => g (by rw [w.2, if_neg (by decide)]))]
      exact ⟨h1, h2, jT, hf⟩
    have seen : (pcs (fun c => bl (X.2.1 33 l) c) (rcX v1 X) k).1 k = false := by
      cases hs : (pcs (fun c => bl (X.2.1 33 l) c) (rcX v1 X) k).1 k with
      | false => rfl
      | true => rw [hs, if_pos rfl] at g; exact absurd g (by decide)
    have E := pcs_p (P := fun c => bl (X.2.1 33 l) c) (Rc := rcX v1 X) ⟨P1, seen⟩
    have pb := pcs_b (P := fun c => bl (X.2.1 33 l) c) (Rc := rcX v1 X) k
    obtain ⟨x8', e8', e⟩ := bo e
    obtain ⟨x9', e9', e⟩ := bo e
    obtain ⟨x15, e15, e⟩ := bo e
    obtain ⟨x16, _, e⟩ := bo e
    obtain ⟨y, ey, _⟩ := sf_Nets_flood 32 v1 i (0 : Int64) X kd_32 ⟨by omega, by omega⟩ hJ
    obtain ⟨F1, F2, F3⟩ := flood_2 hJ jT zvT zwT hl l2 hk (by omega) on (place_c hl hk l2 (by omega) e8') ey e9'
    obtain ⟨A1, A2, A3⟩ := mark_r hl l2 F2 e15
    have rc := rcX_i hk (by omega) ey
    have c1 : (cn + (1 : Int32)).toInt = (pcs (fun c => bl (X.2.1 33 l) c) (rcX v1 X) (k + 1)).2 := by
      rw [add_ti h1 o1 (by omega) (by omega), E]
    have S : ∀ c, c < 36 → x15.1 179 c = if (pcs (fun c => bl (X.2.1 33 l) c) (rcX v1 X) (k + 1)).1 c = true then 1 else 0 := by
      intro c hc
      have E1 : (pcs (fun c => bl (X.2.1 33 l) c) (rcX v1 X) (k + 1)).1 c = ((pcs (fun c => bl (X.2.1 33 l) c) (rcX v1 X) k).1 c || bl y c) := by
        rw [← rc c]
        exact congrArg (fun z : (Nat → Bool) × Int => z.1 c) E
      rw [A3 c hc, F3 179 c (by omega), h2 c hc, E1]
      by_cases w : (x9'.1 177 (36 * l + c)).toInt < 1000000
      · rw [if_pos w, (F1 c).mpr ⟨hc, w⟩, Bool.or_true, if_pos rfl]
      · rw [if_neg w]
        have : bl y c = false := by
          cases hb : bl y c with
          | false => rfl
          | true => exact absurd ((F1 c).mp hb).2 w
        rw [this, Bool.or_false]
    have fr : ∀ kx i, kx ≠ 177 → kx ≠ 179 → x15.1 kx i = M1.1 kx i := fun kx i h h' => by rw [A2 kx i h', F3 kx i h]; exact hf kx i h h'
    rcases io e with ⟨_, e⟩ | ⟨_, e⟩
    · obtain ⟨x17, _, e⟩ := bo e
      obtain rfl := Option.some.inj e
      exact ⟨k + 1, by omega, i1, c1, S, A1, fr⟩
    · obtain rfl := Option.some.inj e
      exact ⟨k + 1, by omega, i1, c1, S, A1, fr⟩
  have tail := pcs_s (P := fun c => bl (X.2.1 33 l) c) (Rc := rcX v1 X) (k := W) (36 - W) (fun c hc => by
    cases hb : bl (X.2.1 33 l) c with
    | false => rfl
    | true =>
      have on := ((nb c).mp hb).2
      have := on.2.1
      omega)
  rw [show W + (36 - W) = 36 by omega] at tail
  refine Int32.toInt_inj.mp ?_
  show x7.1.toInt = y22.1.toInt
  rw [C, K, tail]
end
section
/-! Long.bitCount counts the bits -/
theorem and_byte (X Y : Nat) : X &&& Y = 256 * ((X / 256) &&& (Y / 256)) + ((X % 256) &&& (Y % 256)) := by
  have a : (X &&& Y) / 2 ^ 8 = X / 2 ^ 8 &&& Y / 2 ^ 8 := Nat.and_div_two_pow
  have b : (X &&& Y) % 2 ^ 8 = (X % 2 ^ 8) &&& (Y % 2 ^ 8) := Nat.and_mod_two_pow
  rw [show (2 : Nat) ^ 8 = 256 from rfl] at a b
  rw [← a, ← b]
  exact (Nat.div_add_mod (X &&& Y) 256).symm
def g1 (m x : Nat) : Nat := x - (x / 2 &&& m)
def g2 (m x : Nat) : Nat := (x &&& m) + (x / 4 &&& m)
def g3 (m x : Nat) : Nat := (x + x / 16) &&& m
def mk (d : Nat) : Nat → Nat
  | 0 => 0
  | n + 1 => 256 * mk d n + d
def pcB (b : Nat) : Nat := (List.range 8).countP (fun i => b.testBit i)
theorem tb1_t : ∀ b : Fin 256, ∀ e : Fin 2, ((128 * e.val + b.val / 2) &&& 85) = (b.val / 2 &&& 85) ∧ (b.val / 2 &&& 85) ≤ b.val := by decide +kernel
theorem tb2_t : ∀ b : Fin 256, ∀ e : Fin 4, ((64 * e.val + b.val / 4) &&& 51) = (b.val / 4 &&& 51) := by decide +kernel
theorem tb3_t : ∀ b : Fin 256, ∀ e : Fin 16, ((16 * e.val + b.val + b.val / 16) &&& 15) = ((b.val + b.val / 16) &&& 15) := by decide +kernel
theorem tb4_t : ∀ b : Fin 256, g1 85 b.val < 256 ∧ g2 51 (g1 85 b.val) ≤ 68 ∧ g2 51 (g1 85 b.val) % 16 ≤ 4 ∧ g3 15 (g2 51 (g1 85 b.val)) = pcB b.val ∧ g3 15 (g2 51 (g1 85 b.val)) ≤ 8 := by decide +kernel
theorem g1_b {m q b : Nat} (hb : b < 256) : g1 (256 * m + 85) (256 * q + b) = 256 * g1 m q + g1 85 b := by
  unfold g1
  obtain ⟨t1, t2⟩ := tb1_t ⟨b, hb⟩ ⟨q % 2, by omega⟩
  dsimp only at t1 t2
  have le : (q / 2 &&& m) ≤ q / 2 := Nat.and_le_left
  have e : ((256 * q + b) / 2 &&& (256 * m + 85)) = 256 * (q / 2 &&& m) + (b / 2 &&& 85) := by
    rw [and_byte, show (256 * q + b) / 2 / 256 = q / 2 by omega, show (256 * q + b) / 2 % 256 = 128 * (q % 2) + b / 2 by omega, show (256 * m + 85) / 256 = m by omega, show (256 * m + 85) % 256 = 85 by omega, t1]
  rw [e]
  generalize (q / 2 &&& m) = u at le ⊢
  generalize (b / 2 &&& 85) = w at t2 ⊢
  omega
theorem g2_b {m q b : Nat} (hb : b < 256) : g2 (256 * m + 51) (256 * q + b) = 256 * g2 m q + g2 51 b := by
  unfold g2
  have t1 := tb2_t ⟨b, hb⟩ ⟨q % 4, by omega⟩
  dsimp only at t1
  have e1 : ((256 * q + b) &&& (256 * m + 51)) = 256 * (q &&& m) + (b &&& 51) := by
    rw [and_byte, show (256 * q + b) / 256 = q by omega, show (256 * q + b) % 256 = b by omega, show (256 * m + 51) / 256 = m by omega, show (256 * m + 51) % 256 = 51 by omega]
  have e2 : ((256 * q + b) / 4 &&& (256 * m + 51)) = 256 * (q / 4 &&& m) + (b / 4 &&& 51) := by
    rw [and_byte, show (256 * q + b) / 4 / 256 = q / 4 by omega, show (256 * q + b) / 4 % 256 = 64 * (q % 4) + b / 4 by omega, show (256 * m + 51) / 256 = m by omega, show (256 * m + 51) % 256 = 51 by omega, t1]
  rw [e1, e2]
  omega
theorem g3_b {m q b : Nat} (hb : b ≤ 68) (hq : q % 16 ≤ 4) : g3 (256 * m + 15) (256 * q + b) = 256 * g3 m q + g3 15 b := by
  unfold g3
  have t1 := tb3_t ⟨b, by omega⟩ ⟨q % 16, by omega⟩
  dsimp only at t1
  rw [and_byte, show (256 * q + b + (256 * q + b) / 16) / 256 = q + q / 16 by omega, show (256 * q + b + (256 * q + b) / 16) % 256 = 16 * (q % 16) + b + b / 16 by omega, show (256 * m + 15) / 256 = m by omega, show (256 * m + 15) % 256 = 15 by omega, t1]
def pcS : Nat → Nat → Nat
  | 0, _ => 0
  | n + 1, x => 256 * pcS n (x / 256) + pcB (x % 256)
def pcC : Nat → Nat → Nat
  | 0, _ => 0
  | n + 1, x => pcC n (x / 256) + pcB (x % 256)
theorem pcS_s (n x : Nat) : pcS (n + 1) x = 256 * pcS n (x / 256) + pcB (x % 256) := rfl
theorem pcC_s (n x : Nat) : pcC (n + 1) x = pcC n (x / 256) + pcB (x % 256) := rfl
theorem pcS_z (x : Nat) : pcS 0 x = 0 := rfl
theorem pcC_z (x : Nat) : pcC 0 x = 0 := rfl
theorem q2_16 : ∀ (n x : Nat), x < 256 ^ n → g2 (mk 51 n) (g1 (mk 85 n) x) % 16 ≤ 4 := by
  intro n x hx
  cases n with
  | zero =>
    have : x = 0 := by rw [Nat.pow_zero] at hx; omega
    subst this
    decide
  | succ n =>
    have hb : x % 256 < 256 := Nat.mod_lt _ (by decide)
    have t := tb4_t ⟨x % 256, hb⟩
    dsimp only at t
    rw [← Nat.div_add_mod x 256]
    show g2 (256 * mk 51 n + 51) (g1 (256 * mk 85 n + 85) (256 * (x / 256) + x % 256)) % 16 ≤ 4
    rw [g1_b hb, g2_b t.1]
    omega
theorem pc_n : ∀ (n x : Nat), x < 256 ^ n → g3 (mk 15 n) (g2 (mk 51 n) (g1 (mk 85 n) x)) = pcS n x := by
  intro n
  induction n with
  | zero =>
    intro x hx
    have : x = 0 := by rw [Nat.pow_zero] at hx; omega
    subst this
    decide
  | succ n ih =>
    intro x hx
    have hb : x % 256 < 256 := Nat.mod_lt _ (by decide)
    have hq : x / 256 < 256 ^ n := by rw [Nat.pow_succ] at hx; omega
    have t := tb4_t ⟨x % 256, hb⟩
    dsimp only at t
    have k : g3 (256 * mk 15 n + 15) (g2 (256 * mk 51 n + 51) (g1 (256 * mk 85 n + 85) (256 * (x / 256) + x % 256))) = 256 * pcS n (x / 256) + pcB (x % 256) := by
      rw [g1_b hb, g2_b t.1, g3_b t.2.1 (q2_16 n _ hq), ih _ hq, t.2.2.2.1]
    rw [Nat.div_add_mod] at k
    exact k
theorem cnt_add (P : Nat → Bool) (a b : Nat) : (List.range (a + b)).countP P = (List.range a).countP P + (List.range b).countP (fun i => P (a + i)) := by
  induction b with
  | zero => rfl
  | succ b ih => rw [← Nat.add_assoc, cnt_s, cnt_s, ih]; omega
theorem pcC_n : ∀ (n x : Nat), pcC n x = (List.range (8 * n)).countP (fun i => x.testBit i) := by
  intro n
  induction n with
  | zero => intro x; rfl
  | succ n ih =>
    intro x
    show pcC n (x / 256) + pcB (x % 256) = _
    rw [show 8 * (n + 1) = 8 + 8 * n by omega, cnt_add, ih, Nat.add_comm]
    congr 1
    · unfold pcB
      refine List.countP_congr (fun i hi => ?_)
      have := List.mem_range.mp hi
      rw [show (256 : Nat) = 2 ^ 8 from rfl, Nat.testBit_mod_two_pow, decide_eq_true this, Bool.true_and]
    · refine List.countP_congr (fun i _ => ?_)
      rw [show (256 : Nat) = 2 ^ 8 from rfl, Nat.testBit_div_two_pow, Nat.add_comm]
theorem pcB_8 (b : Nat) : pcB b ≤ 8 := by
  unfold pcB
  have := List.countP_le_length (p := fun i => b.testBit i) (l := List.range 8)
  rwa [List.length_range] at this
end
section
/-! Long.bitCount counts the bits: the end -/
def uN6 (x : Int64) : Nat := x.toBitVec.toNat
theorem uN6_lt (x : Int64) : uN6 x < 2 ^ 64 := x.toBitVec.isLt
theorem uN6_and (a b : Int64) : uN6 (a &&& b) = (uN6 a &&& uN6 b) := by
  unfold uN6
  rw [Int64.toBitVec_and, BitVec.toNat_and]
theorem uN6_add {a b : Int64} (h : uN6 a + uN6 b < 2 ^ 64) : uN6 (a + b) = uN6 a + uN6 b := by
  show (a.toBitVec + b.toBitVec).toNat = _
  rw [BitVec.toNat_add]
  exact Nat.mod_eq_of_lt h
theorem uN6_sub {a b : Int64} (h : uN6 b ≤ uN6 a) : uN6 (a - b) = uN6 a - uN6 b := by
  have l := uN6_lt a
  have l2 := uN6_lt b
  show (a.toBitVec - b.toBitVec).toNat = _
  rw [BitVec.toNat_sub]
  show (2 ^ 64 - uN6 b + uN6 a) % 2 ^ 64 = _
  rw [show 2 ^ 64 - uN6 b + uN6 a = (uN6 a - uN6 b) + 2 ^ 64 by omega, Nat.add_mod_right, Nat.mod_eq_of_lt (by omega)]
theorem uN6_shr {v : Int64} {s : Int32} {k : Nat} (hs : ((s.toInt64.toUInt64 &&& Int64.toUInt64 63).toBitVec % 64).toNat = k) : uN6 ((v.toUInt64 >>> (s.toInt64.toUInt64 &&& Int64.toUInt64 63)).toInt64) = uN6 v / 2 ^ k := by
  unfold uN6
  rw [UInt64.toBitVec_toInt64, UInt64.toBitVec_shiftRight, BitVec.ushiftRight_eq', hs, BitVec.toNat_ushiftRight, Nat.shiftRight_eq_div_pow]
  rfl
def bc1 (v : Int64) : Int64 := v - (((v.toUInt64 >>> ((1 : Int32).toInt64.toUInt64 &&& Int64.toUInt64 63)).toInt64) &&& (6148914691236517205 : Int64))
def bc2 (v : Int64) : Int64 := (v &&& (3689348814741910323 : Int64)) + (((v.toUInt64 >>> ((2 : Int32).toInt64.toUInt64 &&& Int64.toUInt64 63)).toInt64) &&& (3689348814741910323 : Int64))
def bc3 (v : Int64) : Int64 := (v + ((v.toUInt64 >>> ((4 : Int32).toInt64.toUInt64 &&& Int64.toUInt64 63)).toInt64)) &&& (1085102592571150095 : Int64)
def bcs (s : Int32) (v : Int64) : Int64 := v + ((v.toUInt64 >>> (s.toInt64.toUInt64 &&& Int64.toUInt64 63)).toInt64)
theorem bc_eq (v : Int64) : f_JLong_bitCount v = some ((bcs 32 (bcs 16 (bcs 8 (bc3 (bc2 (bc1 v)))))).toInt32 &&& (127 : Int32)) := by
  unfold f_JLong_bitCount
  generalize h1 : v - (((v.toUInt64 >>> ((1 : Int32).toInt64.toUInt64 &&& Int64.toUInt64 63)).toInt64) &&& (6148914691236517205 : Int64)) = a
  rw [show bc1 v = a from h1]
  generalize h2 : (a &&& (3689348814741910323 : Int64)) + (((a.toUInt64 >>> ((2 : Int32).toInt64.toUInt64 &&& Int64.toUInt64 63)).toInt64) &&& (3689348814741910323 : Int64)) = b
  rw [show bc2 a = b from h2]
  generalize h3 : (b + ((b.toUInt64 >>> ((4 : Int32).toInt64.toUInt64 &&& Int64.toUInt64 63)).toInt64)) &&& (1085102592571150095 : Int64) = c
  rw [show bc3 b = c from h3]
  unfold bcs
  rfl
theorem low7 (y : Int64) : (y.toInt32 &&& (127 : Int32)).toInt = ((uN6 y % 128 : Nat) : Int) := by
  have e : (y.toInt32 &&& (127 : Int32)).toBitVec.toNat = uN6 y % 128 := by
    rw [Int32.toBitVec_and, BitVec.toNat_and, Int64.toBitVec_toInt32, BitVec.signExtend_eq_setWidth_of_le _ (by decide), BitVec.toNat_setWidth]
    show (uN6 y % 2 ^ 32 &&& 127) = _
    have k : (uN6 y % 2 ^ 32) &&& (2 ^ 7 - 1) = uN6 y % 2 ^ 32 % 2 ^ 7 := Nat.and_two_pow_sub_one_eq_mod _ _
    rw [show (2 : Nat) ^ 7 - 1 = 127 from rfl] at k
    rw [k]
    omega
  show (y.toInt32 &&& (127 : Int32)).toBitVec.toInt = _
  rw [BitVec.toInt_eq_toNat_of_lt (by rw [e]; omega), e]
theorem bc1_n (v : Int64) : uN6 (bc1 v) = g1 (mk 85 8) (uN6 v) := by
  unfold bc1 g1
  have m : uN6 (6148914691236517205 : Int64) = mk 85 8 := by decide +kernel
  have s := uN6_shr (v := v) (s := 1) (k := 1) (by decide +kernel)
  have le : (uN6 v / 2 ^ 1 &&& mk 85 8) ≤ uN6 v / 2 ^ 1 := Nat.and_le_left
  have le2 : uN6 v / 2 ^ 1 ≤ uN6 v := Nat.div_le_self _ _
  rw [uN6_sub (by rw [uN6_and, s, m]; exact Nat.le_trans le le2), uN6_and, s, m]
theorem bc2_n (v : Int64) : uN6 (bc2 v) = g2 (mk 51 8) (uN6 v) ∧ g2 (mk 51 8) (uN6 v) ≤ 7378697629483820646 := by
  unfold bc2 g2
  have m : uN6 (3689348814741910323 : Int64) = 3689348814741910323 := by decide +kernel
  have mv : mk 51 8 = 3689348814741910323 := by decide +kernel
  have s := uN6_shr (v := v) (s := 2) (k := 2) (by decide +kernel)
  have l1 : (uN6 v &&& 3689348814741910323) ≤ 3689348814741910323 := Nat.and_le_right
  have l2 : (uN6 v / 4 &&& 3689348814741910323) ≤ 3689348814741910323 := Nat.and_le_right
  rw [show (2 : Nat) ^ 2 = 4 from rfl] at s
  rw [mv]
  refine ⟨?_, Nat.add_le_add l1 l2⟩
  have a1 : uN6 (v &&& (3689348814741910323 : Int64)) = (uN6 v &&& 3689348814741910323) := by rw [uN6_and, m]
  have a2 : uN6 (((v.toUInt64 >>> ((2 : Int32).toInt64.toUInt64 &&& Int64.toUInt64 63)).toInt64) &&& (3689348814741910323 : Int64)) = (uN6 v / 4 &&& 3689348814741910323) := by rw [uN6_and, s, m]
  rw [uN6_add (by rw [a1, a2]; exact Nat.lt_of_le_of_lt (Nat.add_le_add l1 l2) (by decide +kernel)), a1, a2]
theorem bc3_n (v : Int64) (h : uN6 v ≤ 7378697629483820646) : uN6 (bc3 v) = g3 (mk 15 8) (uN6 v) := by
  unfold bc3 g3
  have m : uN6 (1085102592571150095 : Int64) = mk 15 8 := by decide +kernel
  have s := uN6_shr (v := v) (s := 4) (k := 4) (by decide +kernel)
  rw [show (2 : Nat) ^ 4 = 16 from rfl] at s
  have le2 : uN6 v / 16 ≤ uN6 v := Nat.div_le_self _ _
  rw [uN6_and, uN6_add (by rw [s]; exact Nat.lt_of_le_of_lt (Nat.add_le_add h (Nat.le_trans le2 h)) (by decide +kernel)), s, m]
theorem bcs_n {v : Int64} {s : Int32} {k : Nat} (hs : ((s.toInt64.toUInt64 &&& Int64.toUInt64 63).toBitVec % 64).toNat = k) (h : uN6 v + uN6 v / 2 ^ k < 2 ^ 64) : uN6 (bcs s v) = uN6 v + uN6 v / 2 ^ k := by
  unfold bcs
  have e := uN6_shr (v := v) hs
  rw [uN6_add (by rw [e]; exact h), e]
theorem dvq {k T r : Nat} (h : r < k) : (k * T + r) / k = T := by
  rw [Nat.mul_add_div (by omega), Nat.div_eq_of_lt h, Nat.add_zero]
theorem fo1 {a n7 S u : Nat} (ha : a ≤ 8) (eS : S = 256 * n7 + a) (hu : u = S + S / 256) : u = 257 * n7 + a := by
  have q : S / 256 = n7 := by
    rw [eS]
    exact dvq (by omega)
  rw [q] at hu
  omega
theorem fo2 {a b c n5 n6 n7 u : Nat} (ha : a ≤ 8) (hb : b ≤ 8) (hc : c ≤ 8) (e7 : n7 = 256 * n6 + b) (e6 : n6 = 256 * n5 + c) (hu : u = 257 * n7 + a) : u / 65536 = n6 + n5 := by
  have e : u = 65536 * (n6 + n5) + (256 * c + 257 * b + a) := by omega
  rw [e]
  exact dvq (by omega)
theorem fo3 {a b c n5 n6 n7 w : Nat} (e7 : n7 = 256 * n6 + b) (e6 : n6 = 256 * n5 + c) (hw : w = 257 * n7 + a + (n6 + n5)) : w = 16843009 * n5 + (65793 * c + 257 * b + a) := by omega
theorem fo4 {d e f g h n2 n3 n4 n5 : Nat} (e5 : n5 = 256 * n4 + d) (e4 : n4 = 256 * n3 + e) (e3 : n3 = 256 * n2 + f) (e2 : n2 = 256 * h + g) : 16843009 * n5 = 4294967296 * (n4 + n3 + n2 + h) + (16777216 * g + 16842752 * f + 16843008 * e + 16843009 * d) := by omega
theorem fo5 {a b c d e f g h r : Nat} (ha : a ≤ 8) (hb : b ≤ 8) (hc : c ≤ 8) (hd : d ≤ 8) (he : e ≤ 8) (hf : f ≤ 8) (hg : g ≤ 8) (hr : r = (16777216 * g + 16842752 * f + 16843008 * e + 16843009 * d) + (65793 * c + 257 * b + a)) : r < 4294967296 := by
  have a1 : 16777216 * g ≤ 134217728 := by omega
  have a2 : 16842752 * f ≤ 134742016 := by omega
  have a3 : 16843008 * e ≤ 134744064 := by omega
  have a4 : 16843009 * d ≤ 134744072 := by omega
  have a5 : 65793 * c ≤ 526344 := by omega
  have a6 : 257 * b ≤ 2056 := by omega
  generalize 16777216 * g = x1 at hr a1
  generalize 16842752 * f = x2 at hr a2
  generalize 16843008 * e = x3 at hr a3
  generalize 16843009 * d = x4 at hr a4
  generalize 65793 * c = x5 at hr a5
  generalize 257 * b = x6 at hr a6
  clear hb hc hd he hf hg
  omega
theorem fo6 {a b c d e f g h n2 n3 n4 n5 n6 n7 z : Nat} (e7 : n7 = 256 * n6 + b) (e6 : n6 = 256 * n5 + c) (e5 : n5 = 256 * n4 + d) (e4 : n4 = 256 * n3 + e) (e3 : n3 = 256 * n2 + f) (e2 : n2 = 256 * h + g) (hz : z = 257 * n7 + a + (n6 + n5) + (n4 + n3 + n2 + h)) : z = 128 * (2 * (n7 + n6 + n5 + n4 + n3 + n2 + h)) + (a + b + c + d + e + f + g + h) := by
  have : z = 256 * n7 + n7 + a + n6 + n5 + n4 + n3 + n2 + h := by clear e7 e6 e5 e4 e3 e2; omega
  rw [this]
  clear this hz
  have x7 : 256 * n6 = n7 - b ∧ b ≤ n7 := by clear e6 e5 e4 e3 e2; omega
  have x6 : 256 * n5 = n6 - c ∧ c ≤ n6 := by clear e7 e5 e4 e3 e2 x7; omega
  have x5 : 256 * n4 = n5 - d ∧ d ≤ n5 := by clear e7 e6 e4 e3 e2 x7 x6; omega
  have x4 : 256 * n3 = n4 - e ∧ e ≤ n4 := by clear e7 e6 e5 e3 e2 x7 x6 x5; omega
  have x3 : 256 * n2 = n3 - f ∧ f ≤ n3 := by clear e7 e6 e5 e4 e2 x7 x6 x5 x4; omega
  have x2 : 256 * h = n2 - g ∧ g ≤ n2 := by clear e7 e6 e5 e4 e3 x7 x6 x5 x4 x3; omega
  clear e7 e6 e5 e4 e3 e2
  omega
theorem fold8 {S a b c d e f g h n2 n3 n4 n5 n6 n7 u w z : Nat} (ha : a ≤ 8) (hb : b ≤ 8) (hc : c ≤ 8) (hd : d ≤ 8) (he : e ≤ 8) (hf : f ≤ 8) (hg : g ≤ 8) (hh : h ≤ 8) (e2 : n2 = 256 * h + g) (e3 : n3 = 256 * n2 + f) (e4 : n4 = 256 * n3 + e) (e5 : n5 = 256 * n4 + d) (e6 : n6 = 256 * n5 + c) (e7 : n7 = 256 * n6 + b) (hS : S = 256 * n7 + a) (hu : u = S + S / 256) (hw : w = u + u / 65536) (hz : z = w + w / 4294967296) : z % 128 = a + b + c + d + e + f + g + h := by
  have u1 := fo1 ha hS hu
  rw [fo2 ha hb hc e7 e6 u1, u1] at hw
  have w1 := fo3 e7 e6 hw
  rw [fo4 e5 e4 e3 e2, Nat.add_assoc] at w1
  have q : w / 4294967296 = n4 + n3 + n2 + h := by
    rw [w1]
    exact dvq (fo5 ha hb hc hd he hf hg rfl (h := h))
  rw [q, hw] at hz
  rw [fo6 e7 e6 e5 e4 e3 e2 hz, Nat.mul_add_mod]
  refine Nat.mod_eq_of_lt ?_
  clear e2 e3 e4 e5 e6 e7 hS hu hw hz u1 w1 q
  omega
theorem mk_1 {N a B : Nat} (ha : a ≤ 8) (hN : N ≤ B) : 256 * N + a ≤ 256 * B + 8 := Nat.add_le_add (Nat.mul_le_mul_left 256 hN) ha
theorem mk_le {S : Nat} {a b c d e f g h : Nat} (ha : a ≤ 8) (hb : b ≤ 8) (hc : c ≤ 8) (hd : d ≤ 8) (he : e ≤ 8) (hf : f ≤ 8) (hg : g ≤ 8) (hh : h ≤ 8) (hS : S = 256 * (256 * (256 * (256 * (256 * (256 * (256 * h + g) + f) + e) + d) + c) + b) + a) : S ≤ 578721382704613384 := by
  rw [hS]
  exact mk_1 ha (mk_1 hb (mk_1 hc (mk_1 hd (mk_1 he (mk_1 hf (mk_1 hg hh))))))
theorem pc_8 (x : Nat) : ∃ a b c d e f g h : Nat, a ≤ 8 ∧ b ≤ 8 ∧ c ≤ 8 ∧ d ≤ 8 ∧ e ≤ 8 ∧ f ≤ 8 ∧ g ≤ 8 ∧ h ≤ 8 ∧ pcS 8 x = 256 * (256 * (256 * (256 * (256 * (256 * (256 * h + g) + f) + e) + d) + c) + b) + a ∧ pcC 8 x = a + b + c + d + e + f + g + h := by
  refine ⟨pcB (x % 256), pcB (x / 256 % 256), pcB (x / 256 / 256 % 256), pcB (x / 256 / 256 / 256 % 256), pcB (x / 256 / 256 / 256 / 256 % 256), pcB (x / 256 / 256 / 256 / 256 / 256 % 256), pcB (x / 256 / 256 / 256 / 256 / 256 / 256 % 256), pcB (x / 256 / 256 / 256 / 256 / 256 / 256 / 256 % 256), pcB_8 _, pcB_8 _, pcB_8 _, pcB_8 _, pcB_8 _, pcB_8 _, pcB_8 _, pcB_8 _, ?_, ?_⟩
  · rw [pcS_s, pcS_s, pcS_s, pcS_s, pcS_s, pcS_s, pcS_s, pcS_s, pcS_z, Nat.mul_zero, Nat.zero_add]
  · rw [pcC_s, pcC_s, pcC_s, pcC_s, pcC_s, pcC_s, pcC_s, pcC_s, pcC_z]
    omega
/-- Long.bitCount -/
theorem bitc {v : Int64} {x : Int32} (e : f_JLong_bitCount v = some x) : x.toInt = (((List.range 64).countP (fun d => bl v d) : Nat) : Int) := by
  rw [bc_eq] at e
  obtain rfl := Option.some.inj e
  rw [low7]
  have lt := uN6_lt v
  have n2 := bc2_n (bc1 v)
  have n3 := bc3_n (bc2 (bc1 v)) (by rw [n2.1]; exact n2.2)
  rw [n2.1, bc1_n, pc_n 8 (uN6 v) (by rw [show (256 : Nat) ^ 8 = 2 ^ 64 by decide +kernel]; exact lt)] at n3
  have c : pcC 8 (uN6 v) = (List.range 64).countP (fun d => bl v d) := pcC_n 8 (uN6 v)
  obtain ⟨b1, b2, b3, b4, b5, b6, b7, b8, h1, h2, h3, h4, h5, h6, h7, h8, hS, hC⟩ := pc_8 (uN6 v)
  have L := mk_le h1 h2 h3 h4 h5 h6 h7 h8 hS
  generalize bc3 (bc2 (bc1 v)) = y at n3 ⊢
  rw [← n3] at hS L
  have p64 : (2 : Nat) ^ 64 = 18446744073709551616 := by decide +kernel
  have e1 := bcs_n (v := y) (s := 8) (k := 8) (by decide +kernel) (by rw [p64, show (2 : Nat) ^ 8 = 256 from rfl]; omega)
  rw [show (2 : Nat) ^ 8 = 256 from rfl] at e1
  have e2 := bcs_n (v := bcs 8 y) (s := 16) (k := 16) (by decide +kernel) (by rw [p64, show (2 : Nat) ^ 16 = 65536 by decide +kernel]; omega)
  rw [show (2 : Nat) ^ 16 = 65536 by decide +kernel] at e2
  have e3 := bcs_n (v := bcs 16 (bcs 8 y)) (s := 32) (k := 32) (by decide +kernel) (by rw [p64, show (2 : Nat) ^ 32 = 4294967296 by decide +kernel]; omega)
  rw [show (2 : Nat) ^ 32 = 4294967296 by decide +kernel] at e3
  have F := fold8 h1 h2 h3 h4 h5 h6 h7 h8 rfl rfl rfl rfl rfl rfl hS e1 e2 e3
  rw [F, ← c, hC]
end
section
/-! sets of cells as two numbers; reach -/
theorem bl_18 : ∀ d : Fin 64, bl (262143 : Int64) d.val = decide (d.val < 18) := by decide +kernel
theorem t32_b {y : Int64} {j : Nat} (hj : j < 32) : bt y.toInt32 j = bl y j := by
  unfold bt bl
  rw [Int64.toBitVec_toInt32, BitVec.getLsbD_signExtend, decide_eq_true hj, if_pos (by omega), Bool.true_and]
theorem set_a {y : Int64} (j : Nat) : bt (y &&& (262143 : Int64)).toInt32 j = (decide (j < 18) && bl y j) := by
  by_cases h : j < 32
  · rw [t32_b h, bl_and, bl_18 ⟨j, by omega⟩, Bool.and_comm]
  · rw [bt_hi (by omega), decide_eq_false (by omega), Bool.false_and]
theorem set_b {y : Int64} (hy : ∀ c, bl y c = true → c < 36) (j : Nat) : bt (y >>> ((18 : Int32).toInt64 &&& 63)).toInt32 j = (decide (j < 18) && bl y (18 + j)) := by
  have k18 : (18 : Int32).toInt = ((18 : Nat) : Int) := rfl
  by_cases h : j < 32
  · rw [t32_b h, bl_sr k18 (by omega) (by omega)]
    by_cases g : j < 18
    · rw [decide_eq_true g, Bool.true_and]
    · rw [decide_eq_false g, Bool.false_and]
      cases hb : bl y (18 + j) with
      | false => rfl
      | true => have := hy _ hb; omega
  · rw [bt_hi (by omega), decide_eq_false (by omega), Bool.false_and]
/-- two numbers that say of which cells P holds -/
def LW (P : Nat → Bool) (q : Nat) (a b : Int32) : Prop := (∀ j, bt a j = (decide (j < 18) && decide (j < q) && P j)) ∧ (∀ j, bt b j = (decide (j < 18) && decide (18 + j < q) && P (18 + j)))
theorem LW_set {P : Nat → Bool} {y : Int64} {a b : Int32} (hy : ∀ c, bl y c = true ↔ (c < 36 ∧ P c = true)) (h : LW P 36 a b) : (y &&& (262143 : Int64)).toInt32 = a ∧ (y >>> ((18 : Int32).toInt64 &&& 63)).toInt32 = b := by
  have e : ∀ c, c < 36 → bl y c = P c := fun c hc => by
    cases hp : P c with
    | true => exact (hy c).mpr ⟨hc, hp⟩
    | false =>
      cases hb : bl y c with
      | false => rfl
      | true => have := ((hy c).mp hb).2; rw [hp] at this; cases this
  constructor
  · refine bt_ext (fun j _ => ?_)
    rw [set_a, h.1]
    by_cases g : j < 18
    · rw [e j (by omega), decide_eq_true g, decide_eq_true (show j < 36 by omega)]; rfl
    · rw [decide_eq_false g]; rfl
  · refine bt_ext (fun j _ => ?_)
    rw [set_b (fun c hc => ((hy c).mp hc).1), h.2]
    by_cases g : j < 18
    · rw [e (18 + j) (by omega), decide_eq_true g, decide_eq_true (show 18 + j < 36 by omega)]; rfl
    · rw [decide_eq_false g]; rfl
theorem LW_0 {P : Nat → Bool} : LW P 0 (0 : Int32) (0 : Int32) := ⟨fun j => by rw [bt_0, decide_eq_false (show ¬ j < 0 by omega), Bool.and_false, Bool.false_and], fun j => by rw [bt_0, decide_eq_false (show ¬ 18 + j < 0 by omega), Bool.and_false, Bool.false_and]⟩
theorem LW_n {P : Nat → Bool} {q : Nat} {a b : Int32} (h : LW P q a b) (hp : P q = false) : LW P (q + 1) a b := by
  have key : ∀ j, (decide (j < q) && P j) = (decide (j < q + 1) && P j) := fun j => by
    by_cases g : j = q
    · subst g; rw [hp, Bool.and_false, Bool.and_false]
    · by_cases k : j < q
      · rw [decide_eq_true k, decide_eq_true (show j < q + 1 by omega)]
      · rw [decide_eq_false k, decide_eq_false (show ¬ j < q + 1 by omega)]
  exact ⟨fun j => by rw [h.1, Bool.and_assoc, Bool.and_assoc, key], fun j => by rw [h.2, Bool.and_assoc, Bool.and_assoc, key]⟩
theorem LW_a {P : Nat → Bool} {q : Nat} {a b v : Int32} (h : LW P q a b) (hp : P q = true) (q18 : q < 18) (hv : v.toInt = (q : Int)) : LW P (q + 1) (a ||| ((1 : Int32) <<< (v &&& 31))) b := by
  refine ⟨fun j => ?_, fun j => ?_⟩
  · rw [bt_b1 a hv (by omega), h.1]
    by_cases g : j = q
    · subst g; rw [hp, decide_eq_true q18, decide_eq_true (show j < j + 1 by omega), decide_eq_true (rfl : j = j)]; simp
    · rw [decide_eq_false g, Bool.or_false]
      by_cases k : j < q
      · rw [decide_eq_true k, decide_eq_true (show j < q + 1 by omega)]
      · rw [decide_eq_false k, decide_eq_false (show ¬ j < q + 1 by omega)]
  · rw [h.2, decide_eq_false (show ¬ 18 + j < q by omega), decide_eq_false (show ¬ 18 + j < q + 1 by omega)]
theorem LW_b {P : Nat → Bool} {q : Nat} {a b v : Int32} (h : LW P q a b) (hp : P q = true) (q18 : 18 ≤ q) (q36 : q < 36) (hv : v.toInt = ((q - 18 : Nat) : Int)) : LW P (q + 1) a (b ||| ((1 : Int32) <<< (v &&& 31))) := by
  refine ⟨fun j => ?_, fun j => ?_⟩
  · rw [h.1]
    by_cases g : j < 18
    · rw [decide_eq_true g, decide_eq_true (show j < q by omega), decide_eq_true (show j < q + 1 by omega)]
    · rw [decide_eq_false g, Bool.false_and, Bool.false_and, Bool.false_and, Bool.false_and]
  · rw [bt_b1 b hv (by omega), h.2]
    by_cases g : 18 + j = q
    · have : j = q - 18 := by omega
      rw [g, hp, decide_eq_true this, decide_eq_true (show j < 18 by omega), decide_eq_true (show q < q + 1 by omega)]; simp
    · rw [decide_eq_false (show ¬ j = q - 18 by omega), Bool.or_false]
      by_cases k : 18 + j < q
      · rw [decide_eq_true k, decide_eq_true (show 18 + j < q + 1 by omega)]
      · rw [decide_eq_false k, decide_eq_false (show ¬ 18 + j < q + 1 by omega)]
/-- c / 18 and c % 18 -/
theorem lw_ix {v : Int32} {q : Nat} (hv : v.toInt = (q : Int)) (q36 : q < 36) : (q < 18 → (v / (18 : Int32)).toNatClampNeg = 0 ∧ (v - v / (18 : Int32) * (18 : Int32)).toInt = (q : Int)) ∧ (18 ≤ q → (v / (18 : Int32)).toNatClampNeg = 1 ∧ (v - v / (18 : Int32) * (18 : Int32)).toInt = ((q - 18 : Nat) : Int)) := by
  have k18 : (18 : Int32).toInt = 18 := rfl
  have d := div_ti hv k18 (by omega) (by omega)
  constructor
  · intro h
    have d0 : (v / (18 : Int32)).toInt = ((0 : Nat) : Int) := by rw [d]; omega
    refine ⟨q_nat d0, ?_⟩
    rw [sub_ti hv (mul_ti d0 k18 (by omega) (by omega)) (by omega) (by omega)]; omega
  · intro h
    have d0 : (v / (18 : Int32)).toInt = ((1 : Nat) : Int) := by rw [d]; omega
    refine ⟨q_nat d0, ?_⟩
    rw [sub_ti hv (mul_ti d0 k18 (by omega) (by omega)) (by omega) (by omega)]; omega
def farB (N : Mem) (l c : Nat) : Bool := decide ((N.1 177 (36 * l + c)).toInt < 1000000)
theorem low_r {v1 : Int32} {l : Nat} {N x : Mem} (h1 : v1.toInt = (l : Int)) (l2 : l < 2) (h0 : N.1 178 0 = 0 ∧ N.1 178 1 = 0) (e : iter (lb_Mod_putCells_16 v1) FU ((0 : Int32), N) = some x) : LW (farB N l) 36 (x.1 178 0) (x.1 178 1) ∧ (∀ kx i, kx ≠ 178 → x.1 kx i = N.1 kx i) ∧ x.2 = N.2 := by
  have k36 : (36 : Int32).toInt = 36 := rfl
  have km : (1000000 : Int32).toInt = 1000000 := rfl
  refine it_r (I := fun s : Int32 × Mem => ∃ q : Nat, q ≤ 36 ∧ s.1.toInt = (q : Int) ∧ LW (farB N l) q (s.2.1 178 0) (s.2.1 178 1) ∧ (∀ kx i, kx ≠ 178 → s.2.1 kx i = N.1 kx i) ∧ s.2.2 = N.2) (Q := fun x : Mem => LW (farB N l) 36 (x.1 178 0) (x.1 178 1) ∧ (∀ kx i, kx ≠ 178 → x.1 kx i = N.1 kx i) ∧ x.2 = N.2) ?_ e ⟨0, by omega, rfl, by rw [h0.1, h0.2]; exact LW_0, fun _ _ _ => rfl, rfl⟩
  rintro ⟨i, T⟩ r ⟨q, q36, hq, h, hf, h2⟩ e
  dsimp only at hq h hf h2
  unfold lb_Mod_putCells_16 at e
  dsimp only at e
  rcases io e with ⟨g, e⟩ | ⟨g, e⟩
  · have := q_le g
    obtain rfl := Option.some.inj e
    have : q = 36 := by omega
    subst this
    exact ⟨h, hf, h2⟩
  have g1 := q_ng g
  have i1 : (i + (1 : Int32)).toInt = ((q + 1 : Nat) : Int) := add_ti hq o1 (by omega) (by omega)
  obtain ⟨x3, e3, e⟩ := bo e
  obtain ⟨_, e⟩ := io_n e
  have p3 := place_c h1 hq l2 (by omega) e3
  rw [q_nat p3, hf 177 _ (by omega)] at e
  rcases io e with ⟨g, e⟩ | ⟨g, e⟩
  · have gg := q_le g
    obtain rfl := Option.some.inj e
    exact ⟨q + 1, by omega, i1, LW_n h (decide_eq_false (by omega)), hf, h2⟩
  have gg := q_ng g
  have pq : farB N l q = true := decide_eq_true (by omega)
  obtain ⟨_, e⟩ := io_n e
  obtain ⟨_, e⟩ := io_n e
  obtain ⟨M4, m4, e⟩ := mo e
  obtain rfl := Option.some.inj e
  obtain ⟨ia, ib⟩ := lw_ix hq (show q < 36 by omega)
  refine ⟨q + 1, by omega, i1, ?_, fun kx j hk => by rw [m4, si_ne (by omega)]; exact hf kx j hk, by rw [m4, si_2]; exact h2⟩
  rcases Nat.lt_or_ge q 18 with c | c
  · obtain ⟨i0, iv⟩ := ia c
    rw [i0] at m4
    rw [m4, si_eq, si_ne (by omega)]
    exact LW_a h pq c iv
  · obtain ⟨i0, iv⟩ := ib c
    rw [i0] at m4
    rw [m4, si_eq, si_ne (by omega)]
    exact LW_b h pq c (by omega) iv
/-- a set is told: the class's two numbers and the reference's -/
theorem sets_2 {X x R S r : Mem} {k : Nat} {y : Int64} {P : Nat → Bool} (hy : ∀ c, bl y c = true ↔ (c < 36 ∧ P c = true)) (ex : f_Top_noteSet y X = some x) (h : LW P 36 (R.1 178 0) (R.1 178 1)) (h1 : f_Mod_put (R.1 178 0) R = some S) (h2 : f_Mod_put (S.1 178 1) S = some r) : (RRn k X R → k ≤ 8 → RRn (k + 2) x r) ∧ (∀ kx i, kx ≠ 161 → ¬ (kx = 0 ∧ i = 15) → x.1 kx i = X.1 kx i) ∧ x.2 = X.2 ∧ (∀ kx i, kx ≠ 168 → ¬ (kx = 162 ∧ i = 12) → r.1 kx i = R.1 kx i) := by
  obtain ⟨a, b⟩ := LW_set hy h
  unfold f_Top_noteSet at ex
  obtain ⟨x1, e1, ex⟩ := bo ex
  obtain ⟨x2, e2, ex⟩ := bo ex
  obtain rfl := Option.some.inj ex
  have p1 := put_i h1
  have p2 := put_i h2
  have n1 := note_i e1
  have n2 := note_i e2
  refine ⟨fun rr k8 => ?_, fun kx i u w => by rw [n2.1 kx i u w]; exact n1.1 kx i u w, by rw [n2.2, n1.2], fun kx i u w => by rw [p2 kx i u w]; exact p1 kx i u w⟩
  exact RR_n (RR_n rr (by omega) a e1 h1) (by omega) (by rw [b, p1 178 1 (by omega) (by omega)]) e2 h2
theorem putC_r {v1 : Int32} {l : Nat} {N r : Mem} (h1 : v1.toInt = (l : Int)) (l2 : l < 2) (e : f_Mod_putCells v1 N = some r) : ∃ T S : Mem, LW (farB N l) 36 (T.1 178 0) (T.1 178 1) ∧ (∀ kx i, kx ≠ 178 → T.1 kx i = N.1 kx i) ∧ T.2 = N.2 ∧ f_Mod_put (T.1 178 0) T = some S ∧ f_Mod_put (S.1 178 1) S = some r := by
  unfold f_Mod_putCells at e
  rw [show (0 : Int32).toNatClampNeg = 0 from rfl, show (1 : Int32).toNatClampNeg = 1 from rfl] at e
  obtain ⟨M1, m1, e⟩ := mo e
  obtain ⟨M2, m2, e⟩ := mo e
  obtain ⟨x7, e7, e⟩ := bo e
  obtain ⟨x8, e8, e⟩ := bo e
  obtain ⟨x9, e9, e⟩ := bo e
  obtain rfl := Option.some.inj e
  have f2 : ∀ kx i, kx ≠ 178 → M2.1 kx i = N.1 kx i := fun kx i h => by rw [m2, si_ne (by omega), m1, si_ne (by omega)]
  obtain ⟨a, b, c⟩ := low_r h1 l2 ⟨by rw [m2, si_ne (by omega), m1, si_eq], by rw [m2, si_eq]⟩ e7
  have fb : farB M2 l = farB N l := by funext j; unfold farB; rw [f2 177 _ (by omega)]
  rw [fb] at a
  exact ⟨x7, x8, a, fun kx i h => by rw [b kx i h]; exact f2 kx i h, by rw [c, m2, si_2, m1, si_2], e8, e9⟩
theorem reached_i {v1 : Int32} {l : Nat} {N : Mem} {x : Int32} (h1 : v1.toInt = (l : Int)) (l2 : l < 2) (e : f_Mod_reached v1 N = some x) : x.toInt = (((List.range 36).countP (farB N l) : Nat) : Int) := by
  have k36 : (36 : Int32).toInt = 36 := rfl
  have km : (1000000 : Int32).toInt = 1000000 := rfl
  unfold f_Mod_reached at e
  obtain ⟨x4, e4, e⟩ := bo e
  obtain rfl := Option.some.inj e
  refine it_r (I := fun s : Int32 × Int32 => ∃ k : Nat, k ≤ 36 ∧ s.2.toInt = (k : Int) ∧ s.1.toInt = (((List.range k).countP (farB N l) : Nat) : Int)) (Q := fun x : Int32 => x.toInt = (((List.range 36).countP (farB N l) : Nat) : Int)) ?_ e4 ⟨0, by omega, rfl, rfl⟩
  rintro ⟨cn, i⟩ r ⟨k, k36', hk, h⟩ e
  dsimp only at hk h
  unfold lb_Mod_reached_4 at e
  dsimp only at e
  rcases io e with ⟨g, e⟩ | ⟨g, e⟩
  · have := q_le g
    obtain rfl := Option.some.inj e
    have : k = 36 := by omega
    subst this
    exact h
  have g1 := q_ng g
  have i1 : (i + (1 : Int32)).toInt = ((k + 1 : Nat) : Int) := add_ti hk o1 (by omega) (by omega)
  have le := cnt_le (farB N l) k
  obtain ⟨x1, e1, e⟩ := bo e
  obtain ⟨_, e⟩ := io_n e
  rw [q_nat (place_c h1 hk l2 (by omega) e1)] at e
  rcases io e with ⟨g, e⟩ | ⟨g, e⟩
  · have gg := q_le g
    obtain rfl := Option.some.inj e
    have n : farB N l k = false := decide_eq_false (by omega)
    refine ⟨k + 1, by omega, i1, ?_⟩
    rw [cnt_s, n, if_neg (by decide)]
    show (cn + (0 : Int32)).toInt = _
    rw [add_ti h o0 (by omega) (by omega)]; omega
  · have gg := q_ng g
    obtain rfl := Option.some.inj e
    have n : farB N l k = true := decide_eq_true (by omega)
    refine ⟨k + 1, by omega, i1, ?_⟩
    rw [cnt_s, n, if_pos rfl]
    show (cn + (1 : Int32)).toInt = _
    rw [add_ti h o1 (by omega) (by omega)]; omega
theorem cnt_64 {P Q : Nat → Bool} (h : ∀ c, c < 64 → (P c = true ↔ (c < 36 ∧ Q c = true))) : (List.range 64).countP P = (List.range 36).countP Q := by
  have e : ∀ c, c < 36 → P c = Q c := fun c hc => by
    cases hq : Q c with
    | true => exact (h c (by omega)).mpr ⟨hc, hq⟩
    | false =>
      cases hp : P c with
      | false => rfl
      | true => have := ((h c (by omega)).mp hp).2; rw [hq] at this; cases this
  rw [show 64 = 36 + 28 by rfl, cnt_add]
  have z : (List.range 28).countP (fun i => P (36 + i)) = 0 := by
    rw [List.countP_eq_zero]
    intro i hi
    have := List.mem_range.mp hi
    intro w
    have := ((h (36 + i) (by omega)).mp w).1
    omega
  rw [z, Nat.add_zero]
  refine List.countP_congr (fun c hc => ?_)
  rw [e c (List.mem_range.mp hc)]
theorem reach_q {X R : Mem} {n : Nat} {v1 v2 : Int32} {x r : Int32 × Mem} (hJ : J X) (za : ZA X R n) (ex : f_Top_reach v1 v2 X = some x) (er : f_Mod_reach v1 v2 R = some r) : x.1 = r.1 ∧ (RR X R → RR x.2 r.2) := by
  have z0 := o0
  have z1 := o1
  unfold f_Mod_reach at er
  obtain ⟨M1, m1, er⟩ := mo er
  obtain ⟨zaM, fqM⟩ := ZA_M1 za m1
  obtain ⟨n8, jM, ⟨zg, zc, zl⟩, zs, zv, zw⟩ := zaM.1
  have wh := awh jM
  unfold f_Top_reach at ex
  obtain ⟨y2, ey2, er⟩ := bo er
  have hin := some_of (sp_in v1 0 1) ey2
  rw [o0, o1] at hin
  have out : y2 = 0 → some ((-1 : Int32), X) = some x → x.1 = r.1 ∧ (RR X R → RR x.2 r.2) := by
    intro a ex
    rw [a, if_pos rfl] at er
    obtain rfl := Option.some.inj ex
    obtain rfl := Option.some.inj er
    exact ⟨rfl, FQ2_RR fqM⟩
  rcases io ex with ⟨g, ex⟩ | ⟨g, ex⟩
  · have g := q_lt g
    rcases hin with ⟨a, b⟩ | ⟨a, b⟩
    · omega
    exact out a ex
  have g1 := q_nl g
  rcases io ex with ⟨g, ex⟩ | ⟨g, ex⟩
  · have g := q_lt g
    rcases hin with ⟨a, b⟩ | ⟨a, b⟩
    · omega
    exact out a ex
  have g2 := q_nl g
  rcases hin with ⟨a, _⟩ | ⟨_, b⟩
  rotate_left
  · exact absurd ⟨by omega, by omega⟩ b
  rw [a, if_neg (by decide)] at er
  obtain ⟨l, hl⟩ := ti_ofn (v := v1) (by omega)
  have l2 : l < 2 := by omega
  obtain ⟨x1, ex1, ex⟩ := bo ex
  obtain ⟨y3, ey3, er⟩ := bo er
  have hx := has_j zg jM ex1
  have hy := some_of (sp_isCell jM v2) ey3
  rcases hx with ⟨a, b1, b2⟩ | ⟨a, b⟩
  rotate_left
  · rcases hy with ⟨c, d⟩ | ⟨c, _⟩
    · exact absurd ⟨d.1, d.2.2⟩ b
    rw [a, if_pos rfl] at ex
    rw [c, if_pos rfl] at er
    obtain rfl := Option.some.inj ex
    obtain rfl := Option.some.inj er
    exact ⟨rfl, FQ2_RR fqM⟩
  rcases hy with ⟨c, _⟩ | ⟨_, d⟩
  rotate_left
  · exact absurd ⟨b1, b2⟩ d
  rw [a, if_neg (by decide)] at ex
  rw [c, if_neg (by decide)] at er
  obtain ⟨f, hf⟩ := ti_ofn b1
  obtain ⟨x2, ex2, ex⟩ := bo ex
  obtain ⟨y4, ey4, er⟩ := bo er
  have ho := holdsC zg jM ex2
  have hr := some_of (fs_isOf jM v1 v2) ey4
  rcases ho with ⟨a, _, _, on⟩ | ⟨a, nn⟩
  rotate_left
  · rcases hr with ⟨c, on⟩ | ⟨c, _⟩
    · exact absurd ⟨by omega, by omega, on⟩ nn
    rw [a, if_pos rfl] at ex
    rw [c, if_pos rfl] at er
    obtain rfl := Option.some.inj ex
    obtain rfl := Option.some.inj er
    exact ⟨rfl, FQ2_RR fqM⟩
  rcases hr with ⟨c, _⟩ | ⟨_, nn⟩
  rotate_left
  · exact absurd on nn
  rw [a, if_neg (by decide)] at ex
  rw [c, if_neg (by decide)] at er
  rw [hl, hf] at on
  obtain ⟨y, ey, ex⟩ := bo ex
  obtain ⟨X4, e4, ex⟩ := bo ex
  obtain ⟨X5, e5, ex⟩ := bo ex
  obtain ⟨x6, e6, ex⟩ := bo ex
  obtain rfl := Option.some.inj ex
  obtain ⟨p5, ep5, er⟩ := bo er
  obtain ⟨R6, er6, er⟩ := bo er
  obtain ⟨M7, m7, er⟩ := mo er
  obtain ⟨R8, er8, er⟩ := bo er
  obtain ⟨x9, er9, er⟩ := bo er
  obtain rfl := Option.some.inj er
  obtain ⟨F1, F2, F3⟩ := flood_2 hJ jM zv zw hl l2 hf (by omega) on (place_c hl hf l2 (by omega) ep5) ey er6
  have f7 : ∀ kx i, ¬ (kx = 162 ∧ i = 12) → M7.1 kx i = R6.1 kx i := fun kx i h => by rw [m7, si_ne h]
  obtain ⟨T, S, t1, t2, _, t4, t5⟩ := putC_r hl l2 er8
  have fb7 : farB M7 l = farB R6 l := by funext j; unfold farB; rw [f7 177 _ (by omega)]
  have hyb : ∀ c, bl y c = true ↔ (c < 36 ∧ farB M7 l c = true) := fun c => by
    rw [fb7, F1 c]
    unfold farB
    rw [decide_eq_true_eq]
  obtain ⟨s1, s2, _, s4⟩ := sets_2 (k := 0) hyb e5 t1 t4 t5
  have R0 := RR_0 e4 m7
  refine ⟨?_, fun _ => RRn_r (k := 2) (by omega) (s1 ⟨R0.1, ?_, fun i hi => by omega⟩ (by omega))⟩
  · have B := bitc e6
    have C := reached_i hl l2 er9
    have fb8 : farB R8 l = farB M7 l := by funext j; unfold farB; rw [s4 177 _ (by omega) (by omega), t2 177 _ (by omega)]
    rw [fb8] at C
    refine Int32.toInt_inj.mp ?_
    show x6.toInt = x9.toInt
    rw [B, C, cnt_64 (fun c _ => hyb c)]
  · rw [t2 162 12 (by omega)]; exact R0.2.1
end
