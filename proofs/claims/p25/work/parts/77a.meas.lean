/-! steps counted from a cell: the class's measure -/
theorem lc_0 {x : Int64} : lg_cmp x (0 : Int64) = 0 ↔ x = 0 := by
  unfold lg_cmp
  constructor
  · intro h
    by_cases c : x > 0
    · rw [if_pos c] at h; exact absurd h (by decide)
    · rw [if_neg c] at h
      by_cases e : x = 0
      · exact e
      · rw [if_neg e] at h; exact absurd h (by decide)
  · rintro rfl
    decide
theorem bl_0i {x : Int64} (h : ∀ d, bl x d = false) : x = 0 := bl_ext (fun d _ => by rw [h d, bl_0])
theorem bl_not {x : Int64} {d : Nat} (hd : d < 64) : bl (x ^^^ (-1 : Int64)) d = !bl x d := by
  have m1 : ∀ d : Fin 64, bl (-1) d.val = true := by decide +kernel
  rw [bl_xor, m1 ⟨d, hd⟩]
  cases bl x d <;> rfl
theorem cnt_lt {P Q : Nat → Bool} {n c : Nat} (hc : c < n) (h : ∀ i, i < n → P i = true → Q i = true) (hp : P c = false) (hq : Q c = true) : (List.range n).countP P < (List.range n).countP Q := by
  have mono : ∀ m, m ≤ n → (List.range m).countP P ≤ (List.range m).countP Q := by
    intro m
    induction m with
    | zero => intro _; exact Nat.le_refl _
    | succ m ih =>
      intro hm
      rw [cnt_s, cnt_s]
      have := ih (by omega)
      have k := h m (by omega)
      by_cases g : P m = true
      · rw [if_pos g, if_pos (k g)]; omega
      · rw [if_neg g]; split <;> omega
  have key : ∀ m, m ≤ n → c < m → (List.range m).countP P < (List.range m).countP Q := by
    intro m
    induction m with
    | zero => intro _ h; omega
    | succ m ih =>
      intro hm hcm
      rw [cnt_s, cnt_s]
      rcases Nat.lt_or_ge c m with g | g
      · have := ih (by omega) g
        have k := h m (by omega)
        by_cases g : P m = true
        · rw [if_pos g, if_pos (k g)]; omega
        · rw [if_neg g]; split <;> omega
      · have : c = m := by omega
        subst this
        have := mono c (by omega)
        rw [if_neg (by rw [hp]; decide), if_pos hq]; omega
  exact key n (Nat.le_refl _) hc
theorem cnt_le (P : Nat → Bool) (n : Nat) : (List.range n).countP P ≤ n := by
  have := List.countP_le_length (p := P) (l := List.range n)
  rwa [List.length_range] at this
theorem cnt_all {P : Nat → Bool} {n : Nat} (h : n ≤ (List.range n).countP P) : ∀ c, c < n → P c = true := by
  intro c hc
  have e : (List.range n).countP P = (List.range n).length := by rw [List.length_range]; exact Nat.le_antisymm (cnt_le P n) h
  exact List.countP_eq_length.mp e c (List.mem_range.mpr hc)
section MEAS
variable {v0 l : Nat} {v1 : Int32} {M : Mem}
theorem around_i (hv : isN v0) (h1 : v1.toInt = (l : Int)) (l2 : l < 2) {set y : Int64} (e : f_Nets_around v0 v1 set M = some y) : ∀ d, bl y d = true ↔ ∃ c, c < 36 ∧ bl set c = true ∧ bl (M.2.1 (v0 + 2) (l * 36 + c)) d = true := by
  have k36 : (36 : Int32).toInt = 36 := rfl
  unfold f_Nets_around at e
  obtain ⟨_, e⟩ := io_n e
  obtain ⟨x3, e3, e⟩ := bo e
  obtain rfl := Option.some.inj e
  refine it_r (I := fun s : Int64 × Int32 => ∃ k : Nat, k ≤ 36 ∧ s.2.toInt = (k : Int) ∧ ∀ d, bl s.1 d = true ↔ ∃ c, c < k ∧ bl set c = true ∧ bl (M.2.1 (v0 + 2) (l * 36 + c)) d = true) (Q := fun y : Int64 => ∀ d, bl y d = true ↔ ∃ c, c < 36 ∧ bl set c = true ∧ bl (M.2.1 (v0 + 2) (l * 36 + c)) d = true) ?_ e3 ⟨0, by omega, rfl, fun d => ?_⟩
  · rintro ⟨acc, i⟩ r ⟨k, k36', hk, hd⟩ e
    dsimp only at hk hd
    unfold lb_Nets_around_6 at e
    dsimp only at e
    rcases io e with ⟨g, e⟩ | ⟨g, e⟩
    · have := q_le g
      obtain rfl := Option.some.inj e
      have : k = 36 := by omega
      subst this
      exact hd
    have g1 := q_ng g
    have i1 : (i + (1 : Int32)).toInt = ((k + 1 : Nat) : Int) := add_ti hk o1 (by omega) (by omega)
    rcases io e with ⟨g, e⟩ | ⟨g, e⟩
    · have gb := (bl_cmp hk (by omega)).mp g
      obtain rfl := Option.some.inj e
      refine ⟨k + 1, by omega, i1, fun d => ?_⟩
      dsimp only
      rw [hd]
      constructor
      · rintro ⟨c, h1, h2⟩; exact ⟨c, by omega, h2⟩
      · rintro ⟨c, h1, h2, h3⟩
        refine ⟨c, ?_, h2, h3⟩
        rcases Nat.lt_or_ge c k with q | q
        · exact q
        · have : c = k := by omega
          subst this
          rw [gb] at h2; cases h2
    · have gb : bl set k = true := by
        cases hb : bl set k with
        | true => rfl
        | false => exact absurd ((bl_cmp hk (by omega)).mpr hb) g
      obtain ⟨_, e⟩ := io_n e
      obtain rfl := Option.some.inj e
      have i2 : (v1 * (36 : Int32) + i).toInt = ((l * 36 + k : Nat) : Int) := by rw [add_ti (mul_ti h1 k36 (by omega) (by omega)) hk (by omega) (by omega)]; omega
      refine ⟨k + 1, by omega, i1, fun d => ?_⟩
      dsimp only
      rw [bl_or, Bool.or_eq_true, hd, (isN_r hv).2.1, q_nat i2]
      constructor
      · rintro (⟨c, h1, h2⟩ | h)
        · exact ⟨c, by omega, h2⟩
        · exact ⟨k, by omega, gb, h⟩
      · rintro ⟨c, h1, h2, h3⟩
        rcases Nat.lt_or_ge c k with q | q
        · exact .inl ⟨c, q, h2, h3⟩
        · have : c = k := by omega
          subst this
          exact .inr h3
  · dsimp only
    rw [bl_0]
    constructor
    · intro h; cases h
    · rintro ⟨c, h, _⟩; omega
theorem fill_i {k : Nat} {v8 : Int32} {v4 v6 : Int64} {x : Mem} (e : iter (lb_Nets_measure_51 v0 v1 k v4 v6 v8) FU ((0 : Int32), M) = some x) : (∀ c, c < 36 → x.1 k c = if bl v6 c = true then v8 else M.1 k c) ∧ (∀ kx i, kx ≠ k → x.1 kx i = M.1 kx i) ∧ x.2 = M.2 := by
  have k36 : (36 : Int32).toInt = 36 := rfl
  refine it_r (I := fun s : Int32 × Mem => ∃ q : Nat, q ≤ 36 ∧ s.1.toInt = (q : Int) ∧ (∀ c, c < 36 → s.2.1 k c = if c < q ∧ bl v6 c = true then v8 else M.1 k c) ∧ (∀ kx i, kx ≠ k → s.2.1 kx i = M.1 kx i) ∧ s.2.2 = M.2) (Q := fun x : Mem => (∀ c, c < 36 → x.1 k c = if bl v6 c = true then v8 else M.1 k c) ∧ (∀ kx i, kx ≠ k → x.1 kx i = M.1 kx i) ∧ x.2 = M.2) ?_ e ⟨0, by omega, rfl, fun c _ => by rw [if_neg (by omega)], fun _ _ _ => rfl, rfl⟩
  rintro ⟨i, N⟩ r ⟨q, q36, hq, hd, hf, h2⟩ e
  dsimp only at hq hd hf h2
  unfold lb_Nets_measure_51 at e
  dsimp only at e
  rcases io e with ⟨g, e⟩ | ⟨g, e⟩
  · have := q_le g
    obtain rfl := Option.some.inj e
    refine ⟨fun c hc => ?_, hf, h2⟩
    rw [hd c hc]
    by_cases b : bl v6 c = true
    · rw [if_pos b, if_pos ⟨by omega, b⟩]
    · rw [if_neg b, if_neg (fun h => b h.2)]
  have g1 := q_ng g
  have i1 : (i + (1 : Int32)).toInt = ((q + 1 : Nat) : Int) := add_ti hq o1 (by omega) (by omega)
  rcases io e with ⟨g, e⟩ | ⟨g, e⟩
  · have gb := (bl_cmp hq (by omega)).mp g
    obtain rfl := Option.some.inj e
    refine ⟨q + 1, by omega, i1, fun c hc => ?_, hf, h2⟩
    dsimp only
    rw [hd c hc]
    by_cases b : bl v6 c = true
    · by_cases b2 : c < q
      · rw [if_pos ⟨b2, b⟩, if_pos ⟨by omega, b⟩]
      · rw [if_neg (fun h => b2 h.1), if_neg (fun h => by
          have : c = q := by omega
          subst this
          rw [gb] at b; cases b)]
    · rw [if_neg (fun h => b h.2), if_neg (fun h => b h.2)]
  · have gb : bl v6 q = true := by
      cases hb : bl v6 q with
      | true => rfl
      | false => exact absurd ((bl_cmp hq (by omega)).mpr hb) g
    obtain ⟨_, e⟩ := io_n e
    obtain ⟨M4, m4, e⟩ := mo e
    obtain rfl := Option.some.inj e
    rw [q_nat hq] at m4
    refine ⟨q + 1, by omega, i1, fun c hc => ?_, fun kx i h => ?_, ?_⟩
    · dsimp only
      rw [m4]
      by_cases b : c = q
      · subst b; rw [si_eq, if_pos ⟨by omega, gb⟩]
      · rw [si_ne (by omega), hd c hc]
        by_cases b3 : bl v6 c = true
        · by_cases b2 : c < q
          · rw [if_pos ⟨b2, b3⟩, if_pos ⟨by omega, b3⟩]
          · rw [if_neg (fun h => b2 h.1), if_neg (fun h => by omega)]
        · rw [if_neg (fun h => b3 h.2), if_neg (fun h => b3 h.2)]
    · dsimp only
      rw [m4, si_ne (by omega)]; exact hf kx i h
    · dsimp only
      rw [m4, si_2]; exact h2
theorem far_i {k : Nat} {v2 : Int32} {x : Mem} (e : iter (lb_Nets_measure_3 v0 v1 v2 k) FU ((0 : Int32), M) = some x) : (∀ c, c < 36 → x.1 k c = 1000000) ∧ (∀ kx i, kx ≠ k → x.1 kx i = M.1 kx i) ∧ x.2 = M.2 := by
  have k36 : (36 : Int32).toInt = 36 := rfl
  refine it_r (I := fun s : Int32 × Mem => ∃ q : Nat, q ≤ 36 ∧ s.1.toInt = (q : Int) ∧ (∀ c, c < q → s.2.1 k c = 1000000) ∧ (∀ kx i, kx ≠ k → s.2.1 kx i = M.1 kx i) ∧ s.2.2 = M.2) (Q := fun x : Mem => (∀ c, c < 36 → x.1 k c = 1000000) ∧ (∀ kx i, kx ≠ k → x.1 kx i = M.1 kx i) ∧ x.2 = M.2) ?_ e ⟨0, by omega, rfl, fun c h => by omega, fun _ _ _ => rfl, rfl⟩
  rintro ⟨i, N⟩ r ⟨q, q36, hq, hd, hf, h2⟩ e
  dsimp only at hq hd hf h2
  unfold lb_Nets_measure_3 at e
  dsimp only at e
  rcases io e with ⟨g, e⟩ | ⟨g, e⟩
  · have := q_le g
    obtain rfl := Option.some.inj e
    exact ⟨fun c hc => hd c (by omega), hf, h2⟩
  have g1 := q_ng g
  obtain ⟨_, e⟩ := io_n e
  obtain ⟨M1, m1, e⟩ := mo e
  obtain rfl := Option.some.inj e
  rw [q_nat hq] at m1
  refine ⟨q + 1, by omega, add_ti hq o1 (by omega) (by omega), fun c hc => ?_, fun kx i h => ?_, ?_⟩
  · dsimp only
    rw [m1]
    by_cases b : c = q
    · subst b; rw [si_eq]
    · rw [si_ne (by omega)]; exact hd c (by omega)
  · dsimp only
    rw [m1, si_ne (by omega)]; exact hf kx i h
  · dsimp only
    rw [m1, si_2]; exact h2
/-- what it is to be measured from f -/
def MSR (adj : Nat → Nat → Prop) (f : Nat) (D : Nat → Int) : Prop := D f = 0 ∧ (∀ c, c < 36 → 0 ≤ D c ∧ (D c < 36 ∨ D c = 1000000)) ∧ (∀ c, c < 36 → D c < 1000000 → c = f ∨ ∃ c', c' < 36 ∧ D c' + 1 = D c ∧ adj c' c) ∧ (∀ c, c < 36 → D c < 1000000 → ∀ d, adj c d → d < 36 ∧ D d ≤ D c + 1)
def MI (adj : Nat → Nat → Prop) (f k : Nat) (M0_ : Mem) (s : Int64 × Int64 × Int32 × Mem) : Prop := ∃ t : Nat, t ≤ 36 ∧ s.2.2.1.toInt = (t : Int) ∧ (∀ c, bl s.2.1 c = true → bl s.1 c = true) ∧ (∀ c, bl s.1 c = true → c < 36) ∧ (∀ c, c < 36 → (bl s.1 c = true ∧ bl s.2.1 c = false → 0 ≤ (s.2.2.2.1 k c).toInt ∧ (s.2.2.2.1 k c).toInt < (t : Int)) ∧ (¬ (bl s.1 c = true ∧ bl s.2.1 c = false) → (s.2.2.2.1 k c).toInt = 1000000)) ∧ (∀ c, bl s.1 c = true → bl s.2.1 c = false → c = f ∨ ∃ c', bl s.1 c' = true ∧ bl s.2.1 c' = false ∧ (s.2.2.2.1 k c').toInt + 1 = (s.2.2.2.1 k c).toInt ∧ adj c' c) ∧ (∀ c, bl s.2.1 c = true → (c = f ∧ t = 0) ∨ ∃ c', bl s.1 c' = true ∧ bl s.2.1 c' = false ∧ (s.2.2.2.1 k c').toInt + 1 = (t : Int) ∧ adj c' c) ∧ (∀ c, bl s.1 c = true → bl s.2.1 c = false → ∀ d, adj c d → (bl s.1 d = true ∧ bl s.2.1 d = false ∧ (s.2.2.2.1 k d).toInt ≤ (s.2.2.2.1 k c).toInt + 1) ∨ (bl s.2.1 d = true ∧ (s.2.2.2.1 k c).toInt + 1 = (t : Int))) ∧ (bl s.1 f = true ∧ ((t = 0 ∧ bl s.2.1 f = true) ∨ (0 < t ∧ bl s.2.1 f = false ∧ (s.2.2.2.1 k f).toInt = 0))) ∧ t ≤ (List.range 36).countP (fun c => bl s.1 c && !bl s.2.1 c) ∧ (∀ kx i, kx ≠ k → s.2.2.2.1 kx i = M0_.1 kx i) ∧ s.2.2.2.2 = M0_.2
theorem meas_i {f k : Nat} {v2 : Int32} {x : Mem} (hv : isN v0) (h1 : v1.toInt = (l : Int)) (l2 : l < 2) (h2 : v2.toInt = (f : Int)) (f36 : f < 36) (adjb : ∀ c d, c < 36 → bl (M.2.1 (v0 + 2) (l * 36 + c)) d = true → d < 36) (e : f_Nets_measure v0 v1 v2 k M = some x) : MSR (fun c d => bl (M.2.1 (v0 + 2) (l * 36 + c)) d = true) f (fun c => (x.1 k c).toInt) ∧ (∀ kx i, kx ≠ k → x.1 kx i = M.1 kx i) ∧ x.2 = M.2 := by
  have k36 : (36 : Int32).toInt = 36 := rfl
  have kF : (1000000 : Int32).toInt = 1000000 := rfl
  unfold f_Nets_measure at e
  obtain ⟨_, e⟩ := io_n e
  obtain ⟨_, e⟩ := io_n e
  obtain ⟨x3, e3, e⟩ := bo e
  obtain ⟨x11, e11, e⟩ := bo e
  obtain rfl := Option.some.inj e
  obtain ⟨a1, a2, a3⟩ := far_i e3
  have one : ∀ d, bl ((1 : Int64) <<< (v2.toInt64 &&& 63)) d = decide (d = f) := bl_one h2 (by omega)
  refine it_r (I := MI (fun c d => bl (M.2.1 (v0 + 2) (l * 36 + c)) d = true) f k M) (Q := fun x : Mem => MSR (fun c d => bl (M.2.1 (v0 + 2) (l * 36 + c)) d = true) f (fun c => (x.1 k c).toInt) ∧ (∀ kx i, kx ≠ k → x.1 kx i = M.1 kx i) ∧ x.2 = M.2) ?_ e11 ⟨0, by omega, rfl, fun c h => h, fun c h => ?_, fun c hc => ⟨fun h => ?_, fun _ => ?_⟩, fun c h1 h2 => ?_, fun c h => ?_, fun c h1 h2 => ?_, ⟨?_, .inl ⟨rfl, ?_⟩⟩, by omega, a2, a3⟩
  rotate_left
  · dsimp only at h; rw [one] at h; have := of_decide_eq_true h; omega
  · dsimp only at h; rw [h.1] at h; cases h.2
  · show (x3.1 k c).toInt = _; rw [a1 c hc]; rfl
  · dsimp only at h1 h2; rw [h1] at h2; cases h2
  · dsimp only at h; rw [one] at h; exact .inl ⟨of_decide_eq_true h, rfl⟩
  · dsimp only at h1 h2; rw [h1] at h2; cases h2
  · dsimp only; rw [one]; exact decide_eq_true rfl
  · dsimp only; rw [one]; exact decide_eq_true rfl
  rintro ⟨fo, fr, st, N⟩ r ⟨t, t36, ht, i1, i2, i3, i4, i5, i6, i7, i8, i9, i10⟩ e
  dsimp only at ht i1 i2 i3 i4 i5 i6 i7 i8 i9 i10
  -- the end: nobody is in front
  have fin : (∀ c, bl fr c = false) → MSR (fun c d => bl (M.2.1 (v0 + 2) (l * 36 + c)) d = true) f (fun c => (N.1 k c).toInt) ∧ (∀ kx i, kx ≠ k → N.1 kx i = M.1 kx i) ∧ N.2 = M.2 := by
    intro h0
    have D1 : ∀ c, c < 36 → (N.1 k c).toInt < 1000000 → bl fo c = true := by
      intro c hc hd
      cases hb : bl fo c with
      | true => rfl
      | false =>
        have := (i3 c hc).2 (fun h => by rw [hb] at h; cases h.1)
        omega
    refine ⟨⟨?_, fun c hc => ?_, fun c hc hd => ?_, fun c hc hd d had => ?_⟩, i9, i10⟩
    · rcases i7.2 with ⟨_, h⟩ | ⟨_, _, h⟩
      · rw [h0] at h; cases h
      · exact h
    · show 0 ≤ (N.1 k c).toInt ∧ _
      by_cases g : bl fo c = true
      · have := (i3 c hc).1 ⟨g, h0 c⟩
        exact ⟨this.1, .inl (by show (N.1 k c).toInt < 36; omega)⟩
      · have := (i3 c hc).2 (fun h => g h.1)
        exact ⟨by omega, .inr this⟩
    · rcases i4 c (D1 c hc hd) (h0 c) with h | ⟨c', h1, h2, h3, h4⟩
      · exact .inl h
      · exact .inr ⟨c', i2 c' h1, h3, h4⟩
    · rcases i6 c (D1 c hc hd) (h0 c) d had with ⟨h1, h2, h3⟩ | ⟨h, _⟩
      · exact ⟨i2 d h1, h3⟩
      · rw [h0] at h; cases h
  unfold lb_Nets_measure_34 at e
  dsimp only at e
  rcases io e with ⟨g, e⟩ | ⟨g, e⟩
  · have := q_le g
    obtain rfl := Option.some.inj e
    refine fin (fun c => ?_)
    have all := cnt_all (n := 36) (P := fun c => bl fo c && !bl fr c) (by omega)
    cases hb : bl fr c with
    | false => rfl
    | true =>
      have := all c (i2 c (i1 c hb))
      simp [hb] at this
  have g1 := q_ng g
  rcases io e with ⟨g, e⟩ | ⟨g, e⟩
  · have := lc_0.mp g
    obtain rfl := Option.some.inj e
    exact fin (fun c => by rw [this]; exact bl_0 c)
  have frn : ∃ c, bl fr c = true := by
    by_cases h : ∃ c, bl fr c = true
    · exact h
    · exact absurd (lc_0.mpr (bl_0i (fun d => by
        cases hb : bl fr d with
        | false => rfl
        | true => exact absurd ⟨d, hb⟩ h))) g
  obtain ⟨x7, e7, e⟩ := bo e
  obtain ⟨x8, e8, e⟩ := bo e
  obtain rfl := Option.some.inj e
  obtain ⟨b1, b2, b3⟩ := fill_i e7
  have ar := around_i hv h1 l2 e8
  rw [b3, i10] at ar
  -- the new front
  have nf : ∀ d, d < 64 → bl (x8 &&& (fo ^^^ (-1 : Int64))) d = (bl x8 d && !bl fo d) := fun d hd => by rw [bl_and, bl_not hd]
  have nf1 : ∀ d, bl (x8 &&& (fo ^^^ (-1 : Int64))) d = true ↔ bl x8 d = true ∧ bl fo d = false := by
    intro d
    by_cases hd : d < 64
    · rw [nf d hd]; cases bl x8 d <;> cases bl fo d <;> simp
    · rw [bl_hi (by omega)]
      constructor
      · intro h; cases h
      · rintro ⟨h, _⟩; rw [bl_hi (by omega)] at h; cases h
  have n36 : ∀ d, bl x8 d = true → d < 36 := fun d h => by
    obtain ⟨c, hc, _, h3⟩ := (ar d).mp h
    exact adjb c d hc h3
  -- found before: neither in the new front
  have old : ∀ c, bl (fo ||| (x8 &&& (fo ^^^ (-1 : Int64)))) c = true ∧ bl (x8 &&& (fo ^^^ (-1 : Int64))) c = false ↔ bl fo c = true := by
    intro c
    rw [bl_or, Bool.or_eq_true]
    constructor
    · rintro ⟨h | h, h2⟩
      · exact h
      · rw [h] at h2; cases h2
    · intro h
      refine ⟨.inl h, ?_⟩
      cases hb : bl (x8 &&& (fo ^^^ (-1 : Int64))) c with
      | false => rfl
      | true => rw [((nf1 c).mp hb).2] at h; cases h
  have D7 : ∀ c, c < 36 → (bl fr c = true → (x7.1 k c).toInt = (t : Int)) ∧ (bl fr c = false → x7.1 k c = N.1 k c) := fun c hc => ⟨fun h => by rw [b1 c hc, if_pos h]; exact ht, fun h => by rw [b1 c hc, if_neg (by rw [h]; decide)]⟩
  have c0 : ∀ c, bl fo c = true → (0 ≤ (x7.1 k c).toInt ∧ (x7.1 k c).toInt < ((t + 1 : Nat) : Int)) := by
    intro c h
    have hc := i2 c h
    cases hb : bl fr c with
    | true => rw [(D7 c hc).1 hb]; omega
    | false =>
      rw [(D7 c hc).2 hb]
      have := (i3 c hc).1 ⟨h, hb⟩
      omega
  refine ⟨t + 1, by omega, add_ti ht o1 (by omega) (by omega), fun c h => ?_, fun c h => ?_, fun c hc => ⟨fun h => c0 c ((old c).mp h), fun h => ?_⟩, fun c h1 h2 => ?_, fun c h => ?_, fun c h1 h2 d had => ?_, ⟨?_, .inr ⟨by omega, ?_, ?_⟩⟩, ?_, fun kx i h => ?_, ?_⟩
  · dsimp only at h ⊢
    rw [bl_or, h, Bool.or_true]
  · dsimp only at h
    rw [bl_or, Bool.or_eq_true] at h
    rcases h with h | h
    · exact i2 c h
    · exact n36 c ((nf1 c).mp h).1
  · dsimp only at h ⊢
    have hn : ¬ bl fo c = true := fun q => h ((old c).mpr q)
    have hfr : bl fr c = false := by
      cases hb : bl fr c with
      | false => rfl
      | true => exact absurd (i1 c hb) hn
    rw [(D7 c hc).2 hfr]
    exact (i3 c hc).2 (fun q => hn q.1)
  · dsimp only at h1 h2 ⊢
    have hfo := (old c).mp ⟨h1, h2⟩
    have hc := i2 c hfo
    cases hb : bl fr c with
    | true =>
      rcases i5 c hb with ⟨h, _⟩ | ⟨c', q1, q2, q3, q4⟩
      · exact .inl h
      · refine .inr ⟨c', ((old c').mpr q1).1, ((old c').mpr q1).2, ?_, q4⟩
        rw [(D7 c' (i2 c' q1)).2 q2, (D7 c hc).1 hb]; exact q3
    | false =>
      rcases i4 c hfo hb with h | ⟨c', q1, q2, q3, q4⟩
      · exact .inl h
      · refine .inr ⟨c', ((old c').mpr q1).1, ((old c').mpr q1).2, ?_, q4⟩
        rw [(D7 c' (i2 c' q1)).2 q2, (D7 c hc).2 hb]; exact q3
  · dsimp only at h ⊢
    obtain ⟨q1, q2⟩ := (nf1 c).mp h
    obtain ⟨c', hc', q3, q4⟩ := (ar c).mp q1
    refine .inr ⟨c', ((old c').mpr (i1 c' q3)).1, ((old c').mpr (i1 c' q3)).2, ?_, q4⟩
    rw [(D7 c' hc').1 q3]; omega
  · dsimp only at h1 h2 had ⊢
    have hfo := (old c).mp ⟨h1, h2⟩
    have hc := i2 c hfo
    have d36 := adjb c d hc had
    cases hb : bl fr c with
    | true =>
      have hx8 : bl x8 d = true := (ar d).mpr ⟨c, hc, hb, had⟩
      cases hd : bl fo d with
      | true =>
        refine .inl ⟨((old d).mpr hd).1, ((old d).mpr hd).2, ?_⟩
        have := c0 d hd
        rw [(D7 c hc).1 hb]; omega
      | false =>
        refine .inr ⟨(nf1 d).mpr ⟨hx8, hd⟩, ?_⟩
        rw [(D7 c hc).1 hb]; omega
    | false =>
      rcases i6 c hfo hb d had with ⟨q1, q2, q3⟩ | ⟨q1, q2⟩
      · refine .inl ⟨((old d).mpr q1).1, ((old d).mpr q1).2, ?_⟩
        rw [(D7 d d36).2 q2, (D7 c hc).2 hb]; exact q3
      · refine .inl ⟨((old d).mpr (i1 d q1)).1, ((old d).mpr (i1 d q1)).2, ?_⟩
        rw [(D7 d d36).1 q1, (D7 c hc).2 hb]; omega
  · exact ((old f).mpr i7.1).1
  · exact ((old f).mpr i7.1).2
  · dsimp only
    rcases i7.2 with ⟨h0, hb⟩ | ⟨_, hb, hd⟩
    · rw [(D7 f f36).1 hb]; omega
    · rw [(D7 f f36).2 hb]; exact hd
  · dsimp only
    obtain ⟨c, hc⟩ := frn
    have lt := cnt_lt (n := 36) (c := c) (P := fun c => bl fo c && !bl fr c) (Q := fun c => bl (fo ||| (x8 &&& (fo ^^^ (-1 : Int64)))) c && !bl (x8 &&& (fo ^^^ (-1 : Int64))) c) (i2 c (i1 c hc)) (fun i _ h => by
      simp only [Bool.and_eq_true, Bool.not_eq_true'] at h ⊢
      exact (old i).mpr h.1) (by simp [hc]) (by
      simp only [Bool.and_eq_true, Bool.not_eq_true']
      exact (old c).mpr (i1 c hc))
    omega
  · dsimp only
    rw [b2 kx i h]; exact i9 kx i h
  · dsimp only
    rw [b3]; exact i10
end MEAS
