/-! the folk is read: both loops -/
theorem it_2e {S T X Y : Type} {f : S → Option (S ⊕ X)} {g : T → Option (T ⊕ Y)} {I : S → T → Prop} {Q : X → Y → Prop} (hs : ∀ s t a b, I s t → f s = some a → g t = some b → (∃ s' t', a = .inl s' ∧ b = .inl t' ∧ I s' t') ∨ (∃ x t', a = .inr x ∧ b = .inl t' ∧ ∀ c, g t' = some c → ∃ y, c = .inr y ∧ Q x y)) {n m : Nat} {s : S} {t : T} {x : X} {y : Y} (e : iter f n s = some x) (d : iter g m t = some y) (h : I s t) : Q x y := by
  induction n generalizing s t m with
  | zero => cases e
  | succ n ih =>
    cases m with
    | zero => cases d
    | succ m =>
      simp only [iter] at e d
      cases hf : f s with
      | none => rw [hf] at e; cases e
      | some a =>
        cases hg : g t with
        | none => rw [hg] at d; cases d
        | some b =>
          rw [hf] at e
          rw [hg] at d
          rcases hs s t a b h hf hg with ⟨s', t', rfl, rfl, k⟩ | ⟨x', t', rfl, rfl, k⟩
          · exact ih e d k
          · obtain rfl := Option.some.inj e
            cases m with
            | zero => cases d
            | succ m =>
              simp only [iter] at d
              cases hg2 : g t' with
              | none => rw [hg2] at d; cases d
              | some c =>
                rw [hg2] at d
                obtain ⟨y', rfl, q⟩ := k c hg2
                obtain rfl := Option.some.inj d
                exact q
/-- what was read of j lines, behind n0 people -/
def FD (R : Mem) (n0 j : Nat) (X S : Mem) : Prop := (∀ i, i < j → X.1 9 (n0 + i) = S.1 170 (12 * i + 1) ∧ X.1 8 (n0 + i) = S.1 170 (12 * i + 2) ∧ 1 ≤ (S.1 170 (12 * i + 2)).toInt ∧ (S.1 170 (12 * i + 2)).toInt ≤ 9 ∧ (0 ≤ (S.1 170 (12 * i)).toInt ∧ (S.1 170 (12 * i)).toInt ≤ 1) ∧ onN R (S.1 170 (12 * i)).toInt (S.1 170 (12 * i + 1)).toInt ∧ bt (X.1 6 6) (n0 + i) = decide ((S.1 170 (12 * i)).toInt = 1) ∧ ∀ s : Nat, (s : Int) < (S.1 170 (12 * i + 2)).toInt → X.1 7 (9 * (n0 + i) + s) = S.1 170 (12 * i + 3 + s) ∧ 0 ≤ (S.1 170 (12 * i + 3 + s)).toInt ∧ (S.1 170 (12 * i + 3 + s)).toInt ≤ 4) ∧ ∀ d, ¬ (n0 ≤ d ∧ d < n0 + j) → bt (X.1 6 6) d = false
def FoA (X0 R0 : Mem) (n0 : Nat) (X S : Mem) : Prop := (∀ kx i, ¬ (kx = 1 ∧ i = 2) → kx ≠ 9 → ¬ (kx = 6 ∧ i = 6) → ¬ (kx = 7 ∧ 9 * n0 ≤ i) → ¬ (kx = 8 ∧ n0 ≤ i) → X.1 kx i = X0.1 kx i) ∧ X.2 = X0.2 ∧ (∀ kx i, kx ≠ 170 → ¬ (kx = 162 ∧ (i = 17 ∨ i = 18)) → S.1 kx i = R0.1 kx i) ∧ S.2 = R0.2
def FoI (t : Nat → Int) (X0 R0 : Mem) (n0 : Nat) (s u : Int32 × Int32 × Mem) : Prop := ∃ j p : Nat, n0 + j ≤ 8 ∧ p ≤ 80 ∧ s.1.toInt = (p : Int) ∧ s.2.1.toInt = (j : Int) ∧ u.1.toInt = (j : Int) ∧ ¬ u.2.1 = 0 ∧ (u.2.2.1 162 17).toInt = (p : Int) ∧ (u.2.2.1 162 18).toInt = -1 ∧ FD R0 n0 j s.2.2 u.2.2 ∧ FoA X0 R0 n0 s.2.2 u.2.2
/-- refused, or read to the end -/
def RFu (S : Mem) : Prop := (S.1 162 18).toInt ≠ -1 ∨ (0 ≤ (S.1 162 17).toInt ∧ (S.1 162 17).toInt < (S.1 162 15).toInt)
def FoQ (t : Nat → Int) (X0 R0 : Mem) (n0 : Nat) (y : (Int32 × Mem) ⊕ ((Int32 × Mem) ⊕ ((Int32 × Mem) ⊕ (Int32 × Mem)))) (z : Int32 × Mem) : Prop := match y with
  | .inl _ => False
  | .inr (.inl y) => y.1.toInt < 0 ∧ RFu z.2 ∧ FoA X0 R0 n0 y.2 z.2
  | .inr (.inr (.inl y)) => ∃ j p : Nat, n0 + j + 1 ≤ 8 ∧ y.1.toInt = (j : Int) ∧ z.1.toInt = ((j + 1 : Nat) : Int) ∧ (z.2.1 162 17).toInt = (p : Int) ∧ (z.2.1 162 18).toInt = -1 ∧ t p = -1 ∧ p ≤ 76 ∧ FD R0 n0 (j + 1) y.2 z.2 ∧ FoA X0 R0 n0 y.2 z.2
  | .inr (.inr (.inr y)) => 0 ≤ y.1.toInt ∧ RFu z.2 ∧ FoA X0 R0 n0 y.2 z.2
theorem FD_s {R X S X' S' : Mem} {t : Nat → Int} {n0 j p : Nat} (n8 : n0 + j < 8) (h : FD R n0 j X S) (fx : ∀ kx i, ¬ (kx = 1 ∧ i = 2) → kx ≠ 9 → ¬ (kx = 6 ∧ i = 6) → ¬ (kx = 7 ∧ 9 * (n0 + j) ≤ i) → ¬ (kx = 8 ∧ n0 + j ≤ i) → X'.1 kx i = X.1 kx i) (hok : LnOk t (onN R) p) (c9 : (X'.1 9 (n0 + j)).toInt = cel t p) (o9 : ∀ i, i ≠ n0 + j → X'.1 9 i = X.1 9 i) (hb : ∀ d, bt (X'.1 6 6) d = (bt (X.1 6 6) d || (decide (lvt t p = 1) && decide (d = n0 + j)))) (c8 : (X'.1 8 (n0 + j)).toInt = (rtn t 9 (rst t p) : Int)) (c7 : ∀ i, i < rtn t 9 (rst t p) → (X'.1 7 (9 * (n0 + j) + i)).toInt = stp (t (rst t p + i)) ∧ stp (t (rst t p + i)) ≠ -1) (fs : ∀ i, ¬ (12 * j ≤ i ∧ i < 12 * j + 12) → S'.1 170 i = S.1 170 i) (ld : LnD t p j S') : FD R n0 (j + 1) X' S' := by
  obtain ⟨h1, h2⟩ := h
  obtain ⟨l1, l2, l3, l4⟩ := ld
  have rl := rtn_le t 9 (rst t p)
  have rp := hok.2.2.2.2
  refine ⟨fun i hi => ?_, fun d hd => ?_⟩
  · rcases Nat.lt_or_ge i j with g | g
    · obtain ⟨a1, a2, a3, a4, a5, a6, a7, a8⟩ := h1 i g
      rw [fs (12 * i + 1) (by omega), fs (12 * i + 2) (by omega), fs (12 * i) (by omega), o9 (n0 + i) (by omega), fx 8 (n0 + i) (by omega) (by omega) (by omega) (by omega) (by omega)]
      refine ⟨a1, a2, a3, a4, a5, a6, ?_, fun s hs => ?_⟩
      · rw [hb, a7, show decide (n0 + i = n0 + j) = false from decide_eq_false (by omega)]; simp
      · rw [fs (12 * i + 3 + s) (by omega), fx 7 (9 * (n0 + i) + s) (by omega) (by omega) (by omega) (by omega) (by omega)]; exact a8 s hs
    · have : i = j := by omega
      subst this
      have lb : 0 ≤ lvt t p ∧ lvt t p ≤ 1 := by unfold lvt; split <;> omega
      refine ⟨Int32.toInt_inj.mp (c9.trans l2.symm), Int32.toInt_inj.mp (c8.trans l3.symm), by omega, by omega, by omega, by rw [l1, l2]; exact hok.2.2.1, ?_, fun s hs => ?_⟩
      · rw [hb, h2 (n0 + i) (by omega), l1, show decide (n0 + i = n0 + i) = true from decide_eq_true rfl]; simp
      · have k1 := c7 s (by omega)
        have k2 := l4 s (by omega)
        have sb := stp_b (t (rst t p + s))
        exact ⟨Int32.toInt_inj.mp (k1.1.trans k2.1.symm), by omega, by omega⟩
  · rw [hb, h2 d (by omega), show decide (d = n0 + j) = false from decide_eq_false (by omega)]; simp
theorem folk_l {X0 R0 X1 : Mem} {n0 : Nat} (zg : ZG X0 R0) (jR : J R0) (zc1 : X0.1 6 4 = R0.1 162 4) (zc2 : (R0.1 162 4).toInt = (n0 : Int)) (n8 : n0 ≤ 8) (hl : (X0.1 1 1).toInt ≤ 80) (rd : Rd (cx X0 76) R0) (a0 : (R0.1 162 17).toInt = 0) (w0 : (R0.1 162 18).toInt = -1) (len : R0.1 162 15 = X0.1 1 1) (x1 : X1 = s_i X0 6 6 (0 : Int32)) {y z} (e : iter lb_Crowd_read_19 FU ((0 : Int32), (0 : Int32), X1) = some y) (d : iter lb_Mod_folk_37 FU ((0 : Int32), (1 : Int32), R0) = some z) : FoQ (cx X0 76) X0 R0 n0 y z := by
  have k8 : (8 : Int32).toInt = 8 := rfl
  have k76 : (76 : Int32).toInt = ((76 : Nat) : Int) := rfl
  have k12 : (12 : Int32).toInt = 12 := rfl
  have k59 : (59 : Int32).toInt = 59 := rfl
  have ym := om
  have z0 := o0
  -- the reference's end
  have fin : ∀ (v : Int32) (S : Mem) c, lb_Mod_folk_37 (v, (0 : Int32), S) = some c → c = .inr (v, S) := by
    intro v S c h
    unfold lb_Mod_folk_37 at h
    dsimp only at h
    rw [if_pos rfl] at h
    exact (Option.some.inj h).symm
  refine it_2e (I := FoI (cx X0 76) X0 R0 n0) (Q := FoQ (cx X0 76) X0 R0 n0) ?_ e d ⟨0, 0, by omega, by omega, rfl, rfl, rfl, (by show ¬ (1 : Int32) = 0; decide), a0, w0, ⟨fun i hi => by omega, fun d _ => ?_⟩, fun kx i _ _ h _ _ => ?_, ?_, fun _ _ _ _ => rfl, rfl⟩
  rotate_left
  · show bt (X1.1 6 6) d = false
    rw [x1, si_eq]; exact bt_0 d
  · show X1.1 kx i = _
    rw [x1, si_ne h]
  · show X1.2 = _
    rw [x1, si_2]
  rintro ⟨sp, sl, X⟩ ⟨un, um, S⟩ a b ⟨j, p, hj8, p80, hp, hj, hn, hm, hat, hw, fd, fa⟩ ea eb
  dsimp only at hp hj hn hm hat hw fd fa
  obtain ⟨fa1, fa2, fa3, fa4⟩ := fa
  have cxe : cx X 76 = cx X0 76 := cx_c (fa1 1 1 (by omega) (by omega) (by omega) (by omega) (by omega)) (fun i => fa1 2 i (by omega) (by omega) (by omega) (by omega) (by omega)) 76
  have rdS : Rd (cx X0 76) S := Rd_f rd (by rw [fa4]) (fa3 162 15 (by omega) (by omega)) (fa3 162 16 (by omega) (by omega)) (fun i => fa3 167 i (by omega) (by omega)) (fun i => fa3 172 i (by omega) (by omega))
  unfold lb_Crowd_read_19 at ea
  dsimp only at ea
  rcases io ea with ⟨c, _⟩ | ⟨c, ea⟩
  · have := q_lt c; omega
  obtain ⟨x2, e2, ea⟩ := bo ea
  have zgX : ZG X R0 := ZG_f (fa1 3 2 (by omega) (by omega) (by omega) (by omega) (by omega)) (fa1 3 3 (by omega) (by omega) (by omega) (by omega) (by omega)) (fun i => fa1 4 i (by omega) (by omega) (by omega) (by omega) (by omega)) rfl rfl (fun _ => rfl) zg
  have x64 : X.1 6 4 = R0.1 162 4 := by rw [fa1 6 4 (by omega) (by omega) (by omega) (by omega) (by omega)]; exact zc1
  have h3 : (X.1 6 4 + sl).toInt = ((n0 + j : Nat) : Int) := by rw [x64, add_ti zc2 hj (by omega) (by omega)]; omega
  have LC := line_c zgX jR (by rw [fa1 1 1 (by omega) (by omega) (by omega) (by omega) (by omega)]; exact hl) h3 hp p80 e2
  rw [cxe] at LC
  obtain ⟨lf, lq, LC⟩ := LC
  have x11 : x2.2.1 1 1 = X0.1 1 1 := by rw [lf 1 1 (by omega) (by omega) (by omega) (by omega) (by omega)]; exact fa1 1 1 (by omega) (by omega) (by omega) (by omega) (by omega)
  have fxa : ∀ kx i, ¬ (kx = 1 ∧ i = 2) → kx ≠ 9 → ¬ (kx = 6 ∧ i = 6) → ¬ (kx = 7 ∧ 9 * n0 ≤ i) → ¬ (kx = 8 ∧ n0 ≤ i) → x2.2.1 kx i = X0.1 kx i := fun kx i h1 h2 h3 h4 h5 => by
    rw [lf kx i h1 h2 h3 (by omega) (by omega)]; exact fa1 kx i h1 h2 h3 h4 h5
  have fxq : x2.2.2 = X0.2 := by rw [lq, fa2]
  unfold lb_Mod_folk_37 at eb
  dsimp only at eb
  rw [if_neg hm] at eb
  obtain ⟨y4, ey4, eb⟩ := bo eb
  rcases fine_i ey4 with ⟨_, h⟩ | ⟨h, _⟩
  · exact absurd hw h
  rw [h, if_neg (by decide)] at eb
  have hsum : (S.1 162 4 + un).toInt = ((n0 + j : Nat) : Int) := by rw [fa3 162 4 (by omega) (by omega), add_ti zc2 hn (by omega) (by omega)]; omega
  -- the class refuses, and so does the reference
  have refuse : ∀ S5 : Mem, (S5.1 162 18).toInt ≠ -1 → (∀ kx i, kx ≠ 170 → ¬ (kx = 162 ∧ (i = 17 ∨ i = 18)) → S5.1 kx i = R0.1 kx i) → S5.2 = R0.2 → j_Mod_folk_78_37 un S5 = some b → ∃ t', b = .inl t' ∧ ∀ c, lb_Mod_folk_37 t' = some c → ∃ z, c = .inr z ∧ RFu z.2 ∧ (∀ kx i, kx ≠ 170 → ¬ (kx = 162 ∧ (i = 17 ∨ i = 18)) → z.2.1 kx i = R0.1 kx i) ∧ z.2.2 = R0.2 := by
    intro S5 w5 f5 q5 e5
    unfold j_Mod_folk_78_37 at e5
    obtain ⟨y6, ey6, e5⟩ := bo e5
    have h6 := passes_n w5 ey6
    subst h6
    obtain rfl := Option.some.inj e5
    refine ⟨_, rfl, fun c hc => ?_⟩
    have := fin _ _ _ hc
    subst this
    exact ⟨_, rfl, .inl w5, f5, q5⟩
  rcases io eb with ⟨c8, eb⟩ | ⟨c8, eb⟩
  · -- no room
    have h8 := q_eq c8
    obtain ⟨y7, ey7, eb⟩ := bo eb
    have w7 : (y7.1 162 18).toInt ≠ -1 := by
      rcases fault_i ey7 with ⟨h, _⟩ | ⟨_, h⟩
      · exact absurd hw h
      · rw [h, si_eq, hat]; omega
    have ff := fault_f ey7
    obtain ⟨t', hb, ht⟩ := refuse y7 w7 (fun kx i h1 h2 => by rw [ff.1 kx i h2]; exact fa3 kx i h1 h2) (by rw [ff.2, fa4]) eb
    rcases LC with ⟨m8, _⟩ | ⟨_, neg⟩
    · omega
    rcases io ea with ⟨g, _⟩ | ⟨g, ea⟩
    · have := q_le g; omega
    obtain rfl := Option.some.inj ea
    refine .inr ⟨_, t', rfl, hb, fun c hc => ?_⟩
    obtain ⟨z, hz, h1, h2, h3⟩ := ht c hc
    exact ⟨z, hz, neg, h1, fxa, fxq, h2, h3⟩
  have h8 := q_ne c8
  have m8 : n0 + j < 8 := by omega
  obtain ⟨y5, ey5, eb⟩ := bo eb
  have k12 : ((12 : Int32) * un).toInt = ((12 * j : Nat) : Int) := by rw [mul_ti k12 hn (by omega) (by omega)]; omega
  have LR := line_r rdS (A0 := R0) jR (fa3 162 2 (by omega) (by omega)) (fa3 162 3 (by omega) (by omega)) (fun i => fa3 164 i (by omega) (by omega)) k12 (by omega) hat p80 hw ey5
  have fo := one_f ey5
  have fs3 : ∀ kx i, kx ≠ 170 → ¬ (kx = 162 ∧ (i = 17 ∨ i = 18)) → y5.1 kx i = R0.1 kx i := fun kx i h1 h2 => by rw [fo.1 kx i h1 h2]; exact fa3 kx i h1 h2
  have fs4 : y5.2 = R0.2 := by rw [fo.2, fa4]
  rcases LC with ⟨_, ok, hx, c9, o9, hb, c8', c7⟩ | ⟨nok, neg⟩
  rotate_left
  · rcases LR with ⟨_, ok, _⟩ | ⟨wn, _⟩
    · exact absurd ⟨m8, ok⟩ nok
    obtain ⟨t', hb, ht⟩ := refuse y5 wn fs3 fs4 eb
    rcases io ea with ⟨g, _⟩ | ⟨g, ea⟩
    · have := q_le g; omega
    obtain rfl := Option.some.inj ea
    refine .inr ⟨_, t', rfl, hb, fun c hc => ?_⟩
    obtain ⟨z, hz, h1, h2, h3⟩ := ht c hc
    exact ⟨z, hz, neg, h1, fxa, fxq, h2, h3⟩
  rcases io ea with ⟨_, ea⟩ | ⟨g, _⟩
  rotate_left
  · have := q_ng g; omega
  generalize hq : rst (cx X0 76) p + rtn (cx X0 76) 9 (rst (cx X0 76) p) = q at *
  have rp := ok.2.2.2.2
  have rl := rtn_le (cx X0 76) 9 (rst (cx X0 76) p)
  have q76 : q ≤ 76 := by
    have k := (c7 (rtn (cx X0 76) 9 (rst (cx X0 76) p) - 1) (by omega)).2
    rw [show rst (cx X0 76) p + (rtn (cx X0 76) 9 (rst (cx X0 76) p) - 1) = q - 1 by omega] at k
    have k2 := stp_b (cx X0 76 (q - 1))
    have k3 : cx X0 76 (q - 1) ≠ -1 := by omega
    unfold cx at k3
    by_cases g : ((q - 1 : Nat) : Int) < (X0.1 1 1).toInt ∧ q - 1 < 76
    · omega
    · exact absurd (if_neg g) k3
  obtain ⟨x3, e3, ea⟩ := bo ea
  have h3' := at_i (K := 76) hx k76 (by rw [x11]; exact hl) e3
  have cx2 : cx x2.2 76 = cx X0 76 := cx_c x11 (fun i => fxa 2 i (by omega) (by omega) (by omega) (by omega) (by omega)) 76
  rw [cx2] at h3'
  rcases LR with ⟨w5, _, fo2, a5, ld, ns⟩ | ⟨wn, ten⟩
  rotate_left
  · -- a tenth sign
    have ten := ten ok
    have sb := stp_b (cx X0 76 q)
    obtain ⟨t', hb', ht⟩ := refuse y5 wn fs3 fs4 eb
    rcases io ea with ⟨g, _⟩ | ⟨g, ea⟩
    · have := q_eq g; omega
    rcases io ea with ⟨g2, _⟩ | ⟨g2, ea⟩
    · have := q_eq g2; omega
    obtain rfl := Option.some.inj ea
    refine .inr ⟨_, t', rfl, hb', fun c hc => ?_⟩
    obtain ⟨z, hz, h1, h2, h3⟩ := ht c hc
    exact ⟨z, hz, by show 0 ≤ x2.1.toInt; omega, h1, fxa, fxq, h2, h3⟩
  have fdn : FD R0 n0 (j + 1) x2.2 y5 := FD_s m8 fd lf ok c9 o9 hb c8' c7 (fun i hi => fo2.1 170 i (by omega) (by omega)) ld
  have rd5 : Rd (cx X0 76) y5 := Rd_f rd (by rw [fs4]) (fs3 162 15 (by omega) (by omega)) (fs3 162 16 (by omega) (by omega)) (fun i => fs3 167 i (by omega) (by omega)) (fun i => fs3 172 i (by omega) (by omega))
  unfold j_Mod_folk_78_37 at eb
  obtain ⟨y6, ey6, eb⟩ := bo eb
  obtain rfl := Option.some.inj eb
  have un1 : (un + (1 : Int32)).toInt = ((j + 1 : Nat) : Int) := add_ti hn o1 (by omega) (by omega)
  rcases passes_i rd5 a5 w5 (by omega) (by omega) ey6 with ⟨tc, ty, ta, tw⟩ | ⟨tc, ty, te⟩
  · rw [k59] at tc
    rcases io ea with ⟨g, _⟩ | ⟨g, ea⟩
    · have := q_eq g; omega
    rcases io ea with ⟨g2, ea⟩ | ⟨g2, _⟩
    rotate_left
    · have := q_ne g2; omega
    obtain rfl := Option.some.inj ea
    have pf := passes_f ey6
    refine .inl ⟨_, _, rfl, rfl, j + 1, q + 1, by omega, by omega, add_ti hx o1 (by omega) (by omega), add_ti hj o1 (by omega) (by omega), un1, ty, ta, tw, ?_, fxa, fxq, fun kx i h1 h2 => ?_, ?_⟩
    · show FD R0 n0 (j + 1) x2.2 y6.2
      have p170 : ∀ i, y6.2.1 170 i = y5.1 170 i := fun i => pf.1 170 i (by omega)
      unfold FD at fdn ⊢
      simp only [p170]
      exact fdn
    · show y6.2.1 kx i = _
      rw [pf.1 kx i h2]; exact fs3 kx i h1 h2
    · show y6.2.2 = _
      rw [pf.2, fs4]
  · rw [k59] at tc
    obtain ⟨y61, y62⟩ := y6
    dsimp only at ty te
    subst ty
    subst te
    rcases io ea with ⟨g, ea⟩ | ⟨g, ea⟩
    · have ge := q_eq g
      obtain rfl := Option.some.inj ea
      refine .inr ⟨_, _, rfl, rfl, fun c hc => ?_⟩
      have := fin _ _ _ hc
      subst this
      exact ⟨_, rfl, j, q, by omega, hj, un1, a5, w5, by omega, q76, fdn, fxa, fxq, fs3, fs4⟩
    have gn := q_ne g
    rcases io ea with ⟨g2, _⟩ | ⟨g2, ea⟩
    · have := q_eq g2; omega
    obtain rfl := Option.some.inj ea
    refine .inr ⟨_, _, rfl, rfl, fun c hc => ?_⟩
    have := fin _ _ _ hc
    subst this
    refine ⟨_, rfl, by show 0 ≤ x2.1.toInt; omega, .inr ⟨by show 0 ≤ (y62.1 162 17).toInt; omega, ?_⟩, fxa, fxq, fs3, fs4⟩
    show (y62.1 162 17).toInt < (y62.1 162 15).toInt
    rw [a5, fs3 162 15 (by omega) (by omega), len]
    have k3 : cx X0 76 q ≠ -1 := by omega
    unfold cx at k3
    by_cases g : ((q : Nat) : Int) < (X0.1 1 1).toInt ∧ q < 76
    · exact g.1
    · exact absurd (if_neg g) k3
