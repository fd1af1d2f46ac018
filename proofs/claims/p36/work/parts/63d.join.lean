section
/-! the reference follows the machine: held, thing -/
section EX
variable {t : Nat → Int} {env : Int32 → Int32} {B : Mem} {rc : Nat → Int32 → Mem → Option (Int32 × Mem)}
theorem cmp_step {S S' : MS} {v op o : Int32} {N N1 R : Mem} {a : Int32} (hrc : HI t env B rc) (hB : Rd t B) (ts : tp 2 S.2.1.2) (d4 : S.2.2.1 ≤ 4) (ha : a.toInt = (S.2.2.1 : Int)) (hc : S.2.2.2.1 S.2.2.1 = false) (h : Ok0 t env 1 S S' v N) (ht : t S'.1 = op.toInt) (hop : op = 60 ∨ op = 61 ∨ op = 62) (fx1 : Fx mEx [] B N1) (h17 : (N1.1 162 17).toInt = ((S'.1 + 1 : Nat) : Int)) (h18 : (N1.1 162 18).toInt = -1) (e : rc 1 a N1 = some (o, R)) : Fx mEx [] B R ∧ (Ok t env 0 S (jn v op o) R ∨ Ft t S R) := by
  obtain ⟨h1, h2, h3, h4, h5, h6, h7, rc1, h8, h9⟩ := h
  have hr : rk op = 2 := by rcases hop with rfl | rfl | rfl <;> decide
  have oi : op.toInt = 60 ∨ op.toInt = 61 ∨ op.toInt = 62 := by
    rcases hop with rfl | rfl | rfl
    · exact .inl rfl
    · exact .inr (.inl rfl)
    · exact .inr (.inr rfl)
  have n4 : op ≠ 40 := by rcases hop with rfl | rfl | rfl <;> decide
  have h8 : stl 2 S'.2.1.1 S'.2.1.2 = (rc1 ++ S.2.1.1, S.2.1.2) := by
    rw [← stl_stl (show 2 ≤ 3 by omega) S'.2.1.1, h8, stl_stl (show 2 ≤ 3 by omega), stl_id ts]
  have p80 := (Rd_rng hB S'.1).2.2 (by omega)
  have hc' : S'.2.2.2.1 S'.2.2.1 = false := by rw [h5, h7 _ (Nat.le_refl _) (fun h => by omega)]; exact hc
  have st := bin (t := t) (S' := S') (sg_eq ht) hr (by omega) (fun _ => hc') (by omega) (by omega) h4 h8
  rw [if_pos rfl] at st
  have pre : Pre t 1 (S'.1 + 1, (rc1 ++ S.2.1.1, op :: S.2.1.2), S'.2.2.1, up S'.2.2.2.1 S'.2.2.1 true, false) N1 a := by
    refine ⟨Rd_fx okE fx1 hB, h18, h17, rfl, ?_, ?_, ?_, fun _ => .inr (by rw [hr]; omega), fun h => by omega⟩
    · show a.toInt = (S'.2.2.1 : Int); rw [h5]; exact ha
    · show S'.2.2.1 ≤ 4; omega
    · show S'.1 + 1 ≤ 80; omega
  obtain ⟨fr, g⟩ := hrc 1 a N1 (o, R) _ (by omega) fx1 pre e
  refine ⟨fr, ?_⟩
  rcases g with ⟨S3, ⟨k1, k2, k3, k4, k5, k6, k7, rc2, k8, k9⟩, k10⟩ | g
  · have cmp3 : ∀ d, d ≤ S.2.2.1 → S3.2.2.2.1 d = up S'.2.2.2.1 S'.2.2.1 true d := fun d hd => k7 d (by show d ≤ S'.2.2.1; omega) (fun h => by omega)
    refine .inl ⟨S3, ⟨k1, k2, Rch_t h3 (Rch_s st k3), k4, k5.trans h5, k6, fun d hd h0 => ?_, -op :: (rc2 ++ rc1), bin2 hr n4 k8, fun s => ?_⟩, ⟨fun _ => k10.1 (by omega), fun _ => k10.2.1 (by omega), fun _ _ => ?_⟩⟩
    · rw [cmp3 d hd]
      have := h0 rfl
      unfold up
      rw [if_neg (by omega)]
      exact h7 d hd (fun h => by omega)
    · show opx env (-op) (rv env (rc2 ++ rc1) s) = _
      rw [rv_app, h9, k9]
      have l0 : (-op) < 0 := by rcases hop with rfl | rfl | rfl <;> decide
      have q0 : isq (- -op) = false := by rcases hop with rfl | rfl | rfl <;> decide
      have q1 : - -op = op := by rcases hop with rfl | rfl | rfl <;> decide
      have q2 : ¬ op = 256 := by rcases hop with rfl | rfl | rfl <;> decide
      unfold opx
      rw [if_pos l0, if_neg (by rw [q0]; decide), q1, if_neg q2]
      rfl
    · have : S3.2.2.1 = S.2.2.1 := k5.trans h5
      rw [this, cmp3 _ (Nat.le_refl _)]
      unfold up
      rw [if_pos h5.symm]
  · exact .inr (Ft_t (Rch_t h3 (Rch_s st Rch_r)) g)
theorem held_i (hrc : HI t env B rc) (hB : Rd t B) {S : MS} {a : Int32} {N : Mem} {r : Int32 × Mem} (fx : Fx mEx [] B N) (pre : Pre t 0 S N a) (e : fb_Mod_held rc a N = some r) : Fx mEx [] B r.2 ∧ (Ok t env 0 S r.1 r.2 ∨ Ft t S r.2) := by
  unfold fb_Mod_held at e
  obtain ⟨x1, e1, e⟩ := bo e
  obtain ⟨x2, e2, e⟩ := bo e
  obtain ⟨q1, q2, q3, q4, q5, q6, q7, q8, q9⟩ := pre
  have q8 := q8 (by omega)
  have q9 := q9 rfl
  obtain ⟨f1, g⟩ := hrc 1 a N x1 S (by omega) fx ⟨q1, q2, q3, q4, q5, q6, q7, fun h => tp_m (by omega) q8, fun h => by omega⟩ e1
  rcases g with ⟨S', h, hf⟩ | g
  · have hN := Rd_fx okE f1 hB
    have fx2 : Fx mEx [] B x2.2 := wf_Mod_passes _ _ (by decide +kernel) f1 e2
    rcases passes_i hN h.2.1 h.1 (by decide) (by decide) e2 with ⟨a1, a2, a3, a4⟩ | ⟨a1, a2, a3⟩
    · rw [if_neg a2] at e
      obtain ⟨x11, e11, e⟩ := bo e
      have C := cmp_step (o := x11.1) (R := x11.2) hrc hB q8 q6 q5 q9 h a1 (.inl rfl) fx2 a3 a4 e11
      rcases io e with ⟨c, e⟩ | ⟨c, e⟩
      · obtain rfl := Option.some.inj e
        rw [show jn x1.1 60 x11.1 = 0 by simp only [jn]; rw [if_neg (by decide), if_neg (by decide), if_neg (by decide), if_neg (by decide), if_pos (by decide), if_pos c]] at C
        exact C
      · obtain rfl := Option.some.inj e
        rw [show jn x1.1 60 x11.1 = 1 by simp only [jn]; rw [if_neg (by decide), if_neg (by decide), if_neg (by decide), if_neg (by decide), if_pos (by decide), if_neg c]] at C
        exact C
    rw [if_pos a2] at e
    obtain ⟨x3, e3, e⟩ := bo e
    rw [a3] at e3
    have fx3 : Fx mEx [] B x3.2 := wf_Mod_passes _ _ (by decide +kernel) f1 e3
    rcases passes_i hN h.2.1 h.1 (by decide) (by decide) e3 with ⟨b1, b2, b3, b4⟩ | ⟨b1, b2, b3⟩
    · rw [if_neg b2] at e
      obtain ⟨x11, e11, e⟩ := bo e
      have C := cmp_step (o := x11.1) (R := x11.2) hrc hB q8 q6 q5 q9 h b1 (.inr (.inr rfl)) fx3 b3 b4 e11
      rcases io e with ⟨c, e⟩ | ⟨c, e⟩
      · obtain rfl := Option.some.inj e
        rw [show jn x1.1 62 x11.1 = 0 by simp only [jn]; rw [if_neg (by decide), if_neg (by decide), if_neg (by decide), if_neg (by decide), if_neg (by decide), if_neg (by decide), if_pos (by decide), if_pos c]] at C
        exact C
      · obtain rfl := Option.some.inj e
        rw [show jn x1.1 62 x11.1 = 1 by simp only [jn]; rw [if_neg (by decide), if_neg (by decide), if_neg (by decide), if_neg (by decide), if_neg (by decide), if_neg (by decide), if_pos (by decide), if_neg c]] at C
        exact C
    rw [if_pos b2] at e
    obtain ⟨x4, e4, e⟩ := bo e
    rw [b3] at e4
    have fx4 : Fx mEx [] B x4.2 := wf_Mod_passes _ _ (by decide +kernel) f1 e4
    rcases passes_i hN h.2.1 h.1 (by decide) (by decide) e4 with ⟨c1, c2, c3, c4⟩ | ⟨c1, c2, c3⟩
    · rw [if_neg c2] at e
      obtain ⟨x11, e11, e⟩ := bo e
      have C := cmp_step (o := x11.1) (R := x11.2) hrc hB q8 q6 q5 q9 h c1 (.inr (.inl rfl)) fx4 c3 c4 e11
      rcases io e with ⟨c, e⟩ | ⟨c, e⟩
      · obtain rfl := Option.some.inj e
        rw [show jn x1.1 61 x11.1 = 1 by simp only [jn]; rw [if_neg (by decide), if_neg (by decide), if_neg (by decide), if_neg (by decide), if_neg (by decide), if_pos (by decide), if_pos c]] at C
        exact C
      · obtain rfl := Option.some.inj e
        rw [show jn x1.1 61 x11.1 = 0 by simp only [jn]; rw [if_neg (by decide), if_neg (by decide), if_neg (by decide), if_neg (by decide), if_neg (by decide), if_pos (by decide), if_neg c]] at C
        exact C
    rw [if_pos c2] at e
    obtain rfl := Option.some.inj e
    rw [c3]
    obtain ⟨k1, k2, k3, k4, k5, k6, k7, rc1, k8, k9⟩ := h
    refine ⟨f1, .inl ⟨S', ⟨k1, k2, k3, k4, k5, k6, fun d hd _ => k7 d hd (fun h => by omega), rc1, ?_, k9⟩, ⟨fun _ => hf.1 (by omega), fun _ => hf.2.1 (by omega), fun _ h => ?_⟩⟩⟩
    · rw [← stl_stl (show 2 ≤ 3 by omega) S'.2.1.1, k8, stl_stl (show 2 ≤ 3 by omega)]
    · exfalso
      have z1 : (60 : Int32).toInt = 60 := rfl
      have z2 : (61 : Int32).toInt = 61 := rfl
      have z3 : (62 : Int32).toInt = 62 := rfl
      omega
  · have w := Ft_w g
    obtain ⟨a1, a2⟩ := pass_b w e2
    rw [if_pos a1] at e
    obtain ⟨x3, e3, e⟩ := bo e
    rw [a2] at e3
    obtain ⟨b1, b2⟩ := pass_b w e3
    rw [if_pos b1] at e
    obtain ⟨x4, e4, e⟩ := bo e
    rw [b2] at e4
    obtain ⟨c1, c2⟩ := pass_b w e4
    rw [if_pos c1] at e
    obtain rfl := Option.some.inj e
    rw [c2]
    exact ⟨f1, .inr g⟩
/-- letters: what the reference answers is what `env` says -/
def HE (env : Int32 → Int32) (B : Mem) : Prop := ∀ (rc : Nat → Int32 → Mem → Option (Int32 × Mem)) (v : Int32) (N : Mem) (r : Int32 × Mem), isq v = true → Fx mEx [] B N → j_Mod_thing_142 rc v N = some r → r.1 = env v
theorem thing_q {rc' : Nat → Int32 → Mem → Option (Int32 × Mem)} {v : Int32} {N : Mem} {r : Int32 × Mem} (e : j_Mod_thing_142 rc' v N = some r) : r.2 = s_i N 162 17 ((N.1 162 17) + (1 : Int32)) := by
  unfold j_Mod_thing_142 at e
  obtain ⟨M5, e5, e⟩ := mo e
  rcases io e with ⟨_, e⟩ | ⟨_, e⟩
  · obtain rfl := Option.some.inj e
    exact e5
  · obtain ⟨a6, _, e⟩ := bo e
    obtain ⟨_, e⟩ := io_n e
    obtain ⟨x7, _, e⟩ := bo e
    obtain rfl := Option.some.inj e
    exact e5
theorem ofi {v : Int32} {z : Int} (h : v.toInt = z) : Int32.ofInt z = v := by rw [← h]; exact Int32.ofInt_toInt v
theorem dgn_0 {p : Nat} (h : ¬ (48 ≤ t p ∧ t p ≤ 57)) : dgn t 3 p = 0 := by
  show (if 48 ≤ t p ∧ t p ≤ 57 then _ else 0) = 0
  rw [if_neg h]
theorem dgn_1 {p : Nat} (h : 48 ≤ t p ∧ t p ≤ 57) : 0 < dgn t 3 p := by
  show 0 < (if 48 ≤ t p ∧ t p ≤ 57 then dgn t 2 (p + 1) + 1 else 0)
  rw [if_pos h]; omega
theorem dgn_b (hB : Rd t B) : ∀ (k p : Nat), p + dgn t k p ≤ 80 ∨ dgn t k p = 0 := by
  intro k
  induction k with
  | zero => intro p; exact .inr rfl
  | succ k ih =>
    intro p
    by_cases c : 48 ≤ t p ∧ t p ≤ 57
    · have := (Rd_rng hB p).2.2 (by omega)
      rw [show dgn t (k + 1) p = dgn t k (p + 1) + 1 by rw [dgn, if_pos c]]
      rcases ih (p + 1) with h | h
      · left; omega
      · left; omega
    · right; rw [dgn, if_neg c]
theorem thing_67 (hE : HE env B) (hB : Rd t B) {S : MS} {x3 : Int32} {N : Mem} {r : Int32 × Mem} (fx : Fx mEx [] B N) (q1 : Rd t N) (q2 : (N.1 162 18).toInt = -1) (q3 : (N.1 162 17).toInt = (S.1 : Int)) (q4 : S.2.2.2.2 = false) (q7 : S.1 ≤ 80) (e3 : f_Mod_here N = some x3) (n45 : t S.1 ≠ 45) (n40 : t S.1 = 40 → ¬ S.2.2.1 < 4) (fr : Fx mEx [] B r.2) (e : j_Mod_thing_67 rc x3 N = some r) : Fx mEx [] B r.2 ∧ (Ok t env 3 S r.1 r.2 ∨ Ft t S r.2) := by
  refine ⟨fr, ?_⟩
  have k := here_i q1 q3 e3
  have rg := Rd_rng q1 S.1
  have z48 : (48 : Int32).toInt = 48 := rfl
  have z57 : (57 : Int32).toInt = 57 := rfl
  have hT : t S.1 ≠ -1 → rdS t S = rdT t S.1 S.2.1 S.2.2.1 S.2.2.2.1 := by
    intro h
    unfold rdS
    rw [if_neg h, if_neg (by rw [q4]; decide)]
  have hT2 : rdT t S.1 S.2.1 S.2.2.1 S.2.2.2.1 = if 0 < dgn t 3 S.1 then some (S.1 + dgn t 3 S.1, (Int32.ofInt (dgv t 3 S.1 0) :: S.2.1.1, S.2.1.2), S.2.2.1, S.2.2.2.1, true) else if isq (sg t S.1) = true then some (S.1 + 1, (-(sg t S.1) :: S.2.1.1, S.2.1.2), S.2.2.1, S.2.2.2.1, true) else none := by
    unfold rdT
    rw [if_neg n45, if_neg (fun h => n40 h.1 h.2)]
  unfold j_Mod_thing_67 at e
  obtain ⟨x4, e4, e⟩ := bo e
  obtain ⟨r4, er4, h4⟩ := sp_in x3 48 57
  rw [er4] at e4
  obtain rfl := Option.some.inj e4
  have lett : isq x3 = true → j_Mod_thing_142 rc x3 N = some r → Ok t env 3 S r.1 r.2 := by
    intro hq e
    have hv := hE rc x3 N r hq fx e
    have hm := thing_q e
    have x0 : 105 ≤ x3.toInt ∧ x3.toInt ≤ 121 := by
      simp only [isq, Bool.or_eq_true, beq_iff_eq] at hq
      rcases hq with ((((((h | h) | h) | h) | h) | h) | h) | h <;> subst h <;> decide
    have tp : t S.1 = x3.toInt := by omega
    have sgx : sg t S.1 = x3 := sg_eq tp
    have p80 := rg.2.2 (by omega)
    have st : rdS t S = some (S.1 + 1, (-x3 :: S.2.1.1, S.2.1.2), S.2.2.1, S.2.2.2.1, true) := by
      rw [hT (by omega), hT2, if_neg (by rw [dgn_0 (by omega)]; omega), sgx, if_pos hq]
    refine ⟨_, ⟨?_, ?_, Rch_s st Rch_r, rfl, rfl, ?_, fun d _ _ => rfl, [-x3], rfl, fun s => ?_⟩, ⟨fun h => by omega, fun h => by omega, fun h => by omega⟩⟩
    · rw [hm, si_ne (by omega)]; exact q2
    · rw [hm, si_eq]; exact add_ti q3 o1 (by omega) (by omega)
    · show S.1 + 1 ≤ 80; omega
    · show opx env (-x3) s = _
      have m : (-x3).toInt = -x3.toInt := by
        have := sub_ti (a := 0) (b := x3) rfl rfl (by show (-2147483648 : Int) ≤ 0 - x3.toInt; omega) (by show (0 : Int) - x3.toInt ≤ 2147483647; omega)
        rw [show (-x3) = 0 - x3 by simp]
        rw [this]; show (0 : Int) - x3.toInt = _; omega
      have mm : - -x3 = x3 := by simp
      unfold opx
      rw [if_pos (lti.mpr (by rw [m]; show -x3.toInt < 0; omega)), mm, if_pos hq, hv]
  rcases io e with ⟨c, e⟩ | ⟨c, e⟩
  · have nd : ¬ (48 ≤ t S.1 ∧ t S.1 ≤ 57) := by
      rcases h4 with ⟨a, _⟩ | ⟨_, b⟩
      · rw [a] at c; cases c
      · omega
    rcases io e with ⟨c1, e⟩ | ⟨c1, e⟩
    · exact .inl (lett (by rw [c1]; decide) e)
    rcases io e with ⟨c2, e⟩ | ⟨c2, e⟩
    · exact .inl (lett (by rw [c2]; decide) e)
    rcases io e with ⟨c3, e⟩ | ⟨c3, e⟩
    · exact .inl (lett (by rw [c3]; decide) e)
    rcases io e with ⟨c4, e⟩ | ⟨c4, e⟩
    · exact .inl (lett (by rw [c4]; decide) e)
    rcases io e with ⟨c5, e⟩ | ⟨c5, e⟩
    · exact .inl (lett (by rw [c5]; decide) e)
    rcases io e with ⟨c6, e⟩ | ⟨c6, e⟩
    · exact .inl (lett (by rw [c6]; decide) e)
    rcases io e with ⟨c7, e⟩ | ⟨c7, e⟩
    · exact .inl (lett (by rw [c7]; decide) e)
    rcases io e with ⟨c8, e⟩ | ⟨c8, e⟩
    · exact .inl (lett (by rw [c8]; decide) e)
    obtain ⟨x9, e9, e⟩ := bo e
    obtain rfl := Option.some.inj e
    have hq : isq (sg t S.1) = false := by
      have f : ∀ {c : Int32}, ¬ x3 = c → 0 ≤ c.toInt → c.toInt ≤ 127 → t S.1 ≠ c.toInt := fun h a b g => h ((here_c q1 q3 e3 a b).mpr g)
      exact isq_0 ⟨rg.1, rg.2.1⟩ ⟨f c2 (by decide) (by decide), f c8 (by decide) (by decide), f c1 (by decide) (by decide), f c6 (by decide) (by decide), f c7 (by decide) (by decide), f c3 (by decide) (by decide), f c4 (by decide) (by decide), f c5 (by decide) (by decide)⟩
    refine .inr ⟨S, Rch_r, ?_, (fun h => by rw [q4] at h; exact absurd h.1 (by decide)), q7, ?_⟩
    · by_cases h : t S.1 = -1
      · unfold rdS; rw [if_pos h]
      · rw [hT h, hT2, if_neg (by rw [dgn_0 nd]; omega), if_neg (by rw [hq]; decide)]
    · rcases fault_i e9 with ⟨g, _⟩ | ⟨_, rfl⟩
      · exact absurd q2 g
      · dsimp only; rw [si_eq]; exact q3
  · obtain ⟨x18, e18, e⟩ := bo e
    obtain rfl := Option.some.inj e
    have dg : 48 ≤ t S.1 ∧ t S.1 ≤ 57 := by
      rcases h4 with ⟨_, b⟩ | ⟨a, _⟩
      · omega
      · exact absurd a c
    have d1 := dgn_1 dg
    obtain ⟨_, n1, n2, n3, n4, n5⟩ := number_i (K := 3) q1 (by omega) rfl q3 q7 q2 e18
    have st : rdS t S = some (S.1 + dgn t 3 S.1, (x18.1 :: S.2.1.1, S.2.1.2), S.2.2.1, S.2.2.2.1, true) := by
      rw [hT (by omega), hT2, if_pos d1, ofi n1]
    refine .inl ⟨_, ⟨?_, n4, Rch_s st Rch_r, rfl, rfl, ?_, fun d _ _ => rfl, [x18.1], rfl, fun s => ?_⟩, ⟨fun h => by omega, fun h => by omega, fun h => by omega⟩⟩
    · rcases n5 with h | h
      · omega
      · exact h.2
    · show S.1 + dgn t 3 S.1 ≤ 80
      rcases dgn_b hB 3 S.1 with h | h <;> omega
    · show opx env x18.1 s = _
      unfold opx
      rw [if_neg (fun h => by have := q_lt h; have z : (0 : Int32).toInt = 0 := rfl; omega)]
theorem thing_i (hE : HE env B) (hrc : HI t env B rc) (hB : Rd t B) {S : MS} {a : Int32} {N : Mem} {r : Int32 × Mem} (fx : Fx mEx [] B N) (pre : Pre t 3 S N a) (fr : Fx mEx [] B r.2) (e : fb_Mod_thing rc a N = some r) : Fx mEx [] B r.2 ∧ (Ok t env 3 S r.1 r.2 ∨ Ft t S r.2) := by
  obtain ⟨q1, q2, q3, q4, q5, q6, q7, _, _⟩ := pre
  have rg := Rd_rng q1 S.1
  unfold fb_Mod_thing at e
  obtain ⟨x1, e1, e⟩ := bo e
  have fx1 : Fx mEx [] B x1.2 := wf_Mod_passes _ _ (by decide +kernel) fx e1
  have z45 : (45 : Int32).toInt = 45 := rfl
  have z40 : (40 : Int32).toInt = 40 := rfl
  have z41 : (41 : Int32).toInt = 41 := rfl
  have z4 : (4 : Int32).toInt = 4 := rfl
  rcases passes_i q1 q3 q2 (by decide) (by decide) e1 with ⟨a1, a2, a3, a4⟩ | ⟨a1, a2, a3⟩
  · rw [if_neg a2] at e
    obtain ⟨x26, e26, e⟩ := bo e
    obtain rfl := Option.some.inj e
    have st : rdS t S = some (S.1 + 1, (S.2.1.1, 256 :: S.2.1.2), S.2.2.1, S.2.2.2.1, false) := by
      unfold rdS rdT
      rw [if_neg (by omega), if_neg (by rw [q4]; decide), if_pos (show t S.1 = 45 from a1)]
    have p80 := rg.2.2 (by omega)
    obtain ⟨_, g⟩ := hrc 3 a x1.2 x26 (S.1 + 1, (S.2.1.1, 256 :: S.2.1.2), S.2.2.1, S.2.2.2.1, false) (by omega) fx1 ⟨Rd_fx okE fx1 hB, a4, a3, rfl, q5, q6, (by show S.1 + 1 ≤ 80; omega), fun h => by omega, fun h => by omega⟩ e26
    refine ⟨fr, ?_⟩
    rcases g with ⟨S', ⟨k1, k2, k3, k4, k5, k6, k7, rc1, k8, k9⟩, _⟩ | g
    · refine .inl ⟨S', ⟨k1, k2, Rch_s st k3, k4, k5, k6, fun d hd _ => k7 d hd (fun h => by omega), -256 :: rc1, ?_, fun s => ?_⟩, ⟨fun h => by omega, fun h => by omega, fun h => by omega⟩⟩
      · rw [k8]
        show stl 5 (rc1 ++ S.2.1.1) (256 :: S.2.1.2) = _
        rw [stl, if_neg (by decide)]; rfl
      · show opx env (-256) (rv env rc1 s) = _
        rw [k9]
        unfold opx
        rw [if_pos (by decide), if_neg (by decide), if_pos (by decide)]
        rfl
    · exact .inr (Ft_t (Rch_s st Rch_r) g)
  rw [if_pos a2] at e
  rw [a3] at e
  obtain ⟨x2, e2, e⟩ := bo e
  rw [if_neg (is_fine q2 e2)] at e
  obtain ⟨x3, e3, e⟩ := bo e
  have k40 := here_c q1 q3 (c := 40) e3 (by decide) (by decide)
  rcases io e with ⟨c, e⟩ | ⟨c, e⟩
  · have t40 := k40.mp c
    rcases io e with ⟨c4, e⟩ | ⟨c4, e⟩
    · have := q_le c4
      exact thing_67 hE hB fx q1 q2 q3 q4 q7 e3 (by omega) (fun _ => by omega) fr e
    · have d4 := q_ng c4
      obtain ⟨M20, e20, e⟩ := mo e
      obtain ⟨x21, e21, e⟩ := bo e
      obtain ⟨x22, e22, e⟩ := bo e
      obtain rfl := Option.some.inj e
      have p80 := rg.2.2 (by omega)
      have st : rdS t S = some (S.1 + 1, (S.2.1.1, 40 :: S.2.1.2), S.2.2.1 + 1, up S.2.2.2.1 (S.2.2.1 + 1) false, false) := by
        unfold rdS rdT
        rw [if_neg (by omega), if_neg (by rw [q4]; decide), if_neg (by omega), if_pos ⟨t40, by omega⟩]
      have fx20 : Fx mEx [] B M20 := wi1 fx e20 (by decide +kernel)
      obtain ⟨f21, g⟩ := hrc 0 (a + (1 : Int32)) M20 x21 (S.1 + 1, (S.2.1.1, 40 :: S.2.1.2), S.2.2.1 + 1, up S.2.2.2.1 (S.2.2.1 + 1) false, false) (by omega) fx20 ⟨Rd_fx okE fx20 hB, by rw [e20, si_ne (by omega)]; exact q2, by rw [e20, si_eq]; exact add_ti q3 o1 (by omega) (by omega), rfl, add_ti q5 o1 (by omega) (by omega), (by show S.2.2.1 + 1 ≤ 4; omega), (by show S.1 + 1 ≤ 80; omega), fun _ => .inl rfl, fun _ => (by show up S.2.2.2.1 (S.2.2.1 + 1) false (S.2.2.1 + 1) = false; unfold up; rw [if_pos rfl])⟩ e21
      refine ⟨fr, ?_⟩
      unfold f_Mod_need at e22
      obtain ⟨y1, ey1, e22⟩ := bo e22
      rcases g with ⟨S', ⟨k1, k2, k3, k4, k5, k6, k7, rc1, k8, k9⟩, kf⟩ | g
      · have hN := Rd_fx okE f21 hB
        have rg' := Rd_rng hN S'.1
        have k5' : S'.2.2.1 = S.2.2.1 + 1 := k5
        rcases passes_i hN k2 k1 (by decide) (by decide) ey1 with ⟨b1, b2, b3, b4⟩ | ⟨b1, b2, b3⟩
        · rw [if_neg b2] at e22
          obtain rfl := Option.some.inj e22
          have z : stl 1 S'.2.1.1 S'.2.1.2 = (rc1 ++ S.2.1.1, 40 :: S.2.1.2) := by
            rw [← stl_stl (show 1 ≤ 2 by omega) S'.2.1.1, k8, stl_stl (show 1 ≤ 2 by omega)]
            exact stl_id (.inl rfl)
          have st2 : rdS t S' = some (S'.1 + 1, (rc1 ++ S.2.1.1, S.2.1.2), S.2.2.1, S'.2.2.2.1, true) := by
            unfold rdS rdB
            rw [if_neg (by omega), if_pos k4, if_pos ⟨b1, by omega⟩, z, k5']; rfl
          have p80' := rg'.2.2 (by omega)
          refine .inl ⟨_, ⟨b4, b3, Rch_s st (Rch_t k3 (Rch_s st2 Rch_r)), rfl, rfl, (by show S'.1 + 1 ≤ 80; omega), fun d hd _ => ?_, rc1, rfl, k9⟩, ⟨fun h => by omega, fun h => by omega, fun h => by omega⟩⟩
          show S'.2.2.2.1 d = _
          rw [k7 d (by show d ≤ S.2.2.1 + 1; omega) (fun _ => (by show d < S.2.2.1 + 1; omega))]
          show up S.2.2.2.1 (S.2.2.1 + 1) false d = _
          unfold up
          rw [if_neg (by omega)]
        · rw [if_pos b2] at e22
          obtain ⟨y2, ey2, e22⟩ := bo e22
          obtain rfl := Option.some.inj e22
          rw [b3] at ey2
          refine .inr ⟨S', Rch_s st k3, ?_, (fun h => by omega), k6, ?_⟩
          · unfold rdS rdB
            by_cases m1 : t S'.1 = -1
            · rw [if_pos m1]
            · rw [if_neg m1, if_pos k4, if_neg (fun h => b1 h.1)]
              by_cases m2 : t S'.1 = 60 ∨ t S'.1 = 61 ∨ t S'.1 = 62
              · have r2 : rk (sg t S'.1) = 2 := by
                  rcases m2 with h | h | h
                  · rw [sg_eq (c := 60) h]; decide
                  · rw [sg_eq (c := 61) h]; decide
                  · rw [sg_eq (c := 62) h]; decide
                rw [if_pos (.inr ⟨r2, kf.2.2 rfl m2⟩)]
              · rw [if_pos (.inl (rk_0 ⟨rg'.1, rg'.2.1⟩ (kf.1 (by omega)) (kf.2.1 (by omega)) (by omega)))]
          · rcases fault_i ey2 with ⟨g, _⟩ | ⟨_, rfl⟩
            · exact absurd k1 g
            · dsimp only; rw [si_eq]; exact k2
      · have w := Ft_w g
        obtain ⟨b1, b2⟩ := pass_b w ey1
        rw [if_pos b1] at e22
        obtain ⟨y2, ey2, e22⟩ := bo e22
        obtain rfl := Option.some.inj e22
        rw [b2] at ey2
        rcases fault_i ey2 with ⟨_, rfl⟩ | ⟨h, _⟩
        · exact .inr (Ft_t (Rch_s st Rch_r) g)
        · exact absurd h w
  · exact thing_67 hE hB fx q1 q2 q3 q4 q7 e3 (by omega) (fun h => absurd (k40.mpr h) c) fr e
theorem expr_i (hE : HE env B) (hB : Rd t B) : ∀ n : Nat, HI t env B (fr_expr n) := by
  intro n
  induction n with
  | zero => intro w a N r S _ _ _ e; simp [fr_expr] at e
  | succ n ih =>
    intro w a N r S hw fx pre e
    have fr := wf_Mod_expr (C := mEx) (L := []) (A := B) (by decide +kernel) (n + 1) w a N r fx e
    simp only [fr_expr] at e
    rcases io e with ⟨c, e⟩ | ⟨c0, e⟩
    · subst c; exact held_i ih hB fx pre e
    rcases io e with ⟨c, e⟩ | ⟨c1, e⟩
    · subst c; exact sum_i ih hB fx pre e
    rcases io e with ⟨c, e⟩ | ⟨c2, e⟩
    · subst c; exact prod_i ih hB fx pre e
    · have : w = 3 := by omega
      subst this; exact thing_i hE ih hB fx pre fr e
end EX
end
section
/-! bits -/
def bt (x : Int32) (d : Nat) : Bool := x.toBitVec.getLsbD d
theorem bt_or (x y : Int32) (d : Nat) : bt (x ||| y) d = (bt x d || bt y d) := by unfold bt; rw [Int32.toBitVec_or, BitVec.getLsbD_or]
theorem bt_and (x y : Int32) (d : Nat) : bt (x &&& y) d = (bt x d && bt y d) := by unfold bt; rw [Int32.toBitVec_and, BitVec.getLsbD_and]
theorem bt_xor (x y : Int32) (d : Nat) : bt (x ^^^ y) d = (bt x d ^^ bt y d) := by unfold bt; rw [Int32.toBitVec_xor, BitVec.getLsbD_xor]
theorem bt_0 (d : Nat) : bt 0 d = false := by unfold bt; exact BitVec.getLsbD_zero
theorem bt_m1a : ∀ d : Fin 32, bt (-1) d.val = true := by decide +kernel
theorem bt_m1 {d : Nat} (h : d < 32) : bt (-1) d = true := bt_m1a ⟨d, h⟩
theorem bt_1a : ∀ d : Fin 32, bt 1 d.val = decide (d.val = 0) := by decide +kernel
theorem bt_hi {x : Int32} {d : Nat} (h : 32 ≤ d) : bt x d = false := BitVec.getLsbD_of_ge _ _ h
theorem bt_1 (d : Nat) : bt 1 d = decide (d = 0) := by
  rcases Nat.lt_or_ge d 32 with h | h
  · exact bt_1a ⟨d, h⟩
  · rw [bt_hi h, decide_eq_false (by omega)]
theorem bt_ext {x y : Int32} (h : ∀ d, d < 32 → bt x d = bt y d) : x = y := by
  refine Int32.toBitVec_inj.mp (BitVec.eq_of_getLsbD_eq ?_)
  intro i hi
  exact h i hi
theorem smd : ∀ d : Fin 32, (((Int32.ofNat d.val) &&& 31).toBitVec.smod 32).toNat = d.val := by decide +kernel
theorem smd_v {v : Int32} {d : Nat} (hv : v.toInt = (d : Int)) (hd : d < 32) : ((v &&& 31).toBitVec.smod 32).toNat = d := by
  rw [ofn_eq hv (by omega)]; exact smd ⟨d, hd⟩
theorem bt_sr {x v : Int32} {d : Nat} (hv : v.toInt = (d : Int)) (hd : d < 32) {i : Nat} (hi : d + i < 32) : bt (x >>> (v &&& 31)) i = bt x (d + i) := by
  unfold bt
  rw [Int32.toBitVec_shiftRight, BitVec.sshiftRight_eq', smd_v hv hd, BitVec.getLsbD_sshiftRight, if_pos hi]
  rw [decide_eq_false (by omega)]; rfl
theorem bt_shr {x v : Int32} {d : Nat} (hv : v.toInt = (d : Int)) (hd : d < 32) : ((x >>> (v &&& 31)) &&& (1 : Int32)) = if bt x d = true then 1 else 0 := by
  refine bt_ext (fun i hi => ?_)
  rw [bt_and, bt_1]
  by_cases c : i = 0
  · subst c
    rw [bt_sr hv hd (by omega)]
    cases hb : bt x d with
    | true => rw [if_pos rfl, bt_1]; simp [hb]
    | false => rw [if_neg (by decide), bt_0]; simp [hb]
  · rw [decide_eq_false c, Bool.and_false]
    cases hb : bt x d with
    | true => rw [if_pos rfl, bt_1, decide_eq_false c]
    | false => rw [if_neg (by decide), bt_0]
theorem bt_one {v : Int32} {d : Nat} (hv : v.toInt = (d : Int)) (hd : d < 32) (i : Nat) : bt ((1 : Int32) <<< (v &&& 31)) i = decide (i = d) := by
  rcases Nat.lt_or_ge i 32 with hi | hi
  · unfold bt
    rw [Int32.toBitVec_shiftLeft, BitVec.shiftLeft_eq', smd_v hv hd, BitVec.getLsbD_shiftLeft]
    rw [decide_eq_true hi, Bool.true_and]
    have := bt_1 (i - d)
    unfold bt at this
    rw [this]
    by_cases c : i < d
    · rw [decide_eq_true c, decide_eq_false (show ¬ i = d by omega)]; rfl
    · rw [decide_eq_false c]
      by_cases g : i = d
      · rw [decide_eq_true g, decide_eq_true (show i - d = 0 by omega)]; rfl
      · rw [decide_eq_false g, decide_eq_false (show ¬ i - d = 0 by omega)]; rfl
  · rw [bt_hi hi, decide_eq_false (by omega)]
theorem bt_b1 (x : Int32) {v : Int32} {d : Nat} (hv : v.toInt = (d : Int)) (hd : d < 32) (i : Nat) : bt (x ||| ((1 : Int32) <<< (v &&& 31))) i = (bt x i || decide (i = d)) := by rw [bt_or, bt_one hv hd]
theorem bt_b0 (x : Int32) {v : Int32} {d : Nat} (hv : v.toInt = (d : Int)) (hd : d < 32) {i : Nat} (hi : i < 32) : bt (x &&& (((1 : Int32) <<< (v &&& 31)) ^^^ (-1 : Int32))) i = (bt x i && !decide (i = d)) := by rw [bt_and, bt_xor, bt_one hv hd, bt_m1 hi]; cases decide (i = d) <;> rfl
/-! the class's reader -/
def cx (M : Mem) (K p : Nat) : Int := if (p : Int) < (M.1 1 1).toInt ∧ p < K then (M.1 2 p).toInt else -1
theorem at_i {M : Mem} {v m x : Int32} {p K : Nat} (hv : v.toInt = (p : Int)) (hm : m.toInt = (K : Int)) (hl : (M.1 1 1).toInt ≤ 80) (e : f_Signs_at v m M = some x) : x.toInt = cx M K p := by
  unfold f_Signs_at at e
  have z8 : (80 : Int32).toInt = 80 := rfl
  have z0 := o0
  have zm := om
  unfold cx
  rcases io e with ⟨c, e⟩ | ⟨c, e⟩
  · have := q_lt c; omega
  rcases io e with ⟨c, e⟩ | ⟨c, e⟩
  · obtain rfl := Option.some.inj e
    have := q_le c
    rw [if_neg (by omega)]; exact om
  have c1 := q_ng c
  rcases io e with ⟨c, e⟩ | ⟨c, e⟩
  · obtain rfl := Option.some.inj e
    have := q_le c
    rw [if_neg (by omega)]; exact om
  have c2 := q_ng c
  rcases io e with ⟨c, e⟩ | ⟨c, e⟩
  · obtain ⟨_, e⟩ := io_n e
    obtain rfl := Option.some.inj e
    rw [if_pos (by omega), q_nat hv]
  · have := q_nl c; omega
theorem cx_c {M N : Mem} (h1 : N.1 1 1 = M.1 1 1) (h2 : ∀ i, N.1 2 i = M.1 2 i) (K : Nat) : cx N K = cx M K := by
  funext p
  unfold cx
  rw [h1, h2]
theorem cx_b {M : Mem} (hJ : J M) (K p : Nat) : -1 ≤ cx M K p ∧ cx M K p ≤ 255 ∧ (cx M K p ≠ -1 → p < 80 ∧ p < K) := by
  have l := Jr_1_1 hJ
  have b : (0 : Int) ≤ (M.1 2 p).toInt ∧ (M.1 2 p).toInt ≤ 255 := hJ.1 2 p
  unfold cx
  split <;> omega
theorem dig_l {A : Mem} {v1 v2 v3 : Int32} {p K n : Nat} (hl : (A.1 1 1).toInt ≤ 80) (h1 : v1.toInt = (p : Int)) (h2 : v2.toInt = (K : Int)) (h3 : v3.toInt = (n : Int)) (n3 : n ≤ 3) (p80 : p ≤ 80) (h0 : A.1 1 2 = 0) {x} (e : iter (lb_Signs_digits_11 v1 v2 v3) FU ((0 : Int32), (0 : Int32), A) = some x) : (∀ k i, ¬ (k = 1 ∧ i = 2) → x.2.1 k i = A.1 k i) ∧ x.1.toInt = (dgn (cx A K) n p : Int) ∧ (x.2.1 1 2).toInt = dgv (cx A K) n p 0 ∧ 0 ≤ (x.2.1 1 2).toInt ∧ (x.2.1 1 2).toInt < 1000 := by
  refine it_r (I := fun s : Int32 × Int32 × Mem => (∀ k i, ¬ (k = 1 ∧ i = 2) → s.2.2.1 k i = A.1 k i) ∧ ∃ m i : Nat, s.1.toInt = (m : Int) ∧ s.2.1.toInt = (i : Int) ∧ i ≤ n ∧ ((m = i ∧ dgv (cx A K) n p 0 = dgv (cx A K) (n - i) (p + i) (s.2.2.1 1 2).toInt ∧ dgn (cx A K) n p = i + dgn (cx A K) (n - i) (p + i) ∧ 0 ≤ (s.2.2.1 1 2).toInt ∧ (s.2.2.1 1 2).toInt < (10 : Int) ^ i) ∨ (m < i ∧ dgn (cx A K) n p = m ∧ dgv (cx A K) n p 0 = (s.2.2.1 1 2).toInt ∧ 0 ≤ (s.2.2.1 1 2).toInt ∧ (s.2.2.1 1 2).toInt < 1000))) (Q := fun x : Int32 × Mem => (∀ k i, ¬ (k = 1 ∧ i = 2) → x.2.1 k i = A.1 k i) ∧ x.1.toInt = (dgn (cx A K) n p : Int) ∧ (x.2.1 1 2).toInt = dgv (cx A K) n p 0 ∧ 0 ≤ (x.2.1 1 2).toInt ∧ (x.2.1 1 2).toInt < 1000) ?_ e ⟨fun _ _ _ => rfl, 0, 0, rfl, rfl, by omega, .inl ⟨rfl, ?_, by simp, ?_, ?_⟩⟩
  · rintro ⟨a, b, N⟩ r ⟨fx, m, i, hm, hi, li, h⟩ e
    dsimp only at fx hm hi h
    have z48 : (48 : Int32).toInt = 48 := rfl
    have z57 : (57 : Int32).toInt = 57 := rfl
    have z10 : (10 : Int32).toInt = 10 := rfl
    have pw : (10 : Int) ^ i ≤ 1000 ∧ (i < n → (10 : Int) ^ i ≤ 100 ∧ (10 : Int) ^ (i + 1) = 10 * (10 : Int) ^ i) := by
      have : i = 0 ∨ i = 1 ∨ i = 2 ∨ i = 3 := by omega
      rcases this with rfl | rfl | rfl | rfl
      · exact ⟨by decide, fun _ => by decide⟩
      · exact ⟨by decide, fun _ => by decide⟩
      · exact ⟨by decide, fun _ => by decide⟩
      · exact ⟨by decide, fun h => by omega⟩
    unfold lb_Signs_digits_11 at e
    dsimp only at e
    rcases io e with ⟨c, e⟩ | ⟨c, e⟩
    · have c := q_le c
      obtain rfl := Option.some.inj e
      have ei : i = n := by omega
      subst ei
      rcases h with ⟨g1, g2, g3, g4, g5⟩ | ⟨g1, g2, g3, g4, g5⟩
      · rw [Nat.sub_self] at g2 g3
        refine ⟨fx, ?_, ?_, g4, (by show (N.1 1 2).toInt < 1000; omega)⟩
        · show a.toInt = _
          rw [g3, hm]; show (m : Int) = ((i + 0 : Nat) : Int); omega
        · show (N.1 1 2).toInt = _
          rw [g2]; rfl
      · exact ⟨fx, by show a.toInt = _; rw [g2]; exact hm, g3.symm, g4, g5⟩
    have c1 := q_ng c
    rcases io e with ⟨c, e⟩ | ⟨c, e⟩
    · have c2 := q_eq c
      rcases h with ⟨g1, g2, g3, g4, g5⟩ | ⟨g1, _⟩
      · subst g1
        have nj : n - m = (n - (m + 1)) + 1 := by omega
        obtain ⟨x2, e2, e⟩ := bo e
        have a1 : (v1 + b).toInt = ((p + m : Nat) : Int) := add_ti h1 hi (by omega) (by omega)
        have hx := at_i a1 h2 (by rw [fx 1 1 (by omega)]; exact hl) e2
        rw [cx_c (fx 1 1 (by omega)) (fun j => fx 2 j (by omega))] at hx
        have b1 : (b + (1 : Int32)).toInt = ((m + 1 : Nat) : Int) := add_ti hi o1 (by omega) (by omega)
        have non : ¬ (48 ≤ cx A K (p + m) ∧ cx A K (p + m) ≤ 57) → (m < m + 1 ∧ dgn (cx A K) n p = m ∧ dgv (cx A K) n p 0 = (N.1 1 2).toInt ∧ 0 ≤ (N.1 1 2).toInt ∧ (N.1 1 2).toInt < 1000) := by
          intro nd
          refine ⟨by omega, ?_, ?_, g4, by omega⟩
          · rw [g3, nj, dgn, if_neg nd]; rfl
          · rw [g2, nj, dgv, if_neg nd]
        rcases io e with ⟨c, e⟩ | ⟨c, e⟩
        · have c3 := q_lt c
          obtain rfl := Option.some.inj e
          exact ⟨fx, m, m + 1, hm, b1, by omega, .inr (non (by omega))⟩
        have c3 := q_nl c
        rcases io e with ⟨c, e⟩ | ⟨c, e⟩
        · have c4 := q_lt c
          obtain rfl := Option.some.inj e
          exact ⟨fx, m, m + 1, hm, b1, by omega, .inr (non (by omega))⟩
        have c4 := q_nl c
        obtain ⟨M3, e3, e⟩ := mo e
        obtain rfl := Option.some.inj e
        have dg : 48 ≤ cx A K (p + m) ∧ cx A K (p + m) ≤ 57 := by omega
        obtain ⟨pw1, pw2⟩ := pw.2 (by omega)
        have m1 : ((N.1 1 2) * (10 : Int32)).toInt = (N.1 1 2).toInt * 10 := mul_ti rfl z10 (by omega) (by omega)
        have m2 : ((N.1 1 2) * (10 : Int32) + x2).toInt = (N.1 1 2).toInt * 10 + x2.toInt := add_ti m1 rfl (by omega) (by omega)
        have m3 : ((N.1 1 2) * (10 : Int32) + x2 - (48 : Int32)).toInt = (N.1 1 2).toInt * 10 + x2.toInt - 48 := sub_ti m2 z48 (by omega) (by omega)
        have mv : (M3.1 1 2).toInt = 10 * (N.1 1 2).toInt + cx A K (p + m) - 48 := by rw [e3, si_eq, m3, hx]; omega
        refine ⟨fun k j hk => ?_, m + 1, m + 1, add_ti hm o1 (by omega) (by omega), b1, by omega, .inl ⟨rfl, ?_, ?_, ?_, ?_⟩⟩
        · show M3.1 k j = _
          rw [e3, si_ne hk]; exact fx k j hk
        · show _ = dgv (cx A K) (n - (m + 1)) (p + (m + 1)) (M3.1 1 2).toInt
          rw [g2, nj, mv]
          rw [show dgv (cx A K) (n - (m + 1) + 1) (p + m) (N.1 1 2).toInt = dgv (cx A K) (n - (m + 1)) (p + m + 1) (10 * (N.1 1 2).toInt + cx A K (p + m) - 48) by rw [dgv, if_pos dg]]
          rfl
        · rw [g3, nj]
          rw [show dgn (cx A K) (n - (m + 1) + 1) (p + m) = dgn (cx A K) (n - (m + 1)) (p + m + 1) + 1 by rw [dgn, if_pos dg]]
          rw [show p + (m + 1) = p + m + 1 by omega]; omega
        · show 0 ≤ (M3.1 1 2).toInt
          omega
        · show (M3.1 1 2).toInt < (10 : Int) ^ (m + 1)
          rw [pw2]; omega
      · omega
    · have c2 := q_ne c
      obtain rfl := Option.some.inj e
      rcases h with ⟨g1, _⟩ | ⟨g1, g2, g3, g4, g5⟩
      · omega
      · exact ⟨fx, by show a.toInt = _; rw [g2]; exact hm, g3.symm, g4, g5⟩
  · show dgv (cx A K) n p 0 = dgv (cx A K) n p (A.1 1 2).toInt
    rw [h0]; rfl
  · show 0 ≤ (A.1 1 2).toInt
    rw [h0]; decide
  · show (A.1 1 2).toInt < 1
    rw [h0]; decide
theorem dig_i {A : Mem} {v1 v2 v3 : Int32} {p K n : Nat} (hl : (A.1 1 1).toInt ≤ 80) (h1 : v1.toInt = (p : Int)) (h2 : v2.toInt = (K : Int)) (h3 : v3.toInt = (n : Int)) (n3 : n ≤ 3) (p80 : p ≤ 80) {x} (e : f_Signs_digits v1 v2 v3 A = some x) : (∀ k i, ¬ (k = 1 ∧ i = 2) → x.2.1 k i = A.1 k i) ∧ x.1.toInt = (dgn (cx A K) n p : Int) ∧ (x.2.1 1 2).toInt = dgv (cx A K) n p 0 ∧ 0 ≤ (x.2.1 1 2).toInt ∧ (x.2.1 1 2).toInt < 1000 := by
  unfold f_Signs_digits at e
  obtain ⟨M1, e1, e⟩ := mo e
  obtain ⟨x8, e8, e⟩ := bo e
  obtain rfl := Option.some.inj e
  have c : cx M1 K = cx A K := cx_c (by rw [e1, si_ne (by omega)]) (fun i => by rw [e1, si_ne (by omega)]) K
  have d := dig_l (A := M1) (by rw [e1, si_ne (by omega)]; exact hl) h1 h2 h3 n3 p80 (by rw [e1, si_eq]) e8
  rw [c] at d
  refine ⟨fun k i hk => ?_, d.2⟩
  rw [d.1 k i hk, e1, si_ne hk]
end
section
/-! the class follows the machine -/
def stk (f : Nat → Int32) : List Int32 → Prop
  | [] => True
  | s :: w => f w.length = s ∧ stk f w
theorem stk_c {f g : Nat → Int32} {l : List Int32} (h : stk f l) (e : ∀ i, i < l.length → g i = f i) : stk g l := by
  induction l with
  | nil => trivial
  | cons s w ih => exact ⟨(e w.length (by simp)).trans h.1, ih h.2 (fun i hi => e i (by simp; omega))⟩
def RO5 (o : List Int32) (M : Mem) : Prop := (M.1 40 5).toInt = (o.length : Int) ∧ stk (M.1 42) o
def RW6 (w : List Int32) (M : Mem) : Prop := (M.1 40 6).toInt = (w.length : Int) ∧ stk (M.1 43) w
theorem RO5_c {o : List Int32} {M N : Mem} (h : RO5 o M) (a : N.1 40 5 = M.1 40 5) (b : ∀ i, N.1 42 i = M.1 42 i) : RO5 o N := ⟨by rw [a]; exact h.1, stk_c h.2 (fun i _ => b i)⟩
theorem RW6_c {w : List Int32} {M N : Mem} (h : RW6 w M) (a : N.1 40 6 = M.1 40 6) (b : ∀ i, N.1 43 i = M.1 43 i) : RW6 w N := ⟨by rw [a]; exact h.1, stk_c h.2 (fun i _ => b i)⟩
theorem rank_i {v x : Int32} (e : f_Law_rankOf v = some x) : x.toInt = (rk v : Int) := by
  unfold f_Law_rankOf at e
  unfold rk
  rcases io e with ⟨c, e⟩ | ⟨c, e⟩
  · obtain rfl := Option.some.inj e; rw [if_pos c]; rfl
  rw [if_neg c]
  rcases io e with ⟨c, e⟩ | ⟨c, e⟩
  · obtain rfl := Option.some.inj e; rw [if_pos c]; rfl
  rw [if_neg c]
  rcases io e with ⟨c, e⟩ | ⟨c, e⟩
  · obtain rfl := Option.some.inj e; rw [if_pos c]; rfl
  rw [if_neg c]
  rcases io e with ⟨c, e⟩ | ⟨c, e⟩
  · obtain rfl := Option.some.inj e; rw [if_pos c]; rfl
  rw [if_neg c]
  rcases io e with ⟨c, e⟩ | ⟨c, e⟩
  · obtain rfl := Option.some.inj e; rw [if_pos c]; rfl
  rw [if_neg c]
  rcases io e with ⟨c, e⟩ | ⟨c, e⟩
  · obtain rfl := Option.some.inj e; rw [if_pos c]; rfl
  rw [if_neg c]
  rcases io e with ⟨c, e⟩ | ⟨c, e⟩
  · obtain rfl := Option.some.inj e; rw [if_pos c]; rfl
  rw [if_neg c]
  rcases io e with ⟨c, e⟩ | ⟨c, e⟩
  · obtain rfl := Option.some.inj e; rw [if_pos c]; rfl
  rw [if_neg c]
  obtain rfl := Option.some.inj e; rfl
theorem qual_i {v x : Int32} (e : f_Law_isQuality v = some x) : (isq v = true ∧ x = 1) ∨ (isq v = false ∧ x = 0) := by
  unfold f_Law_isQuality at e
  rcases io e with ⟨c, e⟩ | ⟨c1, e⟩
  · obtain rfl := Option.some.inj e; subst c; exact .inl ⟨by decide, rfl⟩
  rcases io e with ⟨c, e⟩ | ⟨c2, e⟩
  · obtain rfl := Option.some.inj e; subst c; exact .inl ⟨by decide, rfl⟩
  rcases io e with ⟨c, e⟩ | ⟨c3, e⟩
  · obtain rfl := Option.some.inj e; subst c; exact .inl ⟨by decide, rfl⟩
  rcases io e with ⟨c, e⟩ | ⟨c4, e⟩
  · obtain rfl := Option.some.inj e; subst c; exact .inl ⟨by decide, rfl⟩
  rcases io e with ⟨c, e⟩ | ⟨c5, e⟩
  · obtain rfl := Option.some.inj e; subst c; exact .inl ⟨by decide, rfl⟩
  rcases io e with ⟨c, e⟩ | ⟨c6, e⟩
  · obtain rfl := Option.some.inj e; subst c; exact .inl ⟨by decide, rfl⟩
  rcases io e with ⟨c, e⟩ | ⟨c7, e⟩
  · obtain rfl := Option.some.inj e; subst c; exact .inl ⟨by decide, rfl⟩
  rcases io e with ⟨c, e⟩ | ⟨c8, e⟩
  · obtain rfl := Option.some.inj e; subst c; exact .inl ⟨by decide, rfl⟩
  obtain rfl := Option.some.inj e
  refine .inr ⟨?_, rfl⟩
  simp only [isq, Bool.or_eq_false_iff, beq_eq_false_iff_ne]
  exact ⟨⟨⟨⟨⟨⟨⟨c1, c2⟩, c3⟩, c4⟩, c5⟩, c6⟩, c7⟩, c8⟩
theorem emit_i {o : List Int32} {v : Int32} {M r : Mem} (h : RO5 o M) (lt : o.length < 40) (e : f_Law_emit v M = some r) : RO5 (v :: o) r ∧ ∀ k i, ¬ (k = 40 ∧ i = 5) → k ≠ 42 → r.1 k i = M.1 k i := by
  have z0 := o0
  have z40 : (40 : Int32).toInt = 40 := rfl
  obtain ⟨h1, h2⟩ := h
  unfold f_Law_emit at e
  rcases io e with ⟨c, e⟩ | ⟨c, e⟩
  · have := q_lt c; omega
  rcases io e with ⟨c, e⟩ | ⟨c, e⟩
  · have := q_le c; omega
  obtain ⟨_, e⟩ := io_n e
  obtain ⟨M1, e1, e⟩ := mo e
  obtain ⟨M2, e2, e⟩ := mo e
  obtain rfl := Option.some.inj e
  have a5 : (M1.1 40 5).toInt = (o.length : Int) := by rw [e1, si_ne (by omega)]; exact h1
  refine ⟨⟨?_, ?_, stk_c h2 (fun i hi => ?_)⟩, fun k i n1 n2 => ?_⟩
  · rw [e2, si_eq, add_ti a5 o1 (by omega) (by omega)]; simp
  · rw [e2, si_ne (by omega), e1, q_nat h1, si_eq]
  · rw [e2, si_ne (by omega), e1, q_nat h1, si_ne (by omega)]
  · rw [e2, si_ne n1, e1, si_ne (fun h => n2 h.1)]
theorem hold_i {w : List Int32} {v : Int32} {M r : Mem} (h : RW6 w M) (lt : w.length < 40) (e : f_Law_hold v M = some r) : RW6 (v :: w) r ∧ ∀ k i, ¬ (k = 40 ∧ i = 6) → k ≠ 43 → r.1 k i = M.1 k i := by
  have z0 := o0
  have z40 : (40 : Int32).toInt = 40 := rfl
  obtain ⟨h1, h2⟩ := h
  unfold f_Law_hold at e
  rcases io e with ⟨c, e⟩ | ⟨c, e⟩
  · have := q_lt c; omega
  rcases io e with ⟨c, e⟩ | ⟨c, e⟩
  · have := q_le c; omega
  obtain ⟨_, e⟩ := io_n e
  obtain ⟨M1, e1, e⟩ := mo e
  obtain ⟨M2, e2, e⟩ := mo e
  obtain rfl := Option.some.inj e
  have a5 : (M1.1 40 6).toInt = (w.length : Int) := by rw [e1, si_ne (by omega)]; exact h1
  refine ⟨⟨?_, ?_, stk_c h2 (fun i hi => ?_)⟩, fun k i n1 n2 => ?_⟩
  · rw [e2, si_eq, add_ti a5 o1 (by omega) (by omega)]; simp
  · rw [e2, si_ne (by omega), e1, q_nat h1, si_eq]
  · rw [e2, si_ne (by omega), e1, q_nat h1, si_ne (by omega)]
  · rw [e2, si_ne n1, e1, si_ne (fun h => n2 h.1)]
def FSt (M N : Mem) : Prop := ∀ k i, ¬ (k = 40 ∧ (i = 5 ∨ i = 6)) → k ≠ 42 → k ≠ 43 → N.1 k i = M.1 k i
theorem settle_i {v : Int32} {K : Nat} (hv : v.toInt = (K : Int)) {o w : List Int32} {M r : Mem} (ho : RO5 o M) (hw : RW6 w M) (le : o.length + w.length ≤ 40) (e : f_Law_settle v M = some r) : RO5 (stl K o w).1 r ∧ RW6 (stl K o w).2 r ∧ FSt M r := by
  unfold f_Law_settle at e
  obtain ⟨y, ey, e⟩ := bo e
  have key : Sum.elim (fun x => RO5 (stl K o w).1 x ∧ RW6 (stl K o w).2 x ∧ FSt M x) (fun x => RO5 (stl K o w).1 x ∧ RW6 (stl K o w).2 x ∧ FSt M x) y := by
    refine it_r (I := fun s : Int32 × Mem => FSt M s.2 ∧ ∃ (o' w' : List Int32) (j : Nat), RO5 o' s.2 ∧ RW6 w' s.2 ∧ stl K o' w' = stl K o w ∧ o'.length + w'.length ≤ 40 ∧ s.1.toInt = (j : Int) ∧ j + w'.length = w.length) (Q := Sum.elim (fun x => RO5 (stl K o w).1 x ∧ RW6 (stl K o w).2 x ∧ FSt M x) (fun x => RO5 (stl K o w).1 x ∧ RW6 (stl K o w).2 x ∧ FSt M x)) ?_ ey ⟨fun _ _ _ _ _ => rfl, o, w, 0, ho, hw, rfl, le, rfl, by omega⟩
    rintro ⟨c0, N⟩ r ⟨fs, o', w', j, ho', hw', hs, le', hj, hjw⟩ e
    dsimp only at fs ho' hw' hj
    have z0 := o0
    have z1 := o1
    have z40 : (40 : Int32).toInt = 40 := rfl
    have stop : (stl K o' w' = (o', w')) → RO5 (stl K o w).1 N ∧ RW6 (stl K o w).2 N ∧ FSt M N := by
      intro h
      rw [h] at hs
      rw [← hs]
      exact ⟨ho', hw', fs⟩
    unfold lb_Law_settle_2 at e
    dsimp only at e
    rcases io e with ⟨c, e⟩ | ⟨c, e⟩
    · have := q_le c
      obtain rfl := Option.some.inj e
      have : w' = [] := List.length_eq_zero_iff.mp (by omega)
      subst this
      exact stop rfl
    have c1 := q_ng c
    rcases io e with ⟨c, e⟩ | ⟨c, e⟩
    · have := q_lt c
      obtain rfl := Option.some.inj e
      have : w' = [] := List.length_eq_zero_iff.mp (by have := hw'.1; omega)
      subst this
      exact stop rfl
    have c2 := q_nl c
    rcases io e with ⟨c, e⟩ | ⟨c, e⟩
    · have := q_lt c
      have := hw'.1
      omega
    obtain ⟨_, e⟩ := io_n e
    cases w' with
    | nil => have := hw'.1; simp at this; omega
    | cons s w2 =>
      have l6 : (N.1 40 6).toInt = ((w2.length + 1 : Nat) : Int) := hw'.1
      have le3 : o'.length + (w2.length + 1) ≤ 40 := le'
      have s6 : ((N.1 40 6) - (1 : Int32)).toInt = (w2.length : Int) := by rw [sub_ti l6 o1 (by omega) (by omega)]; omega
      have top : N.1 43 ((N.1 40 6) - (1 : Int32)).toNatClampNeg = s := by rw [q_nat s6]; exact hw'.2.1
      rw [top] at e
      rcases io e with ⟨c, e⟩ | ⟨c4, e⟩
      · obtain rfl := Option.some.inj e
        exact stop (by rw [stl, if_pos (.inl c)])
      obtain ⟨_, e⟩ := io_n e
      obtain ⟨x1, e1, e⟩ := bo e
      have hr := rank_i e1
      rcases io e with ⟨c, e⟩ | ⟨c, e⟩
      · have c5 := q_le c
        obtain ⟨M2, e2, e⟩ := mo e
        obtain ⟨_, e⟩ := io_n e
        obtain ⟨x3, e3, e⟩ := bo e
        obtain rfl := Option.some.inj e
        have m6 : (M2.1 40 6).toInt = (w2.length : Int) := by rw [e2, si_eq]; exact s6
        have m43 : ∀ i, M2.1 43 i = N.1 43 i := fun i => by rw [e2, si_ne (by omega)]
        have ms : M2.1 43 (M2.1 40 6).toNatClampNeg = s := by rw [q_nat m6, m43]; exact hw'.2.1
        rw [ms] at e3
        have mo5 : RO5 o' M2 := RO5_c ho' (by rw [e2, si_ne (by omega)]) (fun i => by rw [e2, si_ne (by omega)])
        have le2 : o'.length + (w2.length + 1) ≤ 40 := le'
        obtain ⟨ho3, fr3⟩ := emit_i mo5 (by omega) e3
        have hw3 : RW6 w2 x3 := ⟨by rw [fr3 40 6 (by omega) (by omega)]; exact m6, stk_c hw'.2.2 (fun i _ => by rw [fr3 43 i (by omega) (by omega), m43])⟩
        have hjw2 : j + (w2.length + 1) = w.length := hjw
        refine ⟨fun k i n1 n2 n3 => ?_, -s :: o', w2, j + 1, ho3, hw3, ?_, ?_, add_ti hj o1 (by omega) (by omega), by omega⟩
        · show x3.1 k i = _
          rw [fr3 k i (by omega) n2, e2, si_ne (by omega)]; exact fs k i n1 n2 n3
        · rw [← hs, show stl K o' (s :: w2) = stl K (-s :: o') w2 by rw [stl, if_neg (by rintro (h | h); exact c4 h; omega)]]
        · show o'.length + 1 + w2.length ≤ 40
          omega
      · have c5 := q_ng c
        obtain rfl := Option.some.inj e
        exact stop (by rw [stl, if_pos (.inr (by omega))])
  rcases y with y | y
  · replace e := el_l e
    obtain rfl := Option.some.inj e
    exact key
  · replace e := el_r e
    obtain rfl := Option.some.inj e
    exact key
/-- the machine's state as the class holds it -/
def RepL (S : MS) (M : Mem) : Prop := RO5 S.2.1.1 M ∧ RW6 S.2.1.2 M ∧ (M.1 40 8).toInt = (S.2.2.1 : Int) ∧ (∀ d, d ≤ 4 → bt (M.1 40 9) d = S.2.2.2.1 d) ∧ M.1 40 10 = if S.2.2.2.2 = true then 1 else 0
def WfL (S : MS) : Prop := S.2.1.1.length + S.2.1.2.length ≤ S.1 ∧ S.2.1.2.count 40 = S.2.2.1 ∧ (∀ s, s ∈ S.2.1.2 → s = 40 ∨ 2 ≤ rk s) ∧ S.2.2.1 ≤ 4
def FT (M N : Mem) : Prop := N.1 1 1 = M.1 1 1 ∧ ∀ i, N.1 2 i = M.1 2 i
theorem hold_40 {w : List Int32} (h : tp 1 w) (hc : 0 < w.count 40) (ha : ∀ s, s ∈ w → s = 40 ∨ 2 ≤ rk s) : ∃ w2, w = 40 :: w2 := by
  cases w with
  | nil => simp at hc
  | cons s w2 =>
    rcases h with h | h
    · exact ⟨w2, by rw [h]⟩
    · rcases ha s (List.mem_cons_self) with g | g
      · exact ⟨w2, by rw [g]⟩
      · omega
theorem behind_i {t : Nat → Int} {S : MS} {v : Int32} {M : Mem} {x : Int32 × Mem} (h : RepL S M) (wf : WfL S) (p40 : S.1 < 40) (hb : S.2.2.2.2 = true) (hv : v.toInt = t S.1) (r255 : -1 ≤ t S.1 ∧ t S.1 ≤ 255) (e : f_Law_readBehind v M = some x) : (x.1 = 0 ∧ rdB t S.1 S.2.1 S.2.2.1 S.2.2.2.1 = none ∧ x.2 = M) ∨ (x.1 = 1 ∧ ∃ S', rdB t S.1 S.2.1 S.2.2.1 S.2.2.2.1 = some S' ∧ S'.1 = S.1 + 1 ∧ RepL S' x.2 ∧ WfL S' ∧ FT M x.2) := by
  obtain ⟨ho, hw, h8, h9, h10⟩ := h
  obtain ⟨w1, w2, w3, w4⟩ := wf
  have z0 := o0
  have z2 := o2
  have z41 : (41 : Int32).toInt = 41 := rfl
  have sgv : sg t S.1 = v := sg_eq hv.symm
  unfold f_Law_readBehind at e
  have op : ¬ (t S.1 = 41 ∧ 0 < S.2.2.1) → j_Law_readBehind_40 v M = some x → (x.1 = 0 ∧ rdB t S.1 S.2.1 S.2.2.1 S.2.2.2.1 = none ∧ x.2 = M) ∨ (x.1 = 1 ∧ ∃ S', rdB t S.1 S.2.1 S.2.2.1 S.2.2.2.1 = some S' ∧ S'.1 = S.1 + 1 ∧ RepL S' x.2 ∧ WfL S' ∧ FT M x.2) := by
    intro n41 e
    unfold j_Law_readBehind_40 at e
    obtain ⟨x1, e1, e⟩ := bo e
    have hr := rank_i e1
    unfold rdB
    rw [if_neg n41, sgv]
    have bit := bt_shr (x := M.1 40 9) h8 (by omega)
    rw [h9 _ w4] at bit
    have go : rk v ≠ 0 → (rk v = 2 → S.2.2.2.1 S.2.2.1 = false) → j_Law_readBehind_70 v x1 M = some x → x.1 = 1 ∧ ∃ S', (if rk v = 0 ∨ (rk v = 2 ∧ S.2.2.2.1 S.2.2.1 = true) then none else some (S.1 + 1, ((stl (rk v) S.2.1.1 S.2.1.2).1, v :: (stl (rk v) S.2.1.1 S.2.1.2).2), S.2.2.1, (if rk v = 2 then up S.2.2.2.1 S.2.2.1 true else S.2.2.2.1), false)) = some S' ∧ S'.1 = S.1 + 1 ∧ RepL S' x.2 ∧ WfL S' ∧ FT M x.2 := by
      intro r0 r2 e
      rw [if_neg (by rintro (h | ⟨h, g⟩); exact r0 h; rw [r2 h] at g; cases g)]
      have e2 : ∃ M5, j_Law_readBehind_90 v x1 M5 = some x ∧ (∀ k i, ¬ (k = 40 ∧ i = 9) → M5.1 k i = M.1 k i) ∧ ∀ d, d ≤ 4 → bt (M5.1 40 9) d = (if rk v = 2 then up S.2.2.2.1 S.2.2.1 true else S.2.2.2.1) d := by
        unfold j_Law_readBehind_70 at e
        rcases io e with ⟨c, e⟩ | ⟨c, e⟩
        · have := q_eq c
          obtain ⟨M5, e5, e⟩ := mo e
          refine ⟨M5, e, fun k i n => by rw [e5, si_ne n], fun d hd => ?_⟩
          rw [e5, si_eq, bt_b1 _ h8 (by omega), h9 d hd, if_pos (by omega)]
          unfold up
          by_cases c : d = S.2.2.1
          · rw [if_pos c, decide_eq_true c, Bool.or_true]
          · rw [if_neg c, decide_eq_false c, Bool.or_false]
        · have := q_ne c
          exact ⟨M, e, fun _ _ _ => rfl, fun d hd => by rw [h9 d hd, if_neg (by omega)]⟩
      obtain ⟨M5, e, f5, b5⟩ := e2
      unfold j_Law_readBehind_90 at e
      obtain ⟨x2, e2, e⟩ := bo e
      obtain ⟨x3, e3, e⟩ := bo e
      obtain ⟨M4, e4, e⟩ := mo e
      obtain rfl := Option.some.inj e
      obtain ⟨s1, s2, s3⟩ := settle_i hr (RO5_c ho (f5 40 5 (by omega)) (fun i => f5 42 i (by omega))) (RW6_c hw (f5 40 6 (by omega)) (fun i => f5 43 i (by omega))) (by omega) e2
      have sl := stl_len (rk v) S.2.1.1 S.2.1.2
      obtain ⟨k1, k2⟩ := hold_i (v := v) s2 (by omega) e3
      refine ⟨rfl, _, rfl, rfl, ⟨?_, ?_, ?_, ?_, ?_⟩, ⟨?_, ?_, ?_, w4⟩, ?_, fun i => ?_⟩
      · exact RO5_c s1 (by show M4.1 40 5 = _; rw [e4, si_ne (by omega), k2 40 5 (by omega) (by omega)]) (fun i => by show M4.1 42 i = _; rw [e4, si_ne (by omega), k2 42 i (by omega) (by omega)])
      · exact RW6_c k1 (by show M4.1 40 6 = _; rw [e4, si_ne (by omega)]) (fun i => by show M4.1 43 i = _; rw [e4, si_ne (by omega)])
      · show (M4.1 40 8).toInt = _
        rw [e4, si_ne (by omega), k2 40 8 (by omega) (by omega), s3 40 8 (by omega) (by omega) (by omega), f5 40 8 (by omega)]; exact h8
      · intro d hd
        show bt (M4.1 40 9) d = _
        rw [e4, si_ne (by omega), k2 40 9 (by omega) (by omega), s3 40 9 (by omega) (by omega) (by omega)]; exact b5 d hd
      · show M4.1 40 10 = _
        rw [e4, si_eq]; rfl
      · show (stl (rk v) S.2.1.1 S.2.1.2).1.length + (v :: (stl (rk v) S.2.1.1 S.2.1.2).2).length ≤ S.1 + 1
        rw [List.length_cons]; omega
      · show (v :: (stl (rk v) S.2.1.1 S.2.1.2).2).count 40 = _
        rw [List.count_cons_of_ne (by rintro rfl; exact r0 (by decide)), stl_cnt]; exact w2
      · intro s hs
        rcases List.mem_cons.mp hs with h | h
        · subst h
          right
          have : rk s ≠ 1 := by unfold rk; repeat' split
                                all_goals omega
          omega
        · exact stl_all _ _ _ w3 s h
      · show M4.1 1 1 = _
        rw [e4, si_ne (by omega), k2 1 1 (by omega) (by omega), s3 1 1 (by omega) (by omega) (by omega), f5 1 1 (by omega)]
      · show M4.1 2 i = _
        rw [e4, si_ne (by omega), k2 2 i (by omega) (by omega), s3 2 i (by omega) (by omega) (by omega), f5 2 i (by omega)]
    rcases io e with ⟨c, e⟩ | ⟨c, e⟩
    · have := q_eq c
      obtain rfl := Option.some.inj e
      exact .inl ⟨rfl, by rw [if_pos (.inl (by omega))], rfl⟩
    have c1 := q_ne c
    rcases io e with ⟨c, e⟩ | ⟨c, e⟩
    · have c2 := q_eq c
      rw [bit] at e
      cases hc : S.2.2.2.1 S.2.2.1 with
      | true =>
        rw [hc, if_pos rfl, if_neg (by decide)] at e
        obtain rfl := Option.some.inj e
        exact .inl ⟨rfl, by rw [if_pos (.inr ⟨by omega, rfl⟩)], rfl⟩
      | false =>
        rw [hc, if_neg (show ¬ (false = true) by decide), if_pos rfl] at e
        rw [hc] at go
        exact .inr (go (by omega) (fun _ => rfl) e)
    · have c2 := q_ne c
      exact .inr (go (by omega) (fun h => by omega) e)
  rcases io e with ⟨c, e⟩ | ⟨c, e⟩
  · have c1 := q_eq c
    rcases io e with ⟨c, e⟩ | ⟨c, e⟩
    · have := q_le c
      exact op (by omega) e
    · have c2 := q_ng c
      obtain ⟨x10, e10, e⟩ := bo e
      obtain ⟨M11, e11, e⟩ := mo e
      obtain ⟨M12, e12, e⟩ := mo e
      obtain rfl := Option.some.inj e
      obtain ⟨s1, s2, s3⟩ := settle_i (K := 1) o1 ho hw (by omega) e10
      have sl := stl_len 1 S.2.1.1 S.2.1.2
      obtain ⟨w5, hw5⟩ := hold_40 (stl_tp 1 S.2.1.1 S.2.1.2) (by rw [stl_cnt, w2]; omega) (stl_all _ _ _ w3)
      have l5 : (stl 1 S.2.1.1 S.2.1.2).2.length = w5.length + 1 := by rw [hw5]; rfl
      refine .inr ⟨rfl, _, by unfold rdB; rw [if_pos ⟨by omega, by omega⟩], rfl, ⟨?_, ?_, ?_, fun d hd => ?_, ?_⟩, ⟨?_, ?_, fun s hs => ?_, ?_⟩, ?_, fun i => ?_⟩
      · exact RO5_c s1 (by show M12.1 40 5 = _; rw [e12, si_ne (by omega), e11, si_ne (by omega)]) (fun i => by show M12.1 42 i = _; rw [e12, si_ne (by omega), e11, si_ne (by omega)])
      · rw [hw5] at s2 ⊢
        have l6 : (x10.1 40 6).toInt = ((w5.length + 1 : Nat) : Int) := s2.1
        refine ⟨?_, stk_c s2.2.2 (fun i _ => ?_)⟩
        · show (M12.1 40 6).toInt = (w5.length : Int)
          rw [e12, si_ne (by omega), e11, si_eq, sub_ti l6 o1 (by omega) (by omega)]; omega
        · show M12.1 43 i = _
          rw [e12, si_ne (by omega), e11, si_ne (by omega)]
      · show (M12.1 40 8).toInt = ((S.2.2.1 - 1 : Nat) : Int)
        have m8 : (M11.1 40 8).toInt = (S.2.2.1 : Int) := by rw [e11, si_ne (by omega), s3 40 8 (by omega) (by omega) (by omega)]; exact h8
        rw [e12, si_eq, sub_ti m8 o1 (by omega) (by omega)]; omega
      · show bt (M12.1 40 9) d = _
        rw [e12, si_ne (by omega), e11, si_ne (by omega), s3 40 9 (by omega) (by omega) (by omega)]; exact h9 d hd
      · show M12.1 40 10 = _
        rw [e12, si_ne (by omega), e11, si_ne (by omega), s3 40 10 (by omega) (by omega) (by omega), h10, hb]
      · show (stl 1 S.2.1.1 S.2.1.2).1.length + (stl 1 S.2.1.1 S.2.1.2).2.tail.length ≤ S.1 + 1
        rw [List.length_tail]; omega
      · show (stl 1 S.2.1.1 S.2.1.2).2.tail.count 40 = S.2.2.1 - 1
        have k := stl_cnt 1 S.2.1.1 S.2.1.2
        rw [hw5] at k ⊢
        rw [List.count_cons_self, w2] at k
        show w5.count 40 = _
        omega
      · exact stl_all 1 S.2.1.1 S.2.1.2 w3 s (List.mem_of_mem_tail hs)
      · show S.2.2.1 - 1 ≤ 4; omega
      · show M12.1 1 1 = _
        rw [e12, si_ne (by omega), e11, si_ne (by omega), s3 1 1 (by omega) (by omega) (by omega)]
      · show M12.1 2 i = _
        rw [e12, si_ne (by omega), e11, si_ne (by omega), s3 2 i (by omega) (by omega) (by omega)]
  · have := q_ne c
    exact op (by omega) e
end
section
/-! the class reads a rule -/
theorem thing_c {t : Nat → Int} {S : MS} {v2 v3 : Int32} {M : Mem} {x : Int32 × Mem} (hJ : J M) (ht : t = cx M 40) (h : RepL S M) (wf : WfL S) (p40 : S.1 < 40) (hb : S.2.2.2.2 = false) (h2 : v2.toInt = (S.1 : Int)) (hv : v3.toInt = t S.1) (n1 : t S.1 ≠ -1) (e : f_Law_readThing v2 v3 M = some x) : (x.1 = 0 ∧ rdT t S.1 S.2.1 S.2.2.1 S.2.2.2.1 = none ∧ FT M x.2 ∧ RepL S x.2) ∨ (∃ S', rdT t S.1 S.2.1 S.2.2.1 S.2.2.2.1 = some S' ∧ x.1.toInt = (S'.1 : Int) - (S.1 : Int) ∧ S.1 < S'.1 ∧ S'.1 ≤ 40 ∧ RepL S' x.2 ∧ WfL S' ∧ FT M x.2) := by
  obtain ⟨ho, hw, h8, h9, h10⟩ := h
  obtain ⟨w1, w2, w3, w4⟩ := wf
  have z0 := o0
  have z4 := o4
  have z45 : (45 : Int32).toInt = 45 := rfl
  have z40 : (40 : Int32).toInt = 40 := rfl
  have rg := cx_b hJ 40 S.1
  rw [← ht] at rg
  have sgv : sg t S.1 = v3 := sg_eq hv.symm
  have l80 := (Jr_1_1 hJ).2
  have rest : t S.1 ≠ 45 → ¬ (t S.1 = 40 ∧ S.2.2.1 < 4) → j_Law_readThing_63 v2 v3 M = some x → (x.1 = 0 ∧ rdT t S.1 S.2.1 S.2.2.1 S.2.2.2.1 = none ∧ FT M x.2 ∧ RepL S x.2) ∨ (∃ S', rdT t S.1 S.2.1 S.2.2.1 S.2.2.2.1 = some S' ∧ x.1.toInt = (S'.1 : Int) - (S.1 : Int) ∧ S.1 < S'.1 ∧ S'.1 ≤ 40 ∧ RepL S' x.2 ∧ WfL S' ∧ FT M x.2) := by
    intro n45 n40 e
    unfold j_Law_readThing_63 at e
    obtain ⟨x1, e1, e⟩ := bo e
    obtain ⟨f1, d1, d2, d3, d4⟩ := dig_i (K := 40) (n := 3) l80 h2 z40 o3 (by omega) (by omega) e1
    rw [← ht] at d1 d2
    have ho1 : RO5 S.2.1.1 x1.2 := RO5_c ho (f1 40 5 (by omega)) (fun i => f1 42 i (by omega))
    have hw1 : RW6 S.2.1.2 x1.2 := RW6_c hw (f1 40 6 (by omega)) (fun i => f1 43 i (by omega))
    unfold rdT
    rw [if_neg n45, if_neg n40]
    rcases io e with ⟨c, e⟩ | ⟨c, e⟩
    · have c1 := q_le c
      have d0 : dgn t 3 S.1 = 0 := by omega
      rw [if_neg (by omega), sgv]
      obtain ⟨x2, e2, e⟩ := bo e
      rcases qual_i e2 with ⟨q1, q2⟩ | ⟨q1, q2⟩
      · rw [if_pos q1]
        rw [q2, if_neg (by decide)] at e
        obtain ⟨x3, e3, e⟩ := bo e
        obtain ⟨M4, e4, e⟩ := mo e
        obtain rfl := Option.some.inj e
        obtain ⟨k1, k2⟩ := emit_i ho1 (by omega) e3
        refine .inr ⟨_, rfl, (by show (1 : Int) = ((S.1 + 1 : Nat) : Int) - (S.1 : Int); omega), Nat.lt_succ_self _, (by show S.1 + 1 ≤ 40; omega), ⟨?_, ?_, ?_, fun d hd => ?_, ?_⟩, ⟨?_, w2, w3, w4⟩, ?_, fun i => ?_⟩
        · exact RO5_c k1 (by show M4.1 40 5 = _; rw [e4, si_ne (by omega)]) (fun i => by show M4.1 42 i = _; rw [e4, si_ne (by omega)])
        · exact RW6_c hw1 (by show M4.1 40 6 = _; rw [e4, si_ne (by omega), k2 40 6 (by omega) (by omega)]) (fun i => by show M4.1 43 i = _; rw [e4, si_ne (by omega), k2 43 i (by omega) (by omega)])
        · show (M4.1 40 8).toInt = _
          rw [e4, si_ne (by omega), k2 40 8 (by omega) (by omega), f1 40 8 (by omega)]; exact h8
        · show bt (M4.1 40 9) d = _
          rw [e4, si_ne (by omega), k2 40 9 (by omega) (by omega), f1 40 9 (by omega)]; exact h9 d hd
        · show M4.1 40 10 = _
          rw [e4, si_eq]; rfl
        · show (-v3 :: S.2.1.1).length + S.2.1.2.length ≤ S.1 + 1
          rw [List.length_cons]; omega
        · show M4.1 1 1 = _
          rw [e4, si_ne (by omega), k2 1 1 (by omega) (by omega), f1 1 1 (by omega)]
        · show M4.1 2 i = _
          rw [e4, si_ne (by omega), k2 2 i (by omega) (by omega), f1 2 i (by omega)]
      · rw [if_neg (by rw [q1]; decide)]
        rw [q2, if_pos rfl] at e
        obtain rfl := Option.some.inj e
        refine .inl ⟨rfl, rfl, ⟨f1 1 1 (by omega), fun i => f1 2 i (by omega)⟩, ho1, hw1, ?_, fun d hd => ?_, ?_⟩
        · show (x1.2.1 40 8).toInt = _
          rw [f1 40 8 (by omega)]; exact h8
        · show bt (x1.2.1 40 9) d = _
          rw [f1 40 9 (by omega)]; exact h9 d hd
        · show x1.2.1 40 10 = _
          rw [f1 40 10 (by omega)]; exact h10
    · have c1 := q_ng c
      have dp : 0 < dgn t 3 S.1 := by omega
      rw [if_pos dp]
      obtain ⟨x6, e6, e⟩ := bo e
      obtain ⟨M7, e7, e⟩ := mo e
      obtain rfl := Option.some.inj e
      obtain ⟨k1, k2⟩ := emit_i ho1 (by omega) e6
      rw [ofi d2]
      have lim : S.1 + dgn t 3 S.1 ≤ 40 := by
        have gen : ∀ (k p : Nat), p ≤ 40 → p + dgn t k p ≤ 40 := by
          intro k
          induction k with
          | zero => intro p hp; exact hp
          | succ k ih =>
            intro p hp
            by_cases c : 48 ≤ t p ∧ t p ≤ 57
            · have g := cx_b hJ 40 p
              rw [← ht] at g
              have := (g.2.2 (by omega)).2
              rw [show dgn t (k + 1) p = dgn t k (p + 1) + 1 by rw [dgn, if_pos c]]
              have := ih (p + 1) (by omega)
              omega
            · rw [show dgn t (k + 1) p = 0 by rw [dgn, if_neg c]]; omega
        exact gen 3 S.1 (by omega)
      refine .inr ⟨_, rfl, (by show x1.1.toInt = ((S.1 + dgn t 3 S.1 : Nat) : Int) - (S.1 : Int); omega), (by show S.1 < S.1 + dgn t 3 S.1; omega), lim, ⟨?_, ?_, ?_, fun d hd => ?_, ?_⟩, ⟨?_, w2, w3, w4⟩, ?_, fun i => ?_⟩
      · exact RO5_c k1 (by show M7.1 40 5 = _; rw [e7, si_ne (by omega)]) (fun i => by show M7.1 42 i = _; rw [e7, si_ne (by omega)])
      · exact RW6_c hw1 (by show M7.1 40 6 = _; rw [e7, si_ne (by omega), k2 40 6 (by omega) (by omega)]) (fun i => by show M7.1 43 i = _; rw [e7, si_ne (by omega), k2 43 i (by omega) (by omega)])
      · show (M7.1 40 8).toInt = _
        rw [e7, si_ne (by omega), k2 40 8 (by omega) (by omega), f1 40 8 (by omega)]; exact h8
      · show bt (M7.1 40 9) d = _
        rw [e7, si_ne (by omega), k2 40 9 (by omega) (by omega), f1 40 9 (by omega)]; exact h9 d hd
      · show M7.1 40 10 = _
        rw [e7, si_eq]; rfl
      · show (x1.2.1 1 2 :: S.2.1.1).length + S.2.1.2.length ≤ S.1 + dgn t 3 S.1
        rw [List.length_cons]; omega
      · show M7.1 1 1 = _
        rw [e7, si_ne (by omega), k2 1 1 (by omega) (by omega), f1 1 1 (by omega)]
      · show M7.1 2 i = _
        rw [e7, si_ne (by omega), k2 2 i (by omega) (by omega), f1 2 i (by omega)]
  unfold f_Law_readThing at e
  rcases io e with ⟨c, e⟩ | ⟨c, e⟩
  · have c1 := q_eq c
    obtain ⟨x14, e14, e⟩ := bo e
    obtain rfl := Option.some.inj e
    obtain ⟨k1, k2⟩ := hold_i (v := 256) hw (by omega) e14
    refine .inr ⟨(S.1 + 1, (S.2.1.1, 256 :: S.2.1.2), S.2.2.1, S.2.2.2.1, false), by unfold rdT; rw [if_pos (by omega)], (by show (1 : Int) = ((S.1 + 1 : Nat) : Int) - (S.1 : Int); omega), Nat.lt_succ_self _, (by show S.1 + 1 ≤ 40; omega), ⟨?_, k1, ?_, fun d hd => ?_, ?_⟩, ⟨?_, ?_, fun s hs => ?_, w4⟩, ?_, fun i => ?_⟩
    · exact RO5_c ho (k2 40 5 (by omega) (by omega)) (fun i => k2 42 i (by omega) (by omega))
    · show (x14.1 40 8).toInt = _
      rw [k2 40 8 (by omega) (by omega)]; exact h8
    · show bt (x14.1 40 9) d = _
      rw [k2 40 9 (by omega) (by omega)]; exact h9 d hd
    · show x14.1 40 10 = _
      rw [k2 40 10 (by omega) (by omega), h10, hb]
    · show S.2.1.1.length + (256 :: S.2.1.2).length ≤ S.1 + 1
      rw [List.length_cons]; omega
    · show (256 :: S.2.1.2).count 40 = _
      rw [List.count_cons_of_ne (by decide)]; exact w2
    · rcases List.mem_cons.mp hs with h | h
      · right; rw [h]; decide
      · exact w3 s h
    · exact k2 1 1 (by omega) (by omega)
    · exact k2 2 i (by omega) (by omega)
  have c1 := q_ne c
  rcases io e with ⟨c, e⟩ | ⟨c, e⟩
  · have c2 := q_eq c
    rcases io e with ⟨c, e⟩ | ⟨c, e⟩
    · have := q_le c
      exact rest (by omega) (by omega) e
    · have c3 := q_ng c
      obtain ⟨M9, e9, e⟩ := mo e
      obtain ⟨M10, e10, e⟩ := mo e
      obtain ⟨x11, e11, e⟩ := bo e
      obtain rfl := Option.some.inj e
      have m8 : (M9.1 40 8).toInt = ((S.2.2.1 + 1 : Nat) : Int) := by rw [e9, si_eq]; exact add_ti h8 o1 (by omega) (by omega)
      have f10 : ∀ k i, ¬ (k = 40 ∧ (i = 8 ∨ i = 9)) → M10.1 k i = M.1 k i := fun k i n => by rw [e10, si_ne (by omega), e9, si_ne (by omega)]
      obtain ⟨k1, k2⟩ := hold_i (v := v3) (RW6_c hw (f10 40 6 (by omega)) (fun i => f10 43 i (by omega))) (by omega) e11
      have v40 : v3 = 40 := Int32.toInt_inj.mp c2
      subst v40
      refine .inr ⟨(S.1 + 1, (S.2.1.1, 40 :: S.2.1.2), S.2.2.1 + 1, up S.2.2.2.1 (S.2.2.1 + 1) false, false), by unfold rdT; rw [if_neg (by omega), if_pos ⟨by omega, by omega⟩], (by show (1 : Int) = ((S.1 + 1 : Nat) : Int) - (S.1 : Int); omega), Nat.lt_succ_self _, (by show S.1 + 1 ≤ 40; omega), ⟨?_, k1, ?_, fun d hd => ?_, ?_⟩, ⟨?_, ?_, fun s hs => ?_, (by show S.2.2.1 + 1 ≤ 4; omega)⟩, ?_, fun i => ?_⟩
      · exact RO5_c ho (by show x11.1 40 5 = _; rw [k2 40 5 (by omega) (by omega), f10 40 5 (by omega)]) (fun i => by show x11.1 42 i = _; rw [k2 42 i (by omega) (by omega), f10 42 i (by omega)])
      · show (x11.1 40 8).toInt = _
        rw [k2 40 8 (by omega) (by omega), e10, si_ne (by omega)]; exact m8
      · show bt (x11.1 40 9) d = up S.2.2.2.1 (S.2.2.1 + 1) false d
        rw [k2 40 9 (by omega) (by omega), e10, si_eq, bt_b0 _ m8 (by omega) (by omega), e9, si_ne (by omega), h9 d hd]
        unfold up
        by_cases g : d = S.2.2.1 + 1
        · rw [if_pos g, decide_eq_true g]; simp
        · rw [if_neg g, decide_eq_false g]; simp
      · show x11.1 40 10 = _
        rw [k2 40 10 (by omega) (by omega), f10 40 10 (by omega), h10, hb]
      · show S.2.1.1.length + (40 :: S.2.1.2).length ≤ S.1 + 1
        rw [List.length_cons]; omega
      · show (40 :: S.2.1.2).count 40 = S.2.2.1 + 1
        rw [List.count_cons_self, w2]
      · rcases List.mem_cons.mp hs with h | h
        · left; exact h
        · exact w3 s h
      · show x11.1 1 1 = _
        rw [k2 1 1 (by omega) (by omega), f10 1 1 (by omega)]
      · show x11.1 2 i = _
        rw [k2 2 i (by omega) (by omega), f10 2 i (by omega)]
  · have c2 := q_ne c
    exact rest (by omega) (by omega) e
def S0 : MS := (0, ([], []), 0, fun _ => false, false)
/-- where the class stops -/
def StopC (A : Mem) (S : MS) (v : Int32) (N : Mem) : Prop := Rch (cx A 40) S0 S ∧ rdS (cx A 40) S = none ∧ RepL S N ∧ WfL S ∧ S.1 ≤ 40 ∧ v.toInt = (S.1 : Int) ∧ FT A N
theorem read_l {A : Mem} (hJ : J A) (hl : 0 < (A.1 1 1).toInt) (h0 : RepL S0 A) {x} (e : iter lb_Law_read_29 FU ((0 : Int32), (0 : Int32), A) = some x) : Sum.elim (fun _ => False) (Sum.elim (fun r : Int32 × Mem => ∃ S, StopC A S r.1 r.2 ∧ cx A 40 S.1 = -1) (fun r : Int32 × Mem => ∃ S, StopC A S r.1 r.2 ∧ cx A 40 S.1 ≠ -1)) x := by
  refine it_r (I := fun s : Int32 × Int32 × Mem => J s.2.2 ∧ FT A s.2.2 ∧ ∃ S, Rch (cx A 40) S0 S ∧ RepL S s.2.2 ∧ WfL S ∧ S.1 ≤ 40 ∧ s.1.toInt = (S.1 : Int) ∧ 0 ≤ s.2.1.toInt ∧ s.2.1.toInt ≤ (S.1 : Int)) (Q := Sum.elim (fun _ => False) (Sum.elim (fun r : Int32 × Mem => ∃ S, StopC A S r.1 r.2 ∧ cx A 40 S.1 = -1) (fun r : Int32 × Mem => ∃ S, StopC A S r.1 r.2 ∧ cx A 40 S.1 ≠ -1))) ?_ e ⟨hJ, ⟨rfl, fun _ => rfl⟩, S0, Rch_r, h0, ⟨Nat.le_refl _, rfl, (fun s hs => by cases hs), (by show 0 ≤ 4; omega)⟩, (by show 0 ≤ 40; omega), rfl, (by show (0 : Int) ≤ (0 : Int32).toInt; decide), (by show (0 : Int32).toInt ≤ ((0 : Nat) : Int); decide)⟩
  rintro ⟨p, i, N⟩ r ⟨jN, ft, S, hS, rep, wf, l40, hp, hi0, hi⟩ e
  dsimp only at jN ft rep hp hi0 hi
  have z40 : (40 : Int32).toInt = 40 := rfl
  have z0 := o0
  have cxe : cx N 40 = cx A 40 := cx_c ft.1 ft.2 40
  unfold lb_Law_read_29 at e
  dsimp only at e
  rcases io e with ⟨c, e⟩ | ⟨c, e⟩
  · have := q_lt c; omega
  rcases io e with ⟨c, e⟩ | ⟨c, e⟩
  · have := q_le c
    rw [ft.1] at this
    omega
  obtain ⟨x6, e6, e⟩ := bo e
  have h6 := at_i hp z40 (Jr_1_1 jN).2 e6
  rw [cxe] at h6
  have rg := cx_b hJ 40 S.1
  rcases io e with ⟨c, e⟩ | ⟨c, e⟩
  · obtain rfl := Option.some.inj e
    have := q_eq c
    rw [om] at this
    exact ⟨S, ⟨hS, by unfold rdS; rw [if_pos (by omega)], rep, wf, l40, hp, ft⟩, by omega⟩
  have c1 := q_ne c
  rw [om] at c1
  have n1 : cx A 40 S.1 ≠ -1 := by omega
  have p40 := (rg.2.2 n1).2
  have nx : ∀ (x7 : Int32 × Mem), J x7.2 → FT N x7.2 → ((x7.1 = 0 ∧ rdS (cx A 40) S = none ∧ RepL S x7.2) ∨ (∃ S', rdS (cx A 40) S = some S' ∧ x7.1.toInt = (S'.1 : Int) - (S.1 : Int) ∧ S.1 < S'.1 ∧ S'.1 ≤ 40 ∧ RepL S' x7.2 ∧ WfL S')) → j_Law_read_108_29 p i x7.1 x7.2 = some r → Sum.elim (fun s : Int32 × Int32 × Mem => J s.2.2 ∧ FT A s.2.2 ∧ ∃ S, Rch (cx A 40) S0 S ∧ RepL S s.2.2 ∧ WfL S ∧ S.1 ≤ 40 ∧ s.1.toInt = (S.1 : Int) ∧ 0 ≤ s.2.1.toInt ∧ s.2.1.toInt ≤ (S.1 : Int)) (Sum.elim (fun _ => False) (Sum.elim (fun r : Int32 × Mem => ∃ S, StopC A S r.1 r.2 ∧ cx A 40 S.1 = -1) (fun r : Int32 × Mem => ∃ S, StopC A S r.1 r.2 ∧ cx A 40 S.1 ≠ -1))) r := by
    intro x7 j7 f7 h7 e
    have ft7 : FT A x7.2 := ⟨f7.1.trans ft.1, fun k => (f7.2 k).trans (ft.2 k)⟩
    unfold j_Law_read_108_29 at e
    rcases io e with ⟨c, e⟩ | ⟨c, e⟩
    · obtain rfl := Option.some.inj e
      rcases h7 with ⟨_, a, b⟩ | ⟨S', _, a, b, _⟩
      · exact ⟨S, ⟨hS, a, b, wf, l40, hp, ft7⟩, n1⟩
      · rw [c, o0] at a; omega
    · obtain rfl := Option.some.inj e
      rcases h7 with ⟨a, _⟩ | ⟨S', a, b, c7, d, f, g⟩
      · exact absurd a c
      · refine ⟨j7, ft7, S', Rch_t hS (Rch_s a Rch_r), f, g, d, ?_, ?_, ?_⟩
        · show (p + x7.1).toInt = _
          rw [add_ti hp b (by omega) (by omega)]; omega
        · show 0 ≤ (i + (1 : Int32)).toInt
          rw [add_ti rfl o1 (by omega) (by omega)]; omega
        · show (i + (1 : Int32)).toInt ≤ _
          rw [add_ti rfl o1 (by omega) (by omega)]; omega
  obtain ⟨ho, hw, h8, h9, h10⟩ := rep
  rcases io e with ⟨c, e⟩ | ⟨c, e⟩
  · have hb : S.2.2.2.2 = false := by
      cases hh : S.2.2.2.2 with
      | false => rfl
      | true => rw [h10, hh, if_pos rfl] at c; cases c
    obtain ⟨x7, e7, e⟩ := bo e
    obtain ⟨r7, er7, j7, _⟩ := sf_Law_readThing p x6 N jN
    rw [e7] at er7
    obtain rfl := Option.some.inj er7
    have k := thing_c (t := cx A 40) jN cxe.symm ⟨ho, hw, h8, h9, h10⟩ wf p40 hb hp h6 n1 e7
    have rs : rdS (cx A 40) S = rdT (cx A 40) S.1 S.2.1 S.2.2.1 S.2.2.2.1 := by unfold rdS; rw [if_neg n1, if_neg (by rw [hb]; decide)]
    rcases k with ⟨a, b, c, d⟩ | ⟨S', a, b, c, d, f, g, h⟩
    · exact nx x7 j7 c (.inl ⟨a, rs.trans b, d⟩) e
    · exact nx x7 j7 h (.inr ⟨S', rs.trans a, b, c, d, f, g⟩) e
  · have hb : S.2.2.2.2 = true := by
      cases hh : S.2.2.2.2 with
      | true => rfl
      | false => rw [h10, hh, if_neg (by decide)] at c; exact absurd rfl c
    obtain ⟨x7, e7, e⟩ := bo e
    obtain ⟨r7, er7, j7, _⟩ := sf_Law_readBehind x6 N jN
    rw [e7] at er7
    obtain rfl := Option.some.inj er7
    have k := behind_i (t := cx A 40) ⟨ho, hw, h8, h9, h10⟩ wf p40 hb h6 ⟨rg.1, rg.2.1⟩ e7
    have rs : rdS (cx A 40) S = rdB (cx A 40) S.1 S.2.1 S.2.2.1 S.2.2.2.1 := by unfold rdS; rw [if_neg n1, if_pos hb]
    rcases k with ⟨a, b, c⟩ | ⟨a, S', b, c, d, f, g⟩
    · exact nx x7 j7 (by rw [c]; exact ⟨rfl, fun _ => rfl⟩) (.inl ⟨a, rs.trans b, by rw [c]; exact ⟨ho, hw, h8, h9, h10⟩⟩) e
    · exact nx x7 j7 g (.inr ⟨S', rs.trans b, by rw [a, o1, c]; omega, by omega, by omega, d, f⟩) e
end
section
/-! rule(): both sides -/
def Acc (t : Nat → Int) (l : Int) (S : MS) : Prop := t S.1 = -1 ∧ l ≤ 40 ∧ S.2.2.2.2 = true ∧ S.2.2.1 = 0
def m41 : Nat := 2582249878086908589620923160406483683539745757195341570985008645646356223034028864927086105292947816664326958941355376639
theorem r130_i {A N : Mem} {S : MS} (rep : RepL S N) (wf : WfL S) (l40 : S.1 ≤ 40) {x : Int32 × Mem} (e : j_Law_read_130 N = some x) : x.1 = 0 ∧ (x.2.1 40 4).toInt = ((stl 0 S.2.1.1 S.2.1.2).1.length : Int) ∧ stk (x.2.1 41) (stl 0 S.2.1.1 S.2.1.2).1 := by
  unfold j_Law_read_130 at e
  obtain ⟨x16, e16, e⟩ := bo e
  obtain ⟨M17, e17, e⟩ := mo e
  obtain ⟨M18, e18, e⟩ := mo e
  obtain rfl := Option.some.inj e
  obtain ⟨s1, s2, s3⟩ := settle_i (K := 0) o0 rep.1 rep.2.1 (by have := wf.1; omega) e16
  have sl := stl_len 0 S.2.1.1 S.2.1.2
  have w1 := wf.1
  refine ⟨rfl, ?_, stk_c s1.2 (fun i hi => ?_)⟩
  · show (M18.1 40 4).toInt = _
    rw [e18, si_eq, e17]
    have : (s_c x16 42 41 0 0 40).1 40 5 = x16.1 40 5 := by simp [s_c]
    rw [this]; exact s1.1
  · show M18.1 41 i = _
    rw [e18, si_ne (by omega), e17]
    have : i < 40 := by omega
    simp [s_c, va_cpy, this]
theorem rule_c {A : Mem} (hJ : J A) {x} (e : f_Top_rule A = some x) : ((A.1 1 1).toInt = 0 ∧ x.1 = 0 ∧ (x.2.1 40 4).toInt = 0) ∨ (0 < (A.1 1 1).toInt ∧ ∃ S, Rch (cx A 40) S0 S ∧ rdS (cx A 40) S = none ∧ S.1 ≤ 40 ∧ ((Acc (cx A 40) (A.1 1 1).toInt S ∧ x.1 = 0 ∧ (x.2.1 40 4).toInt = ((stl 0 S.2.1.1 S.2.1.2).1.length : Int) ∧ stk (x.2.1 41) (stl 0 S.2.1.1 S.2.1.2).1) ∨ (¬ Acc (cx A 40) (A.1 1 1).toInt S ∧ x.1.toInt = -1 - (S.1 : Int) ∧ x.2.1 40 4 = A.1 40 4 ∧ ∀ i, x.2.1 41 i = A.1 41 i))) := by
  have z0 := o0
  have z40 : (40 : Int32).toInt = 40 := rfl
  unfold f_Top_rule at e
  obtain ⟨x1, e1, e⟩ := bo e
  obtain ⟨M2, e2, e⟩ := mo e
  have e := Option.some.inj e
  subst e
  unfold f_Law_read at e1
  obtain ⟨N1, n1, e1⟩ := mo e1
  obtain ⟨N2, n2, e1⟩ := mo e1
  obtain ⟨N3, n3, e1⟩ := mo e1
  obtain ⟨N4, n4, e1⟩ := mo e1
  obtain ⟨N5, n5, e1⟩ := mo e1
  have j1 : J N1 := by rw [n1]; exact Jw_any ok_40 hJ 5 _
  have j2 : J N2 := by rw [n2]; exact Jw_any ok_40 j1 6 _
  have j3 : J N3 := by rw [n3]; exact Jw_any ok_40 j2 8 _
  have j4 : J N4 := by rw [n4]; exact Jw_any ok_40 j3 9 _
  have j5 : J N5 := by rw [n5]; exact Jw_any ok_40 j4 10 _
  have f5 : ∀ k i, ¬ (k = 40 ∧ (i = 5 ∨ i = 6 ∨ i = 8 ∨ i = 9 ∨ i = 10)) → N5.1 k i = A.1 k i := fun k i n => by
    rw [n5, si_ne (by omega), n4, si_ne (by omega), n3, si_ne (by omega), n2, si_ne (by omega), n1, si_ne (by omega)]
  have rep : RepL S0 N5 := by
    refine ⟨⟨?_, trivial⟩, ⟨?_, trivial⟩, ?_, fun d _ => ?_, ?_⟩
    · rw [n5, si_ne (by omega), n4, si_ne (by omega), n3, si_ne (by omega), n2, si_ne (by omega), n1, si_eq]; rfl
    · rw [n5, si_ne (by omega), n4, si_ne (by omega), n3, si_ne (by omega), n2, si_eq]; rfl
    · rw [n5, si_ne (by omega), n4, si_ne (by omega), n3, si_eq]; rfl
    · rw [n5, si_ne (by omega), n4, si_eq]; exact bt_0 d
    · rw [n5, si_eq]; rfl
  have wf0 : WfL S0 := ⟨Nat.le_refl _, rfl, (fun s hs => by cases hs), (by show 0 ≤ 4; omega)⟩
  have l11 : N5.1 1 1 = A.1 1 1 := f5 1 1 (by omega)
  have cxe : cx N5 40 = cx A 40 := cx_c l11 (fun i => f5 2 i (by omega)) 40
  obtain ⟨y, ey, e1⟩ := bo e1
  have ln := Jr_1_1 hJ
  have g4 : M2.1 40 4 = x1.2.1 40 4 := by rw [e2, si_ne (by omega)]
  have g41 : ∀ i, M2.1 41 i = x1.2.1 41 i := fun i => by rw [e2, si_ne (by omega)]
  rcases Int.lt_or_le 0 (A.1 1 1).toInt with hl | hl
  · right
    refine ⟨hl, ?_⟩
    have q := read_l j5 (by rw [l11]; exact hl) rep ey
    have fr := it_r (I := fun s : Int32 × Int32 × Mem => Fx m41 [] N5 s.2.2) (Q := Sum.elim (fun r : Mem => Fx m41 [] N5 r) (Sum.elim (fun r : Int32 × Mem => Fx m41 [] N5 r.2) (fun r : Int32 × Mem => Fx m41 [] N5 r.2))) (fun s r hs er => wl_Law_read_29 s (by decide +kernel) hs er) ey Fx_r
    rw [cxe] at q
    rcases y with y | y | y
    · exact q.elim
    · obtain ⟨S, ⟨k1, k2, k3, k4, k5, k6, k7⟩, tm⟩ := q
      rw [cxe] at k1 k2
      have fr : Fx m41 [] N5 y.2 := fr
      replace e1 := el_l (el_r e1)
      have l11' : y.2.1 1 1 = A.1 1 1 := k7.1.trans l11
      have ref : ¬ Acc (cx A 40) (A.1 1 1).toInt S → some (((-1 : Int32) - y.1), y.2) = some x1 → x1.1.toInt = -1 - (S.1 : Int) ∧ M2.1 40 4 = A.1 40 4 ∧ ∀ i, M2.1 41 i = A.1 41 i := by
        intro _ e1
        have e1 := Option.some.inj e1
        rw [← e1] at g4 g41
        rw [← e1]
        refine ⟨sub_ti om k6 (by omega) (by omega), ?_, fun i => ?_⟩
        · rw [g4]; show y.2.1 40 4 = _
          rw [(fr 40 4 (by decide +kernel) (by simp)).1, f5 40 4 (by omega)]
        · rw [g41]; show y.2.1 41 i = _
          rw [(fr 41 i (by rw [show sl 41 i = 41 from rfl]; decide +kernel) (by simp)).1, f5 41 i (by omega)]
      refine ⟨S, k1, k2, k5, ?_⟩
      rcases io e1 with ⟨c, e1⟩ | ⟨c, e1⟩
      · have := q_lt c
        rw [l11'] at this
        have na : ¬ Acc (cx A 40) (A.1 1 1).toInt S := fun h => by have := h.2.1; omega
        exact .inr ⟨na, ref na e1⟩
      have c1 := q_nl c
      rw [l11'] at c1
      rcases io e1 with ⟨c, e1⟩ | ⟨c, e1⟩
      · have na : ¬ Acc (cx A 40) (A.1 1 1).toInt S := fun h => by
          have h10 := k3.2.2.2.2
          rw [h.2.2.1, if_pos rfl] at h10
          rw [h10] at c; cases c
        exact .inr ⟨na, ref na e1⟩
      have hb : S.2.2.2.2 = true := by
        cases hh : S.2.2.2.2 with
        | true => rfl
        | false =>
          have h10 := k3.2.2.2.2
          rw [hh, if_neg (by decide)] at h10
          exact absurd h10 c
      rcases io e1 with ⟨c, e1⟩ | ⟨c, e1⟩
      · have c3 := q_le c
        have h8 := k3.2.2.1
        obtain ⟨a1, a2, a3⟩ := r130_i (A := A) k3 k4 k5 e1
        refine .inl ⟨⟨tm, by omega, hb, by omega⟩, a1, ?_, stk_c a3 (fun i _ => g41 i)⟩
        show (M2.1 40 4).toInt = _
        rw [g4]; exact a2
      · have c3 := q_ng c
        have h8 := k3.2.2.1
        have na : ¬ Acc (cx A 40) (A.1 1 1).toInt S := fun h => by have := h.2.2.2; omega
        exact .inr ⟨na, ref na e1⟩
    · obtain ⟨S, ⟨k1, k2, k3, k4, k5, k6, k7⟩, tm⟩ := q
      rw [cxe] at k1 k2
      have fr : Fx m41 [] N5 y.2 := fr
      replace e1 := el_r (el_r e1)
      have e1 := Option.some.inj e1
      rw [← e1] at g4 g41
      refine ⟨S, k1, k2, k5, .inr ⟨fun h => tm h.1, ?_, ?_, fun i => ?_⟩⟩
      · rw [← e1]; exact sub_ti om k6 (by omega) (by omega)
      · show M2.1 40 4 = _
        rw [g4]; show y.2.1 40 4 = _
        rw [(fr 40 4 (by decide +kernel) (by simp)).1, f5 40 4 (by omega)]
      · show M2.1 41 i = _
        rw [g41]; show y.2.1 41 i = _
        rw [(fr 41 i (by rw [show sl 41 i = 41 from rfl]; decide +kernel) (by simp)).1, f5 41 i (by omega)]
  · left
    have yq : y = Sum.inl N5 := by
      refine it_r (I := fun s : Int32 × Int32 × Mem => s = ((0 : Int32), (0 : Int32), N5)) (Q := fun x => x = Sum.inl N5) ?_ ey rfl
      rintro s r rfl e
      unfold lb_Law_read_29 at e
      dsimp only at e
      rw [if_neg (by decide), if_pos (lei.mpr (by rw [l11]; omega))] at e
      obtain rfl := Option.some.inj e
      rfl
    subst yq
    replace e1 := el_l e1
    obtain ⟨a1, a2, a3⟩ := r130_i (A := A) rep wf0 (by show 0 ≤ 40; omega) e1
    refine ⟨by omega, a1, ?_⟩
    show (M2.1 40 4).toInt = 0
    rw [g4, a2]; rfl
theorem fol_st {t : Nat → Int} {S : MS} (r : -1 ≤ t S.1 ∧ t S.1 ≤ 255) (hb : S.2.2.2.2 = true) (hd : S.2.2.1 = 0) (kf : Fol 0 t S) : rdS t S = none := by
  unfold rdS rdB
  by_cases m1 : t S.1 = -1
  · rw [if_pos m1]
  · rw [if_neg m1, if_pos hb, if_neg (by omega)]
    by_cases m2 : t S.1 = 60 ∨ t S.1 = 61 ∨ t S.1 = 62
    · have r2 : rk (sg t S.1) = 2 := by
        rcases m2 with h | h | h
        · rw [sg_eq (c := 60) h]; decide
        · rw [sg_eq (c := 61) h]; decide
        · rw [sg_eq (c := 62) h]; decide
      rw [if_pos (.inr ⟨r2, kf.2.2 rfl m2⟩)]
    · rw [if_pos (.inl (rk_0 r (kf.1 (by omega)) (kf.2.1 (by omega)) (by omega)))]
theorem cpy_r {A : Mem} {v : Int32} {n : Nat} (hv : v.toInt = (n : Int)) {x} (e : iter (lb_Mod_rule_73 v) FU ((0 : Int32), A) = some x) : (∀ k i, k ≠ 172 → x.1 k i = A.1 k i) ∧ ∀ i, i < n → x.1 172 i = vp_nar .byte (A.1 167 i) := by
  refine it_r (I := fun s : Int32 × Mem => (∀ k i, k ≠ 172 → s.2.1 k i = A.1 k i) ∧ ∃ p : Nat, s.1.toInt = (p : Int) ∧ ∀ i, i < p → s.2.1 172 i = vp_nar .byte (A.1 167 i)) (Q := fun x : Mem => (∀ k i, k ≠ 172 → x.1 k i = A.1 k i) ∧ ∀ i, i < n → x.1 172 i = vp_nar .byte (A.1 167 i)) ?_ e ⟨fun _ _ _ => rfl, 0, rfl, fun i hi => absurd hi (by omega)⟩
  rintro ⟨k, N⟩ r ⟨fx, p, hp, hk⟩ e
  dsimp only at fx hp hk
  unfold lb_Mod_rule_73 at e
  dsimp only at e
  rcases io e with ⟨c, e⟩ | ⟨c, e⟩
  · have := q_le c
    obtain rfl := Option.some.inj e
    exact ⟨fx, fun i hi => hk i (by omega)⟩
  have c1 := q_ng c
  obtain ⟨c2, e⟩ := io_n e
  have c2 := q_in c2
  obtain ⟨_, e⟩ := io_n e
  obtain ⟨M5, e5, e⟩ := mo e
  obtain rfl := Option.some.inj e
  refine ⟨fun a i n => ?_, p + 1, add_ti hp o1 (by omega) (by omega), fun i hi => ?_⟩
  · show M5.1 a i = _
    rw [e5, si_ne (fun h => n h.1)]; exact fx a i n
  · show M5.1 172 i = _
    rw [e5, q_nat hp]
    rcases Nat.lt_or_ge i p with g | g
    · rw [si_ne (by omega)]; exact hk i g
    · have : i = p := by omega
      subst this
      rw [si_eq, fx 167 i (by omega)]
/-- the text that rule() reads -/
def rx (A : Mem) (K p : Nat) : Int := if (p : Int) < (A.1 162 10).toInt ∧ p < K then (A.1 167 p).toInt % 256 else -1
theorem rule_r {A : Mem} (hl : 0 ≤ (A.1 162 10).toInt ∧ (A.1 162 10).toInt ≤ 80) (hb : ∀ p : Nat, (p : Int) < (A.1 162 10).toInt → -128 ≤ (A.1 167 p).toInt ∧ (A.1 167 p).toInt ≤ 127) {r} (e : f_Mod_rule A = some r) : ((A.1 162 10).toInt = 0 ∧ r.1 = 0 ∧ (r.2.1 162 23).toInt = 0) ∨ (0 < (A.1 162 10).toInt ∧ ∃ S, Rch (rx A 40) S0 S ∧ rdS (rx A 40) S = none ∧ (((A.1 162 10).toInt ≤ (S.1 : Int) ∧ S.2.2.2.2 = true ∧ S.2.2.1 = 0 ∧ r.1 = 0 ∧ r.2.1 162 23 = A.1 162 10 ∧ ∀ i : Nat, (i : Int) < (A.1 162 10).toInt → r.2.1 172 i = vp_nar .byte (A.1 167 i)) ∨ (((S.1 : Int) < (A.1 162 10).toInt ∨ ¬ (S.2.2.2.2 = true ∧ S.2.2.1 = 0)) ∧ r.1.toInt = -1 - (S.1 : Int) ∧ r.2.1 162 23 = A.1 162 23 ∧ ∀ i, r.2.1 172 i = A.1 172 i))) := by
  have z0 := o0
  have z40 : (40 : Int32).toInt = 40 := rfl
  unfold f_Mod_rule at e
  obtain ⟨M1, e1, ea⟩ := mo e
  obtain ⟨x2, e2, eb⟩ := bo ea
  obtain ⟨M3, e3, ec⟩ := mo eb
  obtain ⟨M4, e4, ed⟩ := mo ec
  unfold f_Mod_begin at e2
  obtain ⟨_, e2⟩ := io_n e2
  obtain ⟨N1, n1, e2⟩ := mo e2
  obtain ⟨N2, n2, e2⟩ := mo e2
  obtain ⟨N3, n3, e2⟩ := mo e2
  obtain ⟨N4, n4, e2⟩ := mo e2
  obtain ⟨N5, n5, e2⟩ := mo e2
  have e2 := Option.some.inj e2
  subst e2
  have t1 : M1.1 162 10 = A.1 162 10 := by rw [e1, si_ne (by omega)]
  rw [t1] at ed
  have q1 : N1.1 = M1.1 := by rw [n1]; rfl
  have q4 : M4.1 = M3.1 := by rw [e4]; rfl
  have hf : ∀ k i, ¬ (k = 162 ∧ (i = 10 ∨ i = 13 ∨ i = 15 ∨ i = 16 ∨ i = 17 ∨ i = 18)) → M4.1 k i = A.1 k i := by
    intro k i h
    rw [q4, e3, si_ne (by omega), n5, si_ne (by omega), n4, si_ne (by omega), n3, si_ne (by omega), n2, si_ne (by omega), q1, e1, si_ne (by omega)]
  have b15 : M4.1 162 15 = A.1 162 10 := by
    rw [q4, e3, si_ne (by omega), n5, si_ne (by omega), n4, si_ne (by omega), n3, si_ne (by omega), n2, si_eq, t1]
  have b16 : (M4.1 162 16).toInt = 40 := by
    rw [q4, e3, si_ne (by omega), n5, si_ne (by omega), n4, si_ne (by omega), n3, si_eq]; rfl
  have b17 : (M4.1 162 17).toInt = 0 := by
    rw [q4, e3, si_ne (by omega), n5, si_ne (by omega), n4, si_eq]; rfl
  have b18 : (M4.1 162 18).toInt = -1 := by
    rw [q4, e3, si_ne (by omega), n5, si_eq]; rfl
  have b24 : M4.2.2 162 24 = none := by rw [e4]; simp [s_q]
  have b14 : M4.2.2 162 14 = some 167 := by
    rw [e4]; simp only [s_q]
    rw [if_neg (by omega), e3]; show N5.2.2 162 14 = _
    rw [n5]; show N4.2.2 162 14 = _
    rw [n4]; show N3.2.2 162 14 = _
    rw [n3]; show N2.2.2 162 14 = _
    rw [n2]; show N1.2.2 162 14 = _
    rw [n1]; simp [s_q]
  have h167 : ∀ i, M4.1 167 i = A.1 167 i := fun i => hf 167 i (by omega)
  obtain ⟨n, hn⟩ : ∃ n : Nat, (A.1 162 10).toInt = (n : Int) := ⟨(A.1 162 10).toInt.toNat, by omega⟩
  rcases io ed with ⟨c, e⟩ | ⟨c, e⟩
  · have c1 := q_le c
    left
    obtain ⟨x7, e7, e⟩ := bo e
    obtain ⟨M8, e8, e⟩ := mo e
    obtain rfl := Option.some.inj e
    refine ⟨by omega, rfl, ?_⟩
    show (M8.1 162 23).toInt = 0
    rw [e8, si_eq]; omega
  · have c1 := q_ng c
    right
    refine ⟨by omega, ?_⟩
    obtain ⟨x9, e9, e⟩ := bo e
    have hB : Rd (rx A 40) M4 := by
      refine ⟨167, b14, .inl rfl, by rw [b15]; exact hl.2, fun p => ?_⟩
      rw [b15, b16, h167]
      refine ⟨?_, fun h _ => hb p h⟩
      unfold rx
      by_cases g : (p : Int) < (A.1 162 10).toInt ∧ p < 40
      · rw [if_pos g, if_pos (by omega)]
      · rw [if_neg g, if_neg (by omega)]
    have hE : HE (fun _ => 0) M4 := by
      intro rc v N r _ fx e
      unfold j_Mod_thing_142 at e
      obtain ⟨M5, e5, e⟩ := mo e
      have h24 : M5.2.2 162 24 = none := by
        rw [e5]; show N.2.2 162 24 = _
        rw [(fx 162 24 (by decide +kernel) (by simp)).2.2]; exact b24
      rw [if_pos h24] at e
      obtain rfl := Option.some.inj e
      rfl
    have pre : Pre (rx A 40) 0 S0 M4 0 := ⟨hB, b18, b17, rfl, rfl, (by show 0 ≤ 4; omega), (by show 0 ≤ 80; omega), fun _ => trivial, fun _ => rfl⟩
    obtain ⟨f9, g⟩ := expr_i hE hB 100 0 0 M4 x9 S0 (by omega) Fx_r pre e9
    have c23 : x9.2.1 162 23 = A.1 162 23 := by rw [(f9 162 23 (by decide +kernel) (by simp)).1]; exact hf 162 23 (by omega)
    have c172 : ∀ i, x9.2.1 172 i = A.1 172 i := fun i => by rw [(f9 172 i (by rw [show sl 172 i = 172 from rfl]; decide +kernel) (by simp)).1]; exact hf 172 i (by omega)
    have c167 : ∀ i, x9.2.1 167 i = A.1 167 i := fun i => by rw [(f9 167 i (by rw [show sl 167 i = 167 from rfl]; decide +kernel) (by simp)).1]; exact h167 i
    have ref : ∀ {N : Mem} {p : Nat}, p ≤ 80 → (N.1 162 18).toInt = (p : Int) → N.1 162 23 = A.1 162 23 → (∀ i, N.1 172 i = A.1 172 i) → j_Mod_rule_57 (A.1 162 10) N = some r → r.1.toInt = -1 - (p : Int) ∧ r.2.1 162 23 = A.1 162 23 ∧ ∀ i, r.2.1 172 i = A.1 172 i := by
      intro N p p80 hw h23 h172 e
      unfold j_Mod_rule_57 at e
      obtain ⟨x10, e10, e⟩ := bo e
      rw [if_pos (not_fine (by omega) e10)] at e
      obtain rfl := Option.some.inj e
      exact ⟨sub_ti om hw (by omega) (by omega), h23, h172⟩
    rcases g with ⟨S', h, kf⟩ | ⟨S', k1, k2, k3, s80, k4⟩
    · have hN := Rd_fx okE f9 hB
      have rg := Rd_rng hN S'.1
      have d0 : S'.2.2.1 = 0 := h.2.2.2.2.1
      have hb' := h.2.2.2.1
      refine ⟨S', h.2.2.1, fol_st ⟨rg.1, rg.2.1⟩ hb' d0 kf, ?_⟩
      rcases io e with ⟨c, e⟩ | ⟨c, e⟩
      · have c2 := q_le c
        rw [h.2.1] at c2
        left
        unfold j_Mod_rule_57 at e
        obtain ⟨x10, e10, e⟩ := bo e
        rw [if_neg (is_fine h.1 e10)] at e
        obtain ⟨x11, e11, e⟩ := bo e
        obtain ⟨M12, e12, e⟩ := mo e
        obtain rfl := Option.some.inj e
        obtain ⟨g1, g2⟩ := cpy_r hn e11
        refine ⟨c2, hb', d0, rfl, ?_, fun i hi => ?_⟩
        · show M12.1 162 23 = _
          rw [e12, si_eq]
        · show M12.1 172 i = _
          rw [e12, si_ne (by omega), g2 i (by omega), c167]
      · have c2 := q_ng c
        rw [h.2.1] at c2
        right
        obtain ⟨x14, e14, e⟩ := bo e
        refine ⟨.inl c2, ?_⟩
        rcases fault_i e14 with ⟨g, _⟩ | ⟨_, rfl⟩
        · exact absurd h.1 g
        · exact ref h.2.2.2.2.2.1 (by rw [si_eq]; exact h.2.1) (by rw [si_ne (by omega)]; exact c23) (fun i => by rw [si_ne (by omega)]; exact c172 i) e
    · refine ⟨S', k1, k2, .inr ⟨.inr k3, ?_⟩⟩
      rcases io e with ⟨c, e⟩ | ⟨c, e⟩
      · exact ref s80 k4 c23 c172 e
      · obtain ⟨x14, e14, e⟩ := bo e
        rcases fault_i e14 with ⟨_, rfl⟩ | ⟨g, _⟩
        · exact ref s80 k4 c23 c172 e
        · omega
theorem cx_rx {M N : Mem} (t : TX M) (l : M.1 1 1 = M.1 162 10) (g : ∀ k i, 162 ≤ k → N.1 k i = M.1 k i) (K : Nat) : cx M K = rx N K := by
  funext p
  unfold cx rx
  rw [l, g 162 10 (by decide), g 167 p (by decide)]
  by_cases c : (p : Int) < (M.1 162 10).toInt ∧ p < K
  · rw [if_pos c, if_pos c]; exact t p c.1
  · rw [if_neg c, if_neg c]
theorem tw_rule {n : Int} {M : Mem} (h : IV n M) : ∃ x, f_Top_rule M = some x ∧ ∃ r, f_Mod_rule x.2 = some r ∧ x.1 = r.1 ∧ IV (n + 1) r.2 := by
  obtain ⟨x, ex, q⟩ := sf_Top_rule M h.1.1.1
  obtain ⟨r, er, o⟩ := mr_rule (RI_Gc h.1.1 q.1 q.2.1)
  have g : ∀ k i, 162 ≤ k → x.2.1 k i = M.1 k i := fun k i w => q.2.1 k i (.inl w)
  refine ⟨x, ex, r, er, ?_, fin1 (q.2.2.2.2) o, RL_keep h.2 (wf_Top_rule M (by decide +kernel) Fx_r ex) (wf_Mod_rule x.2 (by decide +kernel) Fx_r er) ?_⟩
  · have l2 := Jr_162_10 h.1.1.1
    have c := rule_c h.1.1.1 ex
    have d := rule_r (A := x.2) (by rw [g 162 10 (by decide)]; exact l2) (fun p hp => by rw [g 167 p (by decide)]; rw [g 162 10 (by decide)] at hp; exact h.2.1.2 p hp) er
    rw [← cx_rx h.2.1.1 h.1.2 g, g 162 10 (by decide), ← h.1.2] at d
    rcases c with ⟨c1, c2, _⟩ | ⟨c1, S, c2, c3, c4, c5⟩
    · rcases d with ⟨_, d2, _⟩ | ⟨d1, _⟩
      · rw [c2, d2]
      · omega
    · rcases d with ⟨d1, _⟩ | ⟨_, S', d2, d3, d4⟩
      · omega
      · have e := Rch_u c2 d2 c3 d3
        subst e
        have end_ : (M.1 1 1).toInt ≤ (S.1 : Int) → cx M 40 S.1 = -1 := by
          intro h; unfold cx; rw [if_neg (by omega)]
        rcases c5 with ⟨⟨a1, a2, a3, a4⟩, b1, _⟩ | ⟨a, b, _⟩ <;> rcases d4 with ⟨e1, e2, e3, e4, _⟩ | ⟨e1, e2, _⟩
        · rw [b1, e4]
        · exfalso
          rcases e1 with e1 | e1
          · have : 0 ≤ cx M 40 S.1 := by
              unfold cx
              rw [if_pos (by omega)]
              exact (h.1.1.1.1 2 S.1).1
            omega
          · exact e1 ⟨a3, a4⟩
        · exact absurd ⟨end_ e1, by omega, e2, e3⟩ a
        · exact Int32.toInt_inj.mp (b.trans e2.symm)
  · rw [o.2.2]; have := Jr_162_10 h.1.1.1; have z : (0 : Int32).toInt = 0 := rfl; omega
end
section
/-! two memories side by side; the class's map -/
theorem it_2 {S T X Y : Type} {f : S → Option (S ⊕ X)} {g : T → Option (T ⊕ Y)} {I : S → T → Prop} {Q : X → Y → Prop} (hs : ∀ s t a b, I s t → f s = some a → g t = some b → (∃ s' t', a = .inl s' ∧ b = .inl t' ∧ I s' t') ∨ (∃ x y, a = .inr x ∧ b = .inr y ∧ Q x y)) {n m : Nat} {s : S} {t : T} {x : X} {y : Y} (e : iter f n s = some x) (d : iter g m t = some y) (h : I s t) : Q x y := by
  induction n generalizing s t m with
  | zero => cases e
  | succ n ih =>
    cases m with
    | zero => cases d
    | succ m =>
      simp only [iter] at e d
      cases hf : f s with
      | none => rw [hf] at e; cases e
      | some a =>
        cases hg : g t with
        | none => rw [hg] at d; cases d
        | some b =>
          rw [hf] at e
          rw [hg] at d
          rcases hs s t a b h hf hg with ⟨s', t', rfl, rfl, k⟩ | ⟨x', y', rfl, rfl, k⟩
          · exact ih e d k
          · obtain rfl := Option.some.inj e
            obtain rfl := Option.some.inj d
            exact k
def ZG (X R : Mem) : Prop := (X.1 3 2).toInt = xw R ∧ (X.1 3 3).toInt = xw R * xh R ∧ (∀ i, i < 36 → X.1 4 i = R.1 164 i) ∧ (∀ i, i < 36 → 0 ≤ (R.1 164 i).toInt ∧ (R.1 164 i).toInt ≤ 3)
def bec (w h c s : Int) : Int := if s = 0 then (if c < w then -1 else c - w) else if s = 1 then (if w ≤ c % w + 1 then -1 else c + 1) else if s = 2 then (if w * h ≤ c + w then -1 else c + w) else if s = 3 then (if c % w ≤ 0 then -1 else c - 1) else -1
def becT : Bool := (List.range 6).all fun w => (List.range 6).all fun h => (List.range 36).all fun c => (List.range 4).all fun s =>
  (((c : Int) < ((w : Int) + 1) * ((h : Int) + 1)) → bec (w + 1) (h + 1) c s = bes (w + 1) (h + 1) c s : Bool)
theorem becT_t : becT = true := by decide +kernel
theorem rngs {w h c s : Int} (hw : 1 ≤ w ∧ w ≤ 6) (hh : 1 ≤ h ∧ h ≤ 6) (hc : 0 ≤ c) (hc2 : c < w * h) (hs : 0 ≤ s ∧ s ≤ 3) : ∃ w' h' c' s' : Nat, w' < 6 ∧ h' < 6 ∧ c' < 36 ∧ s' < 4 ∧ w = (w' : Int) + 1 ∧ h = (h' : Int) + 1 ∧ c = (c' : Int) ∧ s = (s' : Int) := by
  have : w * h ≤ 6 * 6 := Int.mul_le_mul hw.2 hh.2 (by omega) (by omega)
  exact ⟨(w - 1).toNat, (h - 1).toNat, c.toNat, s.toNat, by omega, by omega, by omega, by omega, by omega, by omega, by omega, by omega⟩
theorem bec_eq {w h c s : Int} (hw : 1 ≤ w ∧ w ≤ 6) (hh : 1 ≤ h ∧ h ≤ 6) (hc : 0 ≤ c) (hc2 : c < w * h) (hs : 0 ≤ s ∧ s ≤ 3) : bec w h c s = bes w h c s := by
  obtain ⟨w', h', c', s', lw, lh, lc, ls, rfl, rfl, rfl, rfl⟩ := rngs hw hh hc hc2 hs
  have k := List.all_eq_true.mp (List.all_eq_true.mp (List.all_eq_true.mp (List.all_eq_true.mp becT_t w' (List.mem_range.mpr lw)) h' (List.mem_range.mpr lh)) c' (List.mem_range.mpr lc)) s' (List.mem_range.mpr ls)
  exact of_decide_eq_true k hc2
/-- two steps the same way -/
def bb (w h c s : Int) : Int := if bes w h c s = -1 then -1 else bes w h (bes w h c s) s
def btw (w h a b : Int) : Int := if ((a % w - b % w).natAbs = 2 ∧ (a / w - b / w).natAbs = 0) ∨ ((a % w - b % w).natAbs = 0 ∧ (a / w - b / w).natAbs = 2) then (a + b) / 2 else -1
def bbT : Bool := (List.range 6).all fun w => (List.range 6).all fun h => (List.range 36).all fun a => !(decide ((a : Int) < ((w : Int) + 1) * ((h : Int) + 1))) ||
  ((List.range 4).all fun s => (bb (w + 1) (h + 1) a s == -1) || (btw (w + 1) (h + 1) a (bb (w + 1) (h + 1) a s) == bes (w + 1) (h + 1) a s && (bb (w + 1) (h + 1) (bb (w + 1) (h + 1) a s) (opp s) == a) && ((List.range 4).all fun r => r == s || !(bb (w + 1) (h + 1) a r == bb (w + 1) (h + 1) a s))))
theorem bbT_t : bbT = true := by decide +kernel
theorem bb_i {w h c s : Int} (hw : 1 ≤ w ∧ w ≤ 6) (hh : 1 ≤ h ∧ h ≤ 6) (hc : 0 ≤ c) (hc2 : c < w * h) (hs : 0 ≤ s ∧ s ≤ 3) (hb : bb w h c s ≠ -1) : btw w h c (bb w h c s) = bes w h c s ∧ bb w h (bb w h c s) (opp s) = c ∧ ∀ r, 0 ≤ r → r ≤ 3 → bb w h c r = bb w h c s → r = s := by
  obtain ⟨w', h', c', s', lw, lh, lc, ls, rfl, rfl, rfl, rfl⟩ := rngs hw hh hc hc2 hs
  have k := List.all_eq_true.mp (List.all_eq_true.mp (List.all_eq_true.mp bbT_t w' (List.mem_range.mpr lw)) h' (List.mem_range.mpr lh)) c' (List.mem_range.mpr lc)
  rw [decide_eq_true hc2, Bool.not_true, Bool.false_or] at k
  have k := List.all_eq_true.mp k s' (List.mem_range.mpr ls)
  rw [Bool.or_eq_true] at k
  rcases k with k | k
  · exact absurd (by simpa using k) hb
  · simp only [Bool.and_eq_true, beq_iff_eq] at k
    refine ⟨k.1.1, k.1.2, fun r r0 r3 e => ?_⟩
    obtain ⟨r', rfl⟩ : ∃ r' : Nat, r = (r' : Int) := ⟨r.toNat, by omega⟩
    have k2 := List.all_eq_true.mp k.2 r' (List.mem_range.mpr (by omega))
    rw [Bool.or_eq_true] at k2
    rcases k2 with k2 | k2
    · have : r' = s' := by simpa using k2
      rw [this]
    · simp only [Bool.not_eq_true', beq_eq_false_iff_ne] at k2
      exact absurd e k2
def btT : Bool := (List.range 6).all fun w => (List.range 6).all fun h => (List.range 36).all fun a => !(decide ((a : Int) < ((w : Int) + 1) * ((h : Int) + 1))) ||
  ((List.range 36).all fun b => !(decide ((b : Int) < ((w : Int) + 1) * ((h : Int) + 1))) || (btw (w + 1) (h + 1) a b == -1) || ((List.range 4).any fun s => bb (w + 1) (h + 1) a s == b))
theorem btT_t : btT = true := by decide +kernel
theorem bt_i {w h a b : Int} (hw : 1 ≤ w ∧ w ≤ 6) (hh : 1 ≤ h ∧ h ≤ 6) (ha : 0 ≤ a) (ha2 : a < w * h) (hb : 0 ≤ b) (hb2 : b < w * h) (hn : btw w h a b ≠ -1) : ∃ s, 0 ≤ s ∧ s ≤ 3 ∧ bb w h a s = b := by
  obtain ⟨w', h', c', s', lw, lh, lc, ls, rfl, rfl, rfl, _⟩ := rngs (s := 0) hw hh ha ha2 (by omega)
  have : ((w' : Int) + 1) * ((h' : Int) + 1) ≤ 6 * 6 := Int.mul_le_mul hw.2 hh.2 (by omega) (by omega)
  obtain ⟨b', rfl⟩ : ∃ b' : Nat, b = (b' : Int) := ⟨b.toNat, by omega⟩
  have k := List.all_eq_true.mp (List.all_eq_true.mp (List.all_eq_true.mp btT_t w' (List.mem_range.mpr lw)) h' (List.mem_range.mpr lh)) c' (List.mem_range.mpr lc)
  rw [decide_eq_true ha2, Bool.not_true, Bool.false_or] at k
  have k := List.all_eq_true.mp k b' (List.mem_range.mpr (by omega))
  rw [decide_eq_true hb2, Bool.not_true, Bool.false_or, Bool.or_eq_true] at k
  rcases k with k | k
  · exact absurd (by simpa using k) hn
  · obtain ⟨s, hs, k⟩ := List.any_eq_true.mp k
    exact ⟨s, by omega, by have := List.mem_range.mp hs; omega, by simpa using k⟩
section ZC
variable {X R : Mem}
theorem besC (z : ZG X R) (jR : J R) {c s x : Int32} (e : f_Ground_beside c s X = some x) : (0 ≤ c.toInt → c.toInt < xw R * xh R → 0 ≤ s.toInt → s.toInt ≤ 3 → x.toInt = bes (xw R) (xh R) c.toInt s.toInt) ∧ (¬ (0 ≤ c.toInt ∧ c.toInt < xw R * xh R ∧ 0 ≤ s.toInt ∧ s.toInt ≤ 3) → x.toInt = -1) := by
  obtain ⟨z1, z2, z3, z4⟩ := z
  have hw := aw jR
  have hh := ah jR
  have wh := awh jR
  have z0 := o0
  have y1 := o1
  have y2 := o2
  have y3 := o3
  have ym := om
  have key : x.toInt = if 0 ≤ c.toInt ∧ c.toInt < xw R * xh R then bec (xw R) (xh R) c.toInt s.toInt else -1 := by
    unfold f_Ground_beside at e
    rcases io e with ⟨k, e⟩ | ⟨k, e⟩
    · obtain rfl := Option.some.inj e
      have := q_lt k
      rw [if_neg (by omega)]; exact om
    have k1 := q_nl k
    rcases io e with ⟨k, e⟩ | ⟨k, e⟩
    · obtain rfl := Option.some.inj e
      have := q_le k
      rw [if_neg (by omega)]; exact om
    have k2 := q_ng k
    rw [if_pos (by omega)]
    rcases io e with ⟨k, e⟩ | ⟨k, e⟩
    · obtain ⟨_, e⟩ := io_m e
      have rm : (c - c / (X.1 3 2) * (X.1 3 2)).toInt = c.toInt % xw R := rem_ti rfl z1 (by omega) (by omega)
      have rb := Int.emod_nonneg c.toInt (show xw R ≠ 0 by omega)
      have rl := Int.emod_lt_of_pos c.toInt (show 0 < xw R by omega)
      unfold bec
      rcases io e with ⟨k, e⟩ | ⟨k, e⟩
      · rw [if_pos (by have := q_eq k; omega)]
        rcases io e with ⟨k, e⟩ | ⟨k, e⟩
        · obtain rfl := Option.some.inj e
          have := q_lt k
          rw [if_pos (by omega)]; exact om
        · obtain rfl := Option.some.inj e
          have := q_nl k
          rw [if_neg (by omega)]; exact sub_ti rfl z1 (by omega) (by omega)
      rw [if_neg (by have := q_ne k; omega)]
      rcases io e with ⟨k, e⟩ | ⟨k, e⟩
      · rw [if_pos (by have := q_eq k; omega)]
        have ra : ((c - c / (X.1 3 2) * (X.1 3 2)) + (1 : Int32)).toInt = c.toInt % xw R + 1 := add_ti rm o1 (by omega) (by omega)
        rcases io e with ⟨k, e⟩ | ⟨k, e⟩
        · obtain rfl := Option.some.inj e
          have := q_le k
          rw [if_pos (by omega)]; exact om
        · obtain rfl := Option.some.inj e
          have := q_ng k
          rw [if_neg (by omega)]; exact add_ti rfl o1 (by omega) (by omega)
      rw [if_neg (by have := q_ne k; omega)]
      rcases io e with ⟨k, e⟩ | ⟨k, e⟩
      · rw [if_pos (by have := q_eq k; omega)]
        have ra : (c + (X.1 3 2)).toInt = c.toInt + xw R := add_ti rfl z1 (by omega) (by omega)
        rcases io e with ⟨k, e⟩ | ⟨k, e⟩
        · obtain rfl := Option.some.inj e
          have := q_le k
          rw [if_pos (by omega)]; exact om
        · obtain rfl := Option.some.inj e
          have := q_ng k
          rw [if_neg (by omega)]; exact ra
      rw [if_neg (by have := q_ne k; omega)]
      rcases io e with ⟨k, e⟩ | ⟨k, e⟩
      · rw [if_pos (by have := q_eq k; omega)]
        rcases io e with ⟨k, e⟩ | ⟨k, e⟩
        · obtain rfl := Option.some.inj e
          have := q_le k
          rw [if_pos (by omega)]; exact om
        · obtain rfl := Option.some.inj e
          have := q_ng k
          rw [if_neg (by omega)]; exact sub_ti rfl o1 (by omega) (by omega)
      rw [if_neg (by have := q_ne k; omega)]
      obtain rfl := Option.some.inj e
      exact om
    · have := q_ng k; omega
  constructor
  · intro a b c1 d
    rw [key, if_pos ⟨a, b⟩, bec_eq hw hh a b ⟨c1, d⟩]
  · intro h
    rw [key]
    by_cases g : 0 ≤ c.toInt ∧ c.toInt < xw R * xh R
    · rw [if_pos g]
      unfold bec
      rw [if_neg (by omega), if_neg (by omega), if_neg (by omega), if_neg (by omega)]
    · rw [if_neg g]
theorem bes_in {w h c s : Int} (hw : 1 ≤ w ∧ w ≤ 6) (hh : 1 ≤ h ∧ h ≤ 6) (hc : 0 ≤ c) (hc2 : c < w * h) (hs : 0 ≤ s ∧ s ≤ 3) : bes w h c s = -1 ∨ (0 ≤ bes w h c s ∧ bes w h c s < w * h) := by
  by_cases k : bes w h c s = -1
  · exact .inl k
  · have := bes_sym hw hh hc hc2 hs k
    exact .inr ⟨this.1, this.2.1⟩
theorem holdsC (z : ZG X R) (jR : J R) {l c x : Int32} (e : f_Ground_holds l c X = some x) : (x = 1 ∧ 0 ≤ l.toInt ∧ l.toInt ≤ 1 ∧ onN R l.toInt c.toInt) ∨ (x = 0 ∧ ¬ (0 ≤ l.toInt ∧ l.toInt ≤ 1 ∧ onN R l.toInt c.toInt)) := by
  obtain ⟨z1, z2, z3, z4⟩ := z
  have wh := awh jR
  have z0 := o0
  have y1 := o1
  have z36 : (36 : Int32).toInt = 36 := rfl
  unfold f_Ground_holds at e
  rcases io e with ⟨k, e⟩ | ⟨k, e⟩
  · obtain rfl := Option.some.inj e; have := q_lt k; exact .inr ⟨rfl, by omega⟩
  have k1 := q_nl k
  rcases io e with ⟨k, e⟩ | ⟨k, e⟩
  · obtain rfl := Option.some.inj e; have := q_lt k; exact .inr ⟨rfl, by omega⟩
  have k2 := q_nl k
  rcases io e with ⟨k, e⟩ | ⟨k, e⟩
  · obtain rfl := Option.some.inj e; have := q_lt k; exact .inr ⟨rfl, fun h => by have := h.2.2.1; omega⟩
  have k3 := q_nl k
  rcases io e with ⟨k, e⟩ | ⟨k, e⟩
  · obtain rfl := Option.some.inj e; have := q_le k; exact .inr ⟨rfl, fun h => by have := h.2.2.2.1; omega⟩
  have k4 := q_ng k
  rcases io e with ⟨k, e⟩ | ⟨k, e⟩
  · have := q_le k; omega
  have k5 := q_ng k
  obtain ⟨_, e⟩ := io_n e
  obtain ⟨c', hc'⟩ : ∃ c' : Nat, c.toInt = (c' : Int) := ⟨c.toInt.toNat, by omega⟩
  have kk : X.1 4 c.toNatClampNeg = R.1 164 c' := by rw [q_nat hc']; exact z3 c' (by omega)
  have kr := z4 c' (by omega)
  obtain ⟨l', hl'⟩ : ∃ l' : Nat, l.toInt = (l' : Int) := ⟨l.toInt.toNat, by omega⟩
  rw [bt_shr hl' (by omega), kk] at e
  have tab : bt (R.1 164 c') l' = true ↔ (if l.toInt = 0 then (R.1 164 c').toInt = 1 ∨ (R.1 164 c').toInt = 3 else (R.1 164 c').toInt = 2 ∨ (R.1 164 c').toInt = 3) := by
    generalize R.1 164 c' = v at kr
    have hl : l' = 0 ∨ l' = 1 := by omega
    have hv : v = 0 ∨ v = 1 ∨ v = 2 ∨ v = 3 := by
      have : v.toInt = 0 ∨ v.toInt = 1 ∨ v.toInt = 2 ∨ v.toInt = 3 := by omega
      rcases this with h | h | h | h
      · exact .inl (Int32.toInt_inj.mp h)
      · exact .inr (.inl (Int32.toInt_inj.mp h))
      · exact .inr (.inr (.inl (Int32.toInt_inj.mp h)))
      · exact .inr (.inr (.inr (Int32.toInt_inj.mp h)))
    rcases hl with rfl | rfl
    · rw [if_pos (by omega)]
      rcases hv with rfl | rfl | rfl | rfl <;> decide
    · rw [if_neg (by omega)]
      rcases hv with rfl | rfl | rfl | rfl <;> decide
  have on : onN R l.toInt c.toInt ↔ bt (R.1 164 c') l' = true := by
    unfold onN
    rw [tab, show c.toInt.toNat = c' by omega]
    constructor
    · intro h; exact h.2.2
    · intro h; exact ⟨by omega, by omega, h⟩
  cases hb : bt (R.1 164 c') l' with
  | true =>
    rw [hb, if_pos rfl, if_neg (by decide)] at e
    obtain rfl := Option.some.inj e
    exact .inl ⟨rfl, by omega, by omega, on.mpr hb⟩
  | false =>
    rw [hb, if_neg (show ¬ (false = true) by decide), if_pos rfl] at e
    obtain rfl := Option.some.inj e
    exact .inr ⟨rfl, fun h => by have := on.mp h.2.2; rw [hb] at this; cases this⟩
def stN (R : Mem) (c : Int) : Prop := 0 ≤ c ∧ c < xw R * xh R ∧ (R.1 164 c.toNat).toInt = 3
theorem stairC (z : ZG X R) (jR : J R) {c x : Int32} (e : f_Ground_isStair c X = some x) : (x = 1 ∧ stN R c.toInt) ∨ (x = 0 ∧ ¬ stN R c.toInt) := by
  obtain ⟨z1, z2, z3, z4⟩ := z
  have wh := awh jR
  have z0 := o0
  have z36 : (36 : Int32).toInt = 36 := rfl
  unfold f_Ground_isStair at e
  rcases io e with ⟨k, e⟩ | ⟨k, e⟩
  · obtain rfl := Option.some.inj e; have := q_lt k; exact .inr ⟨rfl, fun h => by have := h.1; omega⟩
  have k3 := q_nl k
  rcases io e with ⟨k, e⟩ | ⟨k, e⟩
  · obtain rfl := Option.some.inj e; have := q_le k; exact .inr ⟨rfl, fun h => by have := h.2.1; omega⟩
  have k4 := q_ng k
  rcases io e with ⟨k, e⟩ | ⟨k, e⟩
  · have := q_le k; omega
  obtain ⟨_, e⟩ := io_n e
  have kk : X.1 4 c.toNatClampNeg = R.1 164 c.toInt.toNat := by rw [tcn']; exact z3 _ (by omega)
  rw [kk] at e
  rcases io e with ⟨k, e⟩ | ⟨k, e⟩
  · obtain rfl := Option.some.inj e
    exact .inl ⟨rfl, by omega, by omega, q_eq k⟩
  · obtain rfl := Option.some.inj e
    exact .inr ⟨rfl, fun h => q_ne k h.2.2⟩
/-- across: the side on which it is the next but one -/
theorem acrossC (z : ZG X R) (jR : J R) {a b x : Int32} (ha : 0 ≤ a.toInt) (ha2 : a.toInt < xw R * xh R) (hb : 0 ≤ b.toInt) (e : f_Ground_across a b X = some x) : (∃ s : Nat, s < 4 ∧ x.toInt = (s : Int) ∧ bb (xw R) (xh R) a.toInt s = b.toInt) ∨ (x.toInt = -1 ∧ ∀ s : Nat, s < 4 → bb (xw R) (xh R) a.toInt s ≠ b.toInt) := by
  have hw := aw jR
  have hh := ah jR
  unfold f_Ground_across at e
  obtain ⟨y, ey, e⟩ := bo e
  have key : Sum.elim (fun _ : Unit => ∀ s : Nat, s < 4 → bb (xw R) (xh R) a.toInt s ≠ b.toInt) (fun v : Int32 => ∃ s : Nat, s < 4 ∧ v.toInt = (s : Int) ∧ bb (xw R) (xh R) a.toInt s = b.toInt) y := by
    refine it_r (I := fun v : Int32 => ∃ s : Nat, s ≤ 4 ∧ v.toInt = (s : Int) ∧ ∀ r : Nat, r < s → bb (xw R) (xh R) a.toInt r ≠ b.toInt) (Q := Sum.elim (fun _ : Unit => ∀ s : Nat, s < 4 → bb (xw R) (xh R) a.toInt s ≠ b.toInt) (fun v : Int32 => ∃ s : Nat, s < 4 ∧ v.toInt = (s : Int) ∧ bb (xw R) (xh R) a.toInt s = b.toInt)) ?_ ey ⟨0, by omega, rfl, fun r hr => absurd hr (by omega)⟩
    rintro v r ⟨s, ls, hs, hr⟩ e
    have y4 := o4
    have ym := om
    unfold lb_Ground_across_2 at e
    rcases io e with ⟨k, e⟩ | ⟨k, e⟩
    · have := q_le k
      obtain rfl := Option.some.inj e
      exact fun r h => hr r (by omega)
    have k1 := q_ng k
    rcases io e with ⟨k, e⟩ | ⟨k, e⟩
    · have := q_eq k; omega
    obtain ⟨x1, e1, e⟩ := bo e
    obtain ⟨x2, e2, e⟩ := bo e
    have b1 := (besC z jR e1).1 ha ha2 (by omega) (by omega)
    have b2 : x2.toInt = bb (xw R) (xh R) a.toInt v.toInt := by
      unfold bb
      have q := besC z jR e2
      by_cases g : bes (xw R) (xh R) a.toInt v.toInt = -1
      · rw [if_pos g]; exact q.2 (by omega)
      · rw [if_neg g]
        have := bes_in hw hh ha ha2 (s := v.toInt) (by omega)
        rw [q.1 (by omega) (by omega) (by omega) (by omega), b1]
    rcases io e with ⟨k, e⟩ | ⟨k, e⟩
    · have := q_eq k
      obtain rfl := Option.some.inj e
      exact ⟨s, by omega, hs, by rw [← hs, ← b2, this]⟩
    · have := q_ne k
      obtain rfl := Option.some.inj e
      refine ⟨s + 1, by omega, add_ti hs o1 (by omega) (by omega), fun r h => ?_⟩
      rcases Nat.lt_or_ge r s with g | g
      · exact hr r g
      · have : r = s := by omega
        subst this
        rw [← hs, ← b2]; omega
  rcases y with y | y
  · replace e := el_l e
    obtain rfl := Option.some.inj e
    exact .inr ⟨om, key⟩
  · replace e := el_r e
    obtain rfl := Option.some.inj e
    exact .inl key
end ZC
end
section
/-! bits of a long -/
def bl (x : Int64) (d : Nat) : Bool := x.toBitVec.getLsbD d
theorem bl_or (x y : Int64) (d : Nat) : bl (x ||| y) d = (bl x d || bl y d) := by unfold bl; rw [Int64.toBitVec_or, BitVec.getLsbD_or]
theorem bl_and (x y : Int64) (d : Nat) : bl (x &&& y) d = (bl x d && bl y d) := by unfold bl; rw [Int64.toBitVec_and, BitVec.getLsbD_and]
theorem bl_xor (x y : Int64) (d : Nat) : bl (x ^^^ y) d = (bl x d ^^ bl y d) := by unfold bl; rw [Int64.toBitVec_xor, BitVec.getLsbD_xor]
theorem bl_0 (d : Nat) : bl 0 d = false := by unfold bl; exact BitVec.getLsbD_zero
theorem bl_hi {x : Int64} {d : Nat} (h : 64 ≤ d) : bl x d = false := BitVec.getLsbD_of_ge _ _ h
theorem bl_1a : ∀ d : Fin 64, bl 1 d.val = decide (d.val = 0) := by decide +kernel
theorem bl_1 (d : Nat) : bl 1 d = decide (d = 0) := by
  rcases Nat.lt_or_ge d 64 with h | h
  · exact bl_1a ⟨d, h⟩
  · rw [bl_hi h, decide_eq_false (by omega)]
theorem bl_ext {x y : Int64} (h : ∀ d, d < 64 → bl x d = bl y d) : x = y := by
  refine Int64.toBitVec_inj.mp (BitVec.eq_of_getLsbD_eq ?_)
  intro i hi
  exact h i hi
theorem smd6 : ∀ d : Fin 64, (((Int32.ofNat d.val).toInt64 &&& 63).toBitVec.smod 64).toNat = d.val := by decide +kernel
theorem smd6_v {v : Int32} {d : Nat} (hv : v.toInt = (d : Int)) (hd : d < 64) : ((v.toInt64 &&& 63).toBitVec.smod 64).toNat = d := by
  rw [ofn_eq hv (by omega)]; exact smd6 ⟨d, hd⟩
theorem bl_sr {x : Int64} {v : Int32} {d : Nat} (hv : v.toInt = (d : Int)) (hd : d < 64) {i : Nat} (hi : d + i < 64) : bl (x >>> (v.toInt64 &&& 63)) i = bl x (d + i) := by
  unfold bl
  rw [Int64.toBitVec_shiftRight, BitVec.sshiftRight_eq', smd6_v hv hd, BitVec.getLsbD_sshiftRight, if_pos hi]
  rw [decide_eq_false (by omega)]; rfl
theorem bl_shr {x : Int64} {v : Int32} {d : Nat} (hv : v.toInt = (d : Int)) (hd : d < 64) : ((x >>> (v.toInt64 &&& 63)) &&& (1 : Int64)) = if bl x d = true then 1 else 0 := by
  refine bl_ext (fun i hi => ?_)
  rw [bl_and, bl_1]
  by_cases c : i = 0
  · subst c
    rw [bl_sr hv hd (by omega)]
    cases hb : bl x d with
    | true => rw [if_pos rfl, bl_1]; simp [hb]
    | false => rw [if_neg (by decide), bl_0]; simp [hb]
  · rw [decide_eq_false c, Bool.and_false]
    cases hb : bl x d with
    | true => rw [if_pos rfl, bl_1, decide_eq_false c]
    | false => rw [if_neg (by decide), bl_0]
theorem bl_cmp {x : Int64} {v : Int32} {d : Nat} (hv : v.toInt = (d : Int)) (hd : d < 64) : lg_cmp ((x >>> (v.toInt64 &&& 63)) &&& (1 : Int64)) (0 : Int64) = 0 ↔ bl x d = false := by
  rw [bl_shr hv hd]
  cases bl x d with
  | true => rw [if_pos rfl]; decide
  | false => rw [if_neg (by decide)]; decide
theorem bl_one {v : Int32} {d : Nat} (hv : v.toInt = (d : Int)) (hd : d < 64) (i : Nat) : bl ((1 : Int64) <<< (v.toInt64 &&& 63)) i = decide (i = d) := by
  rcases Nat.lt_or_ge i 64 with hi | hi
  · unfold bl
    rw [Int64.toBitVec_shiftLeft, BitVec.shiftLeft_eq', smd6_v hv hd, BitVec.getLsbD_shiftLeft]
    rw [decide_eq_true hi, Bool.true_and]
    have := bl_1 (i - d)
    unfold bl at this
    rw [this]
    by_cases c : i < d
    · rw [decide_eq_true c, decide_eq_false (show ¬ i = d by omega)]; rfl
    · rw [decide_eq_false c]
      by_cases g : i = d
      · rw [decide_eq_true g, decide_eq_true (show i - d = 0 by omega)]; rfl
      · rw [decide_eq_false g, decide_eq_false (show ¬ i - d = 0 by omega)]; rfl
  · rw [bl_hi hi, decide_eq_false (by omega)]
/-! the class lays its nets -/
theorem sl_1 {M : Mem} {k i : Nat} {v : Int64} : (s_l M k i v).1 = M.1 := rfl
theorem sl_eq {M : Mem} {k i : Nat} {v : Int64} : (s_l M k i v).2.1 k i = v := by simp [s_l]
theorem sl_ne {M : Mem} {k i a b : Nat} {v : Int64} (h : ¬ (a = k ∧ b = i)) : (s_l M k i v).2.1 a b = M.2.1 a b := by simp only [s_l, if_neg h]
theorem si_2 {M : Mem} {k i : Nat} {v : Int32} : (s_i M k i v).2 = M.2 := rfl
def isN (v0 : Nat) : Prop := v0 = 32 ∨ v0 = 36
theorem isN_r {v0 : Nat} (h : isN v0) : rf v0 0 = v0 + 1 ∧ rf v0 1 = v0 + 2 ∧ rf v0 2 = v0 + 3 := by
  rcases h with rfl | rfl <;> decide +kernel
section NL
variable {X R : Mem} {v0 v2 : Nat} {v3 : Int32} {on : Nat → Nat → Prop}
/-- the bits of both nets, of cells below c -/
def NB (v0 : Nat) (on : Nat → Nat → Prop) (c : Nat) (N : Mem) : Prop := ∀ l d : Nat, l < 2 → (bl (N.2.1 (v0 + 1) l) d = true ↔ d < c ∧ on l d)
theorem NB_27 (hv : isN v0) (z : ZG X R) (jR : J R) (ho : ∀ l d, l < 2 → d < 36 → (on l d ↔ (v3.toInt = (d : Int) ∨ onN R l d))) {v4 : Int32} {c : Nat} (hc : v4.toInt = (c : Int)) (c36 : c < 36) {A : Mem} (hA : A.1 = X.1) (hq : A.2.2 = X.2.2) (h : NB v0 on c A) {x} (e : iter (lb_Nets_lay_27 v0 v2 v3 v4) FU ((0 : Int32), A) = some x) : x.1 = X.1 ∧ x.2.2 = X.2.2 ∧ NB v0 on (c + 1) x := by
  obtain ⟨r0, r1, r2⟩ := isN_r hv
  refine it_r (I := fun s : Int32 × Mem => s.2.1 = X.1 ∧ s.2.2.2 = X.2.2 ∧ ∃ m : Nat, m ≤ 2 ∧ s.1.toInt = (m : Int) ∧ ∀ l d : Nat, l < 2 → (bl (s.2.2.1 (v0 + 1) l) d = true ↔ (if l < m then d < c + 1 else d < c) ∧ on l d)) (Q := fun x : Mem => x.1 = X.1 ∧ x.2.2 = X.2.2 ∧ NB v0 on (c + 1) x) ?_ e ⟨hA, hq, 0, by omega, rfl, fun l d hl => by rw [if_neg (by omega)]; exact h l d hl⟩
  rintro ⟨lv, N⟩ r ⟨hN, hN2, m, lm, hm, hb⟩ e
  dsimp only at hN hN2 hm hb
  have y1 := o1
  have zN : ZG N R := by unfold ZG; rw [hN]; exact z
  unfold lb_Nets_lay_27 at e
  dsimp only at e
  rcases io e with ⟨k, e⟩ | ⟨k, e⟩
  · have := q_lt k
    obtain rfl := Option.some.inj e
    refine ⟨hN, hN2, fun l d hl => ?_⟩
    rw [hb l d hl, if_pos (by omega)]
  have k1 := q_nl k
  have set : on m c → j_Nets_lay_50_27 v0 v2 v3 v4 lv N = some r → Sum.elim (fun s : Int32 × Mem => s.2.1 = X.1 ∧ s.2.2.2 = X.2.2 ∧ ∃ m : Nat, m ≤ 2 ∧ s.1.toInt = (m : Int) ∧ ∀ l d : Nat, l < 2 → (bl (s.2.2.1 (v0 + 1) l) d = true ↔ (if l < m then d < c + 1 else d < c) ∧ on l d)) (fun x : Mem => x.1 = X.1 ∧ x.2.2 = X.2.2 ∧ NB v0 on (c + 1) x) r := by
    intro hon e
    unfold j_Nets_lay_50_27 at e
    obtain ⟨_, e⟩ := io_n e
    obtain ⟨_, e⟩ := io_n e
    obtain ⟨M3, e3, e⟩ := mo e
    obtain rfl := Option.some.inj e
    refine ⟨?_, ?_, m + 1, by omega, add_ti hm o1 (by omega) (by omega), fun l d hl => ?_⟩
    · show M3.1 = _; rw [e3, sl_1]; exact hN
    · show M3.2.2 = _; rw [e3]; exact hN2
    · show bl (M3.2.1 (v0 + 1) l) d = true ↔ _
      rw [e3, r0, q_nat hm]
      by_cases g : l = m
      · subst g
        rw [sl_eq, bl_or, bl_one hc (by omega), Bool.or_eq_true, hb l d hl, if_neg (by omega), if_pos (by omega), decide_eq_true_eq]
        constructor
        · rintro (⟨a, b⟩ | rfl)
          · exact ⟨by omega, b⟩
          · exact ⟨by omega, hon⟩
        · rintro ⟨a, b⟩
          by_cases q : d = c
          · exact .inr q
          · exact .inl ⟨by omega, b⟩
      · rw [sl_ne (by omega), hb l d hl]
        by_cases q : l < m
        · rw [if_pos q, if_pos (by omega)]
        · rw [if_neg q, if_neg (by omega)]
  rcases io e with ⟨k, e⟩ | ⟨k, e⟩
  · exact set ((ho m c (by omega) c36).mpr (.inl (by rw [← k]; exact hc))) e
  have k2 := q_ne k
  obtain ⟨x4, e4, e⟩ := bo e
  have hh := holdsC zN jR e4
  rw [hm, hc] at hh
  rcases io e with ⟨k, e⟩ | ⟨k, e⟩
  · obtain rfl := Option.some.inj e
    have non : ¬ on m c := by
      intro g
      rcases (ho m c (by omega) c36).mp g with g | g
      · omega
      · rcases hh with ⟨a, _⟩ | ⟨_, b⟩
        · rw [a] at k; cases k
        · exact b ⟨by omega, by omega, g⟩
    refine ⟨hN, hN2, m + 1, by omega, add_ti hm o1 (by omega) (by omega), fun l d hl => ?_⟩
    rw [hb l d hl]
    by_cases g : l = m
    · subst g
      rw [if_neg (by omega), if_pos (by omega)]
      constructor
      · rintro ⟨a, b⟩; exact ⟨by omega, b⟩
      · rintro ⟨a, b⟩
        refine ⟨?_, b⟩
        rcases Nat.lt_or_ge d c with q | q
        · exact q
        · have : d = c := by omega
          subst this; exact absurd b non
    · by_cases q : l < m
      · rw [if_pos q, if_pos (by omega)]
      · rw [if_neg q, if_neg (by omega)]
  · refine set ((ho m c (by omega) c36).mpr (.inr ?_)) e
    rcases hh with ⟨_, _, _, b⟩ | ⟨a, _⟩
    · exact b
    · exact absurd a k
theorem NB_17 (hv : isN v0) (z : ZG X R) (jR : J R) (ho : ∀ l d, l < 2 → d < 36 → (on l d ↔ (v3.toInt = (d : Int) ∨ onN R l d))) {A : Mem} (hA : A.1 = X.1) (hq : A.2.2 = X.2.2) (h : NB v0 on 0 A) {x} (e : iter (lb_Nets_lay_17 v0 v2 v3) FU ((0 : Int32), A) = some x) : x.1 = X.1 ∧ x.2.2 = X.2.2 ∧ NB v0 on 36 x := by
  refine it_r (I := fun s : Int32 × Mem => s.2.1 = X.1 ∧ s.2.2.2 = X.2.2 ∧ ∃ c : Nat, c ≤ 36 ∧ s.1.toInt = (c : Int) ∧ NB v0 on c s.2) (Q := fun x : Mem => x.1 = X.1 ∧ x.2.2 = X.2.2 ∧ NB v0 on 36 x) ?_ e ⟨hA, hq, 0, by omega, rfl, h⟩
  rintro ⟨v4, N⟩ r ⟨hN, hN2, c, lc, hc, hb⟩ e
  dsimp only at hN hN2 hc hb
  have z36 : (36 : Int32).toInt = 36 := rfl
  unfold lb_Nets_lay_17 at e
  dsimp only at e
  rcases io e with ⟨k, e⟩ | ⟨k, e⟩
  · have := q_le k
    obtain rfl := Option.some.inj e
    have : c = 36 := by omega
    subst this
    exact ⟨hN, hN2, hb⟩
  have k1 := q_ng k
  obtain ⟨x8, e8, e⟩ := bo e
  obtain rfl := Option.some.inj e
  obtain ⟨g1, g2, g3⟩ := NB_27 hv z jR ho hc (by omega) hN hN2 hb e8
  exact ⟨g1, g2, c + 1, by omega, add_ti hc o1 (by omega) (by omega), g3⟩
theorem isOfC (hv : isN v0) {N : Mem} (hb : NB v0 on 36 N) {l c x : Int32} {l' c' : Nat} (hl : l.toInt = (l' : Int)) (l2 : l' < 2) (hc : c.toInt = (c' : Int)) (c36 : c' < 36) (e : f_Nets_isOf v0 l c N = some x) : (x = 0 ↔ ¬ on l' c') := by
  obtain ⟨r0, r1, r2⟩ := isN_r hv
  unfold f_Nets_isOf at e
  obtain ⟨_, e⟩ := io_n e
  obtain ⟨_, e⟩ := io_n e
  rw [r0, q_nat hl] at e
  have k := hb l' c' l2
  rcases io e with ⟨g, e⟩ | ⟨g, e⟩
  · obtain rfl := Option.some.inj e
    rw [bl_cmp hc (by omega)] at g
    refine ⟨fun _ h => ?_, fun _ => rfl⟩
    rw [k.mpr ⟨c36, h⟩] at g; cases g
  · obtain rfl := Option.some.inj e
    rw [bl_cmp hc (by omega)] at g
    refine ⟨fun h => (by cases h), fun h => ?_⟩
    exfalso
    apply g
    cases hh : bl (N.2.1 (v0 + 1) l') c' with
    | false => rfl
    | true => exact absurd (k.mp hh).2 h
/-- links of a cell on its own net -/
def lk (R : Mem) (on : Nat → Nat → Prop) (l c s : Nat) : Prop := on l c ∧ bes (xw R) (xh R) c s ≠ -1 ∧ on l (bes (xw R) (xh R) c s).toNat
def LKn (R : Mem) (on : Nat → Nat → Prop) (l c s : Nat) (v : Int32) : Prop := (lk R on l c s → v.toInt = bes (xw R) (xh R) c s) ∧ (¬ lk R on l c s → v.toInt = -1)
def NR (R : Mem) (on : Nat → Nat → Prop) (l c m : Nat) (v : Int64) : Prop := ∀ d : Nat, bl v d = true ↔ ∃ s : Nat, s < m ∧ lk R on l c s ∧ bes (xw R) (xh R) c s = (d : Int)
theorem link_i (hv : isN v0) (z : ZG X R) (jR : J R) (onb : ∀ l d, on l d → (d : Int) < xw R * xh R) {A : Mem} (zA : ZG A R) (hb : NB v0 on 36 A) {v2' v3' : Int32} {l c : Nat} (hl : v2'.toInt = (l : Int)) (l2 : l < 2) (hc : v3'.toInt = (c : Int)) (c36 : c < 36) {x} (e : f_Nets_link v0 v2' v3' A = some x) : (∀ s, s < 4 → LKn R on l c s (x.1 (v0 + 3) ((l * 36 + c) * 4 + s))) ∧ NR R on l c 4 (x.2.1 (v0 + 2) (l * 36 + c)) ∧ (∀ k i, ¬ (k = v0 + 3 ∧ (l * 36 + c) * 4 ≤ i ∧ i < (l * 36 + c) * 4 + 4) → x.1 k i = A.1 k i) ∧ (∀ k i, ¬ (k = v0 + 2 ∧ i = l * 36 + c) → x.2.1 k i = A.2.1 k i) ∧ x.2.2 = A.2.2 := by
  obtain ⟨r0, r1, r2⟩ := isN_r hv
  have hw := aw jR
  have hh := ah jR
  have wh := awh jR
  unfold f_Nets_link at e
  obtain ⟨_, e⟩ := io_n e
  obtain ⟨_, e⟩ := io_n e
  obtain ⟨M1, e1, e⟩ := mo e
  obtain ⟨x14, e14, e⟩ := bo e
  obtain rfl := Option.some.inj e
  have z36 : (36 : Int32).toInt = 36 := rfl
  have y4 := o4
  have m1 : (v2' * (36 : Int32)).toInt = (l : Int) * 36 := mul_ti hl z36 (by omega) (by omega)
  have nd : ((v2' * (36 : Int32)) + v3').toInt = ((l * 36 + c : Nat) : Int) := by rw [add_ti m1 hc (by omega) (by omega)]; omega
  rw [r1, q_nat nd] at e1
  generalize hv4 : (v2' * (36 : Int32)) + v3' = v4 at nd e14
  refine it_r (I := fun s : Int32 × Mem => ∃ m : Nat, m ≤ 4 ∧ s.1.toInt = (m : Int) ∧ (∀ s', s' < m → LKn R on l c s' (s.2.1 (v0 + 3) ((l * 36 + c) * 4 + s'))) ∧ NR R on l c m (s.2.2.1 (v0 + 2) (l * 36 + c)) ∧ (∀ k i, ¬ (k = v0 + 3 ∧ (l * 36 + c) * 4 ≤ i ∧ i < (l * 36 + c) * 4 + 4) → s.2.1 k i = A.1 k i) ∧ (∀ k i, ¬ (k = v0 + 2 ∧ i = l * 36 + c) → s.2.2.1 k i = A.2.1 k i) ∧ s.2.2.2 = A.2.2) (Q := fun x : Mem => (∀ s, s < 4 → LKn R on l c s (x.1 (v0 + 3) ((l * 36 + c) * 4 + s))) ∧ NR R on l c 4 (x.2.1 (v0 + 2) (l * 36 + c)) ∧ (∀ k i, ¬ (k = v0 + 3 ∧ (l * 36 + c) * 4 ≤ i ∧ i < (l * 36 + c) * 4 + 4) → x.1 k i = A.1 k i) ∧ (∀ k i, ¬ (k = v0 + 2 ∧ i = l * 36 + c) → x.2.1 k i = A.2.1 k i) ∧ x.2.2 = A.2.2) ?_ e14 ⟨0, by omega, rfl, fun s' h => absurd h (by omega), fun d => ?_, fun k i _ => by rw [e1, sl_1], fun k i n => by rw [e1, sl_ne n], by rw [e1]; rfl⟩
  · rintro ⟨sd, N⟩ r ⟨m, lm, hm, hn, hr, f1, f2, f3⟩ e
    dsimp only at hm hn hr f1 f2 f3
    have v0b : v0 = 32 ∨ v0 = 36 := hv
    have zN : ZG N R := by
      unfold ZG at zA ⊢
      rw [f1 3 2 (by omega), f1 3 3 (by omega)]
      exact ⟨zA.1, zA.2.1, fun i hi => by rw [f1 4 i (by omega)]; exact zA.2.2.1 i hi, zA.2.2.2⟩
    have bN : NB v0 on 36 N := fun a d ha => by rw [f2 (v0 + 1) a (by omega)]; exact hb a d ha
    unfold lb_Nets_link_19 at e
    dsimp only at e
    rcases io e with ⟨k, e⟩ | ⟨k, e⟩
    · have := q_le k
      obtain rfl := Option.some.inj e
      have : m = 4 := by omega
      subst this
      exact ⟨hn, hr, f1, f2, f3⟩
    have k1 := q_ng k
    obtain ⟨x2, e2, e⟩ := bo e
    have bq := besC zN jR e2
    rw [hc, hm] at bq
    have step : ∀ w : Int32, ((w = 0 ∧ ¬ lk R on l c m) ∨ (¬ w = 0 ∧ lk R on l c m ∧ x2.toInt = bes (xw R) (xh R) c m)) → j_Nets_link_64_19 v0 v2' v3' v4 sd x2 w N = some r → Sum.elim (fun s : Int32 × Mem => ∃ m : Nat, m ≤ 4 ∧ s.1.toInt = (m : Int) ∧ (∀ s', s' < m → LKn R on l c s' (s.2.1 (v0 + 3) ((l * 36 + c) * 4 + s'))) ∧ NR R on l c m (s.2.2.1 (v0 + 2) (l * 36 + c)) ∧ (∀ k i, ¬ (k = v0 + 3 ∧ (l * 36 + c) * 4 ≤ i ∧ i < (l * 36 + c) * 4 + 4) → s.2.1 k i = A.1 k i) ∧ (∀ k i, ¬ (k = v0 + 2 ∧ i = l * 36 + c) → s.2.2.1 k i = A.2.1 k i) ∧ s.2.2.2 = A.2.2) (fun x : Mem => (∀ s, s < 4 → LKn R on l c s (x.1 (v0 + 3) ((l * 36 + c) * 4 + s))) ∧ NR R on l c 4 (x.2.1 (v0 + 2) (l * 36 + c)) ∧ (∀ k i, ¬ (k = v0 + 3 ∧ (l * 36 + c) * 4 ≤ i ∧ i < (l * 36 + c) * 4 + 4) → x.1 k i = A.1 k i) ∧ (∀ k i, ¬ (k = v0 + 2 ∧ i = l * 36 + c) → x.2.1 k i = A.2.1 k i) ∧ x.2.2 = A.2.2) r := by
      intro w hw0 e
      have i1 : (v4 * (4 : Int32)).toInt = ((l * 36 + c : Nat) : Int) * 4 := mul_ti nd o4 (by omega) (by omega)
      have i2 : ((v4 * (4 : Int32)) + sd).toInt = (((l * 36 + c) * 4 + m : Nat) : Int) := by rw [add_ti i1 hm (by omega) (by omega)]; omega
      have fin : ∀ (val : Int32) (M3 M4 : Mem) (nv : Int64), LKn R on l c m val → M3 = s_i N (v0 + 3) ((l * 36 + c) * 4 + m) val → M4 = s_l M3 (v0 + 2) (l * 36 + c) nv → NR R on l c (m + 1) nv → some (Sum.inl ((sd + (1 : Int32)), M4)) = some r → Sum.elim (fun s : Int32 × Mem => ∃ m : Nat, m ≤ 4 ∧ s.1.toInt = (m : Int) ∧ (∀ s', s' < m → LKn R on l c s' (s.2.1 (v0 + 3) ((l * 36 + c) * 4 + s'))) ∧ NR R on l c m (s.2.2.1 (v0 + 2) (l * 36 + c)) ∧ (∀ k i, ¬ (k = v0 + 3 ∧ (l * 36 + c) * 4 ≤ i ∧ i < (l * 36 + c) * 4 + 4) → s.2.1 k i = A.1 k i) ∧ (∀ k i, ¬ (k = v0 + 2 ∧ i = l * 36 + c) → s.2.2.1 k i = A.2.1 k i) ∧ s.2.2.2 = A.2.2) (fun x : Mem => (∀ s, s < 4 → LKn R on l c s (x.1 (v0 + 3) ((l * 36 + c) * 4 + s))) ∧ NR R on l c 4 (x.2.1 (v0 + 2) (l * 36 + c)) ∧ (∀ k i, ¬ (k = v0 + 3 ∧ (l * 36 + c) * 4 ≤ i ∧ i < (l * 36 + c) * 4 + 4) → x.1 k i = A.1 k i) ∧ (∀ k i, ¬ (k = v0 + 2 ∧ i = l * 36 + c) → x.2.1 k i = A.2.1 k i) ∧ x.2.2 = A.2.2) r := by
        intro val M3 M4 nv hval e3 e4 hnv e
        obtain rfl := Option.some.inj e
        refine ⟨m + 1, by omega, add_ti hm o1 (by omega) (by omega), fun s' hs' => ?_, ?_, fun k i n => ?_, fun k i n => ?_, ?_⟩
        · show LKn R on l c s' (M4.1 (v0 + 3) _)
          rw [e4, sl_1, e3]
          rcases Nat.lt_or_ge s' m with g | g
          · rw [si_ne (by omega)]; exact hn s' g
          · have : s' = m := by omega
            subst this
            rw [si_eq]; exact hval
        · show NR R on l c (m + 1) (M4.2.1 _ _)
          rw [e4, sl_eq]; exact hnv
        · show M4.1 k i = _
          rw [e4, sl_1, e3, si_ne (by omega)]; exact f1 k i n
        · show M4.2.1 k i = _
          rw [e4, sl_ne n, e3, si_2]; exact f2 k i n
        · show M4.2.2 = _
          rw [e4]; show M3.2.2 = _
          rw [e3]; exact f3
      unfold j_Nets_link_64_19 at e
      rcases io e with ⟨g, e⟩ | ⟨g, e⟩
      · have nlk : ¬ lk R on l c m := by
          rcases hw0 with h | h
          · exact h.2
          · exact absurd g h.1
        unfold j_Nets_link_88_19 at e
        obtain ⟨_, e⟩ := io_n e
        obtain ⟨M3, e3, e⟩ := mo e
        obtain ⟨_, e⟩ := io_n e
        rw [if_pos g] at e
        obtain ⟨_, e⟩ := io_n e
        obtain ⟨M4, e4, e⟩ := mo e
        rw [r2, q_nat i2] at e3
        rw [r1, q_nat nd] at e4
        refine fin _ M3 M4 _ ⟨fun h => absurd h nlk, fun _ => om⟩ e3 e4 (fun d => ?_) e
        rw [bl_or, bl_0, Bool.or_false, e3, si_2, hr d]
        constructor
        · rintro ⟨s, a, b⟩; exact ⟨s, by omega, b⟩
        · rintro ⟨s, a, b⟩
          rcases Nat.lt_or_ge s m with q | q
          · exact ⟨s, q, b⟩
          · have : s = m := by omega
            subst this; exact absurd b.1 nlk
      · obtain ⟨hlk, hx2⟩ : lk R on l c m ∧ x2.toInt = bes (xw R) (xh R) c m := by
          rcases hw0 with h | h
          · exact absurd h.1 g
          · exact h.2
        unfold j_Nets_link_88_19 at e
        obtain ⟨_, e⟩ := io_n e
        obtain ⟨M3, e3, e⟩ := mo e
        obtain ⟨_, e⟩ := io_n e
        rw [if_neg g] at e
        obtain ⟨_, e⟩ := io_n e
        obtain ⟨M4, e4, e⟩ := mo e
        rw [r2, q_nat i2] at e3
        rw [r1, q_nat nd] at e4
        have cb : (c : Int) < xw R * xh R := onb l c hlk.1
        have bi := bes_in hw hh (by omega) cb (s := m) (by omega)
        have d0 : 0 ≤ bes (xw R) (xh R) c m ∧ bes (xw R) (xh R) c m < 36 := by
          rcases bi with h | h
          · exact absurd h hlk.2.1
          · omega
        have hxn : x2.toInt = ((bes (xw R) (xh R) c m).toNat : Int) := by omega
        refine fin _ M3 M4 _ ⟨fun _ => hx2, fun h => absurd hlk h⟩ e3 e4 (fun d => ?_) e
        rw [bl_or, bl_one hxn (by omega), e3, si_2, Bool.or_eq_true, hr d, decide_eq_true_eq]
        constructor
        · rintro (⟨s, a, b⟩ | h)
          · exact ⟨s, by omega, b⟩
          · exact ⟨m, by omega, hlk, by omega⟩
        · rintro ⟨s, a, b, q⟩
          rcases Nat.lt_or_ge s m with g2 | g2
          · exact .inl ⟨s, g2, b, q⟩
          · have : s = m := by omega
            subst this
            exact .inr (by omega)
    rcases io e with ⟨g, e⟩ | ⟨g, e⟩
    · refine step 0 (.inl ⟨rfl, fun h => ?_⟩) e
      have cb : (c : Int) < xw R * xh R := onb l c h.1
      have := bq.1 (by omega) cb (by omega) (by omega)
      have g := q_eq g
      rw [om] at g
      exact h.2.1 (by omega)
    have g := q_ne g
    rw [om] at g
    have cb : (c : Int) < xw R * xh R := by
      rcases Int.lt_or_le (c : Int) (xw R * xh R) with h | h
      · exact h
      · exact absurd (bq.2 (by omega)) g
    have hx2 := bq.1 (by omega) cb (by omega) (by omega)
    have bi := bes_in hw hh (by omega) cb (s := m) (by omega)
    obtain ⟨x8, e8, e⟩ := bo e
    have i8 := isOfC hv bN hl l2 hc c36 e8
    rcases io e with ⟨g8, e⟩ | ⟨g8, e⟩
    · exact step 0 (.inl ⟨rfl, fun h => (i8.mp g8) h.1⟩) e
    obtain ⟨x9, e9, e⟩ := bo e
    have i9 := isOfC hv bN hl l2 (c' := (bes (xw R) (xh R) c m).toNat) (c := x2) (by omega) (by omega) e9
    rcases io e with ⟨g9, e⟩ | ⟨g9, e⟩
    · exact step 0 (.inl ⟨rfl, fun h => (i9.mp g9) h.2.2⟩) e
    · refine step 1 (.inr ⟨by decide, ⟨?_, by omega, ?_⟩, hx2⟩) e
      · exact Classical.byContradiction (fun h => g8 (i8.mpr h))
      · exact Classical.byContradiction (fun h => g9 (i9.mpr h))
  · show bl (M1.2.1 (v0 + 2) (l * 36 + c)) d = true ↔ _
    rw [e1, sl_eq, bl_0]
    constructor
    · intro h; cases h
    · rintro ⟨s, h, _⟩; omega
end NL
end
