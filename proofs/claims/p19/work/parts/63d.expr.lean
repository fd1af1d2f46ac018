/-! the reference follows the machine: held, thing -/
section EX
variable {t : Nat → Int} {env : Int32 → Int32} {B : Mem} {rc : Nat → Int32 → Mem → Option (Int32 × Mem)}
theorem cmp_step {S S' : MS} {v op o : Int32} {N N1 R : Mem} {a : Int32} (hrc : HI t env B rc) (hB : Rd t B) (ts : tp 2 S.2.1.2) (d4 : S.2.2.1 ≤ 4) (ha : a.toInt = (S.2.2.1 : Int)) (hc : S.2.2.2.1 S.2.2.1 = false) (h : Ok0 t env 1 S S' v N) (ht : t S'.1 = op.toInt) (hop : op = 60 ∨ op = 61 ∨ op = 62) (fx1 : Fx mEx [] B N1) (h17 : (N1.1 162 17).toInt = ((S'.1 + 1 : Nat) : Int)) (h18 : (N1.1 162 18).toInt = -1) (e : rc 1 a N1 = some (o, R)) : Fx mEx [] B R ∧ (Ok t env 0 S (jn v op o) R ∨ Ft t S R) := by
  obtain ⟨h1, h2, h3, h4, h5, h6, h7, rc1, h8, h9⟩ := h
  have hr : rk op = 2 := by rcases hop with rfl | rfl | rfl <;> decide
  have oi : op.toInt = 60 ∨ op.toInt = 61 ∨ op.toInt = 62 := by
    rcases hop with rfl | rfl | rfl
    · exact .inl rfl
    · exact .inr (.inl rfl)
    · exact .inr (.inr rfl)
  have n4 : op ≠ 40 := by rcases hop with rfl | rfl | rfl <;> decide
  have h8 : stl 2 S'.2.1.1 S'.2.1.2 = (rc1 ++ S.2.1.1, S.2.1.2) := by
    rw [← stl_stl (show 2 ≤ 3 by omega) S'.2.1.1, h8, stl_stl (show 2 ≤ 3 by omega), stl_id ts]
  have p80 := (Rd_rng hB S'.1).2.2 (by omega)
  have hc' : S'.2.2.2.1 S'.2.2.1 = false := by rw [h5, h7 _ (Nat.le_refl _) (fun h => by omega)]; exact hc
  have st := bin (t := t) (S' := S') (sg_eq ht) hr (by omega) (fun _ => hc') (by omega) (by omega) h4 h8
  rw [if_pos rfl] at st
  have pre : Pre t 1 (S'.1 + 1, (rc1 ++ S.2.1.1, op :: S.2.1.2), S'.2.2.1, up S'.2.2.2.1 S'.2.2.1 true, false) N1 a := by
    refine ⟨Rd_fx okE fx1 hB, h18, h17, rfl, ?_, ?_, ?_, fun _ => .inr (by rw [hr]; omega), fun h => by omega⟩
    · show a.toInt = (S'.2.2.1 : Int); rw [h5]; exact ha
    · show S'.2.2.1 ≤ 4; omega
    · show S'.1 + 1 ≤ 80; omega
  obtain ⟨fr, g⟩ := hrc 1 a N1 (o, R) _ (by omega) fx1 pre e
  refine ⟨fr, ?_⟩
  rcases g with ⟨S3, ⟨k1, k2, k3, k4, k5, k6, k7, rc2, k8, k9⟩, k10⟩ | g
  · have cmp3 : ∀ d, d ≤ S.2.2.1 → S3.2.2.2.1 d = up S'.2.2.2.1 S'.2.2.1 true d := fun d hd => k7 d (by show d ≤ S'.2.2.1; omega) (fun h => by omega)
    refine .inl ⟨S3, ⟨k1, k2, Rch_t h3 (Rch_s st k3), k4, k5.trans h5, k6, fun d hd h0 => ?_, -op :: (rc2 ++ rc1), bin2 hr n4 k8, fun s => ?_⟩, ⟨fun _ => k10.1 (by omega), fun _ => k10.2.1 (by omega), fun _ _ => ?_⟩⟩
    · rw [cmp3 d hd]
      have := h0 rfl
      unfold up
      rw [if_neg (by omega)]
      exact h7 d hd (fun h => by omega)
    · show opx env (-op) (rv env (rc2 ++ rc1) s) = _
      rw [rv_app, h9, k9]
      have l0 : (-op) < 0 := by rcases hop with rfl | rfl | rfl <;> decide
      have q0 : isq (- -op) = false := by rcases hop with rfl | rfl | rfl <;> decide
      have q1 : - -op = op := by rcases hop with rfl | rfl | rfl <;> decide
      have q2 : ¬ op = 256 := by rcases hop with rfl | rfl | rfl <;> decide
      unfold opx
      rw [if_pos l0, if_neg (by rw [q0]; decide), q1, if_neg q2]
      rfl
    · have : S3.2.2.1 = S.2.2.1 := k5.trans h5
      rw [this, cmp3 _ (Nat.le_refl _)]
      unfold up
      rw [if_pos h5.symm]
  · exact .inr (Ft_t (Rch_t h3 (Rch_s st Rch_r)) g)
theorem held_i (hrc : HI t env B rc) (hB : Rd t B) {S : MS} {a : Int32} {N : Mem} {r : Int32 × Mem} (fx : Fx mEx [] B N) (pre : Pre t 0 S N a) (e : fb_Mod_held rc a N = some r) : Fx mEx [] B r.2 ∧ (Ok t env 0 S r.1 r.2 ∨ Ft t S r.2) := by
  unfold fb_Mod_held at e
  obtain ⟨x1, e1, e⟩ := bo e
  obtain ⟨x2, e2, e⟩ := bo e
  obtain ⟨q1, q2, q3, q4, q5, q6, q7, q8, q9⟩ := pre
  have q8 := q8 (by omega)
  have q9 := q9 rfl
  obtain ⟨f1, g⟩ := hrc 1 a N x1 S (by omega) fx ⟨q1, q2, q3, q4, q5, q6, q7, fun h => tp_m (by omega) q8, fun h => by omega⟩ e1
  rcases g with ⟨S', h, hf⟩ | g
  · have hN := Rd_fx okE f1 hB
    have fx2 : Fx mEx [] B x2.2 := wf_Mod_passes _ _ (by decide +kernel) f1 e2
    rcases passes_i hN h.2.1 h.1 (by decide) (by decide) e2 with ⟨a1, a2, a3, a4⟩ | ⟨a1, a2, a3⟩
    · rw [if_neg a2] at e
      obtain ⟨x11, e11, e⟩ := bo e
      have C := cmp_step (o := x11.1) (R := x11.2) hrc hB q8 q6 q5 q9 h a1 (.inl rfl) fx2 a3 a4 e11
      rcases io e with ⟨c, e⟩ | ⟨c, e⟩
      · obtain rfl := Option.some.inj e
        rw [show jn x1.1 60 x11.1 = 0 by simp only [jn]; rw [if_neg (by decide), if_neg (by decide), if_neg (by decide), if_neg (by decide), if_pos (by decide), if_pos c]] at C
        exact C
      · obtain rfl := Option.some.inj e
        rw [show jn x1.1 60 x11.1 = 1 by simp only [jn]; rw [if_neg (by decide), if_neg (by decide), if_neg (by decide), if_neg (by decide), if_pos (by decide), if_neg c]] at C
        exact C
    rw [if_pos a2] at e
    obtain ⟨x3, e3, e⟩ := bo e
    rw [a3] at e3
    have fx3 : Fx mEx [] B x3.2 := wf_Mod_passes _ _ (by decide +kernel) f1 e3
    rcases passes_i hN h.2.1 h.1 (by decide) (by decide) e3 with ⟨b1, b2, b3, b4⟩ | ⟨b1, b2, b3⟩
    · rw [if_neg b2] at e
      obtain ⟨x11, e11, e⟩ := bo e
      have C := cmp_step (o := x11.1) (R := x11.2) hrc hB q8 q6 q5 q9 h b1 (.inr (.inr rfl)) fx3 b3 b4 e11
      rcases io e with ⟨c, e⟩ | ⟨c, e⟩
      · obtain rfl := Option.some.inj e
        rw [show jn x1.1 62 x11.1 = 0 by simp only [jn]; rw [if_neg (by decide), if_neg (by decide), if_neg (by decide), if_neg (by decide), if_neg (by decide), if_neg (by decide), if_pos (by decide), if_pos c]] at C
        exact C
      · obtain rfl := Option.some.inj e
        rw [show jn x1.1 62 x11.1 = 1 by simp only [jn]; rw [if_neg (by decide), if_neg (by decide), if_neg (by decide), if_neg (by decide), if_neg (by decide), if_neg (by decide), if_pos (by decide), if_neg c]] at C
        exact C
    rw [if_pos b2] at e
    obtain ⟨x4, e4, e⟩ := bo e
    rw [b3] at e4
    have fx4 : Fx mEx [] B x4.2 := wf_Mod_passes _ _ (by decide +kernel) f1 e4
    rcases passes_i hN h.2.1 h.1 (by decide) (by decide) e4 with ⟨c1, c2, c3, c4⟩ | ⟨c1, c2, c3⟩
    · rw [if_neg c2] at e
      obtain ⟨x11, e11, e⟩ := bo e
      have C := cmp_step (o := x11.1) (R := x11.2) hrc hB q8 q6 q5 q9 h c1 (.inr (.inl rfl)) fx4 c3 c4 e11
      rcases io e with ⟨c, e⟩ | ⟨c, e⟩
      · obtain rfl := Option.some.inj e
        rw [show jn x1.1 61 x11.1 = 1 by simp only [jn]; rw [if_neg (by decide), if_neg (by decide), if_neg (by decide), if_neg (by decide), if_neg (by decide), if_pos (by decide), if_pos c]] at C
        exact C
      · obtain rfl := Option.some.inj e
        rw [show jn x1.1 61 x11.1 = 0 by simp only [jn]; rw [if_neg (by decide), if_neg (by decide), if_neg (by decide), if_neg (by decide), if_neg (by decide), if_pos (by decide), if_neg c]] at C
        exact C
    rw [if_pos c2] at e
    obtain rfl := Option.some.inj e
    rw [c3]
    obtain ⟨k1, k2, k3, k4, k5, k6, k7, rc1, k8, k9⟩ := h
    refine ⟨f1, .inl ⟨S', ⟨k1, k2, k3, k4, k5, k6, fun d hd _ => k7 d hd (fun h => by omega), rc1, ?_, k9⟩, ⟨fun _ => hf.1 (by omega), fun _ => hf.2.1 (by omega), fun _ h => ?_⟩⟩⟩
    · rw [← stl_stl (show 2 ≤ 3 by omega) S'.2.1.1, k8, stl_stl (show 2 ≤ 3 by omega)]
    · exfalso
      have z1 : (60 : Int32).toInt = 60 := rfl
      have z2 : (61 : Int32).toInt = 61 := rfl
      have z3 : (62 : Int32).toInt = 62 := rfl
      omega
  · have w := Ft_w g
    obtain ⟨a1, a2⟩ := pass_b w e2
    rw [if_pos a1] at e
    obtain ⟨x3, e3, e⟩ := bo e
    rw [a2] at e3
    obtain ⟨b1, b2⟩ := pass_b w e3
    rw [if_pos b1] at e
    obtain ⟨x4, e4, e⟩ := bo e
    rw [b2] at e4
    obtain ⟨c1, c2⟩ := pass_b w e4
    rw [if_pos c1] at e
    obtain rfl := Option.some.inj e
    rw [c2]
    exact ⟨f1, .inr g⟩
/-- letters: what the reference answers is what `env` says -/
def HE (env : Int32 → Int32) (B : Mem) : Prop := ∀ (rc : Nat → Int32 → Mem → Option (Int32 × Mem)) (v : Int32) (N : Mem) (r : Int32 × Mem), isq v = true → Fx mEx [] B N → j_Mod_thing_142 rc v N = some r → r.1 = env v
theorem thing_q {rc' : Nat → Int32 → Mem → Option (Int32 × Mem)} {v : Int32} {N : Mem} {r : Int32 × Mem} (e : j_Mod_thing_142 rc' v N = some r) : r.2 = s_i N 162 17 ((N.1 162 17) + (1 : Int32)) := by
  unfold j_Mod_thing_142 at e
  obtain ⟨M5, e5, e⟩ := mo e
  rcases io e with ⟨_, e⟩ | ⟨_, e⟩
  · obtain rfl := Option.some.inj e
    exact e5
  · obtain ⟨a6, _, e⟩ := bo e
    obtain ⟨_, e⟩ := io_n e
    obtain ⟨x7, _, e⟩ := bo e
    obtain rfl := Option.some.inj e
    exact e5
theorem ofi {v : Int32} {z : Int} (h : v.toInt = z) : Int32.ofInt z = v := by rw [← h]; exact Int32.ofInt_toInt v
theorem dgn_0 {p : Nat} (h : ¬ (48 ≤ t p ∧ t p ≤ 57)) : dgn t 3 p = 0 := by
  show (if 48 ≤ t p ∧ t p ≤ 57 then _ else 0) = 0
  rw [if_neg h]
theorem dgn_1 {p : Nat} (h : 48 ≤ t p ∧ t p ≤ 57) : 0 < dgn t 3 p := by
  show 0 < (if 48 ≤ t p ∧ t p ≤ 57 then dgn t 2 (p + 1) + 1 else 0)
  rw [if_pos h]; omega
theorem dgn_b (hB : Rd t B) : ∀ (k p : Nat), p + dgn t k p ≤ 80 ∨ dgn t k p = 0 := by
  intro k
  induction k with
  | zero => intro p; exact .inr rfl
  | succ k ih =>
    intro p
    by_cases c : 48 ≤ t p ∧ t p ≤ 57
    · have := (Rd_rng hB p).2.2 (by omega)
      rw [show dgn t (k + 1) p = dgn t k (p + 1) + 1 by rw [dgn, if_pos c]]
      rcases ih (p + 1) with h | h
      · left; omega
      · left; omega
    · right; rw [dgn, if_neg c]
theorem thing_67 (hE : HE env B) (hB : Rd t B) {S : MS} {x3 : Int32} {N : Mem} {r : Int32 × Mem} (fx : Fx mEx [] B N) (q1 : Rd t N) (q2 : (N.1 162 18).toInt = -1) (q3 : (N.1 162 17).toInt = (S.1 : Int)) (q4 : S.2.2.2.2 = false) (q7 : S.1 ≤ 80) (e3 : f_Mod_here N = some x3) (n45 : t S.1 ≠ 45) (n40 : t S.1 = 40 → ¬ S.2.2.1 < 4) (fr : Fx mEx [] B r.2) (e : j_Mod_thing_67 rc x3 N = some r) : Fx mEx [] B r.2 ∧ (Ok t env 3 S r.1 r.2 ∨ Ft t S r.2) := by
  refine ⟨fr, ?_⟩
  have k := here_i q1 q3 e3
  have rg := Rd_rng q1 S.1
  have z48 : (48 : Int32).toInt = 48 := rfl
  have z57 : (57 : Int32).toInt = 57 := rfl
  have hT : t S.1 ≠ -1 → rdS t S = rdT t S.1 S.2.1 S.2.2.1 S.2.2.2.1 := by
    intro h
    unfold rdS
    rw [if_neg h, if_neg (by rw [q4]; decide)]
  have hT2 : rdT t S.1 S.2.1 S.2.2.1 S.2.2.2.1 = if 0 < dgn t 3 S.1 then some (S.1 + dgn t 3 S.1, (Int32.ofInt (dgv t 3 S.1 0) :: S.2.1.1, S.2.1.2), S.2.2.1, S.2.2.2.1, true) else if isq (sg t S.1) = true then some (S.1 + 1, (-(sg t S.1) :: S.2.1.1, S.2.1.2), S.2.2.1, S.2.2.2.1, true) else none := by
    unfold rdT
    rw [if_neg n45, if_neg (fun h => n40 h.1 h.2)]
  unfold j_Mod_thing_67 at e
  obtain ⟨x4, e4, e⟩ := bo e
  obtain ⟨r4, er4, h4⟩ := sp_in x3 48 57
  rw [er4] at e4
  obtain rfl := Option.some.inj e4
  have lett : isq x3 = true → j_Mod_thing_142 rc x3 N = some r → Ok t env 3 S r.1 r.2 := by
    intro hq e
    have hv := hE rc x3 N r hq fx e
    have hm := thing_q e
    have x0 : 105 ≤ x3.toInt ∧ x3.toInt ≤ 121 := by
      simp only [isq, Bool.or_eq_true, beq_iff_eq] at hq
      rcases hq with ((((((h | h) | h) | h) | h) | h) | h) | h <;> subst h <;> decide
    have tp : t S.1 = x3.toInt := by omega
    have sgx : sg t S.1 = x3 := sg_eq tp
    have p80 := rg.2.2 (by omega)
    have st : rdS t S = some (S.1 + 1, (-x3 :: S.2.1.1, S.2.1.2), S.2.2.1, S.2.2.2.1, true) := by
      rw [hT (by omega), hT2, if_neg (by rw [dgn_0 (by omega)]; omega), sgx, if_pos hq]
    refine ⟨_, ⟨?_, ?_, Rch_s st Rch_r, rfl, rfl, ?_, fun d _ _ => rfl, [-x3], rfl, fun s => ?_⟩, ⟨fun h => by omega, fun h => by omega, fun h => by omega⟩⟩
    · rw [hm, si_ne (by omega)]; exact q2
    · rw [hm, si_eq]; exact add_ti q3 o1 (by omega) (by omega)
    · show S.1 + 1 ≤ 80; omega
    · show opx env (-x3) s = _
      have m : (-x3).toInt = -x3.toInt := by
        have := sub_ti (a := 0) (b := x3) rfl rfl (by show (-2147483648 : Int) ≤ 0 - x3.toInt; omega) (by show (0 : Int) - x3.toInt ≤ 2147483647; omega)
        rw [show (-x3) = 0 - x3 by simp]
        rw [this]; show (0 : Int) - x3.toInt = _; omega
      have mm : - -x3 = x3 := by simp
      unfold opx
      rw [if_pos (lti.mpr (by rw [m]; show -x3.toInt < 0; omega)), mm, if_pos hq, hv]
  rcases io e with ⟨c, e⟩ | ⟨c, e⟩
  · have nd : ¬ (48 ≤ t S.1 ∧ t S.1 ≤ 57) := by
      rcases h4 with ⟨a, _⟩ | ⟨_, b⟩
      · rw [a] at c; cases c
      · omega
    rcases io e with ⟨c1, e⟩ | ⟨c1, e⟩
    · exact .inl (lett (by rw [c1]; decide) e)
    rcases io e with ⟨c2, e⟩ | ⟨c2, e⟩
    · exact .inl (lett (by rw [c2]; decide) e)
    rcases io e with ⟨c3, e⟩ | ⟨c3, e⟩
    · exact .inl (lett (by rw [c3]; decide) e)
    rcases io e with ⟨c4, e⟩ | ⟨c4, e⟩
    · exact .inl (lett (by rw [c4]; decide) e)
    rcases io e with ⟨c5, e⟩ | ⟨c5, e⟩
    · exact .inl (lett (by rw [c5]; decide) e)
    rcases io e with ⟨c6, e⟩ | ⟨c6, e⟩
    · exact .inl (lett (by rw [c6]; decide) e)
    rcases io e with ⟨c7, e⟩ | ⟨c7, e⟩
    · exact .inl (lett (by rw [c7]; decide) e)
    rcases io e with ⟨c8, e⟩ | ⟨c8, e⟩
    · exact .inl (lett (by rw [c8]; decide) e)
    obtain ⟨x9, e9, e⟩ := bo e
    obtain rfl := Option.some.inj e
    have hq : isq (sg t S.1) = false := by
      have f : ∀ {c : Int32}, ¬ x3 = c → 0 ≤ c.toInt → c.toInt ≤ 127 → t S.1 ≠ c.toInt := fun h a b g => h ((here_c q1 q3 e3 a b).mpr g)
      exact isq_0 ⟨rg.1, rg.2.1⟩ ⟨f c2 (by decide) (by decide), f c8 (by decide) (by decide), f c1 (by decide) (by decide), f c6 (by decide) (by decide), f c7 (by decide) (by decide), f c3 (by decide) (by decide), f c4 (by decide) (by decide), f c5 (by decide) (by decide)⟩
    refine .inr ⟨S, Rch_r, ?_, (fun h => by rw [q4] at h; exact absurd h.1 (by decide)), q7, ?_⟩
    · by_cases h : t S.1 = -1
      · unfold rdS; rw [if_pos h]
      · rw [hT h, hT2, if_neg (by rw [dgn_0 nd]; omega), if_neg (by rw [hq]; decide)]
    · rcases fault_i e9 with ⟨g, _⟩ | ⟨_, rfl⟩
      · exact absurd q2 g
      · dsimp only; rw [si_eq]; exact q3
  · obtain ⟨x18, e18, e⟩ := bo e
    obtain rfl := Option.some.inj e
    have dg : 48 ≤ t S.1 ∧ t S.1 ≤ 57 := by
      rcases h4 with ⟨_, b⟩ | ⟨a, _⟩
      · omega
      · exact absurd a c
    have d1 := dgn_1 dg
    obtain ⟨_, n1, n2, n3, n4, n5⟩ := number_i (K := 3) q1 (by omega) rfl q3 q7 q2 e18
    have st : rdS t S = some (S.1 + dgn t 3 S.1, (x18.1 :: S.2.1.1, S.2.1.2), S.2.2.1, S.2.2.2.1, true) := by
      rw [hT (by omega), hT2, if_pos d1, ofi n1]
    refine .inl ⟨_, ⟨?_, n4, Rch_s st Rch_r, rfl, rfl, ?_, fun d _ _ => rfl, [x18.1], rfl, fun s => ?_⟩, ⟨fun h => by omega, fun h => by omega, fun h => by omega⟩⟩
    · rcases n5 with h | h
      · omega
      · exact h.2
    · show S.1 + dgn t 3 S.1 ≤ 80
      rcases dgn_b hB 3 S.1 with h | h <;> omega
    · show opx env x18.1 s = _
      unfold opx
      rw [if_neg (fun h => by have := q_lt h; have z : (0 : Int32).toInt = 0 := rfl; omega)]
theorem thing_i (hE : HE env B) (hrc : HI t env B rc) (hB : Rd t B) {S : MS} {a : Int32} {N : Mem} {r : Int32 × Mem} (fx : Fx mEx [] B N) (pre : Pre t 3 S N a) (fr : Fx mEx [] B r.2) (e : fb_Mod_thing rc a N = some r) : Fx mEx [] B r.2 ∧ (Ok t env 3 S r.1 r.2 ∨ Ft t S r.2) := by
  obtain ⟨q1, q2, q3, q4, q5, q6, q7, _, _⟩ := pre
  have rg := Rd_rng q1 S.1
  unfold fb_Mod_thing at e
  obtain ⟨x1, e1, e⟩ := bo e
  have fx1 : Fx mEx [] B x1.2 := wf_Mod_passes _ _ (by decide +kernel) fx e1
  have z45 : (45 : Int32).toInt = 45 := rfl
  have z40 : (40 : Int32).toInt = 40 := rfl
  have z41 : (41 : Int32).toInt = 41 := rfl
  have z4 : (4 : Int32).toInt = 4 := rfl
  rcases passes_i q1 q3 q2 (by decide) (by decide) e1 with ⟨a1, a2, a3, a4⟩ | ⟨a1, a2, a3⟩
  · rw [if_neg a2] at e
    obtain ⟨x26, e26, e⟩ := bo e
    obtain rfl := Option.some.inj e
    have st : rdS t S = some (S.1 + 1, (S.2.1.1, 256 :: S.2.1.2), S.2.2.1, S.2.2.2.1, false) := by
      unfold rdS rdT
      rw [if_neg (by omega), if_neg (by rw [q4]; decide), if_pos (show t S.1 = 45 from a1)]
    have p80 := rg.2.2 (by omega)
    obtain ⟨_, g⟩ := hrc 3 a x1.2 x26 (S.1 + 1, (S.2.1.1, 256 :: S.2.1.2), S.2.2.1, S.2.2.2.1, false) (by omega) fx1 ⟨Rd_fx okE fx1 hB, a4, a3, rfl, q5, q6, (by show S.1 + 1 ≤ 80; omega), fun h => by omega, fun h => by omega⟩ e26
    refine ⟨fr, ?_⟩
    rcases g with ⟨S', ⟨k1, k2, k3, k4, k5, k6, k7, rc1, k8, k9⟩, _⟩ | g
    · refine .inl ⟨S', ⟨k1, k2, Rch_s st k3, k4, k5, k6, fun d hd _ => k7 d hd (fun h => by omega), -256 :: rc1, ?_, fun s => ?_⟩, ⟨fun h => by omega, fun h => by omega, fun h => by omega⟩⟩
      · rw [k8]
        show stl 5 (rc1 ++ S.2.1.1) (256 :: S.2.1.2) = _
        rw [stl, if_neg (by decide)]; rfl
      · show opx env (-256) (rv env rc1 s) = _
        rw [k9]
        unfold opx
        rw [if_pos (by decide), if_neg (by decide), if_pos (by decide)]
        rfl
    · exact .inr (Ft_t (Rch_s st Rch_r) g)
  rw [if_pos a2] at e
  rw [a3] at e
  obtain ⟨x2, e2, e⟩ := bo e
  rw [if_neg (is_fine q2 e2)] at e
  obtain ⟨x3, e3, e⟩ := bo e
  have k40 := here_c q1 q3 (c := 40) e3 (by decide) (by decide)
  rcases io e with ⟨c, e⟩ | ⟨c, e⟩
  · have t40 := k40.mp c
    rcases io e with ⟨c4, e⟩ | ⟨c4, e⟩
    · have := q_le c4
      exact thing_67 hE hB fx q1 q2 q3 q4 q7 e3 (by omega) (fun _ => by omega) fr e
    · have d4 := q_ng c4
      obtain ⟨M20, e20, e⟩ := mo e
      obtain ⟨x21, e21, e⟩ := bo e
      obtain ⟨x22, e22, e⟩ := bo e
      obtain rfl := Option.some.inj e
      have p80 := rg.2.2 (by omega)
      have st : rdS t S = some (S.1 + 1, (S.2.1.1, 40 :: S.2.1.2), S.2.2.1 + 1, up S.2.2.2.1 (S.2.2.1 + 1) false, false) := by
        unfold rdS rdT
        rw [if_neg (by omega), if_neg (by rw [q4]; decide), if_neg (by omega), if_pos ⟨t40, by omega⟩]
      have fx20 : Fx mEx [] B M20 := wi1 fx e20 (by decide +kernel)
      obtain ⟨f21, g⟩ := hrc 0 (a + (1 : Int32)) M20 x21 (S.1 + 1, (S.2.1.1, 40 :: S.2.1.2), S.2.2.1 + 1, up S.2.2.2.1 (S.2.2.1 + 1) false, false) (by omega) fx20 ⟨Rd_fx okE fx20 hB, by rw [e20, si_ne (by omega)]; exact q2, by rw [e20, si_eq]; exact add_ti q3 o1 (by omega) (by omega), rfl, add_ti q5 o1 (by omega) (by omega), (by show S.2.2.1 + 1 ≤ 4; omega), (by show S.1 + 1 ≤ 80; omega), fun _ => .inl rfl, fun _ => (by show up S.2.2.2.1 (S.2.2.1 + 1) false (S.2.2.1 + 1) = false; unfold up; rw [if_pos rfl])⟩ e21
      refine ⟨fr, ?_⟩
      unfold f_Mod_need at e22
      obtain ⟨y1, ey1, e22⟩ := bo e22
      rcases g with ⟨S', ⟨k1, k2, k3, k4, k5, k6, k7, rc1, k8, k9⟩, kf⟩ | g
      · have hN := Rd_fx okE f21 hB
        have rg' := Rd_rng hN S'.1
        have k5' : S'.2.2.1 = S.2.2.1 + 1 := k5
        rcases passes_i hN k2 k1 (by decide) (by decide) ey1 with ⟨b1, b2, b3, b4⟩ | ⟨b1, b2, b3⟩
        · rw [if_neg b2] at e22
          obtain rfl := Option.some.inj e22
          have z : stl 1 S'.2.1.1 S'.2.1.2 = (rc1 ++ S.2.1.1, 40 :: S.2.1.2) := by
            rw [← stl_stl (show 1 ≤ 2 by omega) S'.2.1.1, k8, stl_stl (show 1 ≤ 2 by omega)]
            exact stl_id (.inl rfl)
          have st2 : rdS t S' = some (S'.1 + 1, (rc1 ++ S.2.1.1, S.2.1.2), S.2.2.1, S'.2.2.2.1, true) := by
            unfold rdS rdB
            rw [if_neg (by omega), if_pos k4, if_pos ⟨b1, by omega⟩, z, k5']; rfl
          have p80' := rg'.2.2 (by omega)
          refine .inl ⟨_, ⟨b4, b3, Rch_s st (Rch_t k3 (Rch_s st2 Rch_r)), rfl, rfl, (by show S'.1 + 1 ≤ 80; omega), fun d hd _ => ?_, rc1, rfl, k9⟩, ⟨fun h => by omega, fun h => by omega, fun h => by omega⟩⟩
          show S'.2.2.2.1 d = _
          rw [k7 d (by show d ≤ S.2.2.1 + 1; omega) (fun _ => (by show d < S.2.2.1 + 1; omega))]
          show up S.2.2.2.1 (S.2.2.1 + 1) false d = _
          unfold up
          rw [if_neg (by omega)]
        · rw [if_pos b2] at e22
          obtain ⟨y2, ey2, e22⟩ := bo e22
          obtain rfl := Option.some.inj e22
          rw [b3] at ey2
          refine .inr ⟨S', Rch_s st k3, ?_, (fun h => by omega), k6, ?_⟩
          · unfold rdS rdB
            by_cases m1 : t S'.1 = -1
            · rw [if_pos m1]
            · rw [if_neg m1, if_pos k4, if_neg (fun h => b1 h.1)]
              by_cases m2 : t S'.1 = 60 ∨ t S'.1 = 61 ∨ t S'.1 = 62
              · have r2 : rk (sg t S'.1) = 2 := by
                  rcases m2 with h | h | h
                  · rw [sg_eq (c := 60) h]; decide
                  · rw [sg_eq (c := 61) h]; decide
                  · rw [sg_eq (c := 62) h]; decide
                rw [if_pos (.inr ⟨r2, kf.2.2 rfl m2⟩)]
              · rw [if_pos (.inl (rk_0 ⟨rg'.1, rg'.2.1⟩ (kf.1 (by omega)) (kf.2.1 (by omega)) (by omega)))]
          · rcases fault_i ey2 with ⟨g, _⟩ | ⟨_, rfl⟩
            · exact absurd k1 g
            · dsimp only; rw [si_eq]; exact k2
      · have w := Ft_w g
        obtain ⟨b1, b2⟩ := pass_b w ey1
        rw [if_pos b1] at e22
        obtain ⟨y2, ey2, e22⟩ := bo e22
        obtain rfl := Option.some.inj e22
        rw [b2] at ey2
        rcases fault_i ey2 with ⟨_, rfl⟩ | ⟨h, _⟩
        · exact .inr (Ft_t (Rch_s st Rch_r) g)
        · exact absurd h w
  · exact thing_67 hE hB fx q1 q2 q3 q4 q7 e3 (by omega) (fun h => absurd (k40.mpr h) c) fr e
theorem expr_i (hE : HE env B) (hB : Rd t B) : ∀ n : Nat, HI t env B (fr_expr n) := by
  intro n
  induction n with
  | zero => intro w a N r S _ _ _ e; simp [fr_expr] at e
  | succ n ih =>
    intro w a N r S hw fx pre e
    have fr := wf_Mod_expr (C := mEx) (L := []) (A := B) (by decide +kernel) (n + 1) w a N r fx e
    simp only [fr_expr] at e
    rcases io e with ⟨c, e⟩ | ⟨c0, e⟩
    · subst c; exact held_i ih hB fx pre e
    rcases io e with ⟨c, e⟩ | ⟨c1, e⟩
    · subst c; exact sum_i ih hB fx pre e
    rcases io e with ⟨c, e⟩ | ⟨c2, e⟩
    · subst c; exact prod_i ih hB fx pre e
    · have : w = 3 := by omega
      subst this; exact thing_i hE ih hB fx pre fr e
end EX
