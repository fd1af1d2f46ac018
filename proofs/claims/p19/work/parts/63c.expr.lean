/-! the reference follows the machine -/
def mEx : Nat := 2 ^ 217 ||| 2 ^ 218
def Fol (w : Nat) (t : Nat → Int) (S : MS) : Prop := (w ≤ 2 → t S.1 ≠ 42 ∧ t S.1 ≠ 47) ∧ (w ≤ 1 → t S.1 ≠ 43 ∧ t S.1 ≠ 45) ∧ (w = 0 → (t S.1 = 60 ∨ t S.1 = 61 ∨ t S.1 = 62) → S.2.2.2.1 S.2.2.1 = true)
def Pre (t : Nat → Int) (w : Nat) (S : MS) (N : Mem) (a : Int32) : Prop := Rd t N ∧ (N.1 162 18).toInt = -1 ∧ (N.1 162 17).toInt = (S.1 : Int) ∧ S.2.2.2.2 = false ∧ a.toInt = (S.2.2.1 : Int) ∧ S.2.2.1 ≤ 4 ∧ S.1 ≤ 80 ∧ (w < 3 → tp (w + 2) S.2.1.2) ∧ (w = 0 → S.2.2.2.1 S.2.2.1 = false)
def Ok0 (t : Nat → Int) (env : Int32 → Int32) (w : Nat) (S S' : MS) (v : Int32) (N : Mem) : Prop := (N.1 162 18).toInt = -1 ∧ (N.1 162 17).toInt = (S'.1 : Int) ∧ Rch t S S' ∧ S'.2.2.2.2 = true ∧ S'.2.2.1 = S.2.2.1 ∧ S'.1 ≤ 80 ∧ (∀ d, d ≤ S.2.2.1 → (w = 0 → d < S.2.2.1) → S'.2.2.2.1 d = S.2.2.2.1 d) ∧ ∃ rc : List Int32, stl (w + 2) S'.2.1.1 S'.2.1.2 = stl (w + 2) (rc ++ S.2.1.1) S.2.1.2 ∧ ∀ st, rv env rc st = v :: st
def Ok (t : Nat → Int) (env : Int32 → Int32) (w : Nat) (S : MS) (v : Int32) (N : Mem) : Prop := ∃ S', Ok0 t env w S S' v N ∧ Fol w t S'
def Ft (t : Nat → Int) (S : MS) (N : Mem) : Prop := ∃ S' : MS, Rch t S S' ∧ rdS t S' = none ∧ ¬ (S'.2.2.2.2 = true ∧ S'.2.2.1 = 0) ∧ S'.1 ≤ 80 ∧ (N.1 162 18).toInt = (S'.1 : Int)
def HI (t : Nat → Int) (env : Int32 → Int32) (B : Mem) (rc : Nat → Int32 → Mem → Option (Int32 × Mem)) : Prop := ∀ (w : Nat) (a : Int32) (N : Mem) (r : Int32 × Mem) (S : MS), w ≤ 3 → Fx mEx [] B N → Pre t w S N a → rc w a N = some r → Fx mEx [] B r.2 ∧ (Ok t env w S r.1 r.2 ∨ Ft t S r.2)
theorem Ft_w {t : Nat → Int} {S : MS} {N : Mem} (h : Ft t S N) : (N.1 162 18).toInt ≠ -1 := by
  obtain ⟨S', _, _, _, _, h⟩ := h
  omega
theorem Ft_t {t : Nat → Int} {S S1 : MS} {N : Mem} (g : Rch t S S1) (h : Ft t S1 N) : Ft t S N := by
  obtain ⟨S', a, b⟩ := h
  exact ⟨S', Rch_t g a, b⟩
theorem tp_m {j k : Nat} (h : j ≤ k) {w : List Int32} (g : tp j w) : tp k w := by
  cases w with
  | nil => trivial
  | cons s w => rcases g with g | g
                · exact .inl g
                · exact .inr (by omega)
theorem sg_ti {t : Nat → Int} {p : Nat} (h : -1 ≤ t p ∧ t p ≤ 255) : (sg t p).toInt = t p := by
  unfold sg
  exact Int32.toInt_ofInt_of_le (by omega) (by omega)
theorem sg_eq {t : Nat → Int} {p : Nat} {c : Int32} (h : t p = c.toInt) : sg t p = c := by
  unfold sg
  rw [h]; exact Int32.ofInt_toInt c
theorem sg_ne {t : Nat → Int} {p : Nat} (r : -1 ≤ t p ∧ t p ≤ 255) {c : Int32} (h : t p ≠ c.toInt) : sg t p ≠ c := by
  intro e
  apply h
  rw [← e, sg_ti r]
/-- no sign is the mark of negation; other signs bind nothing -/
theorem rk_0 {t : Nat → Int} {p : Nat} (r : -1 ≤ t p ∧ t p ≤ 255) (h1 : t p ≠ 42 ∧ t p ≠ 47) (h2 : t p ≠ 43 ∧ t p ≠ 45) (h3 : t p ≠ 60 ∧ t p ≠ 61 ∧ t p ≠ 62) : rk (sg t p) = 0 := by
  unfold rk
  rw [if_neg (sg_ne (c := 42) r h1.1), if_neg (sg_ne (c := 47) r h1.2), if_neg (sg_ne (c := 43) r h2.1), if_neg (sg_ne (c := 45) r h2.2), if_neg (sg_ne (c := 60) r h3.1), if_neg (sg_ne (c := 61) r h3.2.1), if_neg (sg_ne (c := 62) r h3.2.2), if_neg (sg_ne (c := 256) r (by show t p ≠ 256; omega))]
theorem isq_0 {t : Nat → Int} {p : Nat} (r : -1 ≤ t p ∧ t p ≤ 255) (h : t p ≠ 105 ∧ t p ≠ 107 ∧ t p ≠ 109 ∧ t p ≠ 110 ∧ t p ≠ 115 ∧ t p ≠ 119 ∧ t p ≠ 120 ∧ t p ≠ 121) : isq (sg t p) = false := by
  obtain ⟨h1, h2, h3, h4, h5, h6, h7, h8⟩ := h
  simp only [isq, Bool.or_eq_false_iff, beq_eq_false_iff_ne]
  exact ⟨⟨⟨⟨⟨⟨⟨sg_ne (c := 105) r h1, sg_ne (c := 107) r h2⟩, sg_ne (c := 109) r h3⟩, sg_ne (c := 110) r h4⟩, sg_ne (c := 115) r h5⟩, sg_ne (c := 119) r h6⟩, sg_ne (c := 120) r h7⟩, sg_ne (c := 121) r h8⟩
theorem bin {t : Nat → Int} {k : Nat} {S' : MS} {o w : List Int32} {op : Int32} (hop : sg t S'.1 = op) (hr : rk op = k) (k0 : k ≠ 0) (k2 : k = 2 → S'.2.2.2.1 S'.2.2.1 = false) (n1 : t S'.1 ≠ -1) (n2 : t S'.1 ≠ 41) (b : S'.2.2.2.2 = true) (hs : stl k S'.2.1.1 S'.2.1.2 = (o, w)) : rdS t S' = some (S'.1 + 1, (o, op :: w), S'.2.2.1, (if k = 2 then up S'.2.2.2.1 S'.2.2.1 true else S'.2.2.2.1), false) := by
  unfold rdS rdB
  rw [if_neg n1, if_pos b, if_neg (by omega), hop, hr, if_neg (by
    rintro (h | ⟨h, g⟩)
    · exact k0 h
    · rw [k2 h] at g; cases g), hs]
theorem bin2 {k : Nat} {o3 w3 o w rc rc2 : List Int32} {op : Int32} (hr : rk op = k) (n4 : op ≠ 40) (h : stl (k + 1) o3 w3 = stl (k + 1) (rc2 ++ (rc ++ o)) (op :: w)) : stl k o3 w3 = stl k ((-op :: (rc2 ++ rc)) ++ o) w := by
  rw [← stl_stl (Nat.le_succ k) o3 w3, h, stl_stl (Nat.le_succ k)]
  rw [show stl k (rc2 ++ (rc ++ o)) (op :: w) = stl k (-op :: (rc2 ++ (rc ++ o))) w by rw [stl, if_neg (by rw [hr]; rintro (h | h); exact n4 h; omega)]]
  simp
section EX
variable {t : Nat → Int} {env : Int32 → Int32} {B : Mem} {rc : Nat → Int32 → Mem → Option (Int32 × Mem)}
theorem not_fine {N : Mem} {x : Int32} (h : (N.1 162 18).toInt ≠ -1) (e : f_Mod_fine N = some x) : x = 0 := by
  rcases fine_i e with ⟨a, _⟩ | ⟨_, b⟩
  · exact a
  · exact absurd b h
theorem is_fine {N : Mem} {x : Int32} (h : (N.1 162 18).toInt = -1) (e : f_Mod_fine N = some x) : ¬ x = 0 := by
  rcases fine_i e with ⟨_, b⟩ | ⟨a, _⟩
  · exact absurd h b
  · rw [a]; decide
/-- products and sums: one more operation -/
def LI (t : Nat → Int) (env : Int32 → Int32) (B : Mem) (w : Nat) (S : MS) (s : Int32 × Mem) : Prop := Fx mEx [] B s.2 ∧ ((∃ S', Ok0 t env w S S' s.1 s.2 ∧ (w = 1 → Fol 2 t S')) ∨ Ft t S s.2)
theorem okE : okC mEx = true := by decide +kernel
theorem LI_step {w : Nat} {S S' : MS} {v op o : Int32} {N N1 R : Mem} {a : Int32} (hrc : HI t env B rc) (w12 : w = 1 ∨ w = 2) (hB : Rd t B) (ts : tp (w + 2) S.2.1.2) (d4 : S.2.2.1 ≤ 4) (ha : a.toInt = (S.2.2.1 : Int)) (fx : Fx mEx [] B N) (h : Ok0 t env w S S' v N) (ht : t S'.1 = op.toInt) (hr : rk op = w + 2) (n4 : op ≠ 40) (op1 : op.toInt ≠ -1) (op2 : op.toInt ≠ 41) (oc : op.toInt = 42 ∨ op.toInt = 43 ∨ op.toInt = 45 ∨ op.toInt = 47) (e1 : N1 = s_i N 162 17 ((N.1 162 17) + (1 : Int32))) (e : rc (w + 1) a N1 = some (o, R)) : Fx mEx [] B R ∧ ((∃ S'', Ok0 t env w S S'' (jn v op o) R ∧ (w = 1 → Fol 2 t S'')) ∨ Ft t S R) := by
  obtain ⟨h1, h2, h3, h4, h5, h6, h7, rc1, h8, h9⟩ := h
  rw [stl_id ts] at h8
  have p80 := (Rd_rng hB S'.1).2.2 (by omega)
  have st := bin (t := t) (S' := S') (sg_eq ht) hr (by omega) (fun h => by omega) (by omega) (by omega) h4 h8
  rw [if_neg (by omega)] at st
  have fx1 : Fx mEx [] B N1 := wi1 fx e1 (by decide +kernel)
  have pre : Pre t (w + 1) (S'.1 + 1, (rc1 ++ S.2.1.1, op :: S.2.1.2), S'.2.2.1, S'.2.2.2.1, false) N1 a := by
    refine ⟨Rd_fx okE fx1 hB, ?_, ?_, rfl, ?_, ?_, ?_, fun _ => .inr (by rw [hr]; omega), fun h => by omega⟩
    · rw [e1, si_ne (by omega)]; exact h1
    · rw [e1, si_eq]; exact add_ti h2 o1 (by omega) (by omega)
    · show a.toInt = (S'.2.2.1 : Int); rw [h5]; exact ha
    · show S'.2.2.1 ≤ 4; omega
    · show S'.1 + 1 ≤ 80; omega
  obtain ⟨fr, g⟩ := hrc (w + 1) a N1 (o, R) _ (by omega) fx1 pre e
  refine ⟨fr, ?_⟩
  rcases g with ⟨S3, ⟨k1, k2, k3, k4, k5, k6, k7, rc2, k8, k9⟩, k10⟩ | g
  · refine .inl ⟨S3, ⟨k1, k2, Rch_t h3 (Rch_s st k3), k4, k5.trans h5, k6, fun d hd _ => ?_, -op :: (rc2 ++ rc1), bin2 hr n4 k8, fun s => ?_⟩, fun hw => ?_⟩
    · rw [k7 d (by show d ≤ S'.2.2.1; omega) (fun h => by omega)]
      exact h7 d hd (fun h => by omega)
    · show opx env (-op) (rv env (rc2 ++ rc1) s) = _
      rw [rv_app, h9, k9]
      have l0 : (-op) < 0 := by
        rcases oc with h | h | h | h
        · rw [show op = 42 from Int32.toInt_inj.mp h]; decide
        · rw [show op = 43 from Int32.toInt_inj.mp h]; decide
        · rw [show op = 45 from Int32.toInt_inj.mp h]; decide
        · rw [show op = 47 from Int32.toInt_inj.mp h]; decide
      have q0 : isq (- -op) = false := by
        rcases oc with h | h | h | h
        · rw [show op = 42 from Int32.toInt_inj.mp h]; decide
        · rw [show op = 43 from Int32.toInt_inj.mp h]; decide
        · rw [show op = 45 from Int32.toInt_inj.mp h]; decide
        · rw [show op = 47 from Int32.toInt_inj.mp h]; decide
      have q1 : - -op = op := by
        rcases oc with h | h | h | h
        · rw [show op = 42 from Int32.toInt_inj.mp h]; decide
        · rw [show op = 43 from Int32.toInt_inj.mp h]; decide
        · rw [show op = 45 from Int32.toInt_inj.mp h]; decide
        · rw [show op = 47 from Int32.toInt_inj.mp h]; decide
      have q2 : ¬ op = 256 := by
        rintro rfl
        rcases oc with h | h | h | h <;> exact absurd h (by decide)
      unfold opx
      rw [if_pos l0, if_neg (by rw [q0]; decide), q1, if_neg q2]
      rfl
    · subst hw
      exact ⟨k10.1, fun h => by omega, fun h => by omega⟩
  · exact .inr (Ft_t (Rch_t h3 (Rch_s st Rch_r)) g)
theorem LI_ft {w : Nat} {S : MS} {N : Mem} {v : Int32} (fx : Fx mEx [] B N) (h : Ft t S N) : LI t env B w S (v, N) := ⟨fx, .inr h⟩
theorem prod_l (hrc : HI t env B rc) (hB : Rd t B) {S : MS} {a : Int32} (ts : tp 4 S.2.1.2) (d4 : S.2.2.1 ≤ 4) (ha : a.toInt = (S.2.2.1 : Int)) {s : Int32 × Mem} {r} (h : LI t env B 2 S s) (e : lb_Mod_product_6 rc a s = some r) : Sum.elim (LI t env B 2 S) (fun x : Int32 × Mem => Fx mEx [] B x.2 ∧ (Ok t env 2 S x.1 x.2 ∨ Ft t S x.2)) r := by
  obtain ⟨v, N⟩ := s
  obtain ⟨fx, h⟩ := h
  dsimp only at fx h
  unfold lb_Mod_product_6 at e
  dsimp only at e
  obtain ⟨x2, e2, e⟩ := bo e
  rcases h with ⟨S', h, _⟩ | h
  · have hN := Rd_fx okE fx hB
    rw [if_neg (is_fine h.1 e2)] at e
    obtain ⟨x3, e3, e⟩ := bo e
    have k42 := here_c hN h.2.1 (c := 42) e3 (by decide) (by decide)
    have k47 := here_c hN h.2.1 (c := 47) e3 (by decide) (by decide)
    have go : ∀ {op : Int32}, (op = 42 ∨ op = 47) → t S'.1 = op.toInt → j_Mod_product_31_6 rc a v N = some r → Sum.elim (LI t env B 2 S) (fun x : Int32 × Mem => Fx mEx [] B x.2 ∧ (Ok t env 2 S x.1 x.2 ∨ Ft t S x.2)) r := by
      intro op hop ht e
      unfold j_Mod_product_31_6 at e
      obtain ⟨x4, e4, e⟩ := bo e
      rw [e3] at e4
      obtain rfl := Option.some.inj e4
      have step : ∀ w0 : Int32, j_Mod_product_45_6 rc a v w0 N = some r → ((w0 = 0 ∧ op = 47) ∨ (¬ w0 = 0 ∧ op = 42)) → Sum.elim (LI t env B 2 S) (fun x : Int32 × Mem => Fx mEx [] B x.2 ∧ (Ok t env 2 S x.1 x.2 ∨ Ft t S x.2)) r := by
        intro w0 e hw0
        unfold j_Mod_product_45_6 at e
        obtain ⟨M5, e5, e⟩ := mo e
        obtain ⟨x6, e6, e⟩ := bo e
        have L := LI_step (w := 2) (op := op) (o := x6.1) (R := x6.2) hrc (.inr rfl) hB ts d4 ha fx h ht (by rcases hop with rfl | rfl <;> decide) (by rcases hop with rfl | rfl <;> decide) (by rcases hop with rfl | rfl <;> decide) (by rcases hop with rfl | rfl <;> decide) (by rcases hop with rfl | rfl <;> decide) e5 e6
        rcases io e with ⟨c, e⟩ | ⟨c, e⟩
        · have o47 : op = 47 := by
            rcases hw0 with h | h
            · exact h.2
            · exact absurd c h.1
          subst o47
          rcases io e with ⟨c6, e⟩ | ⟨c6, e⟩
          · obtain rfl := Option.some.inj e
            rw [show jn v 47 x6.1 = 0 by simp only [jn]; rw [if_neg (by decide), if_neg (by decide), if_neg (by decide), if_pos (by decide), if_pos c6]] at L
            exact L
          · obtain ⟨_, e⟩ := io_m e
            obtain rfl := Option.some.inj e
            rw [show jn v 47 x6.1 = v / x6.1 by simp only [jn]; rw [if_neg (by decide), if_neg (by decide), if_neg (by decide), if_pos (by decide), if_neg c6]] at L
            exact L
        · have o42 : op = 42 := by
            rcases hw0 with h | h
            · exact absurd h.1 c
            · exact h.2
          subst o42
          obtain rfl := Option.some.inj e
          rw [show jn v 42 x6.1 = v * x6.1 by simp only [jn]; rw [if_pos (by decide)]] at L
          exact L
      rcases io e with ⟨c, e⟩ | ⟨c, e⟩
      · refine step 1 e (.inr ⟨by decide, ?_⟩)
        exact Int32.toInt_inj.mp (ht.symm.trans (k42.mp c))
      · refine step 0 e (.inl ⟨rfl, ?_⟩)
        rcases hop with h | h
        · subst h; exact absurd (k42.mpr ht) c
        · exact h
    rcases io e with ⟨c, e⟩ | ⟨c, e⟩
    · exact go (.inl rfl) (k42.mp c) e
    obtain ⟨x9, e9, e⟩ := bo e
    rw [e3] at e9
    obtain rfl := Option.some.inj e9
    rcases io e with ⟨c2, e⟩ | ⟨c2, e⟩
    · exact go (.inr rfl) (k47.mp c2) e
    obtain rfl := Option.some.inj e
    exact ⟨fx, .inl ⟨S', h, ⟨fun _ => ⟨fun g => c (k42.mpr g), fun g => c2 (k47.mpr g)⟩, fun g => by omega, fun g => by omega⟩⟩⟩
  · rw [if_pos (not_fine (Ft_w h) e2)] at e
    obtain rfl := Option.some.inj e
    exact ⟨fx, .inr h⟩
theorem sum_l (hrc : HI t env B rc) (hB : Rd t B) {S : MS} {a : Int32} (ts : tp 3 S.2.1.2) (d4 : S.2.2.1 ≤ 4) (ha : a.toInt = (S.2.2.1 : Int)) {s : Int32 × Mem} {r} (h : LI t env B 1 S s) (e : lb_Mod_sum_6 rc a s = some r) : Sum.elim (LI t env B 1 S) (fun x : Int32 × Mem => Fx mEx [] B x.2 ∧ (Ok t env 1 S x.1 x.2 ∨ Ft t S x.2)) r := by
  obtain ⟨v, N⟩ := s
  obtain ⟨fx, h⟩ := h
  dsimp only at fx h
  unfold lb_Mod_sum_6 at e
  dsimp only at e
  obtain ⟨x2, e2, e⟩ := bo e
  rcases h with ⟨S', h, hf⟩ | h
  · have hN := Rd_fx okE fx hB
    have hf := hf rfl
    rw [if_neg (is_fine h.1 e2)] at e
    obtain ⟨x3, e3, e⟩ := bo e
    have k43 := here_c hN h.2.1 (c := 43) e3 (by decide) (by decide)
    have k45 := here_c hN h.2.1 (c := 45) e3 (by decide) (by decide)
    have go : ∀ {op : Int32}, (op = 43 ∨ op = 45) → t S'.1 = op.toInt → j_Mod_sum_31_6 rc a v N = some r → Sum.elim (LI t env B 1 S) (fun x : Int32 × Mem => Fx mEx [] B x.2 ∧ (Ok t env 1 S x.1 x.2 ∨ Ft t S x.2)) r := by
      intro op hop ht e
      unfold j_Mod_sum_31_6 at e
      obtain ⟨x4, e4, e⟩ := bo e
      rw [e3] at e4
      obtain rfl := Option.some.inj e4
      have step : ∀ w0 : Int32, j_Mod_sum_45_6 rc a v w0 N = some r → ((w0 = 0 ∧ op = 45) ∨ (¬ w0 = 0 ∧ op = 43)) → Sum.elim (LI t env B 1 S) (fun x : Int32 × Mem => Fx mEx [] B x.2 ∧ (Ok t env 1 S x.1 x.2 ∨ Ft t S x.2)) r := by
        intro w0 e hw0
        unfold j_Mod_sum_45_6 at e
        obtain ⟨M5, e5, e⟩ := mo e
        obtain ⟨x6, e6, e⟩ := bo e
        have L := LI_step (w := 1) (op := op) (o := x6.1) (R := x6.2) hrc (.inl rfl) hB ts d4 ha fx h ht (by rcases hop with rfl | rfl <;> decide) (by rcases hop with rfl | rfl <;> decide) (by rcases hop with rfl | rfl <;> decide) (by rcases hop with rfl | rfl <;> decide) (by rcases hop with rfl | rfl <;> decide) e5 e6
        rcases io e with ⟨c, e⟩ | ⟨c, e⟩
        · have o45 : op = 45 := by
            rcases hw0 with h | h
            · exact h.2
            · exact absurd c h.1
          subst o45
          obtain rfl := Option.some.inj e
          rw [show jn v 45 x6.1 = v - x6.1 by simp only [jn]; rw [if_neg (by decide), if_neg (by decide), if_pos (by decide)]] at L
          exact L
        · have o43 : op = 43 := by
            rcases hw0 with h | h
            · exact absurd h.1 c
            · exact h.2
          subst o43
          obtain rfl := Option.some.inj e
          rw [show jn v 43 x6.1 = v + x6.1 by simp only [jn]; rw [if_neg (by decide), if_pos (by decide)]] at L
          exact L
      rcases io e with ⟨c, e⟩ | ⟨c, e⟩
      · refine step 1 e (.inr ⟨by decide, ?_⟩)
        exact Int32.toInt_inj.mp (ht.symm.trans (k43.mp c))
      · refine step 0 e (.inl ⟨rfl, ?_⟩)
        rcases hop with h | h
        · subst h; exact absurd (k43.mpr ht) c
        · exact h
    rcases io e with ⟨c, e⟩ | ⟨c, e⟩
    · exact go (.inl rfl) (k43.mp c) e
    obtain ⟨x9, e9, e⟩ := bo e
    rw [e3] at e9
    obtain rfl := Option.some.inj e9
    rcases io e with ⟨c2, e⟩ | ⟨c2, e⟩
    · exact go (.inr rfl) (k45.mp c2) e
    obtain rfl := Option.some.inj e
    exact ⟨fx, .inl ⟨S', h, ⟨fun _ => hf.1 (by omega), fun _ => ⟨fun g => c (k43.mpr g), fun g => c2 (k45.mpr g)⟩, fun g => by omega⟩⟩⟩
  · rw [if_pos (not_fine (Ft_w h) e2)] at e
    obtain rfl := Option.some.inj e
    exact ⟨fx, .inr h⟩
theorem prod_i (hrc : HI t env B rc) (hB : Rd t B) {S : MS} {a : Int32} {N : Mem} {r : Int32 × Mem} (fx : Fx mEx [] B N) (pre : Pre t 2 S N a) (e : fb_Mod_product rc a N = some r) : Fx mEx [] B r.2 ∧ (Ok t env 2 S r.1 r.2 ∨ Ft t S r.2) := by
  unfold fb_Mod_product at e
  obtain ⟨x1, e1, e⟩ := bo e
  obtain ⟨x14, e14, e⟩ := bo e
  obtain rfl := Option.some.inj e
  obtain ⟨q1, q2, q3, q4, q5, q6, q7, q8, q9⟩ := pre
  obtain ⟨f1, g⟩ := hrc 3 a N x1 S (by omega) fx ⟨q1, q2, q3, q4, q5, q6, q7, fun h => by omega, fun h => by omega⟩ e1
  have q8 := q8 (by omega)
  refine it_r (I := LI t env B 2 S) (Q := fun x : Int32 × Mem => Fx mEx [] B x.2 ∧ (Ok t env 2 S x.1 x.2 ∨ Ft t S x.2)) (fun s r hs er => prod_l hrc hB q8 q6 q5 hs er) e14 ⟨f1, ?_⟩
  rcases g with ⟨S', ⟨k1, k2, k3, k4, k5, k6, k7, rc1, k8, k9⟩, _⟩ | g
  · refine .inl ⟨S', ⟨k1, k2, k3, k4, k5, k6, fun d hd _ => k7 d hd (fun h => by omega), rc1, ?_, k9⟩, fun h => by omega⟩
    rw [← stl_stl (show 4 ≤ 5 by omega) S'.2.1.1, k8, stl_stl (show 4 ≤ 5 by omega)]
  · exact .inr g
theorem sum_i (hrc : HI t env B rc) (hB : Rd t B) {S : MS} {a : Int32} {N : Mem} {r : Int32 × Mem} (fx : Fx mEx [] B N) (pre : Pre t 1 S N a) (e : fb_Mod_sum rc a N = some r) : Fx mEx [] B r.2 ∧ (Ok t env 1 S r.1 r.2 ∨ Ft t S r.2) := by
  unfold fb_Mod_sum at e
  obtain ⟨x1, e1, e⟩ := bo e
  obtain ⟨x14, e14, e⟩ := bo e
  obtain rfl := Option.some.inj e
  obtain ⟨q1, q2, q3, q4, q5, q6, q7, q8, q9⟩ := pre
  have q8 := q8 (by omega)
  obtain ⟨f1, g⟩ := hrc 2 a N x1 S (by omega) fx ⟨q1, q2, q3, q4, q5, q6, q7, fun h => tp_m (by omega) q8, fun h => by omega⟩ e1
  refine it_r (I := LI t env B 1 S) (Q := fun x : Int32 × Mem => Fx mEx [] B x.2 ∧ (Ok t env 1 S x.1 x.2 ∨ Ft t S x.2)) (fun s r hs er => sum_l hrc hB q8 q6 q5 hs er) e14 ⟨f1, ?_⟩
  rcases g with ⟨S', ⟨k1, k2, k3, k4, k5, k6, k7, rc1, k8, k9⟩, kf⟩ | g
  · refine .inl ⟨S', ⟨k1, k2, k3, k4, k5, k6, fun d hd _ => k7 d hd (fun h => by omega), rc1, ?_, k9⟩, fun _ => kf⟩
    rw [← stl_stl (show 3 ≤ 4 by omega) S'.2.1.1, k8, stl_stl (show 3 ≤ 4 by omega)]
  · exact .inr g
end EX
