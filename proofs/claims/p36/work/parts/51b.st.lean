/-! states of the reference (now, aside, then): their places by index -/
theorem St_163 : St 163 := .inl rfl
theorem St_174 : St 174 := .inr (.inl rfl)
theorem St_176 : St 176 := .inr (.inr rfl)
theorem St_kd {k : Nat} (h : St k) : kd k = 1 := by rcases h with rfl | rfl | rfl <;> decide +kernel
theorem St_ln {k : Nat} (h : St k) : ln k = 96 := by rcases h with rfl | rfl | rfl <;> decide +kernel
theorem St_b {k : Nat} (h : St k) : stb k = true := by rcases h with rfl | rfl | rfl <;> decide
theorem S5_fq {k : Nat} (h : stb k = true) : fq k = true := by
  simp only [stb, Bool.or_eq_true, beq_iff_eq] at h
  rcases h with rfl | rfl | rfl | rfl | rfl <;> decide
theorem rng_st {k : Nat} (h : stb k = true) (i : Nat) : rng k i = reg (i % 96) := by unfold rng; rw [h]
theorem tcn (i : Int32) : i.toNatClampNeg = i.toInt.toNat := rfl
theorem Jreg {M : Mem} (h : J M) {k : Nat} (hs : stb k = true) (i : Nat) : (reg (i % 96)).1 ≤ (M.1 k i).toInt ∧ (M.1 k i).toInt ≤ (reg (i % 96)).2 := by
  have := h.1 k i
  rw [rng_st hs] at this
  exact this
theorem Jwreg {M : Mem} (h : J M) {k : Nat} (hs : stb k = true) (i : Nat) (v : Int32) (h1 : (reg (i % 96)).1 ≤ v.toInt) (h2 : v.toInt ≤ (reg (i % 96)).2) : J (s_i M k i v) := J_si h (fk_of (S5_fq hs) i) (by rw [rng_st hs]; exact h1) (by rw [rng_st hs]; exact h2)
theorem reg0 {i : Nat} (h : i < 8) : reg (i % 96) = (0, 71) := by
  have e : i % 96 = i := Nat.mod_eq_of_lt (by omega)
  rw [e]; unfold reg; rw [if_pos h]
theorem reg1 {i : Nat} (h0 : 8 ≤ i) (h : i < 16) : reg (i % 96) = (0, 8) := by
  have e : i % 96 = i := Nat.mod_eq_of_lt (by omega)
  rw [e]; unfold reg; rw [if_neg (by omega), if_pos h]
theorem reg2 {i : Nat} (h0 : 16 ≤ i) (h : i < 80) : reg (i % 96) = FUL := by
  have e : i % 96 = i := Nat.mod_eq_of_lt (by omega)
  rw [e]; unfold reg; rw [if_neg (by omega), if_neg (by omega), if_pos h]
theorem reg3 {i : Nat} (h0 : 80 ≤ i) (h : i < 92) : reg (i % 96) = (0, 35) := by
  have e : i % 96 = i := Nat.mod_eq_of_lt (by omega)
  rw [e]; unfold reg; rw [if_neg (by omega), if_neg (by omega), if_neg (by omega), if_pos h]
theorem reg4 : reg (92 % 96) = (0, 6) := rfl
theorem reg5 : reg (94 % 96) = (0, 1) := rfl
theorem Jst0 {M : Mem} (h : J M) {k : Nat} (hs : St k) {i : Int32} (h1 : (0 : Int) ≤ i.toInt) (h2 : i.toInt ≤ (7 : Int)) : (0 : Int) ≤ (M.1 k i.toNatClampNeg).toInt ∧ (M.1 k i.toNatClampNeg).toInt ≤ (71 : Int) := by
  have := Jreg h (St_b hs) i.toNatClampNeg
  rw [reg0 (by rw [tcn]; omega)] at this
  exact this
theorem Jst8 {M : Mem} (h : J M) {k : Nat} (hs : St k) {i : Int32} (h1 : (8 : Int) ≤ i.toInt) (h2 : i.toInt ≤ (15 : Int)) : (0 : Int) ≤ (M.1 k i.toNatClampNeg).toInt ∧ (M.1 k i.toNatClampNeg).toInt ≤ (8 : Int) := by
  have := Jreg h (St_b hs) i.toNatClampNeg
  rw [reg1 (by rw [tcn]; omega) (by rw [tcn]; omega)] at this
  exact this
theorem Jst80 {M : Mem} (h : J M) {k : Nat} (hs : St k) {i : Int32} (h1 : (80 : Int) ≤ i.toInt) (h2 : i.toInt ≤ (91 : Int)) : (0 : Int) ≤ (M.1 k i.toNatClampNeg).toInt ∧ (M.1 k i.toNatClampNeg).toInt ≤ (35 : Int) := by
  have := Jreg h (St_b hs) i.toNatClampNeg
  rw [reg3 (by rw [tcn]; omega) (by rw [tcn]; omega)] at this
  exact this
theorem Jst92 {M : Mem} (h : J M) {k : Nat} (hs : St k) : (0 : Int) ≤ (M.1 k (92 : Int32).toNatClampNeg).toInt ∧ (M.1 k (92 : Int32).toNatClampNeg).toInt ≤ (6 : Int) := Jreg h (St_b hs) 92
theorem Jst94 {M : Mem} (h : J M) {k : Nat} (hs : St k) : (0 : Int) ≤ (M.1 k (94 : Int32).toNatClampNeg).toInt ∧ (M.1 k (94 : Int32).toNatClampNeg).toInt ≤ (1 : Int) := Jreg h (St_b hs) 94
theorem Jws0 {M : Mem} (h : J M) {k : Nat} (hs : St k) {i : Int32} (h1 : (0 : Int) ≤ i.toInt) (h2 : i.toInt ≤ (7 : Int)) (v : Int32) (h3 : (0 : Int) ≤ v.toInt) (h4 : v.toInt ≤ (71 : Int)) : J (s_i M k i.toNatClampNeg v) :=
  Jwreg h (St_b hs) _ v (by rw [reg0 (by rw [tcn]; omega)]; exact h3) (by rw [reg0 (by rw [tcn]; omega)]; exact h4)
theorem Jws8 {M : Mem} (h : J M) {k : Nat} (hs : St k) {i : Int32} (h1 : (8 : Int) ≤ i.toInt) (h2 : i.toInt ≤ (15 : Int)) (v : Int32) (h3 : (0 : Int) ≤ v.toInt) (h4 : v.toInt ≤ (8 : Int)) : J (s_i M k i.toNatClampNeg v) :=
  Jwreg h (St_b hs) _ v (by rw [reg1 (by rw [tcn]; omega) (by rw [tcn]; omega)]; exact h3) (by rw [reg1 (by rw [tcn]; omega) (by rw [tcn]; omega)]; exact h4)
theorem Jws16 {M : Mem} (h : J M) {k : Nat} (hs : St k) {i : Int32} (h1 : (16 : Int) ≤ i.toInt) (h2 : i.toInt ≤ (79 : Int)) (v : Int32) : J (s_i M k i.toNatClampNeg v) :=
  Jwreg h (St_b hs) _ v (by rw [reg2 (by rw [tcn]; omega) (by rw [tcn]; omega)]; exact i32lo v) (by rw [reg2 (by rw [tcn]; omega) (by rw [tcn]; omega)]; exact i32hi v)
theorem Jws80 {M : Mem} (h : J M) {k : Nat} (hs : St k) {i : Int32} (h1 : (80 : Int) ≤ i.toInt) (h2 : i.toInt ≤ (91 : Int)) (v : Int32) (h3 : (0 : Int) ≤ v.toInt) (h4 : v.toInt ≤ (35 : Int)) : J (s_i M k i.toNatClampNeg v) :=
  Jwreg h (St_b hs) _ v (by rw [reg3 (by rw [tcn]; omega) (by rw [tcn]; omega)]; exact h3) (by rw [reg3 (by rw [tcn]; omega) (by rw [tcn]; omega)]; exact h4)
theorem Jws92 {M : Mem} (h : J M) {k : Nat} (hs : St k) (v : Int32) (h3 : (0 : Int) ≤ v.toInt) (h4 : v.toInt ≤ (6 : Int)) : J (s_i M k (92 : Int32).toNatClampNeg v) := Jwreg h (St_b hs) 92 v h3 h4
theorem Jws93 {M : Mem} (h : J M) {k : Nat} (hs : St k) (v : Int32) : J (s_i M k (93 : Int32).toNatClampNeg v) := Jwreg h (St_b hs) 93 v (i32lo v) (i32hi v)
theorem Jws94 {M : Mem} (h : J M) {k : Nat} (hs : St k) (v : Int32) (h3 : (0 : Int) ≤ v.toInt) (h4 : v.toInt ≤ (1 : Int)) : J (s_i M k (94 : Int32).toNatClampNeg v) := Jwreg h (St_b hs) 94 v h3 h4
theorem Jws95 {M : Mem} (h : J M) {k : Nat} (hs : St k) (v : Int32) : J (s_i M k (95 : Int32).toNatClampNeg v) := Jwreg h (St_b hs) 95 v (i32lo v) (i32hi v)
theorem reg_z (i : Nat) : (reg i).1 ≤ 0 ∧ 0 ≤ (reg i).2 := by
  unfold reg
  repeat' split
  all_goals (first | exact ⟨by decide, by decide⟩)
/-- a place of a state laid to the same place of another -/
theorem Jwcopy {M : Mem} (h : J M) {k k' : Nat} (hs : stb k = true) (hs' : stb k' = true) (i j : Nat) (e : i % 96 = j % 96) : J (s_i M k i (M.1 k' j)) := by
  have := Jreg h hs' j
  rw [← e] at this
  exact Jwreg h hs i _ this.1 this.2
theorem Jwzero {M : Mem} (h : J M) {k : Nat} (hs : stb k = true) (i : Nat) : J (s_i M k i (0 : Int32)) := Jwreg h hs i _ (reg_z _).1 (reg_z _).2
theorem Jw_166 {M : Mem} (h : J M) (i : Nat) (v : Int32) (h1 : (1 : Int) ≤ v.toInt) (h2 : v.toInt ≤ (9 : Int)) : J (s_i M 166 i v) := by
  refine ⟨Jr_si h.1 (by show (0 : Int) ≤ _; omega) h2, K1_si h.2.1 (by decide), h.2.2.1, h.2.2.2.1, h.2.2.2.2.1, fun p hp => ?_⟩
  by_cases e : p = i
  · subst e; rw [si_eq]; exact h1
  · rw [si_ne (fun e2 => e e2.2)]
    exact h.2.2.2.2.2 p hp
/-- how many people there are: none, or one more whose route is read -/
theorem Jw_people {M : Mem} (h : J M) (v : Int32) (h1 : (0 : Int) ≤ v.toInt) (h2 : v.toInt ≤ (8 : Int)) (h3 : ∀ p : Nat, (p : Int) < v.toInt → (1 : Int) ≤ (M.1 166 p).toInt) : J (s_i M 162 4 v) := by
  refine ⟨Jr_si h.1 h1 h2, K1_si h.2.1 (by decide), h.2.2.1, ?_, h.2.2.2.2.1, fun p hp => ?_⟩
  · exact h.2.2.2.1
  · rw [si_eq] at hp
    exact h3 p hp
theorem J_q24 {M : Mem} (h : J M) {v : Option Nat} (hv : v = none ∨ ∃ k, v = some k ∧ St k) : J (s_q M 162 24 v) := by
  refine ⟨h.1, h.2.1, h.2.2.1, h.2.2.2.1, ?_, h.2.2.2.2.2⟩
  rcases hv with rfl | ⟨k, rfl, hk⟩
  · left; simp [s_q]
  · right; exact ⟨k, by simp [s_q], hk⟩
theorem J_begin {M : Mem} (h : J M) {k : Nat} {a b : Int32} (hk : k = 167 ∨ (k = 172 ∧ b.toInt ≤ 40)) (a1 : (0 : Int) ≤ a.toInt) (a2 : a.toInt ≤ 80) (b1 : (0 : Int) ≤ b.toInt) (b2 : b.toInt ≤ 80) : J (s_i (s_i (s_q M 162 14 (some k)) 162 15 a) 162 16 b) := by
  refine ⟨Jr_si (k := 162) (i := 16) (v := b) (Jr_si (M := s_q M 162 14 (some k)) (k := 162) (i := 15) (v := a) h.1 a1 a2) b1 b2, ?_, h.2.2.1, ?_, h.2.2.2.2.1, h.2.2.2.2.2⟩
  · exact K1_si (K1_si (M := s_q M 162 14 (some k)) h.2.1 (by decide)) (by decide)
  · rcases hk with rfl | ⟨rfl, hb⟩
    · left; simp [s_q, s_i]
    · right; left
      refine ⟨by simp [s_q, s_i], ?_⟩
      rw [si_eq]; exact hb
theorem inb_st {k : Nat} (hs : St k) {i : Int32} (h : inb i 96 = true) : inb i (ln k) = true := by rw [St_ln hs]; exact h
theorem bind_e {α β : Type} {P : β → Prop} {F : Option α} {a : α} {f : α → Option β} (h : F = some a) (k : ∃ r, f a = some r ∧ P r) : ∃ r, Option.bind F f = some r ∧ P r := by rw [h]; exact k
theorem sf_Mod_in (v0 v1 v2 : Int32) : ∃ r : Int32, f_Mod_in v0 v1 v2 = some r ∧ ((0 : Int) ≤ r.toInt ∧ r.toInt ≤ (1 : Int) ∧ (¬ r.toInt = 0 → v1.toInt ≤ v0.toInt ∧ v0.toInt ≤ v2.toInt)) := by
  unfold f_Mod_in
  refine if_i (fun c => ⟨_, rfl, by decide, by decide, fun h => absurd rfl h⟩) (fun c => ?_)
  refine if_i (fun c => ⟨_, rfl, by decide, by decide, fun h => absurd rfl h⟩) (fun c2 => ⟨_, rfl, by decide, by decide, fun _ => ⟨nlti.mp c, nlti.mp c2⟩⟩)
theorem nar_and (x : Int32) : vp_nar .boolean x = x &&& 1 := rfl
theorem nar01 (x : Int32) : (0 : Int) ≤ (vp_nar .boolean x).toInt ∧ (vp_nar .boolean x).toInt ≤ 1 := by
  rw [nar_and]; exact and_rng (by decide)
def FR (k : Nat) : Prop := k = 177 ∨ k = 181 ∨ k = 182 ∨ k = 183
theorem FR_177 : FR 177 := .inl rfl
theorem FR_181 : FR 181 := .inr (.inl rfl)
theorem FR_182 : FR 182 := .inr (.inr (.inl rfl))
theorem FR_183 : FR 183 := .inr (.inr (.inr rfl))
def MA (k : Nat) : Prop := k = 186 ∨ k = 188
theorem MA_186 : MA 186 := .inl rfl
theorem MA_188 : MA 188 := .inr rfl
/-! frames: what a question leaves as it was; v: a state that may change, but for its PLANKS -/
def pqc (k : Nat) : Bool := decide (k < 162) || [163, 164, 165, 166, 167, 172, 173, 174, 189, 190, 191].contains k
def pq (k i : Nat) : Bool := pqc k || (k == 162 && [2, 3, 4, 5, 8, 10, 23, 27, 48].contains i)
def Gd (v : Nat) (M N : Mem) : Prop := ∀ k i : Nat, ((pq k i = true ∧ k ≠ v) ∨ (k = 163 ∧ 80 ≤ i ∧ i ≤ 92)) → N.1 k i = M.1 k i
theorem Gd_r {v : Nat} {M : Mem} : Gd v M M := fun _ _ _ => rfl
theorem Gd_t {v : Nat} {A B C : Mem} (g : Gd v A B) (h : Gd v B C) : Gd v A C := fun k i w => (h k i w).trans (g k i w)
theorem pq_163 (i : Nat) : pq 163 i = true := rfl
theorem Gd_i {v : Nat} {M A B : Mem} {k i : Nat} {x : Int32} (g : Gd v M A) (e : B = s_i A k i x) (h : (pq k i || k == 163) = false) : Gd v M B := fun a b w => by
  simp only [Bool.or_eq_false_iff, beq_eq_false_iff_ne] at h
  rw [e, si_ne (fun z => by
    rcases w with w | w
    · rw [z.1, z.2, h.1] at w; exact absurd w.1 (by decide)
    · exact h.2 (z.1.symm.trans w.1))]
  exact g a b w
theorem Gd_any {v : Nat} {M A B : Mem} {k i : Nat} {x : Int32} (g : Gd v M A) (e : B = s_i A k i x) (h : (pqc k || k == 162) = false) : Gd v M B := fun a b w => by
  simp only [Bool.or_eq_false_iff, beq_eq_false_iff_ne] at h
  have h3 : k ≠ 163 := fun z => by rw [z] at h; exact absurd h.1 (by decide)
  rw [e, si_ne (fun z => by
    rcases w with w | w
    · have := w.1
      unfold pq at this
      rw [z.1, h.1] at this
      simp only [Bool.false_or, Bool.and_eq_true, beq_iff_eq] at this
      exact h.2 this.1
    · exact h3 (z.1.symm.trans w.1))]
  exact g a b w
theorem Gd_st {v : Nat} {M A B : Mem} {i : Nat} {x : Int32} (g : Gd v M A) (e : B = s_i A v i x) (h : i < 80 ∨ 92 < i) : Gd v M B := fun a b w => by
  rw [e, si_ne (fun z => by
    rcases w with w | w
    · exact w.2 z.1
    · have := z.2; omega)]
  exact g a b w
theorem Gd_q {v : Nat} {M A B : Mem} {k i : Nat} {z : Option Nat} (g : Gd v M A) (e : B = s_q A k i z) : Gd v M B := fun a b w => by rw [e]; exact g a b w
theorem Gd_up {u v : Nat} {M N : Mem} (hu : (pqc u || u == 162) = false) (h : Gd u M N) : Gd v M N := fun k i w => by
  simp only [Bool.or_eq_false_iff, beq_eq_false_iff_ne] at hu
  refine h k i ?_
  rcases w with w | w
  · left
    refine ⟨w.1, ?_⟩
    rintro rfl
    have := w.1
    unfold pq at this
    rw [hu.1] at this
    simp only [Bool.false_or, Bool.and_eq_true, beq_iff_eq] at this
    exact hu.2 this.1
  · exact .inr w
def Sx (k : Nat) : Prop := k = 176
theorem Sx_176 : Sx 176 := rfl
theorem Sx_St {k : Nat} (h : Sx k) : St k := .inr (.inr h)
