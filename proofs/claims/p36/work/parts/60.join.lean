section
/-! taking a call apart; frames -/
theorem bo {α β : Type} {a : Option α} {f : α → Option β} {x : β} (e : Option.bind a f = some x) : ∃ y, a = some y ∧ f y = some x := Option.bind_eq_some_iff.mp e
theorem io {α : Type} {c : Prop} [Decidable c] {a b : Option α} {x : α} (e : (if c then a else b) = some x) : (c ∧ a = some x) ∨ (¬ c ∧ b = some x) := by
  by_cases h : c
  · rw [if_pos h] at e; exact .inl ⟨h, e⟩
  · rw [if_neg h] at e; exact .inr ⟨h, e⟩
theorem io_n {α : Type} {c : Prop} [Decidable c] {a : Option α} {x : α} (e : (if c then a else none) = some x) : c ∧ a = some x := by
  rcases io e with h | ⟨_, h⟩
  · exact h
  · cases h
theorem io_m {α : Type} {c : Prop} [Decidable c] {a : Option α} {x : α} (e : (if c then none else a) = some x) : ¬ c ∧ a = some x := by
  rcases io e with ⟨_, h⟩ | h
  · cases h
  · exact h
theorem mo {α β : Type} {m : α} {f : α → Option β} {x : β} (e : mem_ m f = some x) : ∃ N, N = m ∧ f N = some x := ⟨m, rfl, e⟩
theorem el_l {α β γ : Type} {f : α → Option γ} {g : β → Option γ} {y : α} {x : γ} (e : Sum.elim f g (.inl y) = some x) : f y = some x := e
theorem el_r {α β γ : Type} {f : α → Option γ} {g : β → Option γ} {y : β} {x : γ} (e : Sum.elim f g (.inr y) = some x) : g y = some x := e
theorem it_r {S X : Type} {f : S → Option (S ⊕ X)} {I : S → Prop} {Q : X → Prop} (hs : ∀ s r, I s → f s = some r → Sum.elim I Q r) {n : Nat} {s : S} {x : X} (e : iter f n s = some x) (h : I s) : Q x := by
  induction n generalizing s with
  | zero => cases e
  | succ n ih =>
    simp only [iter] at e
    cases hf : f s with
    | none => rw [hf] at e; cases e
    | some r =>
      rw [hf] at e
      have k := hs s r h hf
      cases r with
      | inl s' => exact ih e k
      | inr y => obtain rfl := Option.some.inj e; exact k
def sl (k i : Nat) : Nat := if k = 162 then 200 + i else if k = 1 then 270 + i else if k = 0 then 280 + i else if k = 3 then 300 + i else if k = 46 then 310 + i else if k = 6 then 320 + i else if k = 40 then 330 + i else if k = 45 then 350 + i else if k = 147 then 360 + i else if k = 151 then 370 + i else k
def pl (k : Nat) : Bool := !(k == 162 || k == 1 || k == 0 || k == 3 || k == 46 || k == 6 || k == 40 || k == 45 || k == 147 || k == 151)
theorem sl_pl {k : Nat} (h : pl k = true) (i : Nat) : sl k i = k := by
  simp only [pl, Bool.not_eq_true', Bool.or_eq_false_iff, beq_eq_false_iff_ne] at h
  obtain ⟨⟨⟨⟨⟨⟨⟨⟨⟨h1, h2⟩, h3⟩, h4⟩, h5⟩, h6⟩, h7⟩, h8⟩, h9⟩, h10⟩ := h
  simp [sl, h1, h2, h3, h4, h5, h6, h7, h8, h9, h10]
def Fx (C : Nat) (L : List Nat) (A N : Mem) : Prop := ∀ k i : Nat, Nat.testBit C (sl k i) = false → k ∉ L → N.1 k i = A.1 k i ∧ N.2.1 k i = A.2.1 k i ∧ N.2.2 k i = A.2.2 k i
def Oc (C : Nat) (L : List Nat) (k : Nat) : Prop := k ∈ L ∨ ∀ i, Nat.testBit C (sl k i) = true
abbrev sb (c C : Nat) : Prop := c ||| C = C
theorem sb_r (c : Nat) : sb c c := Nat.or_self c
theorem sbb {c C : Nat} (h : sb c C) {n : Nat} (b : Nat.testBit c n = true) : Nat.testBit C n = true := by
  unfold sb at h
  rw [← h, Nat.testBit_or, b, Bool.true_or]
theorem sb_t {a c C : Nat} (h : a ||| c = c) (hC : sb c C) : sb a C := by
  unfold sb at *
  rw [← hC, ← Nat.or_assoc, h]
theorem tb1 {c C n : Nat} (h : sb c C) (b : Nat.testBit c n = true) : Nat.testBit C n = true := sbb h b
theorem oc_c {c C : Nat} {L : List Nat} {k : Nat} (h : sb c C) (b : (pl k && Nat.testBit c k) = true) : Oc C L k := by
  rw [Bool.and_eq_true] at b
  exact .inr (fun i => by rw [sl_pl b.1]; exact sbb h b.2)
theorem Fx_r {C : Nat} {L : List Nat} {A : Mem} : Fx C L A A := fun _ _ _ _ => ⟨rfl, rfl, rfl⟩
theorem Fx_t {C : Nat} {L : List Nat} {A B N : Mem} (h : Fx C L A B) (g : Fx C L B N) : Fx C L A N := fun k i a b => ⟨(g k i a b).1.trans (h k i a b).1, (g k i a b).2.1.trans (h k i a b).2.1, (g k i a b).2.2.trans (h k i a b).2.2⟩
theorem Oc_ne {C : Nat} {L : List Nat} {k j : Nat} (h : Oc C L k) (i : Nat) (a : Nat.testBit C (sl j i) = false) (b : j ∉ L) : j ≠ k := by
  rintro rfl
  rcases h with h | h
  · exact b h
  · rw [h i] at a; cases a
theorem wi {C : Nat} {L : List Nat} {A M N : Mem} {k i : Nat} {v : Int32} (p : Fx C L A M) (e : N = s_i M k i v) (h : Oc C L k) : Fx C L A N := by
  intro j x a b
  have n := Oc_ne h x a b
  subst e
  have q := p j x a b
  exact ⟨by rw [← q.1]; simp [s_i, n], q.2⟩
theorem wi1 {C : Nat} {L : List Nat} {A M N : Mem} {k i : Nat} {v : Int32} (p : Fx C L A M) (e : N = s_i M k i v) (h : Nat.testBit C (sl k i) = true) : Fx C L A N := by
  intro j x a b
  have n : ¬ (j = k ∧ x = i) := by rintro ⟨rfl, rfl⟩; rw [h] at a; cases a
  subst e
  have q := p j x a b
  exact ⟨by rw [← q.1]; simp only [s_i, if_neg n], q.2⟩
theorem wlg {C : Nat} {L : List Nat} {A M N : Mem} {k i : Nat} {v : Int64} (p : Fx C L A M) (e : N = s_l M k i v) (h : Oc C L k) : Fx C L A N := by
  intro j x a b
  have n := Oc_ne h x a b
  subst e
  have q := p j x a b
  exact ⟨q.1, by rw [← q.2.1]; simp [s_l, n], q.2.2⟩
theorem wlg1 {C : Nat} {L : List Nat} {A M N : Mem} {k i : Nat} {v : Int64} (p : Fx C L A M) (e : N = s_l M k i v) (h : Nat.testBit C (sl k i) = true) : Fx C L A N := by
  intro j x a b
  have n : ¬ (j = k ∧ x = i) := by rintro ⟨rfl, rfl⟩; rw [h] at a; cases a
  subst e
  have q := p j x a b
  exact ⟨q.1, by rw [← q.2.1]; simp only [s_l, if_neg n], q.2.2⟩
theorem wq {C : Nat} {L : List Nat} {A M N : Mem} {k i : Nat} {v : Option Nat} (p : Fx C L A M) (e : N = s_q M k i v) (h : Oc C L k) : Fx C L A N := by
  intro j x a b
  have n := Oc_ne h x a b
  subst e
  have q := p j x a b
  exact ⟨q.1, q.2.1, by rw [← q.2.2]; simp [s_q, n]⟩
theorem wq1 {C : Nat} {L : List Nat} {A M N : Mem} {k i : Nat} {v : Option Nat} (p : Fx C L A M) (e : N = s_q M k i v) (h : Nat.testBit C (sl k i) = true) : Fx C L A N := by
  intro j x a b
  have n : ¬ (j = k ∧ x = i) := by rintro ⟨rfl, rfl⟩; rw [h] at a; cases a
  subst e
  have q := p j x a b
  exact ⟨q.1, q.2.1, by rw [← q.2.2]; simp only [s_q, if_neg n]⟩
theorem wc {C : Nat} {L : List Nat} {A M N : Mem} {k0 k1 sp dp n : Nat} (p : Fx C L A M) (e : N = s_c M k0 k1 sp dp n) (h : Oc C L k1) : Fx C L A N := by
  intro j x a b
  have n := Oc_ne h x a b
  subst e
  have q := p j x a b
  exact ⟨by rw [← q.1]; simp [s_c, n], q.2⟩
theorem scn_all : (List.range 193).all (fun a => !(kd a == 17) || ((pl a && Nat.testBit 178405961588244985132285746180623946389387264 a) && (List.range 6).all (fun j => pl (rf a j) && Nat.testBit 178405961588244985132285746180623946389387264 (rf a j)))) = true := by decide +kernel
theorem kd_193 {a : Nat} (h : kd a ≠ 0) : a < 193 := by
  have := kd_lt (k := a) (by omega)
  have e : NT = 193 := by decide +kernel
  omega
theorem oc_s {c C : Nat} {L : List Nat} {a : Nat} (hC : sb c C) (hs : 178405961588244985132285746180623946389387264 ||| c = c) (g : kd a = 10 + 7) (o : Option (Fin 6)) : Oc C L (match o with | none => a | some j => rf a j.val) := by
  have h := List.all_eq_true.mp scn_all a (List.mem_range.mpr (kd_193 (by omega)))
  have g' : (kd a == 17) = true := by rw [g]; rfl
  rw [g'] at h
  simp only [Bool.not_true, Bool.false_or, Bool.and_eq_true, List.all_eq_true] at h
  cases o with
  | none => exact oc_c (sb_t hs hC) (by rw [Bool.and_eq_true]; exact h.1)
  | some j => exact oc_c (sb_t hs hC) (by rw [Bool.and_eq_true]; have := h.2 j.val (List.mem_range.mpr j.isLt); exact this)
theorem Fx_w {C D : Nat} {L : List Nat} {A N : Mem} (s : sb C D) (h : Fx C L A N) : Fx D L A N := fun k i a b => h k i (by
  cases hh : Nat.testBit C (sl k i) with
  | false => rfl
  | true => rw [sbb s hh] at a; cases a) b
theorem o1 : (1 : Int32).toInt = 1 := rfl
theorem o4 : (4 : Int32).toInt = 4 := rfl
theorem om : (-1 : Int32).toInt = -1 := rfl
end
section
/-! frames: what each function leaves as it was -/
theorem wl_Signs_add_20 {C : Nat} {L : List Nat} {A : Mem} (v1 : Int32) (s : Int32 × Mem) (hC : sb 3794275180128377091639574036764685364535950857523710002444946112771297432041422852 C)  (p0 : Fx C L A s.2) {r : ((Int32 × Mem) ⊕ ((Mem)))} (e : lb_Signs_add_20 v1 s = some r) : (Sum.elim (fun r : Int32 × Mem => Fx C L A r.2) (fun r : Mem => Fx C L A r)) r := by
  unfold lb_Signs_add_20 at e
  rcases io e with ⟨_, e⟩ | ⟨_, e⟩
  · obtain rfl := Option.some.inj e
    exact p0
  obtain ⟨_, e⟩ := io_n e
  obtain ⟨M1, e_M1, e⟩ := mo e
  have p_M1 : Fx C L A M1 := wi p0 e_M1 (oc_c hC (by decide +kernel))
  obtain ⟨M2, e_M2, e⟩ := mo e
  have p_M2 : Fx C L A M2 := wi1 p_M1 e_M2 (tb1 hC (by decide +kernel))
  obtain rfl := Option.some.inj e
  exact p_M2
theorem wf_Signs_add {C : Nat} {L : List Nat} {A : Mem} (v1 : Int32) (M : Mem) (hC : sb 3794275180128377091639574036764685364535950857523710002444946112771297432041422852 C)  (p0 : Fx C L A M) {r : (Int32 × Mem)} (e : f_Signs_add v1 M = some r) : (fun r : Int32 × Mem => Fx C L A r.2) r := by
  unfold f_Signs_add at e
  rcases io e with ⟨_, e⟩ | ⟨_, e⟩
  · obtain rfl := Option.some.inj e
    exact p0
  rcases io e with ⟨_, e⟩ | ⟨_, e⟩
  · obtain ⟨x4, e_x4, e⟩ := bo e
    have p_x4 : Fx C L A x4 := (it_r (I := fun s : Int32 × Mem => Fx C L A s.2) (Q := (fun r : Mem => Fx C L A r)) (fun s_ r_ hs_ er_ => wl_Signs_add_20 v1 s_ (sb_t (by decide +kernel) hC) hs_ er_) e_x4 p0)
    obtain rfl := Option.some.inj e
    exact p_x4
  obtain rfl := Option.some.inj e
  exact p0
theorem wl_Signs_digits_11 {C : Nat} {L : List Nat} {A : Mem} (v1 : Int32) (v2 : Int32) (v3 : Int32) (s : Int32 × Int32 × Mem) (hC : sb 7588550360256754183279148073529370729071901715047420004889892225542594864082845696 C)  (p0 : Fx C L A s.2.2) {r : ((Int32 × Int32 × Mem) ⊕ ((Int32 × Mem)))} (e : lb_Signs_digits_11 v1 v2 v3 s = some r) : (Sum.elim (fun r : Int32 × Int32 × Mem => Fx C L A r.2.2) (fun r : Int32 × Mem => Fx C L A r.2)) r := by
  unfold lb_Signs_digits_11 at e
  rcases io e with ⟨_, e⟩ | ⟨_, e⟩
  · obtain rfl := Option.some.inj e
    exact p0
  rcases io e with ⟨_, e⟩ | ⟨_, e⟩
  · obtain ⟨x2, e_x2, e⟩ := bo e
    rcases io e with ⟨_, e⟩ | ⟨_, e⟩
    · obtain rfl := Option.some.inj e
      exact p0
    rcases io e with ⟨_, e⟩ | ⟨_, e⟩
    · obtain rfl := Option.some.inj e
      exact p0
    obtain ⟨M3, e_M3, e⟩ := mo e
    have p_M3 : Fx C L A M3 := wi1 p0 e_M3 (tb1 hC (by decide +kernel))
    obtain rfl := Option.some.inj e
    exact p_M3
  obtain rfl := Option.some.inj e
  exact p0
theorem wf_Signs_digits {C : Nat} {L : List Nat} {A : Mem} (v1 : Int32) (v2 : Int32) (v3 : Int32) (M : Mem) (hC : sb 7588550360256754183279148073529370729071901715047420004889892225542594864082845696 C)  (p0 : Fx C L A M) {r : (Int32 × Mem)} (e : f_Signs_digits v1 v2 v3 M = some r) : (fun r : Int32 × Mem => Fx C L A r.2) r := by
  unfold f_Signs_digits at e
  obtain ⟨M1, e_M1, e⟩ := mo e
  have p_M1 : Fx C L A M1 := wi1 p0 e_M1 (tb1 hC (by decide +kernel))
  obtain ⟨x8, e_x8, e⟩ := bo e
  have p_x8 : Fx C L A x8.2 := (it_r (I := fun s : Int32 × Int32 × Mem => Fx C L A s.2.2) (Q := (fun r : Int32 × Mem => Fx C L A r.2)) (fun s_ r_ hs_ er_ => wl_Signs_digits_11 v1 v2 v3 s_ (sb_t (by decide +kernel) hC) hs_ er_) e_x8 p_M1)
  obtain rfl := Option.some.inj e
  exact p_x8
theorem wl_Signs_steps_6 {C : Nat} {L : List Nat} {A : Mem} (v1 : Int32) (v2 : Int32) (v3 : Nat) (v4 : Int32) (s : Int32 × Int32 × Mem) (hC : sb 0 C) (h_v3 : Oc C L (v3)) (p0 : Fx C L A s.2.2) {r : ((Int32 × Int32 × Mem) ⊕ ((Int32 × Mem)))} (e : lb_Signs_steps_6 v1 v2 v3 v4 s = some r) : (Sum.elim (fun r : Int32 × Int32 × Mem => Fx C L A r.2.2) (fun r : Int32 × Mem => Fx C L A r.2)) r := by
  unfold lb_Signs_steps_6 at e
  rcases io e with ⟨_, e⟩ | ⟨_, e⟩
  · obtain rfl := Option.some.inj e
    exact p0
  rcases io e with ⟨_, e⟩ | ⟨_, e⟩
  · obtain ⟨x1, e_x1, e⟩ := bo e
    obtain ⟨x2, e_x2, e⟩ := bo e
    rcases io e with ⟨_, e⟩ | ⟨_, e⟩
    · obtain rfl := Option.some.inj e
      exact p0
    rcases io e with ⟨_, e⟩ | ⟨_, e⟩
    · obtain rfl := Option.some.inj e
      exact p0
    rcases io e with ⟨_, e⟩ | ⟨_, e⟩
    · obtain rfl := Option.some.inj e
      exact p0
    obtain ⟨_, e⟩ := io_n e
    obtain ⟨M3, e_M3, e⟩ := mo e
    have p_M3 : Fx C L A M3 := wi p0 e_M3 h_v3
    obtain rfl := Option.some.inj e
    exact p_M3
  obtain rfl := Option.some.inj e
  exact p0
theorem wf_Signs_steps {C : Nat} {L : List Nat} {A : Mem} (v1 : Int32) (v2 : Int32) (v3 : Nat) (v4 : Int32) (M : Mem) (hC : sb 0 C) (h_v3 : Oc C L (v3)) (p0 : Fx C L A M) {r : (Int32 × Mem)} (e : f_Signs_steps v1 v2 v3 v4 M = some r) : (fun r : Int32 × Mem => Fx C L A r.2) r := by
  unfold f_Signs_steps at e
  obtain ⟨g_v3, e⟩ := io_n e
  obtain ⟨x9, e_x9, e⟩ := bo e
  have p_x9 : Fx C L A x9.2 := (it_r (I := fun s : Int32 × Int32 × Mem => Fx C L A s.2.2) (Q := (fun r : Int32 × Mem => Fx C L A r.2)) (fun s_ r_ hs_ er_ => wl_Signs_steps_6 v1 v2 v3 v4 s_ (sb_t (by decide +kernel) hC) h_v3 hs_ er_) e_x9 p0)
  obtain rfl := Option.some.inj e
  exact p_x9
theorem wl_Ground_become_12 {C : Nat} {L : List Nat} {A : Mem} (v2 : Int32) (s : Int32 × Mem) (hC : sb 16 C)  (p0 : Fx C L A s.2) {r : ((Int32 × Mem) ⊕ ((Mem)))} (e : lb_Ground_become_12 v2 s = some r) : (Sum.elim (fun r : Int32 × Mem => Fx C L A r.2) (fun r : Mem => Fx C L A r)) r := by
  unfold lb_Ground_become_12 at e
  rcases io e with ⟨_, e⟩ | ⟨_, e⟩
  · obtain rfl := Option.some.inj e
    exact p0
  rcases io e with ⟨_, e⟩ | ⟨_, e⟩
  · obtain ⟨_, e⟩ := io_n e
    obtain ⟨M3, e_M3, e⟩ := mo e
    have p_M3 : Fx C L A M3 := wi p0 e_M3 (oc_c hC (by decide +kernel))
    obtain rfl := Option.some.inj e
    exact p_M3
  obtain ⟨_, e⟩ := io_n e
  obtain ⟨_, e⟩ := io_n e
  obtain ⟨M4, e_M4, e⟩ := mo e
  have p_M4 : Fx C L A M4 := wi p0 e_M4 (oc_c hC (by decide +kernel))
  obtain rfl := Option.some.inj e
  exact p_M4
theorem wf_Ground_become {C : Nat} {L : List Nat} {A : Mem} (v1 : Int32) (v2 : Int32) (M : Mem) (hC : sb 24444431716013833035221348260912537932617620723991235007633685392252575597160040474200768528 C)  (p0 : Fx C L A M) {r : (Int32 × Mem)} (e : f_Ground_become v1 v2 M = some r) : (fun r : Int32 × Mem => Fx C L A r.2) r := by
  unfold f_Ground_become at e
  obtain ⟨M1, e_M1, e⟩ := mo e
  have p_M1 : Fx C L A M1 := wi1 p0 e_M1 (tb1 hC (by decide +kernel))
  obtain ⟨M2, e_M2, e⟩ := mo e
  have p_M2 : Fx C L A M2 := wi1 p_M1 e_M2 (tb1 hC (by decide +kernel))
  obtain ⟨x7, e_x7, e⟩ := bo e
  have p_x7 : Fx C L A x7 := (it_r (I := fun s : Int32 × Mem => Fx C L A s.2) (Q := (fun r : Mem => Fx C L A r)) (fun s_ r_ hs_ er_ => wl_Ground_become_12 v2 s_ (sb_t (by decide +kernel) hC) hs_ er_) e_x7 p_M2)
  obtain rfl := Option.some.inj e
  exact p_x7
theorem wj_Ground_read_126_14 {C : Nat} {L : List Nat} {A : Mem} (v2 : Int32) (v3 : Int32) (v4 : Int32) (v5 : Int32) (v6 : Int32) (v7 : Int32) (M : Mem) (hC : sb 0 C)  (p0 : Fx C L A M) {r : ((Int32 × Int32 × Int32 × Int32 × Int32 × Mem) ⊕ ((Mem) ⊕ (Int32 × Mem) ⊕ (Int32 × Int32 × Mem)))} (e : j_Ground_read_126_14 v2 v3 v4 v5 v6 v7 M = some r) : (Sum.elim (fun r : Int32 × Int32 × Int32 × Int32 × Int32 × Mem => Fx C L A r.2.2.2.2.2) (Sum.elim (fun r : Mem => Fx C L A r) (Sum.elim (fun r : Int32 × Mem => Fx C L A r.2) (fun r : Int32 × Int32 × Mem => Fx C L A r.2.2)))) r := by
  unfold j_Ground_read_126_14 at e
  rcases io e with ⟨_, e⟩ | ⟨_, e⟩
  · obtain rfl := Option.some.inj e
    exact p0
  obtain rfl := Option.some.inj e
  exact p0
theorem wj_Ground_read_74_14 {C : Nat} {L : List Nat} {A : Mem} (v2 : Int32) (v3 : Int32) (v4 : Int32) (v5 : Int32) (v6 : Int32) (v7 : Int32) (v8 : Int32) (w0 : Int32) (w1 : Int32) (w2 : Int32) (w3 : Int32) (M : Mem) (hC : sb 32 C)  (p0 : Fx C L A M) {r : ((Int32 × Int32 × Int32 × Int32 × Int32 × Mem) ⊕ ((Mem) ⊕ (Int32 × Mem) ⊕ (Int32 × Int32 × Mem)))} (e : j_Ground_read_74_14 v2 v3 v4 v5 v6 v7 v8 w0 w1 w2 w3 M = some r) : (Sum.elim (fun r : Int32 × Int32 × Int32 × Int32 × Int32 × Mem => Fx C L A r.2.2.2.2.2) (Sum.elim (fun r : Mem => Fx C L A r) (Sum.elim (fun r : Int32 × Mem => Fx C L A r.2) (fun r : Int32 × Int32 × Mem => Fx C L A r.2.2)))) r := by
  unfold j_Ground_read_74_14 at e
  obtain ⟨x2, e_x2, e⟩ := bo e
  rcases io e with ⟨_, e⟩ | ⟨_, e⟩
  · obtain rfl := Option.some.inj e
    exact p0
  rcases io e with ⟨_, e⟩ | ⟨_, e⟩
  · rcases io e with ⟨_, e⟩ | ⟨_, e⟩
    · exact (wj_Ground_read_126_14 v2 v3 v4 v5 v6 v7 M (sb_t (by decide +kernel) hC) p0 e)
    obtain ⟨x4, e_x4, e⟩ := bo e
    obtain ⟨_, e⟩ := io_n e
    obtain ⟨M5, e_M5, e⟩ := mo e
    have p_M5 : Fx C L A M5 := wi p0 e_M5 (oc_c hC (by decide +kernel))
    exact (wj_Ground_read_126_14 (v2 + (1 : Int32)) (v3 + (1 : Int32)) v4 v5 v6 v7 M5 (sb_t (by decide +kernel) hC) p_M5 e)
  exact (wj_Ground_read_126_14 v2 (0 : Int32) (v4 + (1 : Int32)) v3 v6 v7 M (sb_t (by decide +kernel) hC) p0 e)
theorem wj_Ground_read_49_14 {C : Nat} {L : List Nat} {A : Mem} (v2 : Int32) (v3 : Int32) (v4 : Int32) (v5 : Int32) (v6 : Int32) (v7 : Int32) (w0 : Int32) (M : Mem) (hC : sb 32 C)  (p0 : Fx C L A M) {r : ((Int32 × Int32 × Int32 × Int32 × Int32 × Mem) ⊕ ((Mem) ⊕ (Int32 × Mem) ⊕ (Int32 × Int32 × Mem)))} (e : j_Ground_read_49_14 v2 v3 v4 v5 v6 v7 w0 M = some r) : (Sum.elim (fun r : Int32 × Int32 × Int32 × Int32 × Int32 × Mem => Fx C L A r.2.2.2.2.2) (Sum.elim (fun r : Mem => Fx C L A r) (Sum.elim (fun r : Int32 × Mem => Fx C L A r.2) (fun r : Int32 × Int32 × Mem => Fx C L A r.2.2)))) r := by
  unfold j_Ground_read_49_14 at e
  rcases io e with ⟨_, e⟩ | ⟨_, e⟩
  · obtain rfl := Option.some.inj e
    exact p0
  rcases io e with ⟨_, e⟩ | ⟨_, e⟩
  · exact (wj_Ground_read_74_14 v2 v3 v4 v5 v6 v7 w0 (1 : Int32) v3 w0 v7 M (sb_t (by decide +kernel) hC) p0 e)
  exact (wj_Ground_read_74_14 v2 v3 v4 v5 v6 v7 w0 v5 v3 w0 v7 M (sb_t (by decide +kernel) hC) p0 e)
theorem wl_Ground_read_14 {C : Nat} {L : List Nat} {A : Mem} (s : Int32 × Int32 × Int32 × Int32 × Int32 × Mem) (hC : sb 32 C)  (p0 : Fx C L A s.2.2.2.2.2) {r : ((Int32 × Int32 × Int32 × Int32 × Int32 × Mem) ⊕ ((Mem) ⊕ (Int32 × Mem) ⊕ (Int32 × Int32 × Mem)))} (e : lb_Ground_read_14 s = some r) : (Sum.elim (fun r : Int32 × Int32 × Int32 × Int32 × Int32 × Mem => Fx C L A r.2.2.2.2.2) (Sum.elim (fun r : Mem => Fx C L A r) (Sum.elim (fun r : Int32 × Mem => Fx C L A r.2) (fun r : Int32 × Int32 × Mem => Fx C L A r.2.2)))) r := by
  unfold lb_Ground_read_14 at e
  rcases io e with ⟨_, e⟩ | ⟨_, e⟩
  · obtain rfl := Option.some.inj e
    exact p0
  obtain ⟨x1, e_x1, e⟩ := bo e
  rcases io e with ⟨_, e⟩ | ⟨_, e⟩
  · exact (wj_Ground_read_49_14 s.1 s.2.1 s.2.2.1 s.2.2.2.1 s.2.2.2.2.1 x1 (1 : Int32) s.2.2.2.2.2 (sb_t (by decide +kernel) hC) p0 e)
  rcases io e with ⟨_, e⟩ | ⟨_, e⟩
  · exact (wj_Ground_read_49_14 s.1 s.2.1 s.2.2.1 s.2.2.2.1 s.2.2.2.2.1 x1 (1 : Int32) s.2.2.2.2.2 (sb_t (by decide +kernel) hC) p0 e)
  exact (wj_Ground_read_49_14 s.1 s.2.1 s.2.2.1 s.2.2.2.1 s.2.2.2.2.1 x1 (0 : Int32) s.2.2.2.2.2 (sb_t (by decide +kernel) hC) p0 e)
theorem wf_Ground_read {C : Nat} {L : List Nat} {A : Mem} (M : Mem) (hC : sb 24444431716013833035221348260912537932617620723991235007633685392252575597160040474200768560 C)  (p0 : Fx C L A M) {r : (Int32 × Mem)} (e : f_Ground_read M = some r) : (fun r : Int32 × Mem => Fx C L A r.2) r := by
  unfold f_Ground_read at e
  obtain ⟨y_, e_y, e⟩ := bo e
  have q_y := (it_r (I := fun s : Int32 × Int32 × Int32 × Int32 × Int32 × Mem => Fx C L A s.2.2.2.2.2) (Q := (Sum.elim (fun r : Mem => Fx C L A r) (Sum.elim (fun r : Int32 × Mem => Fx C L A r.2) (fun r : Int32 × Int32 × Mem => Fx C L A r.2.2)))) (fun s_ r_ hs_ er_ => wl_Ground_read_14  s_ (sb_t (by decide +kernel) hC) hs_ er_) e_y p0)
  rcases y_ with y15 | y16 | y17
  · have p_y15 : Fx C L A y15 := q_y
    replace e := el_l e
    obtain rfl := Option.some.inj e
    exact p_y15
  · have p_y16 : Fx C L A y16.2 := q_y
    replace e := el_r e
    replace e := el_l e
    obtain rfl := Option.some.inj e
    exact p_y16
  · have p_y17 : Fx C L A y17.2.2 := q_y
    replace e := el_r e
    replace e := el_r e
    obtain ⟨x18, e_x18, e⟩ := bo e
    have p_x18 : Fx C L A x18.2 := (wf_Ground_become y17.2.1 y17.1 y17.2.2 (sb_t (by decide +kernel) hC) p_y17 e_x18)
    obtain rfl := Option.some.inj e
    exact p_x18
theorem wf_Crowd_clear {C : Nat} {L : List Nat} {A : Mem} (M : Mem) (hC : sb 102527377724203683954961041896138501500929817073119332957457997175466546837470746401102180172955648 C)  (p0 : Fx C L A M) {r : (Mem)} (e : f_Crowd_clear M = some r) : (fun r : Mem => Fx C L A r) r := by
  unfold f_Crowd_clear at e
  obtain ⟨M1, e_M1, e⟩ := mo e
  have p_M1 : Fx C L A M1 := wi1 p0 e_M1 (tb1 hC (by decide +kernel))
  obtain ⟨M2, e_M2, e⟩ := mo e
  have p_M2 : Fx C L A M2 := wi1 p_M1 e_M2 (tb1 hC (by decide +kernel))
  obtain rfl := Option.some.inj e
  exact p_M2
theorem wj_Crowd_readLine_51 {C : Nat} {L : List Nat} {A : Mem} (v3 : Int32) (v4 : Int32) (w0 : Int32) (M : Mem) (hC : sb 136703170298938252861831749451605518613721162960196506348512377948042067339853220744064437646787456 C)  (p0 : Fx C L A M) {r : (Int32 × Mem)} (e : j_Crowd_readLine_51 v3 v4 w0 M = some r) : (fun r : Int32 × Mem => Fx C L A r.2) r := by
  unfold j_Crowd_readLine_51 at e
  obtain ⟨x2, e_x2, e⟩ := bo e
  have p_x2 : Fx C L A x2.2 := (wf_Signs_digits (v4 + (1 : Int32)) (76 : Int32) (2 : Int32) M (sb_t (by decide +kernel) hC) p0 e_x2)
  rcases io e with ⟨_, e⟩ | ⟨_, e⟩
  · obtain rfl := Option.some.inj e
    exact p_x2
  obtain ⟨x3, e_x3, e⟩ := bo e
  rcases io e with ⟨_, e⟩ | ⟨_, e⟩
  · obtain ⟨x11, e_x11, e⟩ := bo e
    rcases io e with ⟨_, e⟩ | ⟨_, e⟩
    · obtain rfl := Option.some.inj e
      exact p_x2
    obtain rfl := Option.some.inj e
    exact p_x2
  obtain ⟨x4, e_x4, e⟩ := bo e
  rcases io e with ⟨_, e⟩ | ⟨_, e⟩
  · obtain ⟨_, e⟩ := io_n e
    obtain ⟨M5, e_M5, e⟩ := mo e
    have p_M5 : Fx C L A M5 := wi p_x2 e_M5 (oc_c hC (by decide +kernel))
    obtain ⟨M6, e_M6, e⟩ := mo e
    have p_M6 : Fx C L A M6 := wi1 p_M5 e_M6 (tb1 hC (by decide +kernel))
    obtain ⟨x7, e_x7, e⟩ := bo e
    have p_x7 : Fx C L A x7.2 := (wf_Signs_steps (((v4 + (1 : Int32)) + x2.1) + (1 : Int32)) (76 : Int32) 7 (v3 * (9 : Int32)) M6 (sb_t (by decide +kernel) hC) (oc_c hC (by decide +kernel)) p_M6 e_x7)
    obtain ⟨_, e⟩ := io_n e
    obtain ⟨M8, e_M8, e⟩ := mo e
    have p_M8 : Fx C L A M8 := wi p_x7 e_M8 (oc_c hC (by decide +kernel))
    obtain ⟨_, e⟩ := io_n e
    obtain ⟨_, e⟩ := io_n e
    rcases io e with ⟨_, e⟩ | ⟨_, e⟩
    · obtain rfl := Option.some.inj e
      exact p_M8
    obtain rfl := Option.some.inj e
    exact p_M8
  obtain rfl := Option.some.inj e
  exact p_x2
theorem wj_Crowd_readLine_39 {C : Nat} {L : List Nat} {A : Mem} (v3 : Int32) (v4 : Int32) (v5 : Int32) (M : Mem) (hC : sb 136703170298938252861831749451605518613721162960196506348512377948042067339853220744064437646787456 C)  (p0 : Fx C L A M) {r : (Int32 × Mem)} (e : j_Crowd_readLine_39 v3 v4 v5 M = some r) : (fun r : Int32 × Mem => Fx C L A r.2) r := by
  unfold j_Crowd_readLine_39 at e
  rcases io e with ⟨_, e⟩ | ⟨_, e⟩
  · exact (wj_Crowd_readLine_51 v3 v4 (1 : Int32) M (sb_t (by decide +kernel) hC) p0 e)
  exact (wj_Crowd_readLine_51 v3 v4 (0 : Int32) M (sb_t (by decide +kernel) hC) p0 e)
theorem wf_Crowd_readLine {C : Nat} {L : List Nat} {A : Mem} (v3 : Int32) (v4 : Int32) (M : Mem) (hC : sb 136703170298938252861831749451605518613721162960196506348512377948042067339853220744064437646787456 C)  (p0 : Fx C L A M) {r : (Int32 × Mem)} (e : f_Crowd_readLine v3 v4 M = some r) : (fun r : Int32 × Mem => Fx C L A r.2) r := by
  unfold f_Crowd_readLine at e
  obtain ⟨x1, e_x1, e⟩ := bo e
  rcases io e with ⟨_, e⟩ | ⟨_, e⟩
  · obtain rfl := Option.some.inj e
    exact p0
  rcases io e with ⟨_, e⟩ | ⟨_, e⟩
  · obtain rfl := Option.some.inj e
    exact p0
  rcases io e with ⟨_, e⟩ | ⟨_, e⟩
  · exact (wj_Crowd_readLine_39 v3 v4 x1 M (sb_t (by decide +kernel) hC) p0 e)
  rcases io e with ⟨_, e⟩ | ⟨_, e⟩
  · exact (wj_Crowd_readLine_39 v3 v4 x1 M (sb_t (by decide +kernel) hC) p0 e)
  obtain rfl := Option.some.inj e
  exact p0
theorem wl_Crowd_read_19 {C : Nat} {L : List Nat} {A : Mem} (s : Int32 × Int32 × Mem) (hC : sb 136703170298938252861831749451605518613721162960196506348512377948042067339853220744064437646787456 C)  (p0 : Fx C L A s.2.2) {r : ((Int32 × Int32 × Mem) ⊕ ((Int32 × Mem) ⊕ (Int32 × Mem) ⊕ (Int32 × Mem) ⊕ (Int32 × Mem)))} (e : lb_Crowd_read_19 s = some r) : (Sum.elim (fun r : Int32 × Int32 × Mem => Fx C L A r.2.2) (Sum.elim (fun r : Int32 × Mem => Fx C L A r.2) (Sum.elim (fun r : Int32 × Mem => Fx C L A r.2) (Sum.elim (fun r : Int32 × Mem => Fx C L A r.2) (fun r : Int32 × Mem => Fx C L A r.2))))) r := by
  unfold lb_Crowd_read_19 at e
  rcases io e with ⟨_, e⟩ | ⟨_, e⟩
  · obtain rfl := Option.some.inj e
    exact p0
  obtain ⟨x2, e_x2, e⟩ := bo e
  have p_x2 : Fx C L A x2.2 := (wf_Crowd_readLine ((s.2.2.1 6 4) + s.2.1) s.1 s.2.2 (sb_t (by decide +kernel) hC) p0 e_x2)
  rcases io e with ⟨_, e⟩ | ⟨_, e⟩
  · obtain ⟨x3, e_x3, e⟩ := bo e
    rcases io e with ⟨_, e⟩ | ⟨_, e⟩
    · obtain rfl := Option.some.inj e
      exact p_x2
    rcases io e with ⟨_, e⟩ | ⟨_, e⟩
    · obtain rfl := Option.some.inj e
      exact p_x2
    obtain rfl := Option.some.inj e
    exact p_x2
  obtain rfl := Option.some.inj e
  exact p_x2
theorem wf_Crowd_read {C : Nat} {L : List Nat} {A : Mem} (M : Mem) (hC : sb 136703170298938252861831749451605518613721162960196506348512377948042067339853220744064437646787456 C)  (p0 : Fx C L A M) {r : (Int32 × Mem)} (e : f_Crowd_read M = some r) : (fun r : Int32 × Mem => Fx C L A r.2) r := by
  unfold f_Crowd_read at e
  rcases io e with ⟨_, e⟩ | ⟨_, e⟩
  · obtain rfl := Option.some.inj e
    exact p0
  obtain ⟨M1, e_M1, e⟩ := mo e
  have p_M1 : Fx C L A M1 := wi1 p0 e_M1 (tb1 hC (by decide +kernel))
  obtain ⟨y_, e_y, e⟩ := bo e
  have q_y := (it_r (I := fun s : Int32 × Int32 × Mem => Fx C L A s.2.2) (Q := (Sum.elim (fun r : Int32 × Mem => Fx C L A r.2) (Sum.elim (fun r : Int32 × Mem => Fx C L A r.2) (Sum.elim (fun r : Int32 × Mem => Fx C L A r.2) (fun r : Int32 × Mem => Fx C L A r.2))))) (fun s_ r_ hs_ er_ => wl_Crowd_read_19  s_ (sb_t (by decide +kernel) hC) hs_ er_) e_y p_M1)
  rcases y_ with y9 | y10 | y11 | y13
  · have p_y9 : Fx C L A y9.2 := q_y
    replace e := el_l e
    obtain rfl := Option.some.inj e
    exact p_y9
  · have p_y10 : Fx C L A y10.2 := q_y
    replace e := el_r e
    replace e := el_l e
    obtain rfl := Option.some.inj e
    exact p_y10
  · have p_y11 : Fx C L A y11.2 := q_y
    replace e := el_r e
    replace e := el_r e
    replace e := el_l e
    rcases io e with ⟨_, e⟩ | ⟨_, e⟩
    · obtain rfl := Option.some.inj e
      exact p_y11
    obtain rfl := Option.some.inj e
    exact p_y11
  · have p_y13 : Fx C L A y13.2 := q_y
    replace e := el_r e
    replace e := el_r e
    replace e := el_r e
    obtain rfl := Option.some.inj e
    exact p_y13
theorem wf_Crowd_letIn {C : Nat} {L : List Nat} {A : Mem} (v1 : Int32) (M : Mem) (hC : sb 102527377724203683954961041896138501500929817073119332957457997175466546837470746401102180172955648 C)  (p0 : Fx C L A M) {r : (Mem)} (e : f_Crowd_letIn v1 M = some r) : (fun r : Mem => Fx C L A r) r := by
  unfold f_Crowd_letIn at e
  obtain ⟨M1, e_M1, e⟩ := mo e
  have p_M1 : Fx C L A M1 := wi1 p0 e_M1 (tb1 hC (by decide +kernel))
  obtain ⟨M2, e_M2, e⟩ := mo e
  have p_M2 : Fx C L A M2 := wi1 p_M1 e_M2 (tb1 hC (by decide +kernel))
  obtain rfl := Option.some.inj e
  exact p_M2
theorem wl_Crowd_tellWay_40 {C : Nat} {L : List Nat} {A : Mem} (v1 : Int32) (v3 : Int32) (s : Int32 × Mem) (hC : sb 128 C)  (p0 : Fx C L A s.2) {r : ((Int32 × Mem) ⊕ ((Mem)))} (e : lb_Crowd_tellWay_40 v1 v3 s = some r) : (Sum.elim (fun r : Int32 × Mem => Fx C L A r.2) (fun r : Mem => Fx C L A r)) r := by
  unfold lb_Crowd_tellWay_40 at e
  rcases io e with ⟨_, e⟩ | ⟨_, e⟩
  · obtain rfl := Option.some.inj e
    exact p0
  obtain ⟨_, e⟩ := io_n e
  obtain ⟨_, e⟩ := io_n e
  obtain ⟨M3, e_M3, e⟩ := mo e
  have p_M3 : Fx C L A M3 := wi p0 e_M3 (oc_c hC (by decide +kernel))
  obtain rfl := Option.some.inj e
  exact p_M3
theorem wf_Crowd_tellWay {C : Nat} {L : List Nat} {A : Mem} (v1 : Int32) (M : Mem) (hC : sb 1408 C)  (p0 : Fx C L A M) {r : (Int32 × Mem)} (e : f_Crowd_tellWay v1 M = some r) : (fun r : Int32 × Mem => Fx C L A r.2) r := by
  unfold f_Crowd_tellWay at e
  obtain ⟨x1, e_x1, e⟩ := bo e
  have p_x1 : Fx C L A x1.2 := (wf_Signs_steps (0 : Int32) (80 : Int32) 10 (0 : Int32) M (sb_t (by decide +kernel) hC) (oc_c hC (by decide +kernel)) p0 e_x1)
  obtain ⟨x2, e_x2, e⟩ := bo e
  rcases io e with ⟨_, e⟩ | ⟨_, e⟩
  · obtain rfl := Option.some.inj e
    exact p_x1
  rcases io e with ⟨_, e⟩ | ⟨_, e⟩
  · obtain rfl := Option.some.inj e
    exact p_x1
  rcases io e with ⟨_, e⟩ | ⟨_, e⟩
  · obtain ⟨x5, e_x5, e⟩ := bo e
    have p_x5 : Fx C L A x5 := (it_r (I := fun s : Int32 × Mem => Fx C L A s.2) (Q := (fun r : Mem => Fx C L A r)) (fun s_ r_ hs_ er_ => wl_Crowd_tellWay_40 v1 x1.1 s_ (sb_t (by decide +kernel) hC) hs_ er_) e_x5 p_x1)
    obtain ⟨_, e⟩ := io_n e
    obtain ⟨M6, e_M6, e⟩ := mo e
    have p_M6 : Fx C L A M6 := wi p_x5 e_M6 (oc_c hC (by decide +kernel))
    obtain rfl := Option.some.inj e
    exact p_M6
  obtain rfl := Option.some.inj e
  exact p_x1
theorem wf_Scene_put {C : Nat} {L : List Nat} {A : Mem} (v0 : Nat) (v1 : Int32) (v2 : Int32) (v3 : Int32) (M : Mem) (hC : sb 0 C) (h_v0_0 : Oc C L (rf v0 0)) (h_v0_1 : Oc C L (rf v0 1)) (h_v0_2 : Oc C L (rf v0 2)) (p0 : Fx C L A M) {r : (Mem)} (e : f_Scene_put v0 v1 v2 v3 M = some r) : (fun r : Mem => Fx C L A r) r := by
  unfold f_Scene_put at e
  obtain ⟨g_v0, e⟩ := io_n e
  obtain ⟨_, e⟩ := io_n e
  obtain ⟨M1, e_M1, e⟩ := mo e
  have p_M1 : Fx C L A M1 := wi p0 e_M1 h_v0_0
  obtain ⟨_, e⟩ := io_n e
  obtain ⟨M2, e_M2, e⟩ := mo e
  have p_M2 : Fx C L A M2 := wi p_M1 e_M2 h_v0_1
  obtain ⟨_, e⟩ := io_n e
  obtain ⟨M3, e_M3, e⟩ := mo e
  have p_M3 : Fx C L A M3 := wi p_M2 e_M3 h_v0_2
  obtain rfl := Option.some.inj e
  exact p_M3
theorem wl_Scene_clear_2 {C : Nat} {L : List Nat} {A : Mem} (v0 : Nat) (s : Int32 × Mem) (hC : sb 0 C) (h_v0_0 : Oc C L (rf v0 0)) (h_v0_1 : Oc C L (rf v0 1)) (h_v0_2 : Oc C L (rf v0 2)) (p0 : Fx C L A s.2) {r : ((Int32 × Mem) ⊕ ((Mem)))} (e : lb_Scene_clear_2 v0 s = some r) : (Sum.elim (fun r : Int32 × Mem => Fx C L A r.2) (fun r : Mem => Fx C L A r)) r := by
  unfold lb_Scene_clear_2 at e
  rcases io e with ⟨_, e⟩ | ⟨_, e⟩
  · obtain rfl := Option.some.inj e
    exact p0
  obtain ⟨x1, e_x1, e⟩ := bo e
  have p_x1 : Fx C L A x1 := (wf_Scene_put v0 s.1 (0 : Int32) (0 : Int32) s.2 (sb_t (by decide +kernel) hC) h_v0_0 h_v0_1 h_v0_2 p0 e_x1)
  obtain rfl := Option.some.inj e
  exact p_x1
theorem wl_Scene_clear_23 {C : Nat} {L : List Nat} {A : Mem} (v0 : Nat) (s : Int32 × Mem) (hC : sb 0 C) (h_v0_3 : Oc C L (rf v0 3)) (p0 : Fx C L A s.2) {r : ((Int32 × Mem) ⊕ ((Mem)))} (e : lb_Scene_clear_23 v0 s = some r) : (Sum.elim (fun r : Int32 × Mem => Fx C L A r.2) (fun r : Mem => Fx C L A r)) r := by
  unfold lb_Scene_clear_23 at e
  rcases io e with ⟨_, e⟩ | ⟨_, e⟩
  · obtain rfl := Option.some.inj e
    exact p0
  obtain ⟨_, e⟩ := io_n e
  obtain ⟨M4, e_M4, e⟩ := mo e
  have p_M4 : Fx C L A M4 := wi p0 e_M4 h_v0_3
  obtain rfl := Option.some.inj e
  exact p_M4
theorem wf_Scene_clear {C : Nat} {L : List Nat} {A : Mem} (v0 : Nat) (M : Mem) (hC : sb 0 C) (h_v0_0 : Oc C L (rf v0 0)) (h_v0_1 : Oc C L (rf v0 1)) (h_v0_2 : Oc C L (rf v0 2)) (h_v0_3 : Oc C L (rf v0 3)) (h_v0 : Oc C L (v0)) (p0 : Fx C L A M) {r : (Mem)} (e : f_Scene_clear v0 M = some r) : (fun r : Mem => Fx C L A r) r := by
  unfold f_Scene_clear at e
  obtain ⟨g_v0, e⟩ := io_n e
  obtain ⟨x3, e_x3, e⟩ := bo e
  have p_x3 : Fx C L A x3 := (it_r (I := fun s : Int32 × Mem => Fx C L A s.2) (Q := (fun r : Mem => Fx C L A r)) (fun s_ r_ hs_ er_ => wl_Scene_clear_2 v0 s_ (sb_t (by decide +kernel) hC) h_v0_0 h_v0_1 h_v0_2 hs_ er_) e_x3 p0)
  obtain ⟨x6, e_x6, e⟩ := bo e
  have p_x6 : Fx C L A x6 := (it_r (I := fun s : Int32 × Mem => Fx C L A s.2) (Q := (fun r : Mem => Fx C L A r)) (fun s_ r_ hs_ er_ => wl_Scene_clear_23 v0 s_ (sb_t (by decide +kernel) hC) h_v0_3 hs_ er_) e_x6 p_x3)
  obtain ⟨M7, e_M7, e⟩ := mo e
  have p_M7 : Fx C L A M7 := wi p_x6 e_M7 h_v0
  obtain ⟨M8, e_M8, e⟩ := mo e
  have p_M8 : Fx C L A M8 := wi p_M7 e_M8 h_v0
  obtain ⟨M9, e_M9, e⟩ := mo e
  have p_M9 : Fx C L A M9 := wi p_M8 e_M9 h_v0
  obtain ⟨M10, e_M10, e⟩ := mo e
  have p_M10 : Fx C L A M10 := wi p_M9 e_M10 h_v0
  obtain rfl := Option.some.inj e
  exact p_M10
theorem wf_Scene_copy {C : Nat} {L : List Nat} {A : Mem} (v0 : Nat) (v1 : Nat) (M : Mem) (hC : sb 0 C) (h_v0_0 : Oc C L (rf v0 0)) (h_v0_1 : Oc C L (rf v0 1)) (h_v0_2 : Oc C L (rf v0 2)) (h_v0_3 : Oc C L (rf v0 3)) (h_v0_4 : Oc C L (rf v0 4)) (h_v0_5 : Oc C L (rf v0 5)) (h_v0 : Oc C L (v0)) (p0 : Fx C L A M) {r : (Mem)} (e : f_Scene_copy v0 v1 M = some r) : (fun r : Mem => Fx C L A r) r := by
  unfold f_Scene_copy at e
  obtain ⟨g_v0, e⟩ := io_n e
  obtain ⟨g_v1, e⟩ := io_n e
  obtain ⟨M1, e_M1, e⟩ := mo e
  have p_M1 : Fx C L A M1 := wc p0 e_M1 h_v0_0
  obtain ⟨M2, e_M2, e⟩ := mo e
  have p_M2 : Fx C L A M2 := wc p_M1 e_M2 h_v0_1
  obtain ⟨M3, e_M3, e⟩ := mo e
  have p_M3 : Fx C L A M3 := wc p_M2 e_M3 h_v0_2
  obtain ⟨M4, e_M4, e⟩ := mo e
  have p_M4 : Fx C L A M4 := wc p_M3 e_M4 h_v0_3
  obtain ⟨M5, e_M5, e⟩ := mo e
  have p_M5 : Fx C L A M5 := wc p_M4 e_M5 h_v0_4
  obtain ⟨M6, e_M6, e⟩ := mo e
  have p_M6 : Fx C L A M6 := wc p_M5 e_M6 h_v0_5
  obtain ⟨M7, e_M7, e⟩ := mo e
  have p_M7 : Fx C L A M7 := wi p_M6 e_M7 h_v0
  obtain ⟨M8, e_M8, e⟩ := mo e
  have p_M8 : Fx C L A M8 := wi p_M7 e_M8 h_v0
  obtain ⟨M9, e_M9, e⟩ := mo e
  have p_M9 : Fx C L A M9 := wi p_M8 e_M9 h_v0
  obtain ⟨M10, e_M10, e⟩ := mo e
  have p_M10 : Fx C L A M10 := wi p_M9 e_M10 h_v0
  obtain rfl := Option.some.inj e
  exact p_M10
theorem wf_Scene_addPlank {C : Nat} {L : List Nat} {A : Mem} (v0 : Nat) (v1 : Int32) (v2 : Int32) (M : Mem) (hC : sb 0 C) (h_v0_4 : Oc C L (rf v0 4)) (h_v0_5 : Oc C L (rf v0 5)) (h_v0 : Oc C L (v0)) (p0 : Fx C L A M) {r : (Int32 × Mem)} (e : f_Scene_addPlank v0 v1 v2 M = some r) : (fun r : Int32 × Mem => Fx C L A r.2) r := by
  unfold f_Scene_addPlank at e
  obtain ⟨g_v0, e⟩ := io_n e
  rcases io e with ⟨_, e⟩ | ⟨_, e⟩
  · obtain rfl := Option.some.inj e
    exact p0
  rcases io e with ⟨_, e⟩ | ⟨_, e⟩
  · obtain ⟨_, e⟩ := io_n e
    obtain ⟨M1, e_M1, e⟩ := mo e
    have p_M1 : Fx C L A M1 := wi p0 e_M1 h_v0_4
    obtain ⟨_, e⟩ := io_n e
    obtain ⟨M2, e_M2, e⟩ := mo e
    have p_M2 : Fx C L A M2 := wi p_M1 e_M2 h_v0_5
    obtain ⟨M3, e_M3, e⟩ := mo e
    have p_M3 : Fx C L A M3 := wi p_M2 e_M3 h_v0
    obtain rfl := Option.some.inj e
    exact p_M3
  obtain rfl := Option.some.inj e
  exact p0
theorem wf_Scene_addMeeting {C : Nat} {L : List Nat} {A : Mem} (v0 : Nat) (v1 : Int32) (v2 : Int32) (M : Mem) (hC : sb 0 C) (h_v0_3 : Oc C L (rf v0 3)) (p0 : Fx C L A M) {r : (Mem)} (e : f_Scene_addMeeting v0 v1 v2 M = some r) : (fun r : Mem => Fx C L A r) r := by
  unfold f_Scene_addMeeting at e
  obtain ⟨g_v0, e⟩ := io_n e
  obtain ⟨_, e⟩ := io_n e
  obtain ⟨_, e⟩ := io_n e
  obtain ⟨M1, e_M1, e⟩ := mo e
  have p_M1 : Fx C L A M1 := wi p0 e_M1 h_v0_3
  obtain rfl := Option.some.inj e
  exact p_M1
theorem wf_History_forget {C : Nat} {L : List Nat} {A : Mem} (M : Mem) (hC : sb 8343699359066055009355553539724812947666814540455674882605631280555545803830627148527195652096 C)  (p0 : Fx C L A M) {r : (Mem)} (e : f_History_forget M = some r) : (fun r : Mem => Fx C L A r) r := by
  unfold f_History_forget at e
  obtain ⟨M1, e_M1, e⟩ := mo e
  have p_M1 : Fx C L A M1 := wi1 p0 e_M1 (tb1 hC (by decide +kernel))
  obtain rfl := Option.some.inj e
  exact p_M1
theorem wf_History_spoil {C : Nat} {L : List Nat} {A : Mem} (M : Mem) (hC : sb 16687398718132110018711107079449625895333629080911349765211262561111091607661254297054391304192 C)  (p0 : Fx C L A M) {r : (Mem)} (e : f_History_spoil M = some r) : (fun r : Mem => Fx C L A r) r := by
  unfold f_History_spoil at e
  obtain ⟨M1, e_M1, e⟩ := mo e
  have p_M1 : Fx C L A M1 := wi1 p0 e_M1 (tb1 hC (by decide +kernel))
  obtain rfl := Option.some.inj e
  exact p_M1
theorem wf_History_clear {C : Nat} {L : List Nat} {A : Mem} (M : Mem) (hC : sb 25031098077198165028066660619174438843000443621367024647816893841666637411491881445581586956288 C)  (p0 : Fx C L A M) {r : (Mem)} (e : f_History_clear M = some r) : (fun r : Mem => Fx C L A r) r := by
  unfold f_History_clear at e
  obtain ⟨x1, e_x1, e⟩ := bo e
  have p_x1 : Fx C L A x1 := (wf_History_forget M (sb_t (by decide +kernel) hC) p0 e_x1)
  obtain ⟨x2, e_x2, e⟩ := bo e
  have p_x2 : Fx C L A x2 := (wf_History_spoil x1 (sb_t (by decide +kernel) hC) p_x1 e_x2)
  obtain rfl := Option.some.inj e
  exact p_x2
theorem wj_History_add_58 {C : Nat} {L : List Nat} {A : Mem} (v1 : Nat) (M : Mem) (hC : sb 8343699359066055009355553539724812947666814540455853288567219525540678089576807772473585039360 C)  (p0 : Fx C L A M) {r : (Mem)} (e : j_History_add_58 v1 M = some r) : (fun r : Mem => Fx C L A r) r := by
  unfold j_History_add_58 at e
  obtain ⟨_, e⟩ := io_n e
  obtain ⟨a1, e_a1, e⟩ := bo e
  obtain ⟨g_a1, e⟩ := io_n e
  obtain ⟨x2, e_x2, e⟩ := bo e
  have p_x2 : Fx C L A x2 := (wf_Scene_copy a1 v1 M (sb_t (by decide +kernel) hC) (oc_s hC (by decide +kernel) g_a1 (some 0)) (oc_s hC (by decide +kernel) g_a1 (some 1)) (oc_s hC (by decide +kernel) g_a1 (some 2)) (oc_s hC (by decide +kernel) g_a1 (some 3)) (oc_s hC (by decide +kernel) g_a1 (some 4)) (oc_s hC (by decide +kernel) g_a1 (some 5)) (oc_s hC (by decide +kernel) g_a1 none) p0 e_x2)
  obtain ⟨M3, e_M3, e⟩ := mo e
  have p_M3 : Fx C L A M3 := wi1 p_x2 e_M3 (tb1 hC (by decide +kernel))
  obtain rfl := Option.some.inj e
  exact p_M3
theorem wl_History_add_18 {C : Nat} {L : List Nat} {A : Mem} (v1 : Nat) (v2 : Nat) (s : Int32 × Mem) (hC : sb 140737488355328 C)  (p0 : Fx C L A s.2) {r : ((Int32 × Mem) ⊕ ((Mem)))} (e : lb_History_add_18 v1 v2 s = some r) : (Sum.elim (fun r : Int32 × Mem => Fx C L A r.2) (fun r : Mem => Fx C L A r)) r := by
  unfold lb_History_add_18 at e
  rcases io e with ⟨_, e⟩ | ⟨_, e⟩
  · obtain rfl := Option.some.inj e
    exact p0
  obtain ⟨_, e⟩ := io_n e
  obtain ⟨a5, e_a5, e⟩ := bo e
  obtain ⟨g_a5, e⟩ := io_n e
  obtain ⟨_, e⟩ := io_n e
  obtain ⟨M6, e_M6, e⟩ := mo e
  have p_M6 : Fx C L A M6 := wq p0 e_M6 (oc_c hC (by decide +kernel))
  obtain rfl := Option.some.inj e
  exact p_M6
theorem wf_History_add {C : Nat} {L : List Nat} {A : Mem} (v1 : Nat) (M : Mem) (hC : sb 8343699359066055009355553539724812947666814540455853288567219525540678089576807913211073394688 C)  (p0 : Fx C L A M) {r : (Mem)} (e : f_History_add v1 M = some r) : (fun r : Mem => Fx C L A r) r := by
  unfold f_History_add at e
  obtain ⟨g_v1, e⟩ := io_n e
  rcases io e with ⟨_, e⟩ | ⟨_, e⟩
  · exact (wj_History_add_58 v1 M (sb_t (by decide +kernel) hC) p0 e)
  obtain ⟨_, e⟩ := io_n e
  obtain ⟨a4, e_a4, e⟩ := bo e
  obtain ⟨g_a4, e⟩ := io_n e
  obtain ⟨x8, e_x8, e⟩ := bo e
  have p_x8 : Fx C L A x8 := (it_r (I := fun s : Int32 × Mem => Fx C L A s.2) (Q := (fun r : Mem => Fx C L A r)) (fun s_ r_ hs_ er_ => wl_History_add_18 v1 a4 s_ (sb_t (by decide +kernel) hC) hs_ er_) e_x8 p0)
  obtain ⟨M9, e_M9, e⟩ := mo e
  have p_M9 : Fx C L A M9 := wq p_x8 e_M9 (oc_c hC (by decide +kernel))
  obtain ⟨M10, e_M10, e⟩ := mo e
  have p_M10 : Fx C L A M10 := wi1 p_M9 e_M10 (tb1 hC (by decide +kernel))
  exact (wj_History_add_58 v1 M10 (sb_t (by decide +kernel) hC) p_M10 e)
theorem wf_History_back {C : Nat} {L : List Nat} {A : Mem} (v1 : Nat) (M : Mem) (hC : sb 8343699359066055009355553539724812947666814540455674882605631280555545803830627148527195652096 C) (h_v1_0 : Oc C L (rf v1 0)) (h_v1_1 : Oc C L (rf v1 1)) (h_v1_2 : Oc C L (rf v1 2)) (h_v1_3 : Oc C L (rf v1 3)) (h_v1_4 : Oc C L (rf v1 4)) (h_v1_5 : Oc C L (rf v1 5)) (h_v1 : Oc C L (v1)) (p0 : Fx C L A M) {r : (Int32 × Mem)} (e : f_History_back v1 M = some r) : (fun r : Int32 × Mem => Fx C L A r.2) r := by
  unfold f_History_back at e
  obtain ⟨g_v1, e⟩ := io_n e
  rcases io e with ⟨_, e⟩ | ⟨_, e⟩
  · obtain rfl := Option.some.inj e
    exact p0
  rcases io e with ⟨_, e⟩ | ⟨_, e⟩
  · obtain ⟨M1, e_M1, e⟩ := mo e
    have p_M1 : Fx C L A M1 := wi1 p0 e_M1 (tb1 hC (by decide +kernel))
    obtain ⟨_, e⟩ := io_n e
    obtain ⟨a2, e_a2, e⟩ := bo e
    obtain ⟨g_a2, e⟩ := io_n e
    obtain ⟨x3, e_x3, e⟩ := bo e
    have p_x3 : Fx C L A x3 := (wf_Scene_copy v1 a2 M1 (sb_t (by decide +kernel) hC) h_v1_0 h_v1_1 h_v1_2 h_v1_3 h_v1_4 h_v1_5 h_v1 p_M1 e_x3)
    obtain rfl := Option.some.inj e
    exact p_x3
  obtain rfl := Option.some.inj e
  exact p0
theorem wf_History_store {C : Nat} {L : List Nat} {A : Mem} (v1 : Int32) (v2 : Nat) (M : Mem) (hC : sb 16687398718132110018711107079449625895333629080911528171172850806096223893407434921000780691456 C)  (p0 : Fx C L A M) {r : (Int32 × Mem)} (e : f_History_store v1 v2 M = some r) : (fun r : Int32 × Mem => Fx C L A r.2) r := by
  unfold f_History_store at e
  obtain ⟨g_v2, e⟩ := io_n e
  rcases io e with ⟨_, e⟩ | ⟨_, e⟩
  · obtain rfl := Option.some.inj e
    exact p0
  rcases io e with ⟨_, e⟩ | ⟨_, e⟩
  · obtain ⟨_, e⟩ := io_n e
    obtain ⟨a1, e_a1, e⟩ := bo e
    obtain ⟨g_a1, e⟩ := io_n e
    obtain ⟨x2, e_x2, e⟩ := bo e
    have p_x2 : Fx C L A x2 := (wf_Scene_copy a1 v2 M (sb_t (by decide +kernel) hC) (oc_s hC (by decide +kernel) g_a1 (some 0)) (oc_s hC (by decide +kernel) g_a1 (some 1)) (oc_s hC (by decide +kernel) g_a1 (some 2)) (oc_s hC (by decide +kernel) g_a1 (some 3)) (oc_s hC (by decide +kernel) g_a1 (some 4)) (oc_s hC (by decide +kernel) g_a1 (some 5)) (oc_s hC (by decide +kernel) g_a1 none) p0 e_x2)
    obtain ⟨M3, e_M3, e⟩ := mo e
    have p_M3 : Fx C L A M3 := wi1 p_x2 e_M3 (tb1 hC (by decide +kernel))
    obtain rfl := Option.some.inj e
    exact p_M3
  obtain rfl := Option.some.inj e
  exact p0
theorem wf_History_restore {C : Nat} {L : List Nat} {A : Mem} (v1 : Int32) (v2 : Nat) (M : Mem) (hC : sb 0 C) (h_v2_0 : Oc C L (rf v2 0)) (h_v2_1 : Oc C L (rf v2 1)) (h_v2_2 : Oc C L (rf v2 2)) (h_v2_3 : Oc C L (rf v2 3)) (h_v2_4 : Oc C L (rf v2 4)) (h_v2_5 : Oc C L (rf v2 5)) (h_v2 : Oc C L (v2)) (p0 : Fx C L A M) {r : (Int32 × Mem)} (e : f_History_restore v1 v2 M = some r) : (fun r : Int32 × Mem => Fx C L A r.2) r := by
  unfold f_History_restore at e
  obtain ⟨g_v2, e⟩ := io_n e
  rcases io e with ⟨_, e⟩ | ⟨_, e⟩
  · obtain rfl := Option.some.inj e
    exact p0
  rcases io e with ⟨_, e⟩ | ⟨_, e⟩
  · obtain rfl := Option.some.inj e
    exact p0
  rcases io e with ⟨_, e⟩ | ⟨_, e⟩
  · obtain rfl := Option.some.inj e
    exact p0
  obtain ⟨_, e⟩ := io_n e
  obtain ⟨a1, e_a1, e⟩ := bo e
  obtain ⟨g_a1, e⟩ := io_n e
  obtain ⟨x2, e_x2, e⟩ := bo e
  have p_x2 : Fx C L A x2 := (wf_Scene_copy v2 a1 M (sb_t (by decide +kernel) hC) h_v2_0 h_v2_1 h_v2_2 h_v2_3 h_v2_4 h_v2_5 h_v2 p0 e_x2)
  obtain rfl := Option.some.inj e
  exact p_x2
theorem wj_Nets_link_88_19 {C : Nat} {L : List Nat} {A : Mem} (v0 : Nat) (v2 : Int32) (v3 : Int32) (v4 : Int32) (v5 : Int32) (v6 : Int32) (v7 : Int32) (w0 : Int32) (w1 : Int32) (w2 : Nat) (M : Mem) (hC : sb 0 C) (h_v0_1 : Oc C L (rf v0 1)) (h_w2 : Oc C L (w2)) (p0 : Fx C L A M) {r : ((Int32 × Mem) ⊕ ((Mem)))} (e : j_Nets_link_88_19 v0 v2 v3 v4 v5 v6 v7 w0 w1 w2 M = some r) : (Sum.elim (fun r : Int32 × Mem => Fx C L A r.2) (fun r : Mem => Fx C L A r)) r := by
  unfold j_Nets_link_88_19 at e
  obtain ⟨_, e⟩ := io_n e
  obtain ⟨M3, e_M3, e⟩ := mo e
  have p_M3 : Fx C L A M3 := wi p0 e_M3 h_w2
  obtain ⟨_, e⟩ := io_n e
  rcases io e with ⟨_, e⟩ | ⟨_, e⟩
  · obtain ⟨_, e⟩ := io_n e
    obtain ⟨M4, e_M4, e⟩ := mo e
    have p_M4 : Fx C L A M4 := wlg p_M3 e_M4 h_v0_1
    obtain rfl := Option.some.inj e
    exact p_M4
  obtain ⟨_, e⟩ := io_n e
  obtain ⟨M5, e_M5, e⟩ := mo e
  have p_M5 : Fx C L A M5 := wlg p_M3 e_M5 h_v0_1
  obtain rfl := Option.some.inj e
  exact p_M5
theorem wj_Nets_link_64_19 {C : Nat} {L : List Nat} {A : Mem} (v0 : Nat) (v2 : Int32) (v3 : Int32) (v4 : Int32) (v5 : Int32) (v6 : Int32) (w0 : Int32) (M : Mem) (hC : sb 0 C) (h_v0_1 : Oc C L (rf v0 1)) (h_v0_2 : Oc C L (rf v0 2)) (p0 : Fx C L A M) {r : ((Int32 × Mem) ⊕ ((Mem)))} (e : j_Nets_link_64_19 v0 v2 v3 v4 v5 v6 w0 M = some r) : (Sum.elim (fun r : Int32 × Mem => Fx C L A r.2) (fun r : Mem => Fx C L A r)) r := by
  unfold j_Nets_link_64_19 at e
  rcases io e with ⟨_, e⟩ | ⟨_, e⟩
  · exact (wj_Nets_link_88_19 v0 v2 v3 v4 v5 v6 w0 (-1 : Int32) ((v4 * (4 : Int32)) + v5) (rf v0 2) M (sb_t (by decide +kernel) hC) h_v0_1 h_v0_2 p0 e)
  exact (wj_Nets_link_88_19 v0 v2 v3 v4 v5 v6 w0 v6 ((v4 * (4 : Int32)) + v5) (rf v0 2) M (sb_t (by decide +kernel) hC) h_v0_1 h_v0_2 p0 e)
theorem wl_Nets_link_19 {C : Nat} {L : List Nat} {A : Mem} (v0 : Nat) (v2 : Int32) (v3 : Int32) (v4 : Int32) (s : Int32 × Mem) (hC : sb 0 C) (h_v0_1 : Oc C L (rf v0 1)) (h_v0_2 : Oc C L (rf v0 2)) (p0 : Fx C L A s.2) {r : ((Int32 × Mem) ⊕ ((Mem)))} (e : lb_Nets_link_19 v0 v2 v3 v4 s = some r) : (Sum.elim (fun r : Int32 × Mem => Fx C L A r.2) (fun r : Mem => Fx C L A r)) r := by
  unfold lb_Nets_link_19 at e
  rcases io e with ⟨_, e⟩ | ⟨_, e⟩
  · obtain rfl := Option.some.inj e
    exact p0
  obtain ⟨x2, e_x2, e⟩ := bo e
  rcases io e with ⟨_, e⟩ | ⟨_, e⟩
  · exact (wj_Nets_link_64_19 v0 v2 v3 v4 s.1 x2 (0 : Int32) s.2 (sb_t (by decide +kernel) hC) h_v0_1 h_v0_2 p0 e)
  obtain ⟨x8, e_x8, e⟩ := bo e
  rcases io e with ⟨_, e⟩ | ⟨_, e⟩
  · exact (wj_Nets_link_64_19 v0 v2 v3 v4 s.1 x2 (0 : Int32) s.2 (sb_t (by decide +kernel) hC) h_v0_1 h_v0_2 p0 e)
  obtain ⟨x9, e_x9, e⟩ := bo e
  rcases io e with ⟨_, e⟩ | ⟨_, e⟩
  · exact (wj_Nets_link_64_19 v0 v2 v3 v4 s.1 x2 (0 : Int32) s.2 (sb_t (by decide +kernel) hC) h_v0_1 h_v0_2 p0 e)
  exact (wj_Nets_link_64_19 v0 v2 v3 v4 s.1 x2 (1 : Int32) s.2 (sb_t (by decide +kernel) hC) h_v0_1 h_v0_2 p0 e)
theorem wf_Nets_link {C : Nat} {L : List Nat} {A : Mem} (v0 : Nat) (v2 : Int32) (v3 : Int32) (M : Mem) (hC : sb 0 C) (h_v0_1 : Oc C L (rf v0 1)) (h_v0_2 : Oc C L (rf v0 2)) (p0 : Fx C L A M) {r : (Mem)} (e : f_Nets_link v0 v2 v3 M = some r) : (fun r : Mem => Fx C L A r) r := by
  unfold f_Nets_link at e
  obtain ⟨g_v0, e⟩ := io_n e
  obtain ⟨_, e⟩ := io_n e
  obtain ⟨M1, e_M1, e⟩ := mo e
  have p_M1 : Fx C L A M1 := wlg p0 e_M1 h_v0_1
  obtain ⟨x14, e_x14, e⟩ := bo e
  have p_x14 : Fx C L A x14 := (it_r (I := fun s : Int32 × Mem => Fx C L A s.2) (Q := (fun r : Mem => Fx C L A r)) (fun s_ r_ hs_ er_ => wl_Nets_link_19 v0 v2 v3 ((v2 * (36 : Int32)) + v3) s_ (sb_t (by decide +kernel) hC) h_v0_1 h_v0_2 hs_ er_) e_x14 p_M1)
  obtain rfl := Option.some.inj e
  exact p_x14
theorem wf_Nets_bridge {C : Nat} {L : List Nat} {A : Mem} (v0 : Nat) (v2 : Int32) (v3 : Int32) (M : Mem) (hC : sb 0 C) (h_v0_1 : Oc C L (rf v0 1)) (h_v0_2 : Oc C L (rf v0 2)) (p0 : Fx C L A M) {r : (Mem)} (e : f_Nets_bridge v0 v2 v3 M = some r) : (fun r : Mem => Fx C L A r) r := by
  unfold f_Nets_bridge at e
  obtain ⟨g_v0, e⟩ := io_n e
  obtain ⟨x1, e_x1, e⟩ := bo e
  rcases io e with ⟨_, e⟩ | ⟨_, e⟩
  · obtain rfl := Option.some.inj e
    exact p0
  obtain ⟨_, e⟩ := io_n e
  obtain ⟨M2, e_M2, e⟩ := mo e
  have p_M2 : Fx C L A M2 := wi p0 e_M2 h_v0_2
  obtain ⟨_, e⟩ := io_n e
  obtain ⟨_, e⟩ := io_n e
  obtain ⟨M3, e_M3, e⟩ := mo e
  have p_M3 : Fx C L A M3 := wlg p_M2 e_M3 h_v0_1
  obtain rfl := Option.some.inj e
  exact p_M3
theorem wj_Nets_lay_50_27 {C : Nat} {L : List Nat} {A : Mem} (v0 : Nat) (v2 : Nat) (v3 : Int32) (v4 : Int32) (v5 : Int32) (M : Mem) (hC : sb 0 C) (h_v0_0 : Oc C L (rf v0 0)) (p0 : Fx C L A M) {r : ((Int32 × Mem) ⊕ ((Mem)))} (e : j_Nets_lay_50_27 v0 v2 v3 v4 v5 M = some r) : (Sum.elim (fun r : Int32 × Mem => Fx C L A r.2) (fun r : Mem => Fx C L A r)) r := by
  unfold j_Nets_lay_50_27 at e
  obtain ⟨_, e⟩ := io_n e
  obtain ⟨_, e⟩ := io_n e
  obtain ⟨M3, e_M3, e⟩ := mo e
  have p_M3 : Fx C L A M3 := wlg p0 e_M3 h_v0_0
  obtain rfl := Option.some.inj e
  exact p_M3
theorem wl_Nets_lay_27 {C : Nat} {L : List Nat} {A : Mem} (v0 : Nat) (v2 : Nat) (v3 : Int32) (v4 : Int32) (s : Int32 × Mem) (hC : sb 0 C) (h_v0_0 : Oc C L (rf v0 0)) (p0 : Fx C L A s.2) {r : ((Int32 × Mem) ⊕ ((Mem)))} (e : lb_Nets_lay_27 v0 v2 v3 v4 s = some r) : (Sum.elim (fun r : Int32 × Mem => Fx C L A r.2) (fun r : Mem => Fx C L A r)) r := by
  unfold lb_Nets_lay_27 at e
  rcases io e with ⟨_, e⟩ | ⟨_, e⟩
  · obtain rfl := Option.some.inj e
    exact p0
  rcases io e with ⟨_, e⟩ | ⟨_, e⟩
  · exact (wj_Nets_lay_50_27 v0 v2 v3 v4 s.1 s.2 (sb_t (by decide +kernel) hC) h_v0_0 p0 e)
  obtain ⟨x4, e_x4, e⟩ := bo e
  rcases io e with ⟨_, e⟩ | ⟨_, e⟩
  · obtain rfl := Option.some.inj e
    exact p0
  exact (wj_Nets_lay_50_27 v0 v2 v3 v4 s.1 s.2 (sb_t (by decide +kernel) hC) h_v0_0 p0 e)
theorem wl_Nets_lay_17 {C : Nat} {L : List Nat} {A : Mem} (v0 : Nat) (v2 : Nat) (v3 : Int32) (s : Int32 × Mem) (hC : sb 0 C) (h_v0_0 : Oc C L (rf v0 0)) (p0 : Fx C L A s.2) {r : ((Int32 × Mem) ⊕ ((Mem)))} (e : lb_Nets_lay_17 v0 v2 v3 s = some r) : (Sum.elim (fun r : Int32 × Mem => Fx C L A r.2) (fun r : Mem => Fx C L A r)) r := by
  unfold lb_Nets_lay_17 at e
  rcases io e with ⟨_, e⟩ | ⟨_, e⟩
  · obtain rfl := Option.some.inj e
    exact p0
  obtain ⟨x8, e_x8, e⟩ := bo e
  have p_x8 : Fx C L A x8 := (it_r (I := fun s : Int32 × Mem => Fx C L A s.2) (Q := (fun r : Mem => Fx C L A r)) (fun s_ r_ hs_ er_ => wl_Nets_lay_27 v0 v2 v3 s.1 s_ (sb_t (by decide +kernel) hC) h_v0_0 hs_ er_) e_x8 p0)
  obtain rfl := Option.some.inj e
  exact p_x8
theorem wl_Nets_lay_79 {C : Nat} {L : List Nat} {A : Mem} (v0 : Nat) (v2 : Nat) (s : Int32 × Mem) (hC : sb 0 C) (h_v0_1 : Oc C L (rf v0 1)) (h_v0_2 : Oc C L (rf v0 2)) (p0 : Fx C L A s.2) {r : ((Int32 × Mem) ⊕ ((Mem)))} (e : lb_Nets_lay_79 v0 v2 s = some r) : (Sum.elim (fun r : Int32 × Mem => Fx C L A r.2) (fun r : Mem => Fx C L A r)) r := by
  unfold lb_Nets_lay_79 at e
  rcases io e with ⟨_, e⟩ | ⟨_, e⟩
  · obtain rfl := Option.some.inj e
    exact p0
  obtain ⟨x11, e_x11, e⟩ := bo e
  have p_x11 : Fx C L A x11 := (wf_Nets_link v0 (0 : Int32) s.1 s.2 (sb_t (by decide +kernel) hC) h_v0_1 h_v0_2 p0 e_x11)
  obtain ⟨x12, e_x12, e⟩ := bo e
  have p_x12 : Fx C L A x12 := (wf_Nets_link v0 (1 : Int32) s.1 x11 (sb_t (by decide +kernel) hC) h_v0_1 h_v0_2 p_x11 e_x12)
  obtain rfl := Option.some.inj e
  exact p_x12
theorem wl_Nets_lay_111 {C : Nat} {L : List Nat} {A : Mem} (v0 : Nat) (v2 : Nat) (s : Int32 × Mem) (hC : sb 0 C) (h_v0_1 : Oc C L (rf v0 1)) (h_v0_2 : Oc C L (rf v0 2)) (p0 : Fx C L A s.2) {r : ((Int32 × Mem) ⊕ ((Mem)))} (e : lb_Nets_lay_111 v0 v2 s = some r) : (Sum.elim (fun r : Int32 × Mem => Fx C L A r.2) (fun r : Mem => Fx C L A r)) r := by
  unfold lb_Nets_lay_111 at e
  rcases io e with ⟨_, e⟩ | ⟨_, e⟩
  · obtain rfl := Option.some.inj e
    exact p0
  rcases io e with ⟨_, e⟩ | ⟨_, e⟩
  · obtain rfl := Option.some.inj e
    exact p0
  obtain ⟨_, e⟩ := io_n e
  obtain ⟨_, e⟩ := io_n e
  obtain ⟨x15, e_x15, e⟩ := bo e
  have p_x15 : Fx C L A x15 := (wf_Nets_bridge v0 (s.2.1 (rf v2 4) s.1.toNatClampNeg) (s.2.1 (rf v2 5) s.1.toNatClampNeg) s.2 (sb_t (by decide +kernel) hC) h_v0_1 h_v0_2 p0 e_x15)
  obtain ⟨_, e⟩ := io_n e
  obtain ⟨_, e⟩ := io_n e
  obtain ⟨x16, e_x16, e⟩ := bo e
  have p_x16 : Fx C L A x16 := (wf_Nets_bridge v0 (x15.1 (rf v2 5) s.1.toNatClampNeg) (x15.1 (rf v2 4) s.1.toNatClampNeg) x15 (sb_t (by decide +kernel) hC) h_v0_1 h_v0_2 p_x15 e_x16)
  obtain rfl := Option.some.inj e
  exact p_x16
theorem wf_Nets_lay {C : Nat} {L : List Nat} {A : Mem} (v0 : Nat) (v2 : Nat) (v3 : Int32) (M : Mem) (hC : sb 0 C) (h_v0_0 : Oc C L (rf v0 0)) (h_v0_1 : Oc C L (rf v0 1)) (h_v0_2 : Oc C L (rf v0 2)) (p0 : Fx C L A M) {r : (Mem)} (e : f_Nets_lay v0 v2 v3 M = some r) : (fun r : Mem => Fx C L A r) r := by
  unfold f_Nets_lay at e
  obtain ⟨g_v0, e⟩ := io_n e
  obtain ⟨g_v2, e⟩ := io_n e
  obtain ⟨M1, e_M1, e⟩ := mo e
  have p_M1 : Fx C L A M1 := wlg p0 e_M1 h_v0_0
  obtain ⟨M2, e_M2, e⟩ := mo e
  have p_M2 : Fx C L A M2 := wlg p_M1 e_M2 h_v0_0
  obtain ⟨x10, e_x10, e⟩ := bo e
  have p_x10 : Fx C L A x10 := (it_r (I := fun s : Int32 × Mem => Fx C L A s.2) (Q := (fun r : Mem => Fx C L A r)) (fun s_ r_ hs_ er_ => wl_Nets_lay_17 v0 v2 v3 s_ (sb_t (by decide +kernel) hC) h_v0_0 hs_ er_) e_x10 p_M2)
  obtain ⟨x14, e_x14, e⟩ := bo e
  have p_x14 : Fx C L A x14 := (it_r (I := fun s : Int32 × Mem => Fx C L A s.2) (Q := (fun r : Mem => Fx C L A r)) (fun s_ r_ hs_ er_ => wl_Nets_lay_79 v0 v2 s_ (sb_t (by decide +kernel) hC) h_v0_1 h_v0_2 hs_ er_) e_x14 p_x10)
  obtain ⟨x19, e_x19, e⟩ := bo e
  have p_x19 : Fx C L A x19 := (it_r (I := fun s : Int32 × Mem => Fx C L A s.2) (Q := (fun r : Mem => Fx C L A r)) (fun s_ r_ hs_ er_ => wl_Nets_lay_111 v0 v2 s_ (sb_t (by decide +kernel) hC) h_v0_1 h_v0_2 hs_ er_) e_x19 p_x14)
  obtain rfl := Option.some.inj e
  exact p_x19
theorem wl_Nets_measure_3 {C : Nat} {L : List Nat} {A : Mem} (v0 : Nat) (v1 : Int32) (v2 : Int32) (v3 : Nat) (s : Int32 × Mem) (hC : sb 0 C) (h_v3 : Oc C L (v3)) (p0 : Fx C L A s.2) {r : ((Int32 × Mem) ⊕ ((Mem)))} (e : lb_Nets_measure_3 v0 v1 v2 v3 s = some r) : (Sum.elim (fun r : Int32 × Mem => Fx C L A r.2) (fun r : Mem => Fx C L A r)) r := by
  unfold lb_Nets_measure_3 at e
  rcases io e with ⟨_, e⟩ | ⟨_, e⟩
  · obtain rfl := Option.some.inj e
    exact p0
  obtain ⟨_, e⟩ := io_n e
  obtain ⟨M1, e_M1, e⟩ := mo e
  have p_M1 : Fx C L A M1 := wi p0 e_M1 h_v3
  obtain rfl := Option.some.inj e
  exact p_M1
theorem wl_Nets_measure_51 {C : Nat} {L : List Nat} {A : Mem} (v0 : Nat) (v1 : Int32) (v3 : Nat) (v4 : Int64) (v6 : Int64) (v8 : Int32) (s : Int32 × Mem) (hC : sb 0 C) (h_v3 : Oc C L (v3)) (p0 : Fx C L A s.2) {r : ((Int32 × Mem) ⊕ ((Mem)))} (e : lb_Nets_measure_51 v0 v1 v3 v4 v6 v8 s = some r) : (Sum.elim (fun r : Int32 × Mem => Fx C L A r.2) (fun r : Mem => Fx C L A r)) r := by
  unfold lb_Nets_measure_51 at e
  rcases io e with ⟨_, e⟩ | ⟨_, e⟩
  · obtain rfl := Option.some.inj e
    exact p0
  rcases io e with ⟨_, e⟩ | ⟨_, e⟩
  · obtain rfl := Option.some.inj e
    exact p0
  obtain ⟨_, e⟩ := io_n e
  obtain ⟨M4, e_M4, e⟩ := mo e
  have p_M4 : Fx C L A M4 := wi p0 e_M4 h_v3
  obtain rfl := Option.some.inj e
  exact p_M4
theorem wl_Nets_measure_34 {C : Nat} {L : List Nat} {A : Mem} (v0 : Nat) (v1 : Int32) (v3 : Nat) (s : Int64 × Int64 × Int32 × Mem) (hC : sb 0 C) (h_v3 : Oc C L (v3)) (p0 : Fx C L A s.2.2.2) {r : ((Int64 × Int64 × Int32 × Mem) ⊕ ((Mem)))} (e : lb_Nets_measure_34 v0 v1 v3 s = some r) : (Sum.elim (fun r : Int64 × Int64 × Int32 × Mem => Fx C L A r.2.2.2) (fun r : Mem => Fx C L A r)) r := by
  unfold lb_Nets_measure_34 at e
  rcases io e with ⟨_, e⟩ | ⟨_, e⟩
  · obtain rfl := Option.some.inj e
    exact p0
  rcases io e with ⟨_, e⟩ | ⟨_, e⟩
  · obtain rfl := Option.some.inj e
    exact p0
  obtain ⟨x7, e_x7, e⟩ := bo e
  have p_x7 : Fx C L A x7 := (it_r (I := fun s : Int32 × Mem => Fx C L A s.2) (Q := (fun r : Mem => Fx C L A r)) (fun s_ r_ hs_ er_ => wl_Nets_measure_51 v0 v1 v3 s.1 s.2.1 s.2.2.1 s_ (sb_t (by decide +kernel) hC) h_v3 hs_ er_) e_x7 p0)
  obtain ⟨x8, e_x8, e⟩ := bo e
  obtain rfl := Option.some.inj e
  exact p_x7
theorem wf_Nets_measure {C : Nat} {L : List Nat} {A : Mem} (v0 : Nat) (v1 : Int32) (v2 : Int32) (v3 : Nat) (M : Mem) (hC : sb 0 C) (h_v3 : Oc C L (v3)) (p0 : Fx C L A M) {r : (Mem)} (e : f_Nets_measure v0 v1 v2 v3 M = some r) : (fun r : Mem => Fx C L A r) r := by
  unfold f_Nets_measure at e
  obtain ⟨g_v0, e⟩ := io_n e
  obtain ⟨g_v3, e⟩ := io_n e
  obtain ⟨x3, e_x3, e⟩ := bo e
  have p_x3 : Fx C L A x3 := (it_r (I := fun s : Int32 × Mem => Fx C L A s.2) (Q := (fun r : Mem => Fx C L A r)) (fun s_ r_ hs_ er_ => wl_Nets_measure_3 v0 v1 v2 v3 s_ (sb_t (by decide +kernel) hC) h_v3 hs_ er_) e_x3 p0)
  obtain ⟨x11, e_x11, e⟩ := bo e
  have p_x11 : Fx C L A x11 := (it_r (I := fun s : Int64 × Int64 × Int32 × Mem => Fx C L A s.2.2.2) (Q := (fun r : Mem => Fx C L A r)) (fun s_ r_ hs_ er_ => wl_Nets_measure_34 v0 v1 v3 s_ (sb_t (by decide +kernel) hC) h_v3 hs_ er_) e_x11 p_x3)
  obtain rfl := Option.some.inj e
  exact p_x11
theorem wf_Law_emit {C : Nat} {L : List Nat} {A : Mem} (v1 : Int32) (M : Mem) (hC : sb 69992023193056381579920071267763883691301421788582797965624659405118495974380029543152426062784233472 C)  (p0 : Fx C L A M) {r : (Mem)} (e : f_Law_emit v1 M = some r) : (fun r : Mem => Fx C L A r) r := by
  unfold f_Law_emit at e
  rcases io e with ⟨_, e⟩ | ⟨_, e⟩
  · obtain rfl := Option.some.inj e
    exact p0
  rcases io e with ⟨_, e⟩ | ⟨_, e⟩
  · obtain rfl := Option.some.inj e
    exact p0
  obtain ⟨_, e⟩ := io_n e
  obtain ⟨M1, e_M1, e⟩ := mo e
  have p_M1 : Fx C L A M1 := wi p0 e_M1 (oc_c hC (by decide +kernel))
  obtain ⟨M2, e_M2, e⟩ := mo e
  have p_M2 : Fx C L A M2 := wi1 p_M1 e_M2 (tb1 hC (by decide +kernel))
  obtain rfl := Option.some.inj e
  exact p_M2
theorem wl_Law_settle_2 {C : Nat} {L : List Nat} {A : Mem} (v1 : Int32) (s : Int32 × Mem) (hC : sb 209976069579169144739760213803291651073904265365748393896873978215355487923140088629457269392259678208 C)  (p0 : Fx C L A s.2) {r : ((Int32 × Mem) ⊕ ((Mem) ⊕ (Mem)))} (e : lb_Law_settle_2 v1 s = some r) : (Sum.elim (fun r : Int32 × Mem => Fx C L A r.2) (Sum.elim (fun r : Mem => Fx C L A r) (fun r : Mem => Fx C L A r))) r := by
  unfold lb_Law_settle_2 at e
  rcases io e with ⟨_, e⟩ | ⟨_, e⟩
  · obtain rfl := Option.some.inj e
    exact p0
  rcases io e with ⟨_, e⟩ | ⟨_, e⟩
  · obtain rfl := Option.some.inj e
    exact p0
  rcases io e with ⟨_, e⟩ | ⟨_, e⟩
  · obtain rfl := Option.some.inj e
    exact p0
  obtain ⟨_, e⟩ := io_n e
  rcases io e with ⟨_, e⟩ | ⟨_, e⟩
  · obtain rfl := Option.some.inj e
    exact p0
  obtain ⟨_, e⟩ := io_n e
  obtain ⟨x1, e_x1, e⟩ := bo e
  rcases io e with ⟨_, e⟩ | ⟨_, e⟩
  · obtain ⟨M2, e_M2, e⟩ := mo e
    have p_M2 : Fx C L A M2 := wi1 p0 e_M2 (tb1 hC (by decide +kernel))
    obtain ⟨_, e⟩ := io_n e
    obtain ⟨x3, e_x3, e⟩ := bo e
    have p_x3 : Fx C L A x3 := (wf_Law_emit (-(M2.1 43 (M2.1 40 6).toNatClampNeg)) M2 (sb_t (by decide +kernel) hC) p_M2 e_x3)
    obtain rfl := Option.some.inj e
    exact p_x3
  obtain rfl := Option.some.inj e
  exact p0
theorem wf_Law_settle {C : Nat} {L : List Nat} {A : Mem} (v1 : Int32) (M : Mem) (hC : sb 209976069579169144739760213803291651073904265365748393896873978215355487923140088629457269392259678208 C)  (p0 : Fx C L A M) {r : (Mem)} (e : f_Law_settle v1 M = some r) : (fun r : Mem => Fx C L A r) r := by
  unfold f_Law_settle at e
  obtain ⟨y_, e_y, e⟩ := bo e
  have q_y := (it_r (I := fun s : Int32 × Mem => Fx C L A s.2) (Q := (Sum.elim (fun r : Mem => Fx C L A r) (fun r : Mem => Fx C L A r))) (fun s_ r_ hs_ er_ => wl_Law_settle_2 v1 s_ (sb_t (by decide +kernel) hC) hs_ er_) e_y p0)
  rcases y_ with y10 | y11
  · have p_y10 : Fx C L A y10 := q_y
    replace e := el_l e
    obtain rfl := Option.some.inj e
    exact p_y10
  · have p_y11 : Fx C L A y11 := q_y
    replace e := el_r e
    obtain rfl := Option.some.inj e
    exact p_y11
theorem wf_Law_hold {C : Nat} {L : List Nat} {A : Mem} (v1 : Int32) (M : Mem) (hC : sb 139984046386112763159840142535527767382602843577165595931249318810236991948760059086304852125568466944 C)  (p0 : Fx C L A M) {r : (Mem)} (e : f_Law_hold v1 M = some r) : (fun r : Mem => Fx C L A r) r := by
  unfold f_Law_hold at e
  rcases io e with ⟨_, e⟩ | ⟨_, e⟩
  · obtain rfl := Option.some.inj e
    exact p0
  rcases io e with ⟨_, e⟩ | ⟨_, e⟩
  · obtain rfl := Option.some.inj e
    exact p0
  obtain ⟨_, e⟩ := io_n e
  obtain ⟨M1, e_M1, e⟩ := mo e
  have p_M1 : Fx C L A M1 := wi p0 e_M1 (oc_c hC (by decide +kernel))
  obtain ⟨M2, e_M2, e⟩ := mo e
  have p_M2 : Fx C L A M2 := wi1 p_M1 e_M2 (tb1 hC (by decide +kernel))
  obtain rfl := Option.some.inj e
  exact p_M2
theorem wj_Law_readBehind_90 {C : Nat} {L : List Nat} {A : Mem} (v1 : Int32) (v2 : Int32) (M : Mem) (hC : sb 2449720811756973355297202494371735929195549762600397928796863079179147359103301034010334771459959816192 C)  (p0 : Fx C L A M) {r : (Int32 × Mem)} (e : j_Law_readBehind_90 v1 v2 M = some r) : (fun r : Int32 × Mem => Fx C L A r.2) r := by
  unfold j_Law_readBehind_90 at e
  obtain ⟨x2, e_x2, e⟩ := bo e
  have p_x2 : Fx C L A x2 := (wf_Law_settle v2 M (sb_t (by decide +kernel) hC) p0 e_x2)
  obtain ⟨x3, e_x3, e⟩ := bo e
  have p_x3 : Fx C L A x3 := (wf_Law_hold v1 x2 (sb_t (by decide +kernel) hC) p_x2 e_x3)
  obtain ⟨M4, e_M4, e⟩ := mo e
  have p_M4 : Fx C L A M4 := wi1 p_x3 e_M4 (tb1 hC (by decide +kernel))
  obtain rfl := Option.some.inj e
  exact p_M4
theorem wj_Law_readBehind_70 {C : Nat} {L : List Nat} {A : Mem} (v1 : Int32) (v2 : Int32) (M : Mem) (hC : sb 3569593182845875460575923634655958068256372511217722696246857629661043294693381506700773518095763374080 C)  (p0 : Fx C L A M) {r : (Int32 × Mem)} (e : j_Law_readBehind_70 v1 v2 M = some r) : (fun r : Int32 × Mem => Fx C L A r.2) r := by
  unfold j_Law_readBehind_70 at e
  rcases io e with ⟨_, e⟩ | ⟨_, e⟩
  · obtain ⟨M5, e_M5, e⟩ := mo e
    have p_M5 : Fx C L A M5 := wi1 p0 e_M5 (tb1 hC (by decide +kernel))
    exact (wj_Law_readBehind_90 v1 v2 M5 (sb_t (by decide +kernel) hC) p_M5 e)
  exact (wj_Law_readBehind_90 v1 v2 M (sb_t (by decide +kernel) hC) p0 e)
theorem wj_Law_readBehind_40 {C : Nat} {L : List Nat} {A : Mem} (v1 : Int32) (M : Mem) (hC : sb 3569593182845875460575923634655958068256372511217722696246857629661043294693381506700773518095763374080 C)  (p0 : Fx C L A M) {r : (Int32 × Mem)} (e : j_Law_readBehind_40 v1 M = some r) : (fun r : Int32 × Mem => Fx C L A r.2) r := by
  unfold j_Law_readBehind_40 at e
  obtain ⟨x1, e_x1, e⟩ := bo e
  rcases io e with ⟨_, e⟩ | ⟨_, e⟩
  · obtain rfl := Option.some.inj e
    exact p0
  rcases io e with ⟨_, e⟩ | ⟨_, e⟩
  · rcases io e with ⟨_, e⟩ | ⟨_, e⟩
    · exact (wj_Law_readBehind_70 v1 x1 M (sb_t (by decide +kernel) hC) p0 e)
    obtain rfl := Option.some.inj e
    exact p0
  exact (wj_Law_readBehind_70 v1 x1 M (sb_t (by decide +kernel) hC) p0 e)
theorem wf_Law_readBehind {C : Nat} {L : List Nat} {A : Mem} (v1 : Int32) (M : Mem) (hC : sb 4129529368390326513215284204798069137786783885526385079971854904901991262488421743045992891413665153024 C)  (p0 : Fx C L A M) {r : (Int32 × Mem)} (e : f_Law_readBehind v1 M = some r) : (fun r : Int32 × Mem => Fx C L A r.2) r := by
  unfold f_Law_readBehind at e
  rcases io e with ⟨_, e⟩ | ⟨_, e⟩
  · rcases io e with ⟨_, e⟩ | ⟨_, e⟩
    · exact (wj_Law_readBehind_40 v1 M (sb_t (by decide +kernel) hC) p0 e)
    obtain ⟨x10, e_x10, e⟩ := bo e
    have p_x10 : Fx C L A x10 := (wf_Law_settle (1 : Int32) M (sb_t (by decide +kernel) hC) p0 e_x10)
    obtain ⟨M11, e_M11, e⟩ := mo e
    have p_M11 : Fx C L A M11 := wi1 p_x10 e_M11 (tb1 hC (by decide +kernel))
    obtain ⟨M12, e_M12, e⟩ := mo e
    have p_M12 : Fx C L A M12 := wi1 p_M11 e_M12 (tb1 hC (by decide +kernel))
    obtain rfl := Option.some.inj e
    exact p_M12
  exact (wj_Law_readBehind_40 v1 M (sb_t (by decide +kernel) hC) p0 e)
theorem wj_Law_readThing_63 {C : Nat} {L : List Nat} {A : Mem} (v2 : Int32) (v3 : Int32) (M : Mem) (hC : sb 2309736765370860592144950902196464915996226067096761703594685662083957787159430867149572514198474194944 C)  (p0 : Fx C L A M) {r : (Int32 × Mem)} (e : j_Law_readThing_63 v2 v3 M = some r) : (fun r : Int32 × Mem => Fx C L A r.2) r := by
  unfold j_Law_readThing_63 at e
  obtain ⟨x1, e_x1, e⟩ := bo e
  have p_x1 : Fx C L A x1.2 := (wf_Signs_digits v2 (40 : Int32) (3 : Int32) M (sb_t (by decide +kernel) hC) p0 e_x1)
  rcases io e with ⟨_, e⟩ | ⟨_, e⟩
  · obtain ⟨x2, e_x2, e⟩ := bo e
    rcases io e with ⟨_, e⟩ | ⟨_, e⟩
    · obtain rfl := Option.some.inj e
      exact p_x1
    obtain ⟨x3, e_x3, e⟩ := bo e
    have p_x3 : Fx C L A x3 := (wf_Law_emit (-v3) x1.2 (sb_t (by decide +kernel) hC) p_x1 e_x3)
    obtain ⟨M4, e_M4, e⟩ := mo e
    have p_M4 : Fx C L A M4 := wi1 p_x3 e_M4 (tb1 hC (by decide +kernel))
    obtain rfl := Option.some.inj e
    exact p_M4
  obtain ⟨x6, e_x6, e⟩ := bo e
  have p_x6 : Fx C L A x6 := (wf_Law_emit (x1.2.1 1 2) x1.2 (sb_t (by decide +kernel) hC) p_x1 e_x6)
  obtain ⟨M7, e_M7, e⟩ := mo e
  have p_M7 : Fx C L A M7 := wi1 p_x6 e_M7 (tb1 hC (by decide +kernel))
  obtain rfl := Option.some.inj e
  exact p_M7
theorem wf_Law_readThing {C : Nat} {L : List Nat} {A : Mem} (v2 : Int32) (v3 : Int32) (M : Mem) (hC : sb 4129529368390326513222872755158325891970063033599914450700926806617038682493311635271535486277747998720 C)  (p0 : Fx C L A M) {r : (Int32 × Mem)} (e : f_Law_readThing v2 v3 M = some r) : (fun r : Int32 × Mem => Fx C L A r.2) r := by
  unfold f_Law_readThing at e
  rcases io e with ⟨_, e⟩ | ⟨_, e⟩
  · obtain ⟨x14, e_x14, e⟩ := bo e
    have p_x14 : Fx C L A x14 := (wf_Law_hold (256 : Int32) M (sb_t (by decide +kernel) hC) p0 e_x14)
    obtain rfl := Option.some.inj e
    exact p_x14
  rcases io e with ⟨_, e⟩ | ⟨_, e⟩
  · rcases io e with ⟨_, e⟩ | ⟨_, e⟩
    · exact (wj_Law_readThing_63 v2 v3 M (sb_t (by decide +kernel) hC) p0 e)
    obtain ⟨M9, e_M9, e⟩ := mo e
    have p_M9 : Fx C L A M9 := wi1 p0 e_M9 (tb1 hC (by decide +kernel))
    obtain ⟨M10, e_M10, e⟩ := mo e
    have p_M10 : Fx C L A M10 := wi1 p_M9 e_M10 (tb1 hC (by decide +kernel))
    obtain ⟨x11, e_x11, e⟩ := bo e
    have p_x11 : Fx C L A x11 := (wf_Law_hold v3 M10 (sb_t (by decide +kernel) hC) p_M10 e_x11)
    obtain rfl := Option.some.inj e
    exact p_x11
  exact (wj_Law_readThing_63 v2 v3 M (sb_t (by decide +kernel) hC) p0 e)
theorem wj_Law_read_108_29 {C : Nat} {L : List Nat} {A : Mem} (v2 : Int32) (v3 : Int32) (w0 : Int32) (M : Mem) (hC : sb 0 C)  (p0 : Fx C L A M) {r : ((Int32 × Int32 × Mem) ⊕ ((Mem) ⊕ (Int32 × Mem) ⊕ (Int32 × Mem)))} (e : j_Law_read_108_29 v2 v3 w0 M = some r) : (Sum.elim (fun r : Int32 × Int32 × Mem => Fx C L A r.2.2) (Sum.elim (fun r : Mem => Fx C L A r) (Sum.elim (fun r : Int32 × Mem => Fx C L A r.2) (fun r : Int32 × Mem => Fx C L A r.2)))) r := by
  unfold j_Law_read_108_29 at e
  rcases io e with ⟨_, e⟩ | ⟨_, e⟩
  · obtain rfl := Option.some.inj e
    exact p0
  obtain rfl := Option.some.inj e
  exact p0
theorem wl_Law_read_29 {C : Nat} {L : List Nat} {A : Mem} (s : Int32 × Int32 × Mem) (hC : sb 4129529368390326513222872755158325891970063033599914450700926806617038682493311635271535486277747998720 C)  (p0 : Fx C L A s.2.2) {r : ((Int32 × Int32 × Mem) ⊕ ((Mem) ⊕ (Int32 × Mem) ⊕ (Int32 × Mem)))} (e : lb_Law_read_29 s = some r) : (Sum.elim (fun r : Int32 × Int32 × Mem => Fx C L A r.2.2) (Sum.elim (fun r : Mem => Fx C L A r) (Sum.elim (fun r : Int32 × Mem => Fx C L A r.2) (fun r : Int32 × Mem => Fx C L A r.2)))) r := by
  unfold lb_Law_read_29 at e
  rcases io e with ⟨_, e⟩ | ⟨_, e⟩
  · obtain rfl := Option.some.inj e
    exact p0
  rcases io e with ⟨_, e⟩ | ⟨_, e⟩
  · obtain rfl := Option.some.inj e
    exact p0
  obtain ⟨x6, e_x6, e⟩ := bo e
  rcases io e with ⟨_, e⟩ | ⟨_, e⟩
  · obtain rfl := Option.some.inj e
    exact p0
  rcases io e with ⟨_, e⟩ | ⟨_, e⟩
  · obtain ⟨x7, e_x7, e⟩ := bo e
    have p_x7 : Fx C L A x7.2 := (wf_Law_readThing s.1 x6 s.2.2 (sb_t (by decide +kernel) hC) p0 e_x7)
    exact (wj_Law_read_108_29 s.1 s.2.1 x7.1 x7.2 (sb_t (by decide +kernel) hC) p_x7 e)
  obtain ⟨x9, e_x9, e⟩ := bo e
  have p_x9 : Fx C L A x9.2 := (wf_Law_readBehind x6 s.2.2 (sb_t (by decide +kernel) hC) p0 e_x9)
  exact (wj_Law_read_108_29 s.1 s.2.1 x9.1 x9.2 (sb_t (by decide +kernel) hC) p_x9 e)
theorem wj_Law_read_130 {C : Nat} {L : List Nat} {A : Mem} (M : Mem) (hC : sb 244972081175697335529720249437173592919554976260039792879686307917914735910330103401033482423651794944 C)  (p0 : Fx C L A M) {r : (Int32 × Mem)} (e : j_Law_read_130 M = some r) : (fun r : Int32 × Mem => Fx C L A r.2) r := by
  unfold j_Law_read_130 at e
  obtain ⟨x16, e_x16, e⟩ := bo e
  have p_x16 : Fx C L A x16 := (wf_Law_settle (0 : Int32) M (sb_t (by decide +kernel) hC) p0 e_x16)
  obtain ⟨M17, e_M17, e⟩ := mo e
  have p_M17 : Fx C L A M17 := wc p_x16 e_M17 (oc_c hC (by decide +kernel))
  obtain ⟨M18, e_M18, e⟩ := mo e
  have p_M18 : Fx C L A M18 := wi1 p_M17 e_M18 (tb1 hC (by decide +kernel))
  obtain rfl := Option.some.inj e
  exact p_M18
end
section
/-! frames -/
theorem wf_Law_read {C : Nat} {L : List Nat} {A : Mem} (M : Mem) (hC : sb 4164525379986854704012832790792207833815713744494205849683739136319597930480501650043111699309140115456 C)  (p0 : Fx C L A M) {r : (Int32 × Mem)} (e : f_Law_read M = some r) : (fun r : Int32 × Mem => Fx C L A r.2) r := by
  unfold f_Law_read at e
  obtain ⟨M1, e_M1, e⟩ := mo e
  have p_M1 : Fx C L A M1 := wi1 p0 e_M1 (tb1 hC (by decide +kernel))
  obtain ⟨M2, e_M2, e⟩ := mo e
  have p_M2 : Fx C L A M2 := wi1 p_M1 e_M2 (tb1 hC (by decide +kernel))
  obtain ⟨M3, e_M3, e⟩ := mo e
  have p_M3 : Fx C L A M3 := wi1 p_M2 e_M3 (tb1 hC (by decide +kernel))
  obtain ⟨M4, e_M4, e⟩ := mo e
  have p_M4 : Fx C L A M4 := wi1 p_M3 e_M4 (tb1 hC (by decide +kernel))
  obtain ⟨M5, e_M5, e⟩ := mo e
  have p_M5 : Fx C L A M5 := wi1 p_M4 e_M5 (tb1 hC (by decide +kernel))
  obtain ⟨y_, e_y, e⟩ := bo e
  have q_y := (it_r (I := fun s : Int32 × Int32 × Mem => Fx C L A s.2.2) (Q := (Sum.elim (fun r : Mem => Fx C L A r) (Sum.elim (fun r : Int32 × Mem => Fx C L A r.2) (fun r : Int32 × Mem => Fx C L A r.2)))) (fun s_ r_ hs_ er_ => wl_Law_read_29  s_ (sb_t (by decide +kernel) hC) hs_ er_) e_y p_M5)
  rcases y_ with y15 | y19 | y23
  · have p_y15 : Fx C L A y15 := q_y
    replace e := el_l e
    exact (wj_Law_read_130 y15 (sb_t (by decide +kernel) hC) p_y15 e)
  · have p_y19 : Fx C L A y19.2 := q_y
    replace e := el_r e
    replace e := el_l e
    rcases io e with ⟨_, e⟩ | ⟨_, e⟩
    · obtain rfl := Option.some.inj e
      exact p_y19
    rcases io e with ⟨_, e⟩ | ⟨_, e⟩
    · obtain rfl := Option.some.inj e
      exact p_y19
    rcases io e with ⟨_, e⟩ | ⟨_, e⟩
    · exact (wj_Law_read_130 y19.2 (sb_t (by decide +kernel) hC) p_y19 e)
    obtain rfl := Option.some.inj e
    exact p_y19
  · have p_y23 : Fx C L A y23.2 := q_y
    replace e := el_r e
    replace e := el_r e
    obtain rfl := Option.some.inj e
    exact p_y23
theorem wf_Law_push {C : Nat} {L : List Nat} {A : Mem} (v1 : Int32) (M : Mem) (hC : sb 279968092772225526319680285071055534765205687154331191862498637620473983897520118172609704251136933888 C)  (p0 : Fx C L A M) {r : (Mem)} (e : f_Law_push v1 M = some r) : (fun r : Mem => Fx C L A r) r := by
  unfold f_Law_push at e
  rcases io e with ⟨_, e⟩ | ⟨_, e⟩
  · obtain rfl := Option.some.inj e
    exact p0
  rcases io e with ⟨_, e⟩ | ⟨_, e⟩
  · obtain rfl := Option.some.inj e
    exact p0
  obtain ⟨_, e⟩ := io_n e
  obtain ⟨M1, e_M1, e⟩ := mo e
  have p_M1 : Fx C L A M1 := wi p0 e_M1 (oc_c hC (by decide +kernel))
  obtain ⟨M2, e_M2, e⟩ := mo e
  have p_M2 : Fx C L A M2 := wi1 p_M1 e_M2 (tb1 hC (by decide +kernel))
  obtain rfl := Option.some.inj e
  exact p_M2
theorem wf_Law_pop {C : Nat} {L : List Nat} {A : Mem} (M : Mem) (hC : sb 279968092772225526319680285071055534765205687154331191862498637620473983897520118172609686658950889472 C)  (p0 : Fx C L A M) {r : (Int32 × Mem)} (e : f_Law_pop M = some r) : (fun r : Int32 × Mem => Fx C L A r.2) r := by
  unfold f_Law_pop at e
  rcases io e with ⟨_, e⟩ | ⟨_, e⟩
  · obtain rfl := Option.some.inj e
    exact p0
  rcases io e with ⟨_, e⟩ | ⟨_, e⟩
  · obtain ⟨M1, e_M1, e⟩ := mo e
    have p_M1 : Fx C L A M1 := wi1 p0 e_M1 (tb1 hC (by decide +kernel))
    obtain ⟨_, e⟩ := io_n e
    obtain rfl := Option.some.inj e
    exact p_M1
  obtain rfl := Option.some.inj e
  exact p0
theorem wf_Law_work {C : Nat} {L : List Nat} {A : Mem} (v1 : Int32) (M : Mem) (hC : sb 279968092772225526319680285071055534765205687154331191862498637620473983897520118172609704251136933888 C)  (p0 : Fx C L A M) {r : (Mem)} (e : f_Law_work v1 M = some r) : (fun r : Mem => Fx C L A r) r := by
  unfold f_Law_work at e
  obtain ⟨x1, e_x1, e⟩ := bo e
  have p_x1 : Fx C L A x1.2 := (wf_Law_pop M (sb_t (by decide +kernel) hC) p0 e_x1)
  rcases io e with ⟨_, e⟩ | ⟨_, e⟩
  · obtain ⟨x5, e_x5, e⟩ := bo e
    have p_x5 : Fx C L A x5 := (wf_Law_push (-x1.1) x1.2 (sb_t (by decide +kernel) hC) p_x1 e_x5)
    obtain rfl := Option.some.inj e
    exact p_x5
  obtain ⟨x2, e_x2, e⟩ := bo e
  have p_x2 : Fx C L A x2.2 := (wf_Law_pop x1.2 (sb_t (by decide +kernel) hC) p_x1 e_x2)
  obtain ⟨x3, e_x3, e⟩ := bo e
  obtain ⟨x4, e_x4, e⟩ := bo e
  have p_x4 : Fx C L A x4 := (wf_Law_push x3 x2.2 (sb_t (by decide +kernel) hC) p_x2 e_x4)
  obtain rfl := Option.some.inj e
  exact p_x4
theorem wl_Law_goes_28 {C : Nat} {L : List Nat} {A : Mem} (v1 : Int32) (v2 : Nat) (s : Int32 × Mem) (hC : sb 279968092772225526319680285071055534765205687154331191862498637620473983897520118172609704251136933888 C)  (p0 : Fx C L A s.2) {r : ((Int32 × Mem) ⊕ ((Mem)))} (e : lb_Law_goes_28 v1 v2 s = some r) : (Sum.elim (fun r : Int32 × Mem => Fx C L A r.2) (fun r : Mem => Fx C L A r)) r := by
  unfold lb_Law_goes_28 at e
  rcases io e with ⟨_, e⟩ | ⟨_, e⟩
  · obtain rfl := Option.some.inj e
    exact p0
  rcases io e with ⟨_, e⟩ | ⟨_, e⟩
  · obtain rfl := Option.some.inj e
    exact p0
  obtain ⟨_, e⟩ := io_n e
  rcases io e with ⟨_, e⟩ | ⟨_, e⟩
  · obtain ⟨x2, e_x2, e⟩ := bo e
    rcases io e with ⟨_, e⟩ | ⟨_, e⟩
    · obtain ⟨x3, e_x3, e⟩ := bo e
      have p_x3 : Fx C L A x3 := (wf_Law_work (-(s.2.1 41 s.1.toNatClampNeg)) s.2 (sb_t (by decide +kernel) hC) p0 e_x3)
      obtain rfl := Option.some.inj e
      exact p_x3
    obtain ⟨x4, e_x4, e⟩ := bo e
    obtain ⟨x5, e_x5, e⟩ := bo e
    have p_x5 : Fx C L A x5 := (wf_Law_push x4 s.2 (sb_t (by decide +kernel) hC) p0 e_x5)
    obtain rfl := Option.some.inj e
    exact p_x5
  obtain ⟨x7, e_x7, e⟩ := bo e
  have p_x7 : Fx C L A x7 := (wf_Law_push (s.2.1 41 s.1.toNatClampNeg) s.2 (sb_t (by decide +kernel) hC) p0 e_x7)
  obtain rfl := Option.some.inj e
  exact p_x7
theorem wj_Law_goes_107 {C : Nat} {L : List Nat} {A : Mem} (M : Mem) (hC : sb 279968092772225526319680285071055534765205687154331191862498637620473983897520118172609686658950889472 C)  (p0 : Fx C L A M) {r : (Int32 × Mem)} (e : j_Law_goes_107 M = some r) : (fun r : Int32 × Mem => Fx C L A r.2) r := by
  unfold j_Law_goes_107 at e
  rcases io e with ⟨_, e⟩ | ⟨_, e⟩
  · obtain rfl := Option.some.inj e
    exact p0
  obtain ⟨x12, e_x12, e⟩ := bo e
  have p_x12 : Fx C L A x12.2 := (wf_Law_pop M (sb_t (by decide +kernel) hC) p0 e_x12)
  rcases io e with ⟨_, e⟩ | ⟨_, e⟩
  · obtain rfl := Option.some.inj e
    exact p_x12
  obtain rfl := Option.some.inj e
  exact p_x12
theorem wf_Law_goes {C : Nat} {L : List Nat} {A : Mem} (v1 : Int32) (v2 : Nat) (M : Mem) (hC : sb 279968092772225526319680285071055534765205687154331191862498637620473983897520118172609704251136933888 C)  (p0 : Fx C L A M) {r : (Int32 × Mem)} (e : f_Law_goes v1 v2 M = some r) : (fun r : Int32 × Mem => Fx C L A r.2) r := by
  unfold f_Law_goes at e
  obtain ⟨g_v2, e⟩ := io_n e
  rcases io e with ⟨_, e⟩ | ⟨_, e⟩
  · obtain ⟨_, e⟩ := io_n e
    rcases io e with ⟨_, e⟩ | ⟨_, e⟩
    · obtain rfl := Option.some.inj e
      exact p0
    obtain ⟨M15, e_M15, e⟩ := mo e
    have p_M15 : Fx C L A M15 := wi1 p0 e_M15 (tb1 hC (by decide +kernel))
    obtain ⟨x16, e_x16, e⟩ := bo e
    have p_x16 : Fx C L A x16 := (it_r (I := fun s : Int32 × Mem => Fx C L A s.2) (Q := (fun r : Mem => Fx C L A r)) (fun s_ r_ hs_ er_ => wl_Law_goes_28 v1 v2 s_ (sb_t (by decide +kernel) hC) hs_ er_) e_x16 p_M15)
    exact (wj_Law_goes_107 x16 (sb_t (by decide +kernel) hC) p_x16 e)
  obtain ⟨M1, e_M1, e⟩ := mo e
  have p_M1 : Fx C L A M1 := wi1 p0 e_M1 (tb1 hC (by decide +kernel))
  obtain ⟨x11, e_x11, e⟩ := bo e
  have p_x11 : Fx C L A x11 := (it_r (I := fun s : Int32 × Mem => Fx C L A s.2) (Q := (fun r : Mem => Fx C L A r)) (fun s_ r_ hs_ er_ => wl_Law_goes_28 v1 v2 s_ (sb_t (by decide +kernel) hC) hs_ er_) e_x11 p_M1)
  exact (wj_Law_goes_107 x11 (sb_t (by decide +kernel) hC) p_x11 e)
theorem wj_Clock_move_71 {C : Nat} {L : List Nat} {A : Mem} (v1 : Int32) (v2 : Nat) (M : Mem) (hC : sb 0 C) (h_v2_2 : Oc C L (rf v2 2)) (p0 : Fx C L A M) {r : (Mem)} (e : j_Clock_move_71 v1 v2 M = some r) : (fun r : Mem => Fx C L A r) r := by
  unfold j_Clock_move_71 at e
  obtain ⟨_, e⟩ := io_n e
  obtain ⟨x3, e_x3, e⟩ := bo e
  obtain ⟨_, e⟩ := io_n e
  obtain ⟨M4, e_M4, e⟩ := mo e
  have p_M4 : Fx C L A M4 := wi p0 e_M4 h_v2_2
  obtain rfl := Option.some.inj e
  exact p_M4
theorem wf_Clock_move {C : Nat} {L : List Nat} {A : Mem} (v1 : Int32) (v2 : Nat) (v4 : Nat) (M : Mem) (hC : sb 2293498615990071511610820895302086940796564989168281123737588839386922876088484808070018553110125686554624 C) (h_v2_0 : Oc C L (rf v2 0)) (h_v2_2 : Oc C L (rf v2 2)) (p0 : Fx C L A M) {r : (Mem)} (e : f_Clock_move v1 v2 v4 M = some r) : (fun r : Mem => Fx C L A r) r := by
  unfold f_Clock_move at e
  obtain ⟨g_v2, e⟩ := io_n e
  obtain ⟨g_v4, e⟩ := io_n e
  obtain ⟨_, e⟩ := io_n e
  obtain ⟨x1, e_x1, e⟩ := bo e
  obtain ⟨_, e⟩ := io_n e
  obtain ⟨_, e⟩ := io_n e
  obtain ⟨x2, e_x2, e⟩ := bo e
  rcases io e with ⟨_, e⟩ | ⟨_, e⟩
  · exact (wj_Clock_move_71 v1 v2 M (sb_t (by decide +kernel) hC) h_v2_2 p0 e)
  obtain ⟨_, e⟩ := io_n e
  rcases io e with ⟨_, e⟩ | ⟨_, e⟩
  · exact (wj_Clock_move_71 v1 v2 M (sb_t (by decide +kernel) hC) h_v2_2 p0 e)
  obtain ⟨_, e⟩ := io_n e
  obtain ⟨M5, e_M5, e⟩ := mo e
  have p_M5 : Fx C L A M5 := wi p0 e_M5 h_v2_0
  obtain ⟨M6, e_M6, e⟩ := mo e
  have p_M6 : Fx C L A M6 := wi1 p_M5 e_M6 (tb1 hC (by decide +kernel))
  exact (wj_Clock_move_71 v1 v2 M6 (sb_t (by decide +kernel) hC) h_v2_2 p_M6 e)
theorem wl_Clock_greet_26 {C : Nat} {L : List Nat} {A : Mem} (v1 : Int32) (v2 : Nat) (s : Int32 × Mem) (hC : sb 9173994463960286046443283581208347763186259956673124494950355357547691504353939232280074212440502746218496 C) (h_v2_3 : Oc C L (rf v2 3)) (p0 : Fx C L A s.2) {r : ((Int32 × Mem) ⊕ ((Mem)))} (e : lb_Clock_greet_26 v1 v2 s = some r) : (Sum.elim (fun r : Int32 × Mem => Fx C L A r.2) (fun r : Mem => Fx C L A r)) r := by
  unfold lb_Clock_greet_26 at e
  rcases io e with ⟨_, e⟩ | ⟨_, e⟩
  · obtain rfl := Option.some.inj e
    exact p0
  obtain ⟨x3, e_x3, e⟩ := bo e
  rcases io e with ⟨_, e⟩ | ⟨_, e⟩
  · obtain rfl := Option.some.inj e
    exact p0
  obtain ⟨_, e⟩ := io_n e
  obtain ⟨_, e⟩ := io_n e
  rcases io e with ⟨_, e⟩ | ⟨_, e⟩
  · obtain ⟨x4, e_x4, e⟩ := bo e
    have p_x4 : Fx C L A x4 := (wf_Scene_addMeeting v2 v1 s.1 s.2 (sb_t (by decide +kernel) hC) h_v2_3 p0 e_x4)
    obtain ⟨M5, e_M5, e⟩ := mo e
    have p_M5 : Fx C L A M5 := wi1 p_x4 e_M5 (tb1 hC (by decide +kernel))
    obtain rfl := Option.some.inj e
    exact p_M5
  obtain rfl := Option.some.inj e
  exact p0
theorem wf_Clock_greet {C : Nat} {L : List Nat} {A : Mem} (v1 : Int32) (v2 : Nat) (M : Mem) (hC : sb 9173994463960286046443283581208347763186259956673124494950355357547691504353939232280074212440502746218496 C) (h_v2_3 : Oc C L (rf v2 3)) (p0 : Fx C L A M) {r : (Mem)} (e : f_Clock_greet v1 v2 M = some r) : (fun r : Mem => Fx C L A r) r := by
  unfold f_Clock_greet at e
  obtain ⟨g_v2, e⟩ := io_n e
  obtain ⟨x1, e_x1, e⟩ := bo e
  rcases io e with ⟨_, e⟩ | ⟨_, e⟩
  · obtain ⟨_, e⟩ := io_n e
    obtain ⟨x2, e_x2, e⟩ := bo e
    rcases io e with ⟨_, e⟩ | ⟨_, e⟩
    · obtain rfl := Option.some.inj e
      exact p0
    obtain ⟨x9, e_x9, e⟩ := bo e
    have p_x9 : Fx C L A x9 := (it_r (I := fun s : Int32 × Mem => Fx C L A s.2) (Q := (fun r : Mem => Fx C L A r)) (fun s_ r_ hs_ er_ => wl_Clock_greet_26 v1 v2 s_ (sb_t (by decide +kernel) hC) h_v2_3 hs_ er_) e_x9 p0)
    obtain rfl := Option.some.inj e
    exact p_x9
  obtain rfl := Option.some.inj e
  exact p0
theorem wl_Clock_pass_8 {C : Nat} {L : List Nat} {A : Mem} (v1 : Nat) (v5 : Nat) (s : Int32 × Mem) (hC : sb 2293778584082843737137140575587157996331330194855435454929451338024543350072382328188191162814376823488512 C) (h_v1_0 : Oc C L (rf v1 0)) (h_v1_2 : Oc C L (rf v1 2)) (p0 : Fx C L A s.2) {r : ((Int32 × Mem) ⊕ ((Mem)))} (e : lb_Clock_pass_8 v1 v5 s = some r) : (Sum.elim (fun r : Int32 × Mem => Fx C L A r.2) (fun r : Mem => Fx C L A r)) r := by
  unfold lb_Clock_pass_8 at e
  rcases io e with ⟨_, e⟩ | ⟨_, e⟩
  · obtain rfl := Option.some.inj e
    exact p0
  obtain ⟨x2, e_x2, e⟩ := bo e
  have p_x2 : Fx C L A x2.2 := (wf_Law_goes s.1 v1 s.2 (sb_t (by decide +kernel) hC) p0 e_x2)
  rcases io e with ⟨_, e⟩ | ⟨_, e⟩
  · obtain rfl := Option.some.inj e
    exact p_x2
  obtain ⟨x3, e_x3, e⟩ := bo e
  have p_x3 : Fx C L A x3 := (wf_Clock_move s.1 v1 v5 x2.2 (sb_t (by decide +kernel) hC) h_v1_0 h_v1_2 p_x2 e_x3)
  obtain rfl := Option.some.inj e
  exact p_x3
theorem wl_Clock_pass_54 {C : Nat} {L : List Nat} {A : Mem} (v1 : Nat) (s : Int32 × Mem) (hC : sb 9173994463960286046443283581208347763186259956673124494950355357547691504353939232280074212440502746218496 C) (h_v1_3 : Oc C L (rf v1 3)) (p0 : Fx C L A s.2) {r : ((Int32 × Mem) ⊕ ((Mem)))} (e : lb_Clock_pass_54 v1 s = some r) : (Sum.elim (fun r : Int32 × Mem => Fx C L A r.2) (fun r : Mem => Fx C L A r)) r := by
  unfold lb_Clock_pass_54 at e
  rcases io e with ⟨_, e⟩ | ⟨_, e⟩
  · obtain rfl := Option.some.inj e
    exact p0
  obtain ⟨x8, e_x8, e⟩ := bo e
  have p_x8 : Fx C L A x8 := (wf_Clock_greet s.1 v1 s.2 (sb_t (by decide +kernel) hC) h_v1_3 p0 e_x8)
  obtain rfl := Option.some.inj e
  exact p_x8
theorem wl_Clock_pass_87 {C : Nat} {L : List Nat} {A : Mem} (v1 : Nat) (v6 : Int32) (s : Int32 × Mem) (hC : sb 0 C) (h_v1 : Oc C L (v1)) (p0 : Fx C L A s.2) {r : ((Int32 × Mem) ⊕ ((Mem)))} (e : lb_Clock_pass_87 v1 v6 s = some r) : (Sum.elim (fun r : Int32 × Mem => Fx C L A r.2) (fun r : Mem => Fx C L A r)) r := by
  unfold lb_Clock_pass_87 at e
  rcases io e with ⟨_, e⟩ | ⟨_, e⟩
  · obtain rfl := Option.some.inj e
    exact p0
  rcases io e with ⟨_, e⟩ | ⟨_, e⟩
  · obtain rfl := Option.some.inj e
    exact p0
  obtain ⟨x11, e_x11, e⟩ := bo e
  obtain ⟨M12, e_M12, e⟩ := mo e
  have p_M12 : Fx C L A M12 := wi p0 e_M12 h_v1
  obtain rfl := Option.some.inj e
  exact p_M12
theorem wf_Clock_pass {C : Nat} {L : List Nat} {A : Mem} (v1 : Nat) (v5 : Nat) (M : Mem) (hC : sb 71098737063784989085461767434649766220228279869903869167057116519632229632726926570288747756118147420127232 C) (h_v1_0 : Oc C L (rf v1 0)) (h_v1_2 : Oc C L (rf v1 2)) (h_v1_3 : Oc C L (rf v1 3)) (h_v1 : Oc C L (v1)) (p0 : Fx C L A M) {r : (Mem)} (e : f_Clock_pass v1 v5 M = some r) : (fun r : Mem => Fx C L A r) r := by
  unfold f_Clock_pass at e
  obtain ⟨g_v1, e⟩ := io_n e
  obtain ⟨g_v5, e⟩ := io_n e
  obtain ⟨M1, e_M1, e⟩ := mo e
  have p_M1 : Fx C L A M1 := wi1 p0 e_M1 (tb1 hC (by decide +kernel))
  obtain ⟨x6, e_x6, e⟩ := bo e
  have p_x6 : Fx C L A x6 := (it_r (I := fun s : Int32 × Mem => Fx C L A s.2) (Q := (fun r : Mem => Fx C L A r)) (fun s_ r_ hs_ er_ => wl_Clock_pass_8 v1 v5 s_ (sb_t (by decide +kernel) hC) h_v1_0 h_v1_2 hs_ er_) e_x6 p_M1)
  obtain ⟨M7, e_M7, e⟩ := mo e
  have p_M7 : Fx C L A M7 := wi1 p_x6 e_M7 (tb1 hC (by decide +kernel))
  obtain ⟨x10, e_x10, e⟩ := bo e
  have p_x10 : Fx C L A x10 := (it_r (I := fun s : Int32 × Mem => Fx C L A s.2) (Q := (fun r : Mem => Fx C L A r)) (fun s_ r_ hs_ er_ => wl_Clock_pass_54 v1 s_ (sb_t (by decide +kernel) hC) h_v1_3 hs_ er_) e_x10 p_M7)
  obtain ⟨x15, e_x15, e⟩ := bo e
  have p_x15 : Fx C L A x15 := (it_r (I := fun s : Int32 × Mem => Fx C L A s.2) (Q := (fun r : Mem => Fx C L A r)) (fun s_ r_ hs_ er_ => wl_Clock_pass_87 v1 (x10.1 v1 8) s_ (sb_t (by decide +kernel) hC) h_v1 hs_ er_) e_x15 p_x10)
  obtain ⟨M16, e_M16, e⟩ := mo e
  have p_M16 : Fx C L A M16 := wi1 p_x15 e_M16 (tb1 hC (by decide +kernel))
  obtain ⟨M17, e_M17, e⟩ := mo e
  have p_M17 : Fx C L A M17 := wi p_M16 e_M17 h_v1
  obtain ⟨x18, e_x18, e⟩ := bo e
  obtain ⟨M19, e_M19, e⟩ := mo e
  have p_M19 : Fx C L A M19 := wi1 p_M17 e_M19 (tb1 hC (by decide +kernel))
  obtain ⟨M20, e_M20, e⟩ := mo e
  have p_M20 : Fx C L A M20 := wi1 p_M19 e_M20 (tb1 hC (by decide +kernel))
  obtain rfl := Option.some.inj e
  exact p_M20
theorem wf_Clock_reset {C : Nat} {L : List Nat} {A : Mem} (M : Mem) (hC : sb 55043966783761716278659701487250086579117559740038746969702132145286149026123635393680445274643016477310976 C)  (p0 : Fx C L A M) {r : (Mem)} (e : f_Clock_reset M = some r) : (fun r : Mem => Fx C L A r) r := by
  unfold f_Clock_reset at e
  obtain ⟨M1, e_M1, e⟩ := mo e
  have p_M1 : Fx C L A M1 := wi1 p0 e_M1 (tb1 hC (by decide +kernel))
  obtain ⟨M2, e_M2, e⟩ := mo e
  have p_M2 : Fx C L A M2 := wi1 p_M1 e_M2 (tb1 hC (by decide +kernel))
  obtain rfl := Option.some.inj e
  exact p_M2
theorem wf_Acts_add {C : Nat} {L : List Nat} {A : Mem} (v1 : Int32) (v2 : Int32) (v3 : Int32) (M : Mem) (hC : sb 18788340662190665823115844774314696219005460391266558965658327774755355663152297339561592433614766112925286400 C)  (p0 : Fx C L A M) {r : (Mem)} (e : f_Acts_add v1 v2 v3 M = some r) : (fun r : Mem => Fx C L A r) r := by
  unfold f_Acts_add at e
  rcases io e with ⟨_, e⟩ | ⟨_, e⟩
  · obtain rfl := Option.some.inj e
    exact p0
  rcases io e with ⟨_, e⟩ | ⟨_, e⟩
  · obtain rfl := Option.some.inj e
    exact p0
  obtain ⟨_, e⟩ := io_n e
  obtain ⟨M1, e_M1, e⟩ := mo e
  have p_M1 : Fx C L A M1 := wi p0 e_M1 (oc_c hC (by decide +kernel))
  obtain ⟨_, e⟩ := io_n e
  obtain ⟨M2, e_M2, e⟩ := mo e
  have p_M2 : Fx C L A M2 := wi p_M1 e_M2 (oc_c hC (by decide +kernel))
  obtain ⟨_, e⟩ := io_n e
  obtain ⟨M3, e_M3, e⟩ := mo e
  have p_M3 : Fx C L A M3 := wi p_M2 e_M3 (oc_c hC (by decide +kernel))
  obtain ⟨M4, e_M4, e⟩ := mo e
  have p_M4 : Fx C L A M4 := wi1 p_M3 e_M4 (tb1 hC (by decide +kernel))
  obtain rfl := Option.some.inj e
  exact p_M4
theorem wf_Acts_readLetter {C : Nat} {L : List Nat} {A : Mem} (v2 : Int32) (M : Mem) (hC : sb 18788340662190665823115844774314696219005460391266558965658327774755355663152297339561592433614766112925286400 C)  (p0 : Fx C L A M) {r : (Int32 × Mem)} (e : f_Acts_readLetter v2 M = some r) : (fun r : Int32 × Mem => Fx C L A r.2) r := by
  unfold f_Acts_readLetter at e
  obtain ⟨x1, e_x1, e⟩ := bo e
  rcases io e with ⟨_, e⟩ | ⟨_, e⟩
  · obtain rfl := Option.some.inj e
    exact p0
  rcases io e with ⟨_, e⟩ | ⟨_, e⟩
  · obtain ⟨x2, e_x2, e⟩ := bo e
    have p_x2 : Fx C L A x2 := (wf_Acts_add (110 : Int32) (x1 - (97 : Int32)) (0 : Int32) M (sb_t (by decide +kernel) hC) p0 e_x2)
    obtain rfl := Option.some.inj e
    exact p_x2
  obtain rfl := Option.some.inj e
  exact p0
theorem wf_Acts_readNumber {C : Nat} {L : List Nat} {A : Mem} (v2 : Int32) (M : Mem) (hC : sb 18788340662190665823115844781903246579262214574545707039187698503827257378199717344451484659157360977008132096 C)  (p0 : Fx C L A M) {r : (Int32 × Mem)} (e : f_Acts_readNumber v2 M = some r) : (fun r : Int32 × Mem => Fx C L A r.2) r := by
  unfold f_Acts_readNumber at e
  obtain ⟨x1, e_x1, e⟩ := bo e
  have p_x1 : Fx C L A x1.2 := (wf_Signs_digits v2 (60 : Int32) (2 : Int32) M (sb_t (by decide +kernel) hC) p0 e_x1)
  rcases io e with ⟨_, e⟩ | ⟨_, e⟩
  · obtain rfl := Option.some.inj e
    exact p_x1
  obtain ⟨x2, e_x2, e⟩ := bo e
  have p_x2 : Fx C L A x2 := (wf_Acts_add (109 : Int32) (x1.2.1 1 2) (0 : Int32) x1.2 (sb_t (by decide +kernel) hC) p_x1 e_x2)
  obtain rfl := Option.some.inj e
  exact p_x2
theorem wf_Acts_readPlank {C : Nat} {L : List Nat} {A : Mem} (v2 : Int32) (M : Mem) (hC : sb 18788340662190665823115844781903246579262214574545707039187698503827257378199717344451484659157360977008132096 C)  (p0 : Fx C L A M) {r : (Int32 × Mem)} (e : f_Acts_readPlank v2 M = some r) : (fun r : Int32 × Mem => Fx C L A r.2) r := by
  unfold f_Acts_readPlank at e
  obtain ⟨x1, e_x1, e⟩ := bo e
  have p_x1 : Fx C L A x1.2 := (wf_Signs_digits v2 (60 : Int32) (2 : Int32) M (sb_t (by decide +kernel) hC) p0 e_x1)
  rcases io e with ⟨_, e⟩ | ⟨_, e⟩
  · obtain rfl := Option.some.inj e
    exact p_x1
  obtain ⟨x2, e_x2, e⟩ := bo e
  rcases io e with ⟨_, e⟩ | ⟨_, e⟩
  · obtain ⟨x3, e_x3, e⟩ := bo e
    have p_x3 : Fx C L A x3.2 := (wf_Signs_digits ((v2 + x1.1) + (1 : Int32)) (60 : Int32) (2 : Int32) x1.2 (sb_t (by decide +kernel) hC) p_x1 e_x3)
    rcases io e with ⟨_, e⟩ | ⟨_, e⟩
    · obtain rfl := Option.some.inj e
      exact p_x3
    obtain ⟨x4, e_x4, e⟩ := bo e
    have p_x4 : Fx C L A x4 := (wf_Acts_add (112 : Int32) (x1.2.1 1 2) (x3.2.1 1 2) x3.2 (sb_t (by decide +kernel) hC) p_x3 e_x4)
    obtain rfl := Option.some.inj e
    exact p_x4
  obtain rfl := Option.some.inj e
  exact p_x1
theorem wf_Acts_readAct {C : Nat} {L : List Nat} {A : Mem} (v2 : Int32) (M : Mem) (hC : sb 18788340662190665823115844781903246579262214574545707039187698503827257378199717344451484659157360977008132096 C)  (p0 : Fx C L A M) {r : (Int32 × Mem)} (e : f_Acts_readAct v2 M = some r) : (fun r : Int32 × Mem => Fx C L A r.2) r := by
  unfold f_Acts_readAct at e
  obtain ⟨x1, e_x1, e⟩ := bo e
  rcases io e with ⟨_, e⟩ | ⟨_, e⟩
  · obtain ⟨x2, e_x2, e⟩ := bo e
    have p_x2 : Fx C L A x2 := (wf_Acts_add x1 (0 : Int32) (0 : Int32) M (sb_t (by decide +kernel) hC) p0 e_x2)
    obtain rfl := Option.some.inj e
    exact p_x2
  rcases io e with ⟨_, e⟩ | ⟨_, e⟩
  · obtain ⟨x2, e_x2, e⟩ := bo e
    have p_x2 : Fx C L A x2 := (wf_Acts_add x1 (0 : Int32) (0 : Int32) M (sb_t (by decide +kernel) hC) p0 e_x2)
    obtain rfl := Option.some.inj e
    exact p_x2
  rcases io e with ⟨_, e⟩ | ⟨_, e⟩
  · obtain ⟨x5, e_x5, e⟩ := bo e
    have p_x5 : Fx C L A x5.2 := (wf_Acts_readNumber (v2 + (1 : Int32)) M (sb_t (by decide +kernel) hC) p0 e_x5)
    obtain rfl := Option.some.inj e
    exact p_x5
  rcases io e with ⟨_, e⟩ | ⟨_, e⟩
  · obtain ⟨x7, e_x7, e⟩ := bo e
    have p_x7 : Fx C L A x7.2 := (wf_Acts_readLetter (v2 + (1 : Int32)) M (sb_t (by decide +kernel) hC) p0 e_x7)
    obtain rfl := Option.some.inj e
    exact p_x7
  rcases io e with ⟨_, e⟩ | ⟨_, e⟩
  · obtain ⟨x9, e_x9, e⟩ := bo e
    have p_x9 : Fx C L A x9.2 := (wf_Acts_readPlank (v2 + (1 : Int32)) M (sb_t (by decide +kernel) hC) p0 e_x9)
    obtain rfl := Option.some.inj e
    exact p_x9
  obtain rfl := Option.some.inj e
  exact p0
theorem wl_Acts_read_18 {C : Nat} {L : List Nat} {A : Mem} (s : Int32 × Int32 × Mem) (hC : sb 18788340662190665823115844781903246579262214574545707039187698503827257378199717344451484659157360977008132096 C)  (p0 : Fx C L A s.2.2) {r : ((Int32 × Int32 × Mem) ⊕ ((Int32 × Mem) ⊕ (Int32 × Mem) ⊕ (Mem) ⊕ (Int32 × Mem)))} (e : lb_Acts_read_18 s = some r) : (Sum.elim (fun r : Int32 × Int32 × Mem => Fx C L A r.2.2) (Sum.elim (fun r : Int32 × Mem => Fx C L A r.2) (Sum.elim (fun r : Int32 × Mem => Fx C L A r.2) (Sum.elim (fun r : Mem => Fx C L A r) (fun r : Int32 × Mem => Fx C L A r.2))))) r := by
  unfold lb_Acts_read_18 at e
  rcases io e with ⟨_, e⟩ | ⟨_, e⟩
  · obtain rfl := Option.some.inj e
    exact p0
  obtain ⟨x2, e_x2, e⟩ := bo e
  have p_x2 : Fx C L A x2.2 := (wf_Acts_readAct s.1 s.2.2 (sb_t (by decide +kernel) hC) p0 e_x2)
  rcases io e with ⟨_, e⟩ | ⟨_, e⟩
  · obtain ⟨x3, e_x3, e⟩ := bo e
    rcases io e with ⟨_, e⟩ | ⟨_, e⟩
    · obtain rfl := Option.some.inj e
      exact p_x2
    rcases io e with ⟨_, e⟩ | ⟨_, e⟩
    · obtain rfl := Option.some.inj e
      exact p_x2
    obtain rfl := Option.some.inj e
    exact p_x2
  obtain rfl := Option.some.inj e
  exact p_x2
theorem wf_Acts_read {C : Nat} {L : List Nat} {A : Mem} (M : Mem) (hC : sb 18788340662190665823115844781903246579262214574545707039187698503827257378199717344451484659157360977008132096 C)  (p0 : Fx C L A M) {r : (Int32 × Mem)} (e : f_Acts_read M = some r) : (fun r : Int32 × Mem => Fx C L A r.2) r := by
  unfold f_Acts_read at e
  obtain ⟨M1, e_M1, e⟩ := mo e
  have p_M1 : Fx C L A M1 := wi1 p0 e_M1 (tb1 hC (by decide +kernel))
  rcases io e with ⟨_, e⟩ | ⟨_, e⟩
  · obtain rfl := Option.some.inj e
    exact p_M1
  obtain ⟨y_, e_y, e⟩ := bo e
  have q_y := (it_r (I := fun s : Int32 × Int32 × Mem => Fx C L A s.2.2) (Q := (Sum.elim (fun r : Int32 × Mem => Fx C L A r.2) (Sum.elim (fun r : Int32 × Mem => Fx C L A r.2) (Sum.elim (fun r : Mem => Fx C L A r) (fun r : Int32 × Mem => Fx C L A r.2))))) (fun s_ r_ hs_ er_ => wl_Acts_read_18  s_ (sb_t (by decide +kernel) hC) hs_ er_) e_y p_M1)
  rcases y_ with y9 | y10 | y11 | y13
  · have p_y9 : Fx C L A y9.2 := q_y
    replace e := el_l e
    obtain rfl := Option.some.inj e
    exact p_y9
  · have p_y10 : Fx C L A y10.2 := q_y
    replace e := el_r e
    replace e := el_l e
    obtain rfl := Option.some.inj e
    exact p_y10
  · have p_y11 : Fx C L A y11 := q_y
    replace e := el_r e
    replace e := el_r e
    replace e := el_l e
    rcases io e with ⟨_, e⟩ | ⟨_, e⟩
    · obtain rfl := Option.some.inj e
      exact p_y11
    obtain rfl := Option.some.inj e
    exact p_y11
  · have p_y13 : Fx C L A y13.2 := q_y
    replace e := el_r e
    replace e := el_r e
    replace e := el_r e
    obtain rfl := Option.some.inj e
    exact p_y13
theorem wl_Ways_begin_2 {C : Nat} {L : List Nat} {A : Mem} (v1 : Int32) (s : Int32 × Mem) (hC : sb 365375409332725729550921208179070754913983135744 C)  (p0 : Fx C L A s.2) {r : ((Int32 × Mem) ⊕ ((Mem)))} (e : lb_Ways_begin_2 v1 s = some r) : (Sum.elim (fun r : Int32 × Mem => Fx C L A r.2) (fun r : Mem => Fx C L A r)) r := by
  unfold lb_Ways_begin_2 at e
  rcases io e with ⟨_, e⟩ | ⟨_, e⟩
  · obtain rfl := Option.some.inj e
    exact p0
  obtain ⟨_, e⟩ := io_n e
  obtain ⟨M1, e_M1, e⟩ := mo e
  have p_M1 : Fx C L A M1 := wi p0 e_M1 (oc_c hC (by decide +kernel))
  obtain rfl := Option.some.inj e
  exact p_M1
theorem wf_Ways_begin {C : Nat} {L : List Nat} {A : Mem} (v1 : Int32) (M : Mem) (hC : sb 365375409332725729550921208179070754913983135744 C)  (p0 : Fx C L A M) {r : (Mem)} (e : f_Ways_begin v1 M = some r) : (fun r : Mem => Fx C L A r) r := by
  unfold f_Ways_begin at e
  obtain ⟨x3, e_x3, e⟩ := bo e
  have p_x3 : Fx C L A x3 := (it_r (I := fun s : Int32 × Mem => Fx C L A s.2) (Q := (fun r : Mem => Fx C L A r)) (fun s_ r_ hs_ er_ => wl_Ways_begin_2 v1 s_ (sb_t (by decide +kernel) hC) hs_ er_) e_x3 p0)
  obtain ⟨_, e⟩ := io_n e
  obtain ⟨M4, e_M4, e⟩ := mo e
  have p_M4 : Fx C L A M4 := wi p_x3 e_M4 (oc_c hC (by decide +kernel))
  obtain rfl := Option.some.inj e
  exact p_M4
theorem wf_Ways_lower {C : Nat} {L : List Nat} {A : Mem} (v1 : Int32) (v2 : Int32) (M : Mem) (hC : sb 365375409332725729550921208179070754913983135744 C)  (p0 : Fx C L A M) {r : (Int32 × Mem)} (e : f_Ways_lower v1 v2 M = some r) : (fun r : Int32 × Mem => Fx C L A r.2) r := by
  unfold f_Ways_lower at e
  obtain ⟨_, e⟩ := io_n e
  rcases io e with ⟨_, e⟩ | ⟨_, e⟩
  · obtain ⟨_, e⟩ := io_n e
    obtain ⟨M1, e_M1, e⟩ := mo e
    have p_M1 : Fx C L A M1 := wi p0 e_M1 (oc_c hC (by decide +kernel))
    obtain rfl := Option.some.inj e
    exact p_M1
  obtain rfl := Option.some.inj e
  exact p0
theorem wl_Ways_leave_28 {C : Nat} {L : List Nat} {A : Mem} (v1 : Nat) (v2 : Int32) (v3 : Int32) (v4 : Int32) (s : Int32 × Int32 × Mem) (hC : sb 365375409332725729550921208179070754913983135744 C)  (p0 : Fx C L A s.2.2) {r : ((Int32 × Int32 × Mem) ⊕ ((Int32 × Mem)))} (e : lb_Ways_leave_28 v1 v2 v3 v4 s = some r) : (Sum.elim (fun r : Int32 × Int32 × Mem => Fx C L A r.2.2) (fun r : Int32 × Mem => Fx C L A r.2)) r := by
  unfold lb_Ways_leave_28 at e
  rcases io e with ⟨_, e⟩ | ⟨_, e⟩
  · obtain rfl := Option.some.inj e
    exact p0
  obtain ⟨x1, e_x1, e⟩ := bo e
  rcases io e with ⟨_, e⟩ | ⟨_, e⟩
  · obtain rfl := Option.some.inj e
    exact p0
  obtain ⟨x2, e_x2, e⟩ := bo e
  have p_x2 : Fx C L A x2.2 := (wf_Ways_lower ((v2 * (36 : Int32)) + x1) ((v4 + (100 : Int32)) + v2) s.2.2 (sb_t (by decide +kernel) hC) p0 e_x2)
  obtain rfl := Option.some.inj e
  exact p_x2
theorem wf_Ways_leave {C : Nat} {L : List Nat} {A : Mem} (v1 : Nat) (v2 : Int32) (v3 : Int32) (M : Mem) (hC : sb 365375409332725729550921208179070754913983135744 C)  (p0 : Fx C L A M) {r : (Int32 × Mem)} (e : f_Ways_leave v1 v2 v3 M = some r) : (fun r : Int32 × Mem => Fx C L A r.2) r := by
  unfold f_Ways_leave at e
  obtain ⟨g_v1, e⟩ := io_n e
  obtain ⟨_, e⟩ := io_n e
  rcases io e with ⟨_, e⟩ | ⟨_, e⟩
  · obtain ⟨x5, e_x5, e⟩ := bo e
    have p_x5 : Fx C L A x5.2 := (it_r (I := fun s : Int32 × Int32 × Mem => Fx C L A s.2.2) (Q := (fun r : Int32 × Mem => Fx C L A r.2)) (fun s_ r_ hs_ er_ => wl_Ways_leave_28 v1 v2 v3 (M.1 158 ((v2 * (36 : Int32)) + v3).toNatClampNeg) s_ (sb_t (by decide +kernel) hC) hs_ er_) e_x5 p0)
    obtain ⟨x6, e_x6, e⟩ := bo e
    rcases io e with ⟨_, e⟩ | ⟨_, e⟩
    · obtain ⟨_, e⟩ := io_n e
      obtain rfl := Option.some.inj e
      exact p_x5
    obtain ⟨x7, e_x7, e⟩ := bo e
    have p_x7 : Fx C L A x7.2 := (wf_Ways_lower ((((1 : Int32) - v2) * (36 : Int32)) + v3) (M.1 158 ((v2 * (36 : Int32)) + v3).toNatClampNeg) x5.2 (sb_t (by decide +kernel) hC) p_x5 e_x7)
    obtain ⟨_, e⟩ := io_n e
    obtain rfl := Option.some.inj e
    exact p_x7
  obtain rfl := Option.some.inj e
  exact p0
theorem wl_Ways_acrossLevels_29 {C : Nat} {L : List Nat} {A : Mem} (v1 : Nat) (v3 : Int32) (v5 : Int32) (s : Int32 × Int32 × Mem) (hC : sb 365375409332725729550921208179070754913983135744 C)  (p0 : Fx C L A s.2.2) {r : ((Int32 × Int32 × Mem) ⊕ ((Int32 × Mem)))} (e : lb_Ways_acrossLevels_29 v1 v3 v5 s = some r) : (Sum.elim (fun r : Int32 × Int32 × Mem => Fx C L A r.2.2) (fun r : Int32 × Mem => Fx C L A r.2)) r := by
  unfold lb_Ways_acrossLevels_29 at e
  rcases io e with ⟨_, e⟩ | ⟨_, e⟩
  · obtain rfl := Option.some.inj e
    exact p0
  obtain ⟨x2, e_x2, e⟩ := bo e
  have p_x2 : Fx C L A x2.2 := (wf_Ways_leave v1 (0 : Int32) s.2.1 s.2.2 (sb_t (by decide +kernel) hC) p0 e_x2)
  obtain ⟨x3, e_x3, e⟩ := bo e
  have p_x3 : Fx C L A x3.2 := (wf_Ways_leave v1 (1 : Int32) s.2.1 x2.2 (sb_t (by decide +kernel) hC) p_x2 e_x3)
  obtain rfl := Option.some.inj e
  exact p_x3
theorem wl_Ways_acrossLevels_11 {C : Nat} {L : List Nat} {A : Mem} (v1 : Nat) (v3 : Int32) (s : Int32 × Int32 × Mem) (hC : sb 365375409332725729550921208179070754913983135744 C)  (p0 : Fx C L A s.2.2) {r : ((Int32 × Int32 × Mem) ⊕ ((Mem)))} (e : lb_Ways_acrossLevels_11 v1 v3 s = some r) : (Sum.elim (fun r : Int32 × Int32 × Mem => Fx C L A r.2.2) (fun r : Mem => Fx C L A r)) r := by
  unfold lb_Ways_acrossLevels_11 at e
  rcases io e with ⟨_, e⟩ | ⟨_, e⟩
  · obtain rfl := Option.some.inj e
    exact p0
  rcases io e with ⟨_, e⟩ | ⟨_, e⟩
  · obtain rfl := Option.some.inj e
    exact p0
  obtain ⟨x5, e_x5, e⟩ := bo e
  have p_x5 : Fx C L A x5.2 := (it_r (I := fun s : Int32 × Int32 × Mem => Fx C L A s.2.2) (Q := (fun r : Int32 × Mem => Fx C L A r.2)) (fun s_ r_ hs_ er_ => wl_Ways_acrossLevels_29 v1 v3 s.2.1 s_ (sb_t (by decide +kernel) hC) hs_ er_) e_x5 p0)
  obtain rfl := Option.some.inj e
  exact p_x5
theorem wf_Ways_acrossLevels {C : Nat} {L : List Nat} {A : Mem} (v1 : Nat) (v2 : Int32) (v3 : Int32) (M : Mem) (hC : sb 365375409332725729550921208179070754913983135744 C)  (p0 : Fx C L A M) {r : (Int32 × Mem)} (e : f_Ways_acrossLevels v1 v2 v3 M = some r) : (fun r : Int32 × Mem => Fx C L A r.2) r := by
  unfold f_Ways_acrossLevels at e
  obtain ⟨g_v1, e⟩ := io_n e
  obtain ⟨x1, e_x1, e⟩ := bo e
  have p_x1 : Fx C L A x1 := (wf_Ways_begin v2 M (sb_t (by decide +kernel) hC) p0 e_x1)
  obtain ⟨x8, e_x8, e⟩ := bo e
  have p_x8 : Fx C L A x8 := (it_r (I := fun s : Int32 × Int32 × Mem => Fx C L A s.2.2) (Q := (fun r : Mem => Fx C L A r)) (fun s_ r_ hs_ er_ => wl_Ways_acrossLevels_11 v1 v3 s_ (sb_t (by decide +kernel) hC) hs_ er_) e_x8 p_x1)
  obtain ⟨_, e⟩ := io_n e
  obtain rfl := Option.some.inj e
  exact p_x8
theorem wl_Ways_cross_6 {C : Nat} {L : List Nat} {A : Mem} (v2 : Nat) (v3 : Int32) (s : Int32 × Int32 × Mem) (hC : sb 365375409332725729550921208179070754913983135744 C)  (p0 : Fx C L A s.2.2) {r : ((Int32 × Int32 × Mem) ⊕ ((Int32 × Mem)))} (e : lb_Ways_cross_6 v2 v3 s = some r) : (Sum.elim (fun r : Int32 × Int32 × Mem => Fx C L A r.2.2) (fun r : Int32 × Mem => Fx C L A r.2)) r := by
  unfold lb_Ways_cross_6 at e
  rcases io e with ⟨_, e⟩ | ⟨_, e⟩
  · obtain rfl := Option.some.inj e
    exact p0
  obtain ⟨x1, e_x1, e⟩ := bo e
  obtain ⟨x2, e_x2, e⟩ := bo e
  obtain ⟨x3, e_x3, e⟩ := bo e
  rcases io e with ⟨_, e⟩ | ⟨_, e⟩
  · obtain ⟨x4, e_x4, e⟩ := bo e
    rcases io e with ⟨_, e⟩ | ⟨_, e⟩
    · obtain rfl := Option.some.inj e
      exact p0
    obtain ⟨_, e⟩ := io_n e
    obtain ⟨x5, e_x5, e⟩ := bo e
    have p_x5 : Fx C L A x5.2 := (wf_Ways_lower x3 (((s.2.2.1 158 v3.toNatClampNeg) + (100 : Int32)) + (1 : Int32)) s.2.2 (sb_t (by decide +kernel) hC) p0 e_x5)
    obtain rfl := Option.some.inj e
    exact p_x5
  obtain ⟨_, e⟩ := io_n e
  obtain ⟨x7, e_x7, e⟩ := bo e
  have p_x7 : Fx C L A x7.2 := (wf_Ways_lower x1 ((s.2.2.1 158 v3.toNatClampNeg) + (1 : Int32)) s.2.2 (sb_t (by decide +kernel) hC) p0 e_x7)
  obtain rfl := Option.some.inj e
  exact p_x7
theorem wf_Ways_cross {C : Nat} {L : List Nat} {A : Mem} (v2 : Nat) (v3 : Int32) (M : Mem) (hC : sb 365375409332725729550921208179070754913983135744 C)  (p0 : Fx C L A M) {r : (Int32 × Mem)} (e : f_Ways_cross v2 v3 M = some r) : (fun r : Int32 × Mem => Fx C L A r.2) r := by
  unfold f_Ways_cross at e
  obtain ⟨g_v2, e⟩ := io_n e
  obtain ⟨x10, e_x10, e⟩ := bo e
  have p_x10 : Fx C L A x10.2 := (it_r (I := fun s : Int32 × Int32 × Mem => Fx C L A s.2.2) (Q := (fun r : Int32 × Mem => Fx C L A r.2)) (fun s_ r_ hs_ er_ => wl_Ways_cross_6 v2 v3 s_ (sb_t (by decide +kernel) hC) hs_ er_) e_x10 p0)
  obtain ⟨_, e⟩ := io_n e
  obtain rfl := Option.some.inj e
  exact p_x10
theorem wl_Ways_bridged_29 {C : Nat} {L : List Nat} {A : Mem} (v2 : Nat) (v4 : Int32) (v6 : Int32) (s : Int32 × Int32 × Mem) (hC : sb 365375409332725729550921208179070754913983135744 C)  (p0 : Fx C L A s.2.2) {r : ((Int32 × Int32 × Mem) ⊕ ((Int32 × Mem)))} (e : lb_Ways_bridged_29 v2 v4 v6 s = some r) : (Sum.elim (fun r : Int32 × Int32 × Mem => Fx C L A r.2.2) (fun r : Int32 × Mem => Fx C L A r.2)) r := by
  unfold lb_Ways_bridged_29 at e
  rcases io e with ⟨_, e⟩ | ⟨_, e⟩
  · obtain rfl := Option.some.inj e
    exact p0
  obtain ⟨_, e⟩ := io_n e
  rcases io e with ⟨_, e⟩ | ⟨_, e⟩
  · obtain rfl := Option.some.inj e
    exact p0
  obtain ⟨x2, e_x2, e⟩ := bo e
  have p_x2 : Fx C L A x2.2 := (wf_Ways_cross v2 s.2.1 s.2.2 (sb_t (by decide +kernel) hC) p0 e_x2)
  rcases io e with ⟨_, e⟩ | ⟨_, e⟩
  · obtain rfl := Option.some.inj e
    exact p_x2
  obtain rfl := Option.some.inj e
  exact p_x2
theorem wl_Ways_bridged_11 {C : Nat} {L : List Nat} {A : Mem} (v2 : Nat) (v4 : Int32) (s : Int32 × Int32 × Mem) (hC : sb 365375409332725729550921208179070754913983135744 C)  (p0 : Fx C L A s.2.2) {r : ((Int32 × Int32 × Mem) ⊕ ((Mem)))} (e : lb_Ways_bridged_11 v2 v4 s = some r) : (Sum.elim (fun r : Int32 × Int32 × Mem => Fx C L A r.2.2) (fun r : Mem => Fx C L A r)) r := by
  unfold lb_Ways_bridged_11 at e
  rcases io e with ⟨_, e⟩ | ⟨_, e⟩
  · obtain rfl := Option.some.inj e
    exact p0
  rcases io e with ⟨_, e⟩ | ⟨_, e⟩
  · obtain rfl := Option.some.inj e
    exact p0
  obtain ⟨x6, e_x6, e⟩ := bo e
  have p_x6 : Fx C L A x6.2 := (it_r (I := fun s : Int32 × Int32 × Mem => Fx C L A s.2.2) (Q := (fun r : Int32 × Mem => Fx C L A r.2)) (fun s_ r_ hs_ er_ => wl_Ways_bridged_29 v2 v4 s.2.1 s_ (sb_t (by decide +kernel) hC) hs_ er_) e_x6 p0)
  obtain rfl := Option.some.inj e
  exact p_x6
theorem wf_Ways_bridged {C : Nat} {L : List Nat} {A : Mem} (v2 : Nat) (v3 : Int32) (v4 : Int32) (M : Mem) (hC : sb 365375409332725729550921208179070754913983135744 C)  (p0 : Fx C L A M) {r : (Int32 × Mem)} (e : f_Ways_bridged v2 v3 v4 M = some r) : (fun r : Int32 × Mem => Fx C L A r.2) r := by
  unfold f_Ways_bridged at e
  obtain ⟨g_v2, e⟩ := io_n e
  obtain ⟨x1, e_x1, e⟩ := bo e
  have p_x1 : Fx C L A x1 := (wf_Ways_begin v3 M (sb_t (by decide +kernel) hC) p0 e_x1)
  obtain ⟨x9, e_x9, e⟩ := bo e
  have p_x9 : Fx C L A x9 := (it_r (I := fun s : Int32 × Int32 × Mem => Fx C L A s.2.2) (Q := (fun r : Mem => Fx C L A r)) (fun s_ r_ hs_ er_ => wl_Ways_bridged_11 v2 v4 s_ (sb_t (by decide +kernel) hC) hs_ er_) e_x9 p_x1)
  obtain ⟨_, e⟩ := io_n e
  obtain rfl := Option.some.inj e
  exact p_x9
theorem wl_Ways_measurePairs_2 {C : Nat} {L : List Nat} {A : Mem} (v2 : Int32) (s : Int32 × Mem) (hC : sb 730750818665451459101842416358141509827966271488 C)  (p0 : Fx C L A s.2) {r : ((Int32 × Mem) ⊕ ((Mem)))} (e : lb_Ways_measurePairs_2 v2 s = some r) : (Sum.elim (fun r : Int32 × Mem => Fx C L A r.2) (fun r : Mem => Fx C L A r)) r := by
  unfold lb_Ways_measurePairs_2 at e
  rcases io e with ⟨_, e⟩ | ⟨_, e⟩
  · obtain rfl := Option.some.inj e
    exact p0
  obtain ⟨_, e⟩ := io_n e
  obtain ⟨M1, e_M1, e⟩ := mo e
  have p_M1 : Fx C L A M1 := wi p0 e_M1 (oc_c hC (by decide +kernel))
  obtain rfl := Option.some.inj e
  exact p_M1
theorem wl_Ways_measurePairs_68 {C : Nat} {L : List Nat} {A : Mem} (v4 : Int32) (s : Int32 × Int32 × Mem) (hC : sb 2192252455996354377305527249074424529483898814464 C)  (p0 : Fx C L A s.2.2) {r : ((Int32 × Int32 × Mem) ⊕ ((Int32 × Mem)))} (e : lb_Ways_measurePairs_68 v4 s = some r) : (Sum.elim (fun r : Int32 × Int32 × Mem => Fx C L A r.2.2) (fun r : Int32 × Mem => Fx C L A r.2)) r := by
  unfold lb_Ways_measurePairs_68 at e
  rcases io e with ⟨_, e⟩ | ⟨_, e⟩
  · obtain rfl := Option.some.inj e
    exact p0
  obtain ⟨_, e⟩ := io_n e
  obtain ⟨x6, e_x6, e⟩ := bo e
  rcases io e with ⟨_, e⟩ | ⟨_, e⟩
  · obtain rfl := Option.some.inj e
    exact p0
  obtain ⟨_, e⟩ := io_n e
  rcases io e with ⟨_, e⟩ | ⟨_, e⟩
  · obtain rfl := Option.some.inj e
    exact p0
  rcases io e with ⟨_, e⟩ | ⟨_, e⟩
  · obtain rfl := Option.some.inj e
    exact p0
  obtain ⟨_, e⟩ := io_n e
  obtain ⟨_, e⟩ := io_n e
  obtain ⟨_, e⟩ := io_n e
  obtain ⟨M7, e_M7, e⟩ := mo e
  have p_M7 : Fx C L A M7 := wi p0 e_M7 (oc_c hC (by decide +kernel))
  obtain ⟨_, e⟩ := io_n e
  obtain ⟨M8, e_M8, e⟩ := mo e
  have p_M8 : Fx C L A M8 := wi p_M7 e_M8 (oc_c hC (by decide +kernel))
  obtain rfl := Option.some.inj e
  exact p_M8
theorem wl_Ways_measurePairs_51 {C : Nat} {L : List Nat} {A : Mem} (s : Int32 × Int32 × Mem) (hC : sb 2192252455996354377305527249074424529483898814464 C)  (p0 : Fx C L A s.2.2) {r : ((Int32 × Int32 × Mem) ⊕ ((Mem)))} (e : lb_Ways_measurePairs_51 s = some r) : (Sum.elim (fun r : Int32 × Int32 × Mem => Fx C L A r.2.2) (fun r : Mem => Fx C L A r)) r := by
  unfold lb_Ways_measurePairs_51 at e
  rcases io e with ⟨_, e⟩ | ⟨_, e⟩
  · obtain rfl := Option.some.inj e
    exact p0
  rcases io e with ⟨_, e⟩ | ⟨_, e⟩
  · obtain rfl := Option.some.inj e
    exact p0
  obtain ⟨x13, e_x13, e⟩ := bo e
  have p_x13 : Fx C L A x13.2 := (it_r (I := fun s : Int32 × Int32 × Mem => Fx C L A s.2.2) (Q := (fun r : Int32 × Mem => Fx C L A r.2)) (fun s_ r_ hs_ er_ => wl_Ways_measurePairs_68 s.2.1 s_ (sb_t (by decide +kernel) hC) hs_ er_) e_x13 p0)
  obtain rfl := Option.some.inj e
  exact p_x13
theorem wf_Ways_measurePairs {C : Nat} {L : List Nat} {A : Mem} (v2 : Int32) (M : Mem) (hC : sb 2192252455996354377305527249074424529483898814464 C)  (p0 : Fx C L A M) {r : (Mem)} (e : f_Ways_measurePairs v2 M = some r) : (fun r : Mem => Fx C L A r) r := by
  unfold f_Ways_measurePairs at e
  obtain ⟨x3, e_x3, e⟩ := bo e
  have p_x3 : Fx C L A x3 := (it_r (I := fun s : Int32 × Mem => Fx C L A s.2) (Q := (fun r : Mem => Fx C L A r)) (fun s_ r_ hs_ er_ => wl_Ways_measurePairs_2 v2 s_ (sb_t (by decide +kernel) hC) hs_ er_) e_x3 p0)
  obtain ⟨M4, e_M4, e⟩ := mo e
  have p_M4 : Fx C L A M4 := wi p_x3 e_M4 (oc_c hC (by decide +kernel))
  obtain ⟨_, e⟩ := io_n e
  obtain ⟨M5, e_M5, e⟩ := mo e
  have p_M5 : Fx C L A M5 := wi p_M4 e_M5 (oc_c hC (by decide +kernel))
  obtain ⟨x16, e_x16, e⟩ := bo e
  have p_x16 : Fx C L A x16 := (it_r (I := fun s : Int32 × Int32 × Mem => Fx C L A s.2.2) (Q := (fun r : Mem => Fx C L A r)) (fun s_ r_ hs_ er_ => wl_Ways_measurePairs_51  s_ (sb_t (by decide +kernel) hC) hs_ er_) e_x16 p_M5)
  obtain rfl := Option.some.inj e
  exact p_x16
theorem wj_Thief_start_12 {C : Nat} {L : List Nat} {A : Mem} (v1 : Int32) (v2 : Int32) (w0 : Int64) (M : Mem) (hC : sb 28858891257124862704305937573347373392392387160985434571251191458187784500608308553281933292152037822856416985088 C)  (p0 : Fx C L A M) {r : (Mem)} (e : j_Thief_start_12 v1 v2 w0 M = some r) : (fun r : Mem => Fx C L A r) r := by
  unfold j_Thief_start_12 at e
  obtain ⟨M1, e_M1, e⟩ := mo e
  have p_M1 : Fx C L A M1 := wlg1 p0 e_M1 (tb1 hC (by decide +kernel))
  rcases io e with ⟨_, e⟩ | ⟨_, e⟩
  · obtain ⟨M3, e_M3, e⟩ := mo e
    have p_M3 : Fx C L A M3 := wlg1 p_M1 e_M3 (tb1 hC (by decide +kernel))
    obtain rfl := Option.some.inj e
    exact p_M3
  obtain ⟨M2, e_M2, e⟩ := mo e
  have p_M2 : Fx C L A M2 := wlg1 p_M1 e_M2 (tb1 hC (by decide +kernel))
  obtain rfl := Option.some.inj e
  exact p_M2
theorem wf_Thief_start {C : Nat} {L : List Nat} {A : Mem} (v1 : Int32) (v2 : Int32) (M : Mem) (hC : sb 28858891257124862704305937573347373392392387160985434571251191458187784500608308553281933292152037822856416985088 C)  (p0 : Fx C L A M) {r : (Mem)} (e : f_Thief_start v1 v2 M = some r) : (fun r : Mem => Fx C L A r) r := by
  unfold f_Thief_start at e
  rcases io e with ⟨_, e⟩ | ⟨_, e⟩
  · exact (wj_Thief_start_12 v1 v2 ((1 : Int64) <<< (v2.toInt64 &&& 63)) M (sb_t (by decide +kernel) hC) p0 e)
  exact (wj_Thief_start_12 v1 v2 (0 : Int64) M (sb_t (by decide +kernel) hC) p0 e)
theorem wf_Thief_stir {C : Nat} {L : List Nat} {A : Mem} (v1 : Nat) (M : Mem) (hC : sb 28858891257124862704305937573347373392392387160985434571251191458187784500608308553281933292152037822856416985088 C)  (p0 : Fx C L A M) {r : (Mem)} (e : f_Thief_stir v1 M = some r) : (fun r : Mem => Fx C L A r) r := by
  unfold f_Thief_stir at e
  obtain ⟨g_v1, e⟩ := io_n e
  obtain ⟨x1, e_x1, e⟩ := bo e
  obtain ⟨x2, e_x2, e⟩ := bo e
  obtain ⟨x3, e_x3, e⟩ := bo e
  obtain ⟨x4, e_x4, e⟩ := bo e
  obtain ⟨M5, e_M5, e⟩ := mo e
  have p_M5 : Fx C L A M5 := wlg1 p0 e_M5 (tb1 hC (by decide +kernel))
  obtain ⟨M6, e_M6, e⟩ := mo e
  have p_M6 : Fx C L A M6 := wlg1 p_M5 e_M6 (tb1 hC (by decide +kernel))
  obtain rfl := Option.some.inj e
  exact p_M6
theorem wf_Thief_record {C : Nat} {L : List Nat} {A : Mem} (v1 : Int32) (v2 : Int64) (v4 : Int64) (M : Mem) (hC : sb 17126972312471518572699431633393941636592959488 C)  (p0 : Fx C L A M) {r : (Mem)} (e : f_Thief_record v1 v2 v4 M = some r) : (fun r : Mem => Fx C L A r) r := by
  unfold f_Thief_record at e
  rcases io e with ⟨_, e⟩ | ⟨_, e⟩
  · obtain rfl := Option.some.inj e
    exact p0
  rcases io e with ⟨_, e⟩ | ⟨_, e⟩
  · obtain rfl := Option.some.inj e
    exact p0
  obtain ⟨_, e⟩ := io_n e
  obtain ⟨M1, e_M1, e⟩ := mo e
  have p_M1 : Fx C L A M1 := wlg p0 e_M1 (oc_c hC (by decide +kernel))
  obtain ⟨_, e⟩ := io_n e
  obtain ⟨M2, e_M2, e⟩ := mo e
  have p_M2 : Fx C L A M2 := wlg p_M1 e_M2 (oc_c hC (by decide +kernel))
  obtain rfl := Option.some.inj e
  exact p_M2
theorem wf_Thief_strike {C : Nat} {L : List Nat} {A : Mem} (v1 : Int32) (M : Mem) (hC : sb 28858891257124862704305937573347373392392387160985434571251191458187784500608308553281933292152037822856416985088 C)  (p0 : Fx C L A M) {r : (Mem)} (e : f_Thief_strike v1 M = some r) : (fun r : Mem => Fx C L A r) r := by
  unfold f_Thief_strike at e
  rcases io e with ⟨_, e⟩ | ⟨_, e⟩
  · obtain rfl := Option.some.inj e
    exact p0
  rcases io e with ⟨_, e⟩ | ⟨_, e⟩
  · obtain rfl := Option.some.inj e
    exact p0
  obtain ⟨_, e⟩ := io_n e
  obtain ⟨M1, e_M1, e⟩ := mo e
  have p_M1 : Fx C L A M1 := wlg1 p0 e_M1 (tb1 hC (by decide +kernel))
  obtain ⟨_, e⟩ := io_n e
  obtain ⟨M2, e_M2, e⟩ := mo e
  have p_M2 : Fx C L A M2 := wlg1 p_M1 e_M2 (tb1 hC (by decide +kernel))
  obtain rfl := Option.some.inj e
  exact p_M2
theorem wl_Thief_roam_2 {C : Nat} {L : List Nat} {A : Mem} (v1 : Nat) (s : Int32 × Mem) (hC : sb 28858891257124862704305937573347373392392387160985434571251191458187784500608308553281933292152037822856416985088 C)  (p0 : Fx C L A s.2) {r : ((Int32 × Mem) ⊕ ((Mem) ⊕ (Mem)))} (e : lb_Thief_roam_2 v1 s = some r) : (Sum.elim (fun r : Int32 × Mem => Fx C L A r.2) (Sum.elim (fun r : Mem => Fx C L A r) (fun r : Mem => Fx C L A r))) r := by
  unfold lb_Thief_roam_2 at e
  rcases io e with ⟨_, e⟩ | ⟨_, e⟩
  · obtain rfl := Option.some.inj e
    exact p0
  obtain ⟨x1, e_x1, e⟩ := bo e
  have p_x1 : Fx C L A x1 := (wf_Thief_stir v1 s.2 (sb_t (by decide +kernel) hC) p0 e_x1)
  obtain ⟨M2, e_M2, e⟩ := mo e
  have p_M2 : Fx C L A M2 := wlg1 p_x1 e_M2 (tb1 hC (by decide +kernel))
  obtain ⟨M3, e_M3, e⟩ := mo e
  have p_M3 : Fx C L A M3 := wlg1 p_M2 e_M3 (tb1 hC (by decide +kernel))
  rcases io e with ⟨_, e⟩ | ⟨_, e⟩
  · rcases io e with ⟨_, e⟩ | ⟨_, e⟩
    · obtain rfl := Option.some.inj e
      exact p_M3
    obtain rfl := Option.some.inj e
    exact p_M3
  obtain rfl := Option.some.inj e
  exact p_M3
theorem wf_Thief_roam {C : Nat} {L : List Nat} {A : Mem} (v1 : Nat) (M : Mem) (hC : sb 28858891257124862704305937573347373392392387160985434571251191458187784500608308553281933292152037822856416985088 C)  (p0 : Fx C L A M) {r : (Mem)} (e : f_Thief_roam v1 M = some r) : (fun r : Mem => Fx C L A r) r := by
  unfold f_Thief_roam at e
  obtain ⟨g_v1, e⟩ := io_n e
  obtain ⟨y_, e_y, e⟩ := bo e
  have q_y := (it_r (I := fun s : Int32 × Mem => Fx C L A s.2) (Q := (Sum.elim (fun r : Mem => Fx C L A r) (fun r : Mem => Fx C L A r))) (fun s_ r_ hs_ er_ => wl_Thief_roam_2 v1 s_ (sb_t (by decide +kernel) hC) hs_ er_) e_y p0)
  rcases y_ with y8 | y9
  · have p_y8 : Fx C L A y8 := q_y
    replace e := el_l e
    obtain rfl := Option.some.inj e
    exact p_y8
  · have p_y9 : Fx C L A y9 := q_y
    replace e := el_r e
    obtain rfl := Option.some.inj e
    exact p_y9
theorem wf_Mod_lost {C : Nat} {L : List Nat} {A : Mem} (M : Mem) (hC : sb 13164036458569648337239753460458804039861886925068638906788872192 C)  (p0 : Fx C L A M) {r : (Int32 × Mem)} (e : f_Mod_lost M = some r) : (fun r : Int32 × Mem => Fx C L A r.2) r := by
  unfold f_Mod_lost at e
  obtain ⟨M1, e_M1, e⟩ := mo e
  have p_M1 : Fx C L A M1 := wi1 p0 e_M1 (tb1 hC (by decide +kernel))
  obtain rfl := Option.some.inj e
  exact p_M1
theorem wf_Mod_put {C : Nat} {L : List Nat} {A : Mem} (v1 : Int32) (M : Mem) (hC : sb 6582018229285198313039033441376462163248118830987351372125437952 C)  (p0 : Fx C L A M) {r : (Mem)} (e : f_Mod_put v1 M = some r) : (fun r : Mem => Fx C L A r) r := by
  unfold f_Mod_put at e
  obtain ⟨_, e⟩ := io_n e
  obtain ⟨M1, e_M1, e⟩ := mo e
  have p_M1 : Fx C L A M1 := wi p0 e_M1 (oc_c hC (by decide +kernel))
  obtain ⟨M2, e_M2, e⟩ := mo e
  have p_M2 : Fx C L A M2 := wi1 p_M1 e_M2 (tb1 hC (by decide +kernel))
  obtain rfl := Option.some.inj e
  exact p_M2
theorem wl_Mod_sign_20 {C : Nat} {L : List Nat} {A : Mem} (v1 : Int32) (s : Int32 × Mem) (hC : sb 1645504557321393114364547538130880576641323549860095822714109952 C)  (p0 : Fx C L A s.2) {r : ((Int32 × Mem) ⊕ ((Mem)))} (e : lb_Mod_sign_20 v1 s = some r) : (Sum.elim (fun r : Int32 × Mem => Fx C L A r.2) (fun r : Mem => Fx C L A r)) r := by
  unfold lb_Mod_sign_20 at e
  rcases io e with ⟨_, e⟩ | ⟨_, e⟩
  · obtain rfl := Option.some.inj e
    exact p0
  obtain ⟨M2, e_M2, e⟩ := mo e
  have p_M2 : Fx C L A M2 := wi1 p0 e_M2 (tb1 hC (by decide +kernel))
  obtain ⟨_, e⟩ := io_n e
  obtain ⟨M3, e_M3, e⟩ := mo e
  have p_M3 : Fx C L A M3 := wi p_M2 e_M3 (oc_c hC (by decide +kernel))
  obtain rfl := Option.some.inj e
  exact p_M3
theorem wf_Mod_sign {C : Nat} {L : List Nat} {A : Mem} (v1 : Int32) (M : Mem) (hC : sb 14809541015891041451604300998589684616503210474928734729502982144 C)  (p0 : Fx C L A M) {r : (Int32 × Mem)} (e : f_Mod_sign v1 M = some r) : (fun r : Int32 × Mem => Fx C L A r.2) r := by
  unfold f_Mod_sign at e
  obtain ⟨M1, e_M1, e⟩ := mo e
  have p_M1 : Fx C L A M1 := wi1 p0 e_M1 (tb1 hC (by decide +kernel))
  rcases io e with ⟨_, e⟩ | ⟨_, e⟩
  · obtain ⟨x5, e_x5, e⟩ := bo e
    have p_x5 : Fx C L A x5 := (it_r (I := fun s : Int32 × Mem => Fx C L A s.2) (Q := (fun r : Mem => Fx C L A r)) (fun s_ r_ hs_ er_ => wl_Mod_sign_20 v1 s_ (sb_t (by decide +kernel) hC) hs_ er_) e_x5 p_M1)
    obtain rfl := Option.some.inj e
    exact p_x5
  obtain rfl := Option.some.inj e
  exact p_M1
theorem wf_Mod_end {C : Nat} {L : List Nat} {A : Mem} (v1 : Int32) (M : Mem) (hC : sb 14809541015890854379394722643016154544844622790702218770137481216 C)  (p0 : Fx C L A M) {r : (Int32 × Mem)} (e : f_Mod_end v1 M = some r) : (fun r : Int32 × Mem => Fx C L A r.2) r := by
  unfold f_Mod_end at e
  obtain ⟨M1, e_M1, e⟩ := mo e
  have p_M1 : Fx C L A M1 := wi1 p0 e_M1 (tb1 hC (by decide +kernel))
  obtain ⟨x2, e_x2, e⟩ := bo e
  rcases io e with ⟨_, e⟩ | ⟨_, e⟩
  · obtain rfl := Option.some.inj e
    exact p_M1
  obtain ⟨M3, e_M3, e⟩ := mo e
  have p_M3 : Fx C L A M3 := wi1 p_M1 e_M3 (tb1 hC (by decide +kernel))
  obtain rfl := Option.some.inj e
  exact p_M3
theorem wf_Mod_begin {C : Nat} {L : List Nat} {A : Mem} (v1 : Nat) (v2 : Int32) (v3 : Int32) (M : Mem) (hC : sb 816170260431318196908864714548445850471436989354255612220910075904 C)  (p0 : Fx C L A M) {r : (Mem)} (e : f_Mod_begin v1 v2 v3 M = some r) : (fun r : Mem => Fx C L A r) r := by
  unfold f_Mod_begin at e
  obtain ⟨g_v1, e⟩ := io_n e
  obtain ⟨M1, e_M1, e⟩ := mo e
  have p_M1 : Fx C L A M1 := wq1 p0 e_M1 (tb1 hC (by decide +kernel))
  obtain ⟨M2, e_M2, e⟩ := mo e
  have p_M2 : Fx C L A M2 := wi1 p_M1 e_M2 (tb1 hC (by decide +kernel))
  obtain ⟨M3, e_M3, e⟩ := mo e
  have p_M3 : Fx C L A M3 := wi1 p_M2 e_M3 (tb1 hC (by decide +kernel))
  obtain ⟨M4, e_M4, e⟩ := mo e
  have p_M4 : Fx C L A M4 := wi1 p_M3 e_M4 (tb1 hC (by decide +kernel))
  obtain ⟨M5, e_M5, e⟩ := mo e
  have p_M5 : Fx C L A M5 := wi1 p_M4 e_M5 (tb1 hC (by decide +kernel))
  obtain rfl := Option.some.inj e
  exact p_M5
theorem wf_Mod_fault {C : Nat} {L : List Nat} {A : Mem} (v1 : Int32) (M : Mem) (hC : sb 421249166674228746791672110734681729275580381602196445017243910144 C)  (p0 : Fx C L A M) {r : (Mem)} (e : f_Mod_fault v1 M = some r) : (fun r : Mem => Fx C L A r) r := by
  unfold f_Mod_fault at e
  obtain ⟨x1, e_x1, e⟩ := bo e
  rcases io e with ⟨_, e⟩ | ⟨_, e⟩
  · obtain rfl := Option.some.inj e
    exact p0
  obtain ⟨M2, e_M2, e⟩ := mo e
  have p_M2 : Fx C L A M2 := wi1 p0 e_M2 (tb1 hC (by decide +kernel))
  obtain rfl := Option.some.inj e
  exact p_M2
theorem wf_Mod_passes {C : Nat} {L : List Nat} {A : Mem} (v1 : Int32) (M : Mem) (hC : sb 210624583337114373395836055367340864637790190801098222508621955072 C)  (p0 : Fx C L A M) {r : (Int32 × Mem)} (e : f_Mod_passes v1 M = some r) : (fun r : Int32 × Mem => Fx C L A r.2) r := by
  unfold f_Mod_passes at e
  obtain ⟨x1, e_x1, e⟩ := bo e
  rcases io e with ⟨_, e⟩ | ⟨_, e⟩
  · obtain rfl := Option.some.inj e
    exact p0
  obtain ⟨x2, e_x2, e⟩ := bo e
  rcases io e with ⟨_, e⟩ | ⟨_, e⟩
  · obtain ⟨M3, e_M3, e⟩ := mo e
    have p_M3 : Fx C L A M3 := wi1 p0 e_M3 (tb1 hC (by decide +kernel))
    obtain rfl := Option.some.inj e
    exact p_M3
  obtain rfl := Option.some.inj e
  exact p0
theorem wf_Mod_need {C : Nat} {L : List Nat} {A : Mem} (v1 : Int32) (M : Mem) (hC : sb 631873750011343120187508166102022593913370572403294667525865865216 C)  (p0 : Fx C L A M) {r : (Mem)} (e : f_Mod_need v1 M = some r) : (fun r : Mem => Fx C L A r) r := by
  unfold f_Mod_need at e
  obtain ⟨x1, e_x1, e⟩ := bo e
  have p_x1 : Fx C L A x1.2 := (wf_Mod_passes v1 M (sb_t (by decide +kernel) hC) p0 e_x1)
  rcases io e with ⟨_, e⟩ | ⟨_, e⟩
  · obtain ⟨x2, e_x2, e⟩ := bo e
    have p_x2 : Fx C L A x2 := (wf_Mod_fault (x1.2.1 162 17) x1.2 (sb_t (by decide +kernel) hC) p_x1 e_x2)
    obtain rfl := Option.some.inj e
    exact p_x2
  obtain rfl := Option.some.inj e
  exact p_x1
theorem wl_Mod_number_16 {C : Nat} {L : List Nat} {A : Mem} (v1 : Int32) (v2 : Int32) (s : Int32 × Mem) (hC : sb 210624583337114373395836055367340864637790190801098222508621955072 C)  (p0 : Fx C L A s.2) {r : ((Int32 × Mem) ⊕ ((Int32 × Mem)))} (e : lb_Mod_number_16 v1 v2 s = some r) : (Sum.elim (fun r : Int32 × Mem => Fx C L A r.2) (fun r : Int32 × Mem => Fx C L A r.2)) r := by
  unfold lb_Mod_number_16 at e
  rcases io e with ⟨_, e⟩ | ⟨_, e⟩
  · obtain rfl := Option.some.inj e
    exact p0
  obtain ⟨x2, e_x2, e⟩ := bo e
  obtain ⟨x3, e_x3, e⟩ := bo e
  rcases io e with ⟨_, e⟩ | ⟨_, e⟩
  · obtain rfl := Option.some.inj e
    exact p0
  obtain ⟨x4, e_x4, e⟩ := bo e
  obtain ⟨M5, e_M5, e⟩ := mo e
  have p_M5 : Fx C L A M5 := wi1 p0 e_M5 (tb1 hC (by decide +kernel))
  obtain rfl := Option.some.inj e
  exact p_M5
theorem wj_Mod_number_66 {C : Nat} {L : List Nat} {A : Mem} (v2 : Int32) (v3 : Int32) (M : Mem) (hC : sb 421249166674228746791672110734681729275580381602196445017243910144 C)  (p0 : Fx C L A M) {r : (Int32 × Mem)} (e : j_Mod_number_66 v2 v3 M = some r) : (fun r : Int32 × Mem => Fx C L A r.2) r := by
  unfold j_Mod_number_66 at e
  rcases io e with ⟨_, e⟩ | ⟨_, e⟩
  · obtain ⟨x9, e_x9, e⟩ := bo e
    have p_x9 : Fx C L A x9 := (wf_Mod_fault (M.1 162 17) M (sb_t (by decide +kernel) hC) p0 e_x9)
    obtain rfl := Option.some.inj e
    exact p_x9
  obtain rfl := Option.some.inj e
  exact p0
theorem wf_Mod_number {C : Nat} {L : List Nat} {A : Mem} (v1 : Int32) (M : Mem) (hC : sb 631873750011343120187508166102022593913370572403294667525865865216 C)  (p0 : Fx C L A M) {r : (Int32 × Mem)} (e : f_Mod_number v1 M = some r) : (fun r : Int32 × Mem => Fx C L A r.2) r := by
  unfold f_Mod_number at e
  obtain ⟨x1, e_x1, e⟩ := bo e
  rcases io e with ⟨_, e⟩ | ⟨_, e⟩
  · obtain rfl := Option.some.inj e
    exact p0
  obtain ⟨x8, e_x8, e⟩ := bo e
  have p_x8 : Fx C L A x8.2 := (it_r (I := fun s : Int32 × Mem => Fx C L A s.2) (Q := (fun r : Int32 × Mem => Fx C L A r.2)) (fun s_ r_ hs_ er_ => wl_Mod_number_16 v1 (M.1 162 17) s_ (sb_t (by decide +kernel) hC) hs_ er_) e_x8 p0)
  exact (wj_Mod_number_66 (M.1 162 17) x8.1 x8.2 (sb_t (by decide +kernel) hC) p_x8 e)
theorem wj_Mod_town_88_58 {C : Nat} {L : List Nat} {A : Mem} (v1 : Int32) (v2 : Int32) (v4 : Int32) (w0 : Int32) (w1 : Int32) (M : Mem) (hC : sb 631873750011343868476346479524316714200004923140200731363327868928 C)  (p0 : Fx C L A M) {r : ((Int32 × Mem) ⊕ ((Int32 × Mem)))} (e : j_Mod_town_88_58 v1 v2 v4 w0 w1 M = some r) : (Sum.elim (fun r : Int32 × Mem => Fx C L A r.2) (fun r : Int32 × Mem => Fx C L A r.2)) r := by
  unfold j_Mod_town_88_58 at e
  rcases io e with ⟨_, e⟩ | ⟨_, e⟩
  · obtain ⟨x12, e_x12, e⟩ := bo e
    have p_x12 : Fx C L A x12 := (wf_Mod_fault (M.1 162 17) M (sb_t (by decide +kernel) hC) p0 e_x12)
    obtain rfl := Option.some.inj e
    exact p_x12
  obtain ⟨x8, e_x8, e⟩ := bo e
  obtain ⟨x9, e_x9, e⟩ := bo e
  obtain ⟨_, e⟩ := io_n e
  obtain ⟨M10, e_M10, e⟩ := mo e
  have p_M10 : Fx C L A M10 := wi p0 e_M10 (oc_c hC (by decide +kernel))
  obtain ⟨M11, e_M11, e⟩ := mo e
  have p_M11 : Fx C L A M11 := wi1 p_M10 e_M11 (tb1 hC (by decide +kernel))
  obtain rfl := Option.some.inj e
  exact p_M11
theorem wl_Mod_town_58 {C : Nat} {L : List Nat} {A : Mem} (v1 : Int32) (v2 : Int32) (s : Int32 × Mem) (hC : sb 631873750011343868476346479524316714200004923140200731363327868928 C)  (p0 : Fx C L A s.2) {r : ((Int32 × Mem) ⊕ ((Int32 × Mem)))} (e : lb_Mod_town_58 v1 v2 s = some r) : (Sum.elim (fun r : Int32 × Mem => Fx C L A r.2) (fun r : Int32 × Mem => Fx C L A r.2)) r := by
  unfold lb_Mod_town_58 at e
  obtain ⟨x5, e_x5, e⟩ := bo e
  rcases io e with ⟨_, e⟩ | ⟨_, e⟩
  · obtain rfl := Option.some.inj e
    exact p0
  obtain ⟨x6, e_x6, e⟩ := bo e
  obtain ⟨x7, e_x7, e⟩ := bo e
  rcases io e with ⟨_, e⟩ | ⟨_, e⟩
  · obtain rfl := Option.some.inj e
    exact p0
  rcases io e with ⟨_, e⟩ | ⟨_, e⟩
  · exact (wj_Mod_town_88_58 v1 v2 s.1 (6 : Int32) s.1 s.2 (sb_t (by decide +kernel) hC) p0 e)
  exact (wj_Mod_town_88_58 v1 v2 s.1 v1 s.1 s.2 (sb_t (by decide +kernel) hC) p0 e)
theorem wj_Mod_town_166_30 {C : Nat} {L : List Nat} {A : Mem} (v1 : Int32) (v2 : Int32) (M : Mem) (hC : sb 210624583337114373395836055367340864637790190801098222508621955072 C)  (p0 : Fx C L A M) {r : ((Int32 × Int32 × Int32 × Mem) ⊕ ((Int32 × Int32 × Mem)))} (e : j_Mod_town_166_30 v1 v2 M = some r) : (Sum.elim (fun r : Int32 × Int32 × Int32 × Mem => Fx C L A r.2.2.2) (fun r : Int32 × Int32 × Mem => Fx C L A r.2.2)) r := by
  unfold j_Mod_town_166_30 at e
  obtain ⟨x19, e_x19, e⟩ := bo e
  have p_x19 : Fx C L A x19.2 := (wf_Mod_passes (47 : Int32) M (sb_t (by decide +kernel) hC) p0 e_x19)
  obtain rfl := Option.some.inj e
  exact p_x19
theorem wj_Mod_town_159_30 {C : Nat} {L : List Nat} {A : Mem} (v1 : Int32) (v2 : Int32) (v4 : Int32) (M : Mem) (hC : sb 210624583337114373395836055367340864637790190801098222508621955072 C)  (p0 : Fx C L A M) {r : ((Int32 × Int32 × Int32 × Mem) ⊕ ((Int32 × Int32 × Mem)))} (e : j_Mod_town_159_30 v1 v2 v4 M = some r) : (Sum.elim (fun r : Int32 × Int32 × Int32 × Mem => Fx C L A r.2.2.2) (fun r : Int32 × Int32 × Mem => Fx C L A r.2.2)) r := by
  unfold j_Mod_town_159_30 at e
  rcases io e with ⟨_, e⟩ | ⟨_, e⟩
  · exact (wj_Mod_town_166_30 v4 v2 M (sb_t (by decide +kernel) hC) p0 e)
  exact (wj_Mod_town_166_30 v1 v2 M (sb_t (by decide +kernel) hC) p0 e)
theorem wj_Mod_town_151_30 {C : Nat} {L : List Nat} {A : Mem} (v1 : Int32) (v2 : Int32) (v4 : Int32) (M : Mem) (hC : sb 631873750011343120187508166102022593913370572403294667525865865216 C)  (p0 : Fx C L A M) {r : ((Int32 × Int32 × Int32 × Mem) ⊕ ((Int32 × Int32 × Mem)))} (e : j_Mod_town_151_30 v1 v2 v4 M = some r) : (Sum.elim (fun r : Int32 × Int32 × Int32 × Mem => Fx C L A r.2.2.2) (fun r : Int32 × Int32 × Mem => Fx C L A r.2.2)) r := by
  unfold j_Mod_town_151_30 at e
  obtain ⟨x18, e_x18, e⟩ := bo e
  have p_x18 : Fx C L A x18 := (wf_Mod_fault (M.1 162 17) M (sb_t (by decide +kernel) hC) p0 e_x18)
  exact (wj_Mod_town_159_30 v1 v2 v4 x18 (sb_t (by decide +kernel) hC) p_x18 e)
theorem wj_Mod_town_136_30 {C : Nat} {L : List Nat} {A : Mem} (v1 : Int32) (v2 : Int32) (v4 : Int32) (M : Mem) (hC : sb 631873750011343120187508166102022593913370572403294667525865865216 C)  (p0 : Fx C L A M) {r : ((Int32 × Int32 × Int32 × Mem) ⊕ ((Int32 × Int32 × Mem)))} (e : j_Mod_town_136_30 v1 v2 v4 M = some r) : (Sum.elim (fun r : Int32 × Int32 × Int32 × Mem => Fx C L A r.2.2.2) (fun r : Int32 × Int32 × Mem => Fx C L A r.2.2)) r := by
  unfold j_Mod_town_136_30 at e
  rcases io e with ⟨_, e⟩ | ⟨_, e⟩
  · exact (wj_Mod_town_151_30 v1 v2 v4 M (sb_t (by decide +kernel) hC) p0 e)
  rcases io e with ⟨_, e⟩ | ⟨_, e⟩
  · exact (wj_Mod_town_159_30 v1 v2 v4 M (sb_t (by decide +kernel) hC) p0 e)
  rcases io e with ⟨_, e⟩ | ⟨_, e⟩
  · exact (wj_Mod_town_159_30 v1 v2 v4 M (sb_t (by decide +kernel) hC) p0 e)
  exact (wj_Mod_town_151_30 v1 v2 v4 M (sb_t (by decide +kernel) hC) p0 e)
theorem wl_Mod_town_30 {C : Nat} {L : List Nat} {A : Mem} (s : Int32 × Int32 × Int32 × Mem) (hC : sb 631873750011343868476346479524316714200004923140200731363327868928 C)  (p0 : Fx C L A s.2.2.2) {r : ((Int32 × Int32 × Int32 × Mem) ⊕ ((Int32 × Int32 × Mem)))} (e : lb_Mod_town_30 s = some r) : (Sum.elim (fun r : Int32 × Int32 × Int32 × Mem => Fx C L A r.2.2.2) (fun r : Int32 × Int32 × Mem => Fx C L A r.2.2)) r := by
  unfold lb_Mod_town_30 at e
  rcases io e with ⟨_, e⟩ | ⟨_, e⟩
  · obtain rfl := Option.some.inj e
    exact p0
  obtain ⟨x4, e_x4, e⟩ := bo e
  rcases io e with ⟨_, e⟩ | ⟨_, e⟩
  · obtain rfl := Option.some.inj e
    exact p0
  rcases io e with ⟨_, e⟩ | ⟨_, e⟩
  · obtain ⟨x24, e_x24, e⟩ := bo e
    have p_x24 : Fx C L A x24 := (wf_Mod_fault (s.2.2.2.1 162 17) s.2.2.2 (sb_t (by decide +kernel) hC) p0 e_x24)
    obtain ⟨x25, e_x25, e⟩ := bo e
    have p_x25 : Fx C L A x25.2 := (it_r (I := fun s : Int32 × Mem => Fx C L A s.2) (Q := (fun r : Int32 × Mem => Fx C L A r.2)) (fun s_ r_ hs_ er_ => wl_Mod_town_58 s.1 s.2.1 s_ (sb_t (by decide +kernel) hC) hs_ er_) e_x25 p_x24)
    exact (wj_Mod_town_136_30 s.1 s.2.1 x25.1 x25.2 (sb_t (by decide +kernel) hC) p_x25 e)
  obtain ⟨x17, e_x17, e⟩ := bo e
  have p_x17 : Fx C L A x17.2 := (it_r (I := fun s : Int32 × Mem => Fx C L A s.2) (Q := (fun r : Int32 × Mem => Fx C L A r.2)) (fun s_ r_ hs_ er_ => wl_Mod_town_58 s.1 s.2.1 s_ (sb_t (by decide +kernel) hC) hs_ er_) e_x17 p0)
  exact (wj_Mod_town_136_30 s.1 s.2.1 x17.1 x17.2 (sb_t (by decide +kernel) hC) p_x17 e)
end
section
/-! frames -/
theorem wl_Mod_town_225 {C : Nat} {L : List Nat} {A : Mem} (v1 : Int32) (v2 : Int32) (s : Int32 × Mem) (hC : sb 23384026197294446691258957323460528314494920687616 C)  (p0 : Fx C L A s.2) {r : ((Int32 × Mem) ⊕ ((Mem)))} (e : lb_Mod_town_225 v1 v2 s = some r) : (Sum.elim (fun r : Int32 × Mem => Fx C L A r.2) (fun r : Mem => Fx C L A r)) r := by
  unfold lb_Mod_town_225 at e
  rcases io e with ⟨_, e⟩ | ⟨_, e⟩
  · obtain rfl := Option.some.inj e
    exact p0
  rcases io e with ⟨_, e⟩ | ⟨_, e⟩
  · obtain ⟨_, e⟩ := io_n e
    obtain ⟨M33, e_M33, e⟩ := mo e
    have p_M33 : Fx C L A M33 := wi p0 e_M33 (oc_c hC (by decide +kernel))
    obtain rfl := Option.some.inj e
    exact p_M33
  obtain ⟨_, e⟩ := io_n e
  obtain ⟨_, e⟩ := io_n e
  obtain ⟨M34, e_M34, e⟩ := mo e
  have p_M34 : Fx C L A M34 := wi p0 e_M34 (oc_c hC (by decide +kernel))
  obtain rfl := Option.some.inj e
  exact p_M34
theorem wl_Mod_town_282 {C : Nat} {L : List Nat} {A : Mem} (v1 : Int32) (v2 : Int32) (s : Int32 × Mem) (hC : sb 11692013098647223345629478661730264157247460343808 C)  (p0 : Fx C L A s.2) {r : ((Int32 × Mem) ⊕ ((Mem)))} (e : lb_Mod_town_282 v1 v2 s = some r) : (Sum.elim (fun r : Int32 × Mem => Fx C L A r.2) (fun r : Mem => Fx C L A r)) r := by
  unfold lb_Mod_town_282 at e
  rcases io e with ⟨_, e⟩ | ⟨_, e⟩
  · obtain rfl := Option.some.inj e
    exact p0
  obtain ⟨_, e⟩ := io_n e
  obtain ⟨M41, e_M41, e⟩ := mo e
  have p_M41 : Fx C L A M41 := wi p0 e_M41 (oc_c hC (by decide +kernel))
  obtain rfl := Option.some.inj e
  exact p_M41
theorem wl_Mod_town_311 {C : Nat} {L : List Nat} {A : Mem} (v1 : Int32) (v2 : Int32) (s : Int32 × Mem) (hC : sb 1569275433846670190958947355801916604025588861116008628224 C)  (p0 : Fx C L A s.2) {r : ((Int32 × Mem) ⊕ ((Mem)))} (e : lb_Mod_town_311 v1 v2 s = some r) : (Sum.elim (fun r : Int32 × Mem => Fx C L A r.2) (fun r : Mem => Fx C L A r)) r := by
  unfold lb_Mod_town_311 at e
  rcases io e with ⟨_, e⟩ | ⟨_, e⟩
  · obtain rfl := Option.some.inj e
    exact p0
  obtain ⟨_, e⟩ := io_n e
  obtain ⟨M45, e_M45, e⟩ := mo e
  have p_M45 : Fx C L A M45 := wi p0 e_M45 (oc_c hC (by decide +kernel))
  obtain rfl := Option.some.inj e
  exact p_M45
theorem wj_Mod_town_198 {C : Nat} {L : List Nat} {A : Mem} (v1 : Int32) (v2 : Int32) (M : Mem) (hC : sb 215680081131196379667185901443078842589169904985686996544223226888192 C)  (p0 : Fx C L A M) {r : (Int32 × Mem)} (e : j_Mod_town_198 v1 v2 M = some r) : (fun r : Int32 × Mem => Fx C L A r.2) r := by
  unfold j_Mod_town_198 at e
  obtain ⟨x30, e_x30, e⟩ := bo e
  rcases io e with ⟨_, e⟩ | ⟨_, e⟩
  · obtain rfl := Option.some.inj e
    exact p0
  obtain ⟨M31, e_M31, e⟩ := mo e
  have p_M31 : Fx C L A M31 := wi1 p0 e_M31 (tb1 hC (by decide +kernel))
  obtain ⟨M32, e_M32, e⟩ := mo e
  have p_M32 : Fx C L A M32 := wi1 p_M31 e_M32 (tb1 hC (by decide +kernel))
  obtain ⟨x37, e_x37, e⟩ := bo e
  have p_x37 : Fx C L A x37 := (it_r (I := fun s : Int32 × Mem => Fx C L A s.2) (Q := (fun r : Mem => Fx C L A r)) (fun s_ r_ hs_ er_ => wl_Mod_town_225 v1 v2 s_ (sb_t (by decide +kernel) hC) hs_ er_) e_x37 p_M32)
  obtain ⟨M38, e_M38, e⟩ := mo e
  have p_M38 : Fx C L A M38 := wi1 p_x37 e_M38 (tb1 hC (by decide +kernel))
  obtain ⟨M39, e_M39, e⟩ := mo e
  have p_M39 : Fx C L A M39 := wi1 p_M38 e_M39 (tb1 hC (by decide +kernel))
  obtain ⟨M40, e_M40, e⟩ := mo e
  have p_M40 : Fx C L A M40 := wi1 p_M39 e_M40 (tb1 hC (by decide +kernel))
  obtain ⟨x43, e_x43, e⟩ := bo e
  have p_x43 : Fx C L A x43 := (it_r (I := fun s : Int32 × Mem => Fx C L A s.2) (Q := (fun r : Mem => Fx C L A r)) (fun s_ r_ hs_ er_ => wl_Mod_town_282 v1 v2 s_ (sb_t (by decide +kernel) hC) hs_ er_) e_x43 p_M40)
  obtain ⟨M44, e_M44, e⟩ := mo e
  have p_M44 : Fx C L A M44 := wi1 p_x43 e_M44 (tb1 hC (by decide +kernel))
  obtain ⟨x47, e_x47, e⟩ := bo e
  have p_x47 : Fx C L A x47 := (it_r (I := fun s : Int32 × Mem => Fx C L A s.2) (Q := (fun r : Mem => Fx C L A r)) (fun s_ r_ hs_ er_ => wl_Mod_town_311 v1 v2 s_ (sb_t (by decide +kernel) hC) hs_ er_) e_x47 p_M44)
  obtain rfl := Option.some.inj e
  exact p_x47
theorem wj_Mod_town_179 {C : Nat} {L : List Nat} {A : Mem} (v1 : Int32) (v2 : Int32) (M : Mem) (hC : sb 216101330297870608413977573553813524318445485367289192989240470798336 C)  (p0 : Fx C L A M) {r : (Int32 × Mem)} (e : j_Mod_town_179 v1 v2 M = some r) : (fun r : Int32 × Mem => Fx C L A r.2) r := by
  unfold j_Mod_town_179 at e
  rcases io e with ⟨_, e⟩ | ⟨_, e⟩
  · exact (wj_Mod_town_198 v1 v2 M (sb_t (by decide +kernel) hC) p0 e)
  obtain ⟨x49, e_x49, e⟩ := bo e
  have p_x49 : Fx C L A x49 := (wf_Mod_fault (M.1 162 17) M (sb_t (by decide +kernel) hC) p0 e_x49)
  exact (wj_Mod_town_198 v1 v2 x49 (sb_t (by decide +kernel) hC) p_x49 e)
theorem wf_Mod_town {C : Nat} {L : List Nat} {A : Mem} (M : Mem) (hC : sb 216511060932643589466762999193692598714472820948568860439051736449024 C)  (p0 : Fx C L A M) {r : (Int32 × Mem)} (e : f_Mod_town M = some r) : (fun r : Int32 × Mem => Fx C L A r.2) r := by
  unfold f_Mod_town at e
  obtain ⟨M1, e_M1, e⟩ := mo e
  have p_M1 : Fx C L A M1 := wi1 p0 e_M1 (tb1 hC (by decide +kernel))
  obtain ⟨x2, e_x2, e⟩ := bo e
  have p_x2 : Fx C L A x2 := (wf_Mod_begin 167 (M1.1 162 10) (80 : Int32) M1 (sb_t (by decide +kernel) hC) p_M1 e_x2)
  obtain ⟨M3, e_M3, e⟩ := mo e
  have p_M3 : Fx C L A M3 := wi1 p_x2 e_M3 (tb1 hC (by decide +kernel))
  obtain ⟨x29, e_x29, e⟩ := bo e
  have p_x29 : Fx C L A x29.2.2 := (it_r (I := fun s : Int32 × Int32 × Int32 × Mem => Fx C L A s.2.2.2) (Q := (fun r : Int32 × Int32 × Mem => Fx C L A r.2.2)) (fun s_ r_ hs_ er_ => wl_Mod_town_30  s_ (sb_t (by decide +kernel) hC) hs_ er_) e_x29 p_M3)
  exact (wj_Mod_town_179 x29.1 x29.2.1 x29.2.2 (sb_t (by decide +kernel) hC) p_x29 e)
theorem wl_Mod_readRoute_2 {C : Nat} {L : List Nat} {A : Mem} (v1 : Nat) (v2 : Int32) (s : Int32 × Mem) (hC : sb 631873750011343120187508166102022593913370572403294667525865865216 C) (h_v1 : Oc C L (v1)) (p0 : Fx C L A s.2) {r : ((Int32 × Mem) ⊕ ((Int32 × Mem)))} (e : lb_Mod_readRoute_2 v1 v2 s = some r) : (Sum.elim (fun r : Int32 × Mem => Fx C L A r.2) (fun r : Int32 × Mem => Fx C L A r.2)) r := by
  unfold lb_Mod_readRoute_2 at e
  obtain ⟨x1, e_x1, e⟩ := bo e
  rcases io e with ⟨_, e⟩ | ⟨_, e⟩
  · obtain rfl := Option.some.inj e
    exact p0
  obtain ⟨x2, e_x2, e⟩ := bo e
  obtain ⟨x3, e_x3, e⟩ := bo e
  rcases io e with ⟨_, e⟩ | ⟨_, e⟩
  · obtain rfl := Option.some.inj e
    exact p0
  rcases io e with ⟨_, e⟩ | ⟨_, e⟩
  · obtain ⟨x8, e_x8, e⟩ := bo e
    have p_x8 : Fx C L A x8 := (wf_Mod_fault (s.2.1 162 17) s.2 (sb_t (by decide +kernel) hC) p0 e_x8)
    obtain rfl := Option.some.inj e
    exact p_x8
  obtain ⟨x4, e_x4, e⟩ := bo e
  obtain ⟨x5, e_x5, e⟩ := bo e
  obtain ⟨_, e⟩ := io_n e
  obtain ⟨M6, e_M6, e⟩ := mo e
  have p_M6 : Fx C L A M6 := wi p0 e_M6 h_v1
  obtain ⟨M7, e_M7, e⟩ := mo e
  have p_M7 : Fx C L A M7 := wi1 p_M6 e_M7 (tb1 hC (by decide +kernel))
  obtain rfl := Option.some.inj e
  exact p_M7
theorem wj_Mod_readRoute_65 {C : Nat} {L : List Nat} {A : Mem} (v3 : Int32) (M : Mem) (hC : sb 421249166674228746791672110734681729275580381602196445017243910144 C)  (p0 : Fx C L A M) {r : (Int32 × Mem)} (e : j_Mod_readRoute_65 v3 M = some r) : (fun r : Int32 × Mem => Fx C L A r.2) r := by
  unfold j_Mod_readRoute_65 at e
  rcases io e with ⟨_, e⟩ | ⟨_, e⟩
  · obtain ⟨x13, e_x13, e⟩ := bo e
    have p_x13 : Fx C L A x13 := (wf_Mod_fault (M.1 162 17) M (sb_t (by decide +kernel) hC) p0 e_x13)
    obtain rfl := Option.some.inj e
    exact p_x13
  obtain rfl := Option.some.inj e
  exact p0
theorem wf_Mod_readRoute {C : Nat} {L : List Nat} {A : Mem} (v1 : Nat) (v2 : Int32) (M : Mem) (hC : sb 631873750011343120187508166102022593913370572403294667525865865216 C) (h_v1 : Oc C L (v1)) (p0 : Fx C L A M) {r : (Int32 × Mem)} (e : f_Mod_readRoute v1 v2 M = some r) : (fun r : Int32 × Mem => Fx C L A r.2) r := by
  unfold f_Mod_readRoute at e
  obtain ⟨g_v1, e⟩ := io_n e
  obtain ⟨x12, e_x12, e⟩ := bo e
  have p_x12 : Fx C L A x12.2 := (it_r (I := fun s : Int32 × Mem => Fx C L A s.2) (Q := (fun r : Int32 × Mem => Fx C L A r.2)) (fun s_ r_ hs_ er_ => wl_Mod_readRoute_2 v1 v2 s_ (sb_t (by decide +kernel) hC) h_v1 hs_ er_) e_x12 p0)
  exact (wj_Mod_readRoute_65 x12.1 x12.2 (sb_t (by decide +kernel) hC) p_x12 e)
theorem wj_Mod_readOne_107 {C : Nat} {L : List Nat} {A : Mem} (v1 : Int32) (M : Mem) (hC : sb 631873750011344616765184792946610834486639273877106795200789872640 C)  (p0 : Fx C L A M) {r : (Mem)} (e : j_Mod_readOne_107 v1 M = some r) : (fun r : Mem => Fx C L A r) r := by
  unfold j_Mod_readOne_107 at e
  obtain ⟨x8, e_x8, e⟩ := bo e
  have p_x8 : Fx C L A x8 := (wf_Mod_need (58 : Int32) M (sb_t (by decide +kernel) hC) p0 e_x8)
  obtain ⟨x9, e_x9, e⟩ := bo e
  have p_x9 : Fx C L A x9.2 := (wf_Mod_readRoute 170 (v1 + (3 : Int32)) x8 (sb_t (by decide +kernel) hC) (oc_c hC (by decide +kernel)) p_x8 e_x9)
  obtain ⟨_, e⟩ := io_n e
  obtain ⟨M10, e_M10, e⟩ := mo e
  have p_M10 : Fx C L A M10 := wi p_x9 e_M10 (oc_c hC (by decide +kernel))
  obtain rfl := Option.some.inj e
  exact p_M10
theorem wj_Mod_readOne_46 {C : Nat} {L : List Nat} {A : Mem} (v1 : Int32) (M : Mem) (hC : sb 631873750011344616765184792946610834486639273877106795200789872640 C)  (p0 : Fx C L A M) {r : (Mem)} (e : j_Mod_readOne_46 v1 M = some r) : (fun r : Mem => Fx C L A r) r := by
  unfold j_Mod_readOne_46 at e
  obtain ⟨M4, e_M4, e⟩ := mo e
  have p_M4 : Fx C L A M4 := wi1 p0 e_M4 (tb1 hC (by decide +kernel))
  obtain ⟨x5, e_x5, e⟩ := bo e
  have p_x5 : Fx C L A x5.2 := (wf_Mod_number (2 : Int32) M4 (sb_t (by decide +kernel) hC) p_M4 e_x5)
  obtain ⟨_, e⟩ := io_n e
  obtain ⟨M6, e_M6, e⟩ := mo e
  have p_M6 : Fx C L A M6 := wi p_x5 e_M6 (oc_c hC (by decide +kernel))
  obtain ⟨x7, e_x7, e⟩ := bo e
  rcases io e with ⟨_, e⟩ | ⟨_, e⟩
  · exact (wj_Mod_readOne_107 v1 M6 (sb_t (by decide +kernel) hC) p_M6 e)
  obtain ⟨_, e⟩ := io_n e
  obtain ⟨_, e⟩ := io_n e
  obtain ⟨x11, e_x11, e⟩ := bo e
  rcases io e with ⟨_, e⟩ | ⟨_, e⟩
  · obtain ⟨x12, e_x12, e⟩ := bo e
    have p_x12 : Fx C L A x12 := (wf_Mod_fault ((M6.1 162 17) - (1 : Int32)) M6 (sb_t (by decide +kernel) hC) p_M6 e_x12)
    exact (wj_Mod_readOne_107 v1 x12 (sb_t (by decide +kernel) hC) p_x12 e)
  exact (wj_Mod_readOne_107 v1 M6 (sb_t (by decide +kernel) hC) p_M6 e)
theorem wj_Mod_readOne_19 {C : Nat} {L : List Nat} {A : Mem} (v1 : Int32) (w0 : Int32) (w1 : Int32) (M : Mem) (hC : sb 631873750011344616765184792946610834486639273877106795200789872640 C)  (p0 : Fx C L A M) {r : (Mem)} (e : j_Mod_readOne_19 v1 w0 w1 M = some r) : (fun r : Mem => Fx C L A r) r := by
  unfold j_Mod_readOne_19 at e
  obtain ⟨_, e⟩ := io_n e
  obtain ⟨M2, e_M2, e⟩ := mo e
  have p_M2 : Fx C L A M2 := wi p0 e_M2 (oc_c hC (by decide +kernel))
  obtain ⟨x3, e_x3, e⟩ := bo e
  rcases io e with ⟨_, e⟩ | ⟨_, e⟩
  · exact (wj_Mod_readOne_46 v1 M2 (sb_t (by decide +kernel) hC) p_M2 e)
  obtain ⟨x15, e_x15, e⟩ := bo e
  rcases io e with ⟨_, e⟩ | ⟨_, e⟩
  · exact (wj_Mod_readOne_46 v1 M2 (sb_t (by decide +kernel) hC) p_M2 e)
  obtain ⟨x16, e_x16, e⟩ := bo e
  have p_x16 : Fx C L A x16 := (wf_Mod_fault (M2.1 162 17) M2 (sb_t (by decide +kernel) hC) p_M2 e_x16)
  exact (wj_Mod_readOne_46 v1 x16 (sb_t (by decide +kernel) hC) p_x16 e)
theorem wf_Mod_readOne {C : Nat} {L : List Nat} {A : Mem} (v1 : Int32) (M : Mem) (hC : sb 631873750011344616765184792946610834486639273877106795200789872640 C)  (p0 : Fx C L A M) {r : (Mem)} (e : f_Mod_readOne v1 M = some r) : (fun r : Mem => Fx C L A r) r := by
  unfold f_Mod_readOne at e
  obtain ⟨x1, e_x1, e⟩ := bo e
  rcases io e with ⟨_, e⟩ | ⟨_, e⟩
  · exact (wj_Mod_readOne_19 v1 (1 : Int32) v1 M (sb_t (by decide +kernel) hC) p0 e)
  exact (wj_Mod_readOne_19 v1 (0 : Int32) v1 M (sb_t (by decide +kernel) hC) p0 e)
theorem wl_Mod_come_57 {C : Nat} {L : List Nat} {A : Mem} (v1 : Int32) (v2 : Int32) (s : Int32 × Mem) (hC : sb 11692013098647223345629478661730264157247460343808 C)  (p0 : Fx C L A s.2) {r : ((Int32 × Mem) ⊕ ((Mem)))} (e : lb_Mod_come_57 v1 v2 s = some r) : (Sum.elim (fun r : Int32 × Mem => Fx C L A r.2) (fun r : Mem => Fx C L A r)) r := by
  unfold lb_Mod_come_57 at e
  rcases io e with ⟨_, e⟩ | ⟨_, e⟩
  · obtain rfl := Option.some.inj e
    exact p0
  obtain ⟨_, e⟩ := io_n e
  obtain ⟨M5, e_M5, e⟩ := mo e
  have p_M5 : Fx C L A M5 := wi p0 e_M5 (oc_c hC (by decide +kernel))
  obtain ⟨_, e⟩ := io_n e
  obtain ⟨M6, e_M6, e⟩ := mo e
  have p_M6 : Fx C L A M6 := wi p_M5 e_M6 (oc_c hC (by decide +kernel))
  obtain rfl := Option.some.inj e
  exact p_M6
theorem wl_Mod_come_115 {C : Nat} {L : List Nat} {A : Mem} (v1 : Int32) (v2 : Int32) (s : Int32 × Mem) (hC : sb 46768052394588893382517914646921056628989841375232 C)  (p0 : Fx C L A s.2) {r : ((Int32 × Mem) ⊕ ((Mem)))} (e : lb_Mod_come_115 v1 v2 s = some r) : (Sum.elim (fun r : Int32 × Mem => Fx C L A r.2) (fun r : Mem => Fx C L A r)) r := by
  unfold lb_Mod_come_115 at e
  obtain ⟨_, e⟩ := io_n e
  rcases io e with ⟨_, e⟩ | ⟨_, e⟩
  · obtain rfl := Option.some.inj e
    exact p0
  obtain ⟨_, e⟩ := io_n e
  obtain ⟨_, e⟩ := io_n e
  obtain ⟨M10, e_M10, e⟩ := mo e
  have p_M10 : Fx C L A M10 := wi p0 e_M10 (oc_c hC (by decide +kernel))
  obtain rfl := Option.some.inj e
  exact p_M10
theorem wf_Mod_come {C : Nat} {L : List Nat} {A : Mem} (v1 : Int32) (M : Mem) (hC : sb 77133026124583529396296594335868988143668237135618273078935552 C)  (p0 : Fx C L A M) {r : (Mem)} (e : f_Mod_come v1 M = some r) : (fun r : Mem => Fx C L A r) r := by
  unfold f_Mod_come at e
  obtain ⟨_, e⟩ := io_n e
  obtain ⟨_, e⟩ := io_n e
  obtain ⟨x1, e_x1, e⟩ := bo e
  obtain ⟨_, e⟩ := io_n e
  obtain ⟨M2, e_M2, e⟩ := mo e
  have p_M2 : Fx C L A M2 := wi p0 e_M2 (oc_c hC (by decide +kernel))
  obtain ⟨_, e⟩ := io_n e
  obtain ⟨M3, e_M3, e⟩ := mo e
  have p_M3 : Fx C L A M3 := wi1 p_M2 e_M3 (tb1 hC (by decide +kernel))
  obtain ⟨_, e⟩ := io_n e
  obtain ⟨M4, e_M4, e⟩ := mo e
  have p_M4 : Fx C L A M4 := wi p_M3 e_M4 (oc_c hC (by decide +kernel))
  obtain ⟨x8, e_x8, e⟩ := bo e
  have p_x8 : Fx C L A x8 := (it_r (I := fun s : Int32 × Mem => Fx C L A s.2) (Q := (fun r : Mem => Fx C L A r)) (fun s_ r_ hs_ er_ => wl_Mod_come_57 v1 (M.1 162 4) s_ (sb_t (by decide +kernel) hC) hs_ er_) e_x8 p_M4)
  obtain ⟨_, e⟩ := io_n e
  obtain ⟨_, e⟩ := io_n e
  obtain ⟨M9, e_M9, e⟩ := mo e
  have p_M9 : Fx C L A M9 := wi p_x8 e_M9 (oc_c hC (by decide +kernel))
  obtain ⟨x12, e_x12, e⟩ := bo e
  have p_x12 : Fx C L A x12 := (it_r (I := fun s : Int32 × Mem => Fx C L A s.2) (Q := (fun r : Mem => Fx C L A r)) (fun s_ r_ hs_ er_ => wl_Mod_come_115 v1 (M.1 162 4) s_ (sb_t (by decide +kernel) hC) hs_ er_) e_x12 p_M9)
  obtain ⟨M13, e_M13, e⟩ := mo e
  have p_M13 : Fx C L A M13 := wi1 p_x12 e_M13 (tb1 hC (by decide +kernel))
  obtain rfl := Option.some.inj e
  exact p_M13
theorem wj_Mod_folk_78_37 {C : Nat} {L : List Nat} {A : Mem} (v1 : Int32) (M : Mem) (hC : sb 210624583337114373395836055367340864637790190801098222508621955072 C)  (p0 : Fx C L A M) {r : ((Int32 × Int32 × Mem) ⊕ ((Int32 × Mem)))} (e : j_Mod_folk_78_37 v1 M = some r) : (Sum.elim (fun r : Int32 × Int32 × Mem => Fx C L A r.2.2) (fun r : Int32 × Mem => Fx C L A r.2)) r := by
  unfold j_Mod_folk_78_37 at e
  obtain ⟨x6, e_x6, e⟩ := bo e
  have p_x6 : Fx C L A x6.2 := (wf_Mod_passes (59 : Int32) M (sb_t (by decide +kernel) hC) p0 e_x6)
  obtain rfl := Option.some.inj e
  exact p_x6
theorem wl_Mod_folk_37 {C : Nat} {L : List Nat} {A : Mem} (s : Int32 × Int32 × Mem) (hC : sb 631873750011344616765184792946610834486639273877106795200789872640 C)  (p0 : Fx C L A s.2.2) {r : ((Int32 × Int32 × Mem) ⊕ ((Int32 × Mem)))} (e : lb_Mod_folk_37 s = some r) : (Sum.elim (fun r : Int32 × Int32 × Mem => Fx C L A r.2.2) (fun r : Int32 × Mem => Fx C L A r.2)) r := by
  unfold lb_Mod_folk_37 at e
  rcases io e with ⟨_, e⟩ | ⟨_, e⟩
  · obtain rfl := Option.some.inj e
    exact p0
  obtain ⟨x4, e_x4, e⟩ := bo e
  rcases io e with ⟨_, e⟩ | ⟨_, e⟩
  · obtain rfl := Option.some.inj e
    exact p0
  rcases io e with ⟨_, e⟩ | ⟨_, e⟩
  · obtain ⟨x7, e_x7, e⟩ := bo e
    have p_x7 : Fx C L A x7 := (wf_Mod_fault (s.2.2.1 162 17) s.2.2 (sb_t (by decide +kernel) hC) p0 e_x7)
    exact (wj_Mod_folk_78_37 s.1 x7 (sb_t (by decide +kernel) hC) p_x7 e)
  obtain ⟨x5, e_x5, e⟩ := bo e
  have p_x5 : Fx C L A x5 := (wf_Mod_readOne ((12 : Int32) * s.1) s.2.2 (sb_t (by decide +kernel) hC) p0 e_x5)
  exact (wj_Mod_folk_78_37 s.1 x5 (sb_t (by decide +kernel) hC) p_x5 e)
theorem wl_Mod_folk_126 {C : Nat} {L : List Nat} {A : Mem} (v1 : Int32) (s : Int32 × Mem) (hC : sb 77133026124583529396296594335868988143668237135618273078935552 C)  (p0 : Fx C L A s.2) {r : ((Int32 × Mem) ⊕ ((Mem)))} (e : lb_Mod_folk_126 v1 s = some r) : (Sum.elim (fun r : Int32 × Mem => Fx C L A r.2) (fun r : Mem => Fx C L A r)) r := by
  unfold lb_Mod_folk_126 at e
  rcases io e with ⟨_, e⟩ | ⟨_, e⟩
  · obtain rfl := Option.some.inj e
    exact p0
  obtain ⟨x13, e_x13, e⟩ := bo e
  have p_x13 : Fx C L A x13 := (wf_Mod_come ((12 : Int32) * s.1) s.2 (sb_t (by decide +kernel) hC) p0 e_x13)
  obtain rfl := Option.some.inj e
  exact p_x13
theorem wj_Mod_folk_110 {C : Nat} {L : List Nat} {A : Mem} (v1 : Int32) (M : Mem) (hC : sb 452313064262916858604567101055704132803217135685457501840846654632871591936 C)  (p0 : Fx C L A M) {r : (Int32 × Mem)} (e : j_Mod_folk_110 v1 M = some r) : (fun r : Int32 × Mem => Fx C L A r.2) r := by
  unfold j_Mod_folk_110 at e
  obtain ⟨x12, e_x12, e⟩ := bo e
  rcases io e with ⟨_, e⟩ | ⟨_, e⟩
  · obtain rfl := Option.some.inj e
    exact p0
  obtain ⟨x15, e_x15, e⟩ := bo e
  have p_x15 : Fx C L A x15 := (it_r (I := fun s : Int32 × Mem => Fx C L A s.2) (Q := (fun r : Mem => Fx C L A r)) (fun s_ r_ hs_ er_ => wl_Mod_folk_126 v1 s_ (sb_t (by decide +kernel) hC) hs_ er_) e_x15 p0)
  obtain ⟨M16, e_M16, e⟩ := mo e
  have p_M16 : Fx C L A M16 := wi1 p_x15 e_M16 (tb1 hC (by decide +kernel))
  obtain ⟨M17, e_M17, e⟩ := mo e
  have p_M17 : Fx C L A M17 := wi1 p_M16 e_M17 (tb1 hC (by decide +kernel))
  obtain rfl := Option.some.inj e
  exact p_M17
theorem wj_Mod_folk_91 {C : Nat} {L : List Nat} {A : Mem} (v1 : Int32) (M : Mem) (hC : sb 452313064684166025278795847847376243537898864961037883443043099650115502080 C)  (p0 : Fx C L A M) {r : (Int32 × Mem)} (e : j_Mod_folk_91 v1 M = some r) : (fun r : Int32 × Mem => Fx C L A r.2) r := by
  unfold j_Mod_folk_91 at e
  rcases io e with ⟨_, e⟩ | ⟨_, e⟩
  · exact (wj_Mod_folk_110 v1 M (sb_t (by decide +kernel) hC) p0 e)
  obtain ⟨x19, e_x19, e⟩ := bo e
  have p_x19 : Fx C L A x19 := (wf_Mod_fault (M.1 162 17) M (sb_t (by decide +kernel) hC) p0 e_x19)
  exact (wj_Mod_folk_110 v1 x19 (sb_t (by decide +kernel) hC) p_x19 e)
theorem wf_Mod_folk {C : Nat} {L : List Nat} {A : Mem} (M : Mem) (hC : sb 452313065093896660051777648921640196839267381275007815459616613298843156480 C)  (p0 : Fx C L A M) {r : (Int32 × Mem)} (e : f_Mod_folk M = some r) : (fun r : Int32 × Mem => Fx C L A r.2) r := by
  unfold f_Mod_folk at e
  obtain ⟨M1, e_M1, e⟩ := mo e
  have p_M1 : Fx C L A M1 := wi1 p0 e_M1 (tb1 hC (by decide +kernel))
  obtain ⟨x2, e_x2, e⟩ := bo e
  have p_x2 : Fx C L A x2 := (wf_Mod_begin 167 (M1.1 162 10) (76 : Int32) M1 (sb_t (by decide +kernel) hC) p_M1 e_x2)
  obtain ⟨M3, e_M3, e⟩ := mo e
  have p_M3 : Fx C L A M3 := wi1 p_x2 e_M3 (tb1 hC (by decide +kernel))
  rcases io e with ⟨_, e⟩ | ⟨_, e⟩
  · obtain rfl := Option.some.inj e
    exact p_M3
  obtain ⟨x11, e_x11, e⟩ := bo e
  have p_x11 : Fx C L A x11.2 := (it_r (I := fun s : Int32 × Int32 × Mem => Fx C L A s.2.2) (Q := (fun r : Int32 × Mem => Fx C L A r.2)) (fun s_ r_ hs_ er_ => wl_Mod_folk_37  s_ (sb_t (by decide +kernel) hC) hs_ er_) e_x11 p_M3)
  exact (wj_Mod_folk_91 x11.1 x11.2 (sb_t (by decide +kernel) hC) p_x11 e)
theorem wl_Mod_route_87 {C : Nat} {L : List Nat} {A : Mem} (v1 : Int32) (v2 : Int32) (s : Int32 × Mem) (hC : sb 46768052394588893382517914646921056628989841375232 C)  (p0 : Fx C L A s.2) {r : ((Int32 × Mem) ⊕ ((Mem)))} (e : lb_Mod_route_87 v1 v2 s = some r) : (Sum.elim (fun r : Int32 × Mem => Fx C L A r.2) (fun r : Mem => Fx C L A r)) r := by
  unfold lb_Mod_route_87 at e
  rcases io e with ⟨_, e⟩ | ⟨_, e⟩
  · obtain rfl := Option.some.inj e
    exact p0
  obtain ⟨_, e⟩ := io_n e
  obtain ⟨_, e⟩ := io_n e
  obtain ⟨M8, e_M8, e⟩ := mo e
  have p_M8 : Fx C L A M8 := wi p0 e_M8 (oc_c hC (by decide +kernel))
  obtain rfl := Option.some.inj e
  exact p_M8
theorem wj_Mod_route_64 {C : Nat} {L : List Nat} {A : Mem} (v1 : Int32) (v2 : Int32) (M : Mem) (hC : sb 452313064262839725578442669522478118622784759880536436097145080576777125888 C)  (p0 : Fx C L A M) {r : (Int32 × Mem)} (e : j_Mod_route_64 v1 v2 M = some r) : (fun r : Int32 × Mem => Fx C L A r.2) r := by
  unfold j_Mod_route_64 at e
  obtain ⟨x6, e_x6, e⟩ := bo e
  rcases io e with ⟨_, e⟩ | ⟨_, e⟩
  · obtain rfl := Option.some.inj e
    exact p0
  obtain ⟨_, e⟩ := io_n e
  obtain ⟨M7, e_M7, e⟩ := mo e
  have p_M7 : Fx C L A M7 := wi p0 e_M7 (oc_c hC (by decide +kernel))
  obtain ⟨x10, e_x10, e⟩ := bo e
  have p_x10 : Fx C L A x10 := (it_r (I := fun s : Int32 × Mem => Fx C L A s.2) (Q := (fun r : Mem => Fx C L A r)) (fun s_ r_ hs_ er_ => wl_Mod_route_87 v1 v2 s_ (sb_t (by decide +kernel) hC) hs_ er_) e_x10 p_M7)
  obtain ⟨_, e⟩ := io_n e
  obtain ⟨M11, e_M11, e⟩ := mo e
  have p_M11 : Fx C L A M11 := wi p_x10 e_M11 (oc_c hC (by decide +kernel))
  obtain ⟨M12, e_M12, e⟩ := mo e
  have p_M12 : Fx C L A M12 := wi1 p_M11 e_M12 (tb1 hC (by decide +kernel))
  obtain ⟨M13, e_M13, e⟩ := mo e
  have p_M13 : Fx C L A M13 := wi1 p_M12 e_M13 (tb1 hC (by decide +kernel))
  obtain rfl := Option.some.inj e
  exact p_M13
theorem wf_Mod_route {C : Nat} {L : List Nat} {A : Mem} (v1 : Int32) (M : Mem) (hC : sb 452313065093819527025654713966090809503423246043355451189727166917672697856 C)  (p0 : Fx C L A M) {r : (Int32 × Mem)} (e : f_Mod_route v1 M = some r) : (fun r : Int32 × Mem => Fx C L A r.2) r := by
  unfold f_Mod_route at e
  obtain ⟨M1, e_M1, e⟩ := mo e
  have p_M1 : Fx C L A M1 := wi1 p0 e_M1 (tb1 hC (by decide +kernel))
  obtain ⟨x2, e_x2, e⟩ := bo e
  have p_x2 : Fx C L A x2 := (wf_Mod_begin 167 (M1.1 162 10) (80 : Int32) M1 (sb_t (by decide +kernel) hC) p_M1 e_x2)
  obtain ⟨M3, e_M3, e⟩ := mo e
  have p_M3 : Fx C L A M3 := wi1 p_x2 e_M3 (tb1 hC (by decide +kernel))
  obtain ⟨x4, e_x4, e⟩ := bo e
  rcases io e with ⟨_, e⟩ | ⟨_, e⟩
  · obtain rfl := Option.some.inj e
    exact p_M3
  obtain ⟨x5, e_x5, e⟩ := bo e
  have p_x5 : Fx C L A x5.2 := (wf_Mod_readRoute 171 (0 : Int32) M3 (sb_t (by decide +kernel) hC) (oc_c hC (by decide +kernel)) p_M3 e_x5)
  rcases io e with ⟨_, e⟩ | ⟨_, e⟩
  · exact (wj_Mod_route_64 v1 x5.1 x5.2 (sb_t (by decide +kernel) hC) p_x5 e)
  obtain ⟨x15, e_x15, e⟩ := bo e
  have p_x15 : Fx C L A x15 := (wf_Mod_fault (x5.2.1 162 17) x5.2 (sb_t (by decide +kernel) hC) p_x5 e_x15)
  exact (wj_Mod_route_64 v1 x5.1 x15 (sb_t (by decide +kernel) hC) p_x15 e)
theorem wb_Mod_held {C : Nat} {L : List Nat} {A : Mem} (rc : Nat → Int32 → Mem → Option (Int32 × Mem)) (v1 : Int32) (M : Mem) (hC : sb 631873750011343120187508166102022593913370572403294667525865865216 C)  (hrc : ∀ u0 u1 (N : Mem) (r : Int32 × Mem), Fx C L A N → rc u0 u1 N = some r → Fx C L A r.2) (p0 : Fx C L A M) {r : (Int32 × Mem)} (e : fb_Mod_held rc v1 M = some r) : (fun r : Int32 × Mem => Fx C L A r.2) r := by
  unfold fb_Mod_held at e
  obtain ⟨x1, e_x1, e⟩ := bo e
  have p_x1 : Fx C L A x1.2 := (hrc _ _ _ _ p0 e_x1)
  obtain ⟨x2, e_x2, e⟩ := bo e
  have p_x2 : Fx C L A x2.2 := (wf_Mod_passes (60 : Int32) x1.2 (sb_t (by decide +kernel) hC) p_x1 e_x2)
  rcases io e with ⟨_, e⟩ | ⟨_, e⟩
  · obtain ⟨x3, e_x3, e⟩ := bo e
    have p_x3 : Fx C L A x3.2 := (wf_Mod_passes (62 : Int32) x2.2 (sb_t (by decide +kernel) hC) p_x2 e_x3)
    rcases io e with ⟨_, e⟩ | ⟨_, e⟩
    · obtain ⟨x4, e_x4, e⟩ := bo e
      have p_x4 : Fx C L A x4.2 := (wf_Mod_passes (61 : Int32) x3.2 (sb_t (by decide +kernel) hC) p_x3 e_x4)
      rcases io e with ⟨_, e⟩ | ⟨_, e⟩
      · obtain rfl := Option.some.inj e
        exact p_x4
      obtain ⟨x5, e_x5, e⟩ := bo e
      have p_x5 : Fx C L A x5.2 := (hrc _ _ _ _ p_x4 e_x5)
      rcases io e with ⟨_, e⟩ | ⟨_, e⟩
      · obtain rfl := Option.some.inj e
        exact p_x5
      obtain rfl := Option.some.inj e
      exact p_x5
    obtain ⟨x8, e_x8, e⟩ := bo e
    have p_x8 : Fx C L A x8.2 := (hrc _ _ _ _ p_x3 e_x8)
    rcases io e with ⟨_, e⟩ | ⟨_, e⟩
    · obtain rfl := Option.some.inj e
      exact p_x8
    obtain rfl := Option.some.inj e
    exact p_x8
  obtain ⟨x11, e_x11, e⟩ := bo e
  have p_x11 : Fx C L A x11.2 := (hrc _ _ _ _ p_x2 e_x11)
  rcases io e with ⟨_, e⟩ | ⟨_, e⟩
  · obtain rfl := Option.some.inj e
    exact p_x11
  obtain rfl := Option.some.inj e
  exact p_x11
theorem wj_Mod_sum_45_6 {C : Nat} {L : List Nat} {A : Mem} (rc : Nat → Int32 → Mem → Option (Int32 × Mem)) (v1 : Int32) (v2 : Int32) (w0 : Int32) (M : Mem) (hC : sb 631873750011343120187508166102022593913370572403294667525865865216 C)  (hrc : ∀ u0 u1 (N : Mem) (r : Int32 × Mem), Fx C L A N → rc u0 u1 N = some r → Fx C L A r.2) (p0 : Fx C L A M) {r : ((Int32 × Mem) ⊕ ((Int32 × Mem)))} (e : j_Mod_sum_45_6 rc v1 v2 w0 M = some r) : (Sum.elim (fun r : Int32 × Mem => Fx C L A r.2) (fun r : Int32 × Mem => Fx C L A r.2)) r := by
  unfold j_Mod_sum_45_6 at e
  obtain ⟨M5, e_M5, e⟩ := mo e
  have p_M5 : Fx C L A M5 := wi1 p0 e_M5 (tb1 hC (by decide +kernel))
  obtain ⟨x6, e_x6, e⟩ := bo e
  have p_x6 : Fx C L A x6.2 := (hrc _ _ _ _ p_M5 e_x6)
  rcases io e with ⟨_, e⟩ | ⟨_, e⟩
  · obtain rfl := Option.some.inj e
    exact p_x6
  obtain rfl := Option.some.inj e
  exact p_x6
theorem wj_Mod_sum_31_6 {C : Nat} {L : List Nat} {A : Mem} (rc : Nat → Int32 → Mem → Option (Int32 × Mem)) (v1 : Int32) (v2 : Int32) (M : Mem) (hC : sb 631873750011343120187508166102022593913370572403294667525865865216 C)  (hrc : ∀ u0 u1 (N : Mem) (r : Int32 × Mem), Fx C L A N → rc u0 u1 N = some r → Fx C L A r.2) (p0 : Fx C L A M) {r : ((Int32 × Mem) ⊕ ((Int32 × Mem)))} (e : j_Mod_sum_31_6 rc v1 v2 M = some r) : (Sum.elim (fun r : Int32 × Mem => Fx C L A r.2) (fun r : Int32 × Mem => Fx C L A r.2)) r := by
  unfold j_Mod_sum_31_6 at e
  obtain ⟨x4, e_x4, e⟩ := bo e
  rcases io e with ⟨_, e⟩ | ⟨_, e⟩
  · exact (wj_Mod_sum_45_6 rc v1 v2 (1 : Int32) M (sb_t (by decide +kernel) hC) hrc p0 e)
  exact (wj_Mod_sum_45_6 rc v1 v2 (0 : Int32) M (sb_t (by decide +kernel) hC) hrc p0 e)
theorem wl_Mod_sum_6 {C : Nat} {L : List Nat} {A : Mem} (rc : Nat → Int32 → Mem → Option (Int32 × Mem)) (v1 : Int32) (s : Int32 × Mem) (hC : sb 631873750011343120187508166102022593913370572403294667525865865216 C)  (hrc : ∀ u0 u1 (N : Mem) (r : Int32 × Mem), Fx C L A N → rc u0 u1 N = some r → Fx C L A r.2) (p0 : Fx C L A s.2) {r : ((Int32 × Mem) ⊕ ((Int32 × Mem)))} (e : lb_Mod_sum_6 rc v1 s = some r) : (Sum.elim (fun r : Int32 × Mem => Fx C L A r.2) (fun r : Int32 × Mem => Fx C L A r.2)) r := by
  unfold lb_Mod_sum_6 at e
  obtain ⟨x2, e_x2, e⟩ := bo e
  rcases io e with ⟨_, e⟩ | ⟨_, e⟩
  · obtain rfl := Option.some.inj e
    exact p0
  obtain ⟨x3, e_x3, e⟩ := bo e
  rcases io e with ⟨_, e⟩ | ⟨_, e⟩
  · exact (wj_Mod_sum_31_6 rc v1 s.1 s.2 (sb_t (by decide +kernel) hC) hrc p0 e)
  obtain ⟨x9, e_x9, e⟩ := bo e
  rcases io e with ⟨_, e⟩ | ⟨_, e⟩
  · exact (wj_Mod_sum_31_6 rc v1 s.1 s.2 (sb_t (by decide +kernel) hC) hrc p0 e)
  obtain rfl := Option.some.inj e
  exact p0
theorem wb_Mod_sum {C : Nat} {L : List Nat} {A : Mem} (rc : Nat → Int32 → Mem → Option (Int32 × Mem)) (v1 : Int32) (M : Mem) (hC : sb 631873750011343120187508166102022593913370572403294667525865865216 C)  (hrc : ∀ u0 u1 (N : Mem) (r : Int32 × Mem), Fx C L A N → rc u0 u1 N = some r → Fx C L A r.2) (p0 : Fx C L A M) {r : (Int32 × Mem)} (e : fb_Mod_sum rc v1 M = some r) : (fun r : Int32 × Mem => Fx C L A r.2) r := by
  unfold fb_Mod_sum at e
  obtain ⟨x1, e_x1, e⟩ := bo e
  have p_x1 : Fx C L A x1.2 := (hrc _ _ _ _ p0 e_x1)
  obtain ⟨x13, e_x13, e⟩ := bo e
  have p_x13 : Fx C L A x13.2 := (it_r (I := fun s : Int32 × Mem => Fx C L A s.2) (Q := (fun r : Int32 × Mem => Fx C L A r.2)) (fun s_ r_ hs_ er_ => wl_Mod_sum_6 rc v1 s_ (sb_t (by decide +kernel) hC) hrc hs_ er_) e_x13 p_x1)
  obtain rfl := Option.some.inj e
  exact p_x13
theorem wj_Mod_product_45_6 {C : Nat} {L : List Nat} {A : Mem} (rc : Nat → Int32 → Mem → Option (Int32 × Mem)) (v1 : Int32) (v2 : Int32) (w0 : Int32) (M : Mem) (hC : sb 631873750011343120187508166102022593913370572403294667525865865216 C)  (hrc : ∀ u0 u1 (N : Mem) (r : Int32 × Mem), Fx C L A N → rc u0 u1 N = some r → Fx C L A r.2) (p0 : Fx C L A M) {r : ((Int32 × Mem) ⊕ ((Int32 × Mem)))} (e : j_Mod_product_45_6 rc v1 v2 w0 M = some r) : (Sum.elim (fun r : Int32 × Mem => Fx C L A r.2) (fun r : Int32 × Mem => Fx C L A r.2)) r := by
  unfold j_Mod_product_45_6 at e
  obtain ⟨M5, e_M5, e⟩ := mo e
  have p_M5 : Fx C L A M5 := wi1 p0 e_M5 (tb1 hC (by decide +kernel))
  obtain ⟨x6, e_x6, e⟩ := bo e
  have p_x6 : Fx C L A x6.2 := (hrc _ _ _ _ p_M5 e_x6)
  rcases io e with ⟨_, e⟩ | ⟨_, e⟩
  · rcases io e with ⟨_, e⟩ | ⟨_, e⟩
    · obtain rfl := Option.some.inj e
      exact p_x6
    obtain ⟨_, e⟩ := io_m e
    obtain rfl := Option.some.inj e
    exact p_x6
  obtain rfl := Option.some.inj e
  exact p_x6
theorem wj_Mod_product_31_6 {C : Nat} {L : List Nat} {A : Mem} (rc : Nat → Int32 → Mem → Option (Int32 × Mem)) (v1 : Int32) (v2 : Int32) (M : Mem) (hC : sb 631873750011343120187508166102022593913370572403294667525865865216 C)  (hrc : ∀ u0 u1 (N : Mem) (r : Int32 × Mem), Fx C L A N → rc u0 u1 N = some r → Fx C L A r.2) (p0 : Fx C L A M) {r : ((Int32 × Mem) ⊕ ((Int32 × Mem)))} (e : j_Mod_product_31_6 rc v1 v2 M = some r) : (Sum.elim (fun r : Int32 × Mem => Fx C L A r.2) (fun r : Int32 × Mem => Fx C L A r.2)) r := by
  unfold j_Mod_product_31_6 at e
  obtain ⟨x4, e_x4, e⟩ := bo e
  rcases io e with ⟨_, e⟩ | ⟨_, e⟩
  · exact (wj_Mod_product_45_6 rc v1 v2 (1 : Int32) M (sb_t (by decide +kernel) hC) hrc p0 e)
  exact (wj_Mod_product_45_6 rc v1 v2 (0 : Int32) M (sb_t (by decide +kernel) hC) hrc p0 e)
theorem wl_Mod_product_6 {C : Nat} {L : List Nat} {A : Mem} (rc : Nat → Int32 → Mem → Option (Int32 × Mem)) (v1 : Int32) (s : Int32 × Mem) (hC : sb 631873750011343120187508166102022593913370572403294667525865865216 C)  (hrc : ∀ u0 u1 (N : Mem) (r : Int32 × Mem), Fx C L A N → rc u0 u1 N = some r → Fx C L A r.2) (p0 : Fx C L A s.2) {r : ((Int32 × Mem) ⊕ ((Int32 × Mem)))} (e : lb_Mod_product_6 rc v1 s = some r) : (Sum.elim (fun r : Int32 × Mem => Fx C L A r.2) (fun r : Int32 × Mem => Fx C L A r.2)) r := by
  unfold lb_Mod_product_6 at e
  obtain ⟨x2, e_x2, e⟩ := bo e
  rcases io e with ⟨_, e⟩ | ⟨_, e⟩
  · obtain rfl := Option.some.inj e
    exact p0
  obtain ⟨x3, e_x3, e⟩ := bo e
  rcases io e with ⟨_, e⟩ | ⟨_, e⟩
  · exact (wj_Mod_product_31_6 rc v1 s.1 s.2 (sb_t (by decide +kernel) hC) hrc p0 e)
  obtain ⟨x10, e_x10, e⟩ := bo e
  rcases io e with ⟨_, e⟩ | ⟨_, e⟩
  · exact (wj_Mod_product_31_6 rc v1 s.1 s.2 (sb_t (by decide +kernel) hC) hrc p0 e)
  obtain rfl := Option.some.inj e
  exact p0
theorem wb_Mod_product {C : Nat} {L : List Nat} {A : Mem} (rc : Nat → Int32 → Mem → Option (Int32 × Mem)) (v1 : Int32) (M : Mem) (hC : sb 631873750011343120187508166102022593913370572403294667525865865216 C)  (hrc : ∀ u0 u1 (N : Mem) (r : Int32 × Mem), Fx C L A N → rc u0 u1 N = some r → Fx C L A r.2) (p0 : Fx C L A M) {r : (Int32 × Mem)} (e : fb_Mod_product rc v1 M = some r) : (fun r : Int32 × Mem => Fx C L A r.2) r := by
  unfold fb_Mod_product at e
  obtain ⟨x1, e_x1, e⟩ := bo e
  have p_x1 : Fx C L A x1.2 := (hrc _ _ _ _ p0 e_x1)
  obtain ⟨x14, e_x14, e⟩ := bo e
  have p_x14 : Fx C L A x14.2 := (it_r (I := fun s : Int32 × Mem => Fx C L A s.2) (Q := (fun r : Int32 × Mem => Fx C L A r.2)) (fun s_ r_ hs_ er_ => wl_Mod_product_6 rc v1 s_ (sb_t (by decide +kernel) hC) hrc hs_ er_) e_x14 p_x1)
  obtain rfl := Option.some.inj e
  exact p_x14
theorem wj_Mod_thing_142 {C : Nat} {L : List Nat} {A : Mem} (rc : Nat → Int32 → Mem → Option (Int32 × Mem)) (v2 : Int32) (M : Mem) (hC : sb 631873750011343120187508166102022593913370572403294667525865865216 C)  (hrc : ∀ u0 u1 (N : Mem) (r : Int32 × Mem), Fx C L A N → rc u0 u1 N = some r → Fx C L A r.2) (p0 : Fx C L A M) {r : (Int32 × Mem)} (e : j_Mod_thing_142 rc v2 M = some r) : (fun r : Int32 × Mem => Fx C L A r.2) r := by
  unfold j_Mod_thing_142 at e
  obtain ⟨M5, e_M5, e⟩ := mo e
  have p_M5 : Fx C L A M5 := wi1 p0 e_M5 (tb1 hC (by decide +kernel))
  rcases io e with ⟨_, e⟩ | ⟨_, e⟩
  · obtain rfl := Option.some.inj e
    exact p_M5
  obtain ⟨a6, e_a6, e⟩ := bo e
  obtain ⟨g_a6, e⟩ := io_n e
  obtain ⟨x7, e_x7, e⟩ := bo e
  obtain rfl := Option.some.inj e
  exact p_M5
theorem wj_Mod_thing_67 {C : Nat} {L : List Nat} {A : Mem} (rc : Nat → Int32 → Mem → Option (Int32 × Mem)) (v2 : Int32) (M : Mem) (hC : sb 631873750011343120187508166102022593913370572403294667525865865216 C)  (hrc : ∀ u0 u1 (N : Mem) (r : Int32 × Mem), Fx C L A N → rc u0 u1 N = some r → Fx C L A r.2) (p0 : Fx C L A M) {r : (Int32 × Mem)} (e : j_Mod_thing_67 rc v2 M = some r) : (fun r : Int32 × Mem => Fx C L A r.2) r := by
  unfold j_Mod_thing_67 at e
  obtain ⟨x4, e_x4, e⟩ := bo e
  rcases io e with ⟨_, e⟩ | ⟨_, e⟩
  · rcases io e with ⟨_, e⟩ | ⟨_, e⟩
    · exact (wj_Mod_thing_142 rc v2 M (sb_t (by decide +kernel) hC) hrc p0 e)
    rcases io e with ⟨_, e⟩ | ⟨_, e⟩
    · exact (wj_Mod_thing_142 rc v2 M (sb_t (by decide +kernel) hC) hrc p0 e)
    rcases io e with ⟨_, e⟩ | ⟨_, e⟩
    · exact (wj_Mod_thing_142 rc v2 M (sb_t (by decide +kernel) hC) hrc p0 e)
    rcases io e with ⟨_, e⟩ | ⟨_, e⟩
    · exact (wj_Mod_thing_142 rc v2 M (sb_t (by decide +kernel) hC) hrc p0 e)
    rcases io e with ⟨_, e⟩ | ⟨_, e⟩
    · exact (wj_Mod_thing_142 rc v2 M (sb_t (by decide +kernel) hC) hrc p0 e)
    rcases io e with ⟨_, e⟩ | ⟨_, e⟩
    · exact (wj_Mod_thing_142 rc v2 M (sb_t (by decide +kernel) hC) hrc p0 e)
    rcases io e with ⟨_, e⟩ | ⟨_, e⟩
    · exact (wj_Mod_thing_142 rc v2 M (sb_t (by decide +kernel) hC) hrc p0 e)
    rcases io e with ⟨_, e⟩ | ⟨_, e⟩
    · exact (wj_Mod_thing_142 rc v2 M (sb_t (by decide +kernel) hC) hrc p0 e)
    obtain ⟨x9, e_x9, e⟩ := bo e
    have p_x9 : Fx C L A x9 := (wf_Mod_fault (M.1 162 17) M (sb_t (by decide +kernel) hC) p0 e_x9)
    obtain rfl := Option.some.inj e
    exact p_x9
  obtain ⟨x18, e_x18, e⟩ := bo e
  have p_x18 : Fx C L A x18.2 := (wf_Mod_number (3 : Int32) M (sb_t (by decide +kernel) hC) p0 e_x18)
  obtain rfl := Option.some.inj e
  exact p_x18
theorem wb_Mod_thing {C : Nat} {L : List Nat} {A : Mem} (rc : Nat → Int32 → Mem → Option (Int32 × Mem)) (v1 : Int32) (M : Mem) (hC : sb 631873750011343120187508166102022593913370572403294667525865865216 C)  (hrc : ∀ u0 u1 (N : Mem) (r : Int32 × Mem), Fx C L A N → rc u0 u1 N = some r → Fx C L A r.2) (p0 : Fx C L A M) {r : (Int32 × Mem)} (e : fb_Mod_thing rc v1 M = some r) : (fun r : Int32 × Mem => Fx C L A r.2) r := by
  unfold fb_Mod_thing at e
  obtain ⟨x1, e_x1, e⟩ := bo e
  have p_x1 : Fx C L A x1.2 := (wf_Mod_passes (45 : Int32) M (sb_t (by decide +kernel) hC) p0 e_x1)
  rcases io e with ⟨_, e⟩ | ⟨_, e⟩
  · obtain ⟨x2, e_x2, e⟩ := bo e
    rcases io e with ⟨_, e⟩ | ⟨_, e⟩
    · obtain rfl := Option.some.inj e
      exact p_x1
    obtain ⟨x3, e_x3, e⟩ := bo e
    rcases io e with ⟨_, e⟩ | ⟨_, e⟩
    · rcases io e with ⟨_, e⟩ | ⟨_, e⟩
      · exact (wj_Mod_thing_67 rc x3 x1.2 (sb_t (by decide +kernel) hC) hrc p_x1 e)
      obtain ⟨M20, e_M20, e⟩ := mo e
      have p_M20 : Fx C L A M20 := wi1 p_x1 e_M20 (tb1 hC (by decide +kernel))
      obtain ⟨x21, e_x21, e⟩ := bo e
      have p_x21 : Fx C L A x21.2 := (hrc _ _ _ _ p_M20 e_x21)
      obtain ⟨x22, e_x22, e⟩ := bo e
      have p_x22 : Fx C L A x22 := (wf_Mod_need (41 : Int32) x21.2 (sb_t (by decide +kernel) hC) p_x21 e_x22)
      obtain rfl := Option.some.inj e
      exact p_x22
    exact (wj_Mod_thing_67 rc x3 x1.2 (sb_t (by decide +kernel) hC) hrc p_x1 e)
  obtain ⟨x26, e_x26, e⟩ := bo e
  have p_x26 : Fx C L A x26.2 := (hrc _ _ _ _ p_x1 e_x26)
  obtain rfl := Option.some.inj e
  exact p_x26
theorem wf_Mod_expr {C : Nat} {L : List Nat} {A : Mem} (hC : sb 631873750011343120187508166102022593913370572403294667525865865216 C) : ∀ (n w : Nat) (a0 : Int32) (N : Mem) (r : Int32 × Mem), Fx C L A N → fr_expr n w a0 N = some r → Fx C L A r.2 := by
  intro n
  induction n with
  | zero => intro w a0 N r p e; simp [fr_expr] at e
  | succ n ih =>
    intro w a0 N r p e
    simp only [fr_expr] at e
    rcases io e with ⟨_, e⟩ | ⟨_, e⟩
    · exact wb_Mod_held _ a0 N hC (fun u0 u1 N r p e => ih u0 u1 N r p e) p e
    rcases io e with ⟨_, e⟩ | ⟨_, e⟩
    · exact wb_Mod_sum _ a0 N hC (fun u0 u1 N r p e => ih u0 u1 N r p e) p e
    rcases io e with ⟨_, e⟩ | ⟨_, e⟩
    · exact wb_Mod_product _ a0 N hC (fun u0 u1 N r p e => ih u0 u1 N r p e) p e
    exact wb_Mod_thing _ a0 N hC (fun u0 u1 N r p e => ih u0 u1 N r p e) p e
theorem wf_Mod_held {C : Nat} {L : List Nat} {A : Mem} (a0 : Int32) (M : Mem) (hC : sb 631873750011343120187508166102022593913370572403294667525865865216 C) (p0 : Fx C L A M) {r : Int32 × Mem} (e : f_Mod_held a0 M = some r) : Fx C L A r.2 := wf_Mod_expr hC 100 0 a0 M r p0 e
theorem wf_Mod_sum {C : Nat} {L : List Nat} {A : Mem} (a0 : Int32) (M : Mem) (hC : sb 631873750011343120187508166102022593913370572403294667525865865216 C) (p0 : Fx C L A M) {r : Int32 × Mem} (e : f_Mod_sum a0 M = some r) : Fx C L A r.2 := wf_Mod_expr hC 100 1 a0 M r p0 e
theorem wf_Mod_product {C : Nat} {L : List Nat} {A : Mem} (a0 : Int32) (M : Mem) (hC : sb 631873750011343120187508166102022593913370572403294667525865865216 C) (p0 : Fx C L A M) {r : Int32 × Mem} (e : f_Mod_product a0 M = some r) : Fx C L A r.2 := wf_Mod_expr hC 100 2 a0 M r p0 e
theorem wf_Mod_thing {C : Nat} {L : List Nat} {A : Mem} (a0 : Int32) (M : Mem) (hC : sb 631873750011343120187508166102022593913370572403294667525865865216 C) (p0 : Fx C L A M) {r : Int32 × Mem} (e : f_Mod_thing a0 M = some r) : Fx C L A r.2 := wf_Mod_expr hC 100 3 a0 M r p0 e
theorem wl_Mod_rule_73 {C : Nat} {L : List Nat} {A : Mem} (v1 : Int32) (s : Int32 × Mem) (hC : sb 5986310706507378352962293074805895248510699696029696 C)  (p0 : Fx C L A s.2) {r : ((Int32 × Mem) ⊕ ((Mem)))} (e : lb_Mod_rule_73 v1 s = some r) : (Sum.elim (fun r : Int32 × Mem => Fx C L A r.2) (fun r : Mem => Fx C L A r)) r := by
  unfold lb_Mod_rule_73 at e
  rcases io e with ⟨_, e⟩ | ⟨_, e⟩
  · obtain rfl := Option.some.inj e
    exact p0
  obtain ⟨_, e⟩ := io_n e
  obtain ⟨_, e⟩ := io_n e
  obtain ⟨M5, e_M5, e⟩ := mo e
  have p_M5 : Fx C L A M5 := wi p0 e_M5 (oc_c hC (by decide +kernel))
  obtain rfl := Option.some.inj e
  exact p_M5
theorem wj_Mod_rule_57 {C : Nat} {L : List Nat} {A : Mem} (v1 : Int32) (M : Mem) (hC : sb 13479973333575325883644214050888168299111647017165534751251501154304 C)  (p0 : Fx C L A M) {r : (Int32 × Mem)} (e : j_Mod_rule_57 v1 M = some r) : (fun r : Int32 × Mem => Fx C L A r.2) r := by
  unfold j_Mod_rule_57 at e
  obtain ⟨x10, e_x10, e⟩ := bo e
  rcases io e with ⟨_, e⟩ | ⟨_, e⟩
  · obtain rfl := Option.some.inj e
    exact p0
  obtain ⟨x11, e_x11, e⟩ := bo e
  have p_x11 : Fx C L A x11 := (it_r (I := fun s : Int32 × Mem => Fx C L A s.2) (Q := (fun r : Mem => Fx C L A r)) (fun s_ r_ hs_ er_ => wl_Mod_rule_73 v1 s_ (sb_t (by decide +kernel) hC) hs_ er_) e_x11 p0)
  obtain ⟨M12, e_M12, e⟩ := mo e
  have p_M12 : Fx C L A M12 := wi1 p_x11 e_M12 (tb1 hC (by decide +kernel))
  obtain rfl := Option.some.inj e
  exact p_M12
theorem wf_Mod_rule {C : Nat} {L : List Nat} {A : Mem} (M : Mem) (hC : sb 41270899802173174729599488575099260977765073051851065063346158960640 C)  (p0 : Fx C L A M) {r : (Int32 × Mem)} (e : f_Mod_rule M = some r) : (fun r : Int32 × Mem => Fx C L A r.2) r := by
  unfold f_Mod_rule at e
  obtain ⟨M1, e_M1, e⟩ := mo e
  have p_M1 : Fx C L A M1 := wi1 p0 e_M1 (tb1 hC (by decide +kernel))
  obtain ⟨x2, e_x2, e⟩ := bo e
  have p_x2 : Fx C L A x2 := (wf_Mod_begin 167 (M1.1 162 10) (40 : Int32) M1 (sb_t (by decide +kernel) hC) p_M1 e_x2)
  obtain ⟨M3, e_M3, e⟩ := mo e
  have p_M3 : Fx C L A M3 := wi1 p_x2 e_M3 (tb1 hC (by decide +kernel))
  obtain ⟨M4, e_M4, e⟩ := mo e
  have p_M4 : Fx C L A M4 := wq1 p_M3 e_M4 (tb1 hC (by decide +kernel))
  rcases io e with ⟨_, e⟩ | ⟨_, e⟩
  · obtain ⟨x7, e_x7, e⟩ := bo e
    have p_x7 : Fx C L A x7 := (it_r (I := fun s : Int32 × Mem => Fx C L A s.2) (Q := (fun r : Mem => Fx C L A r)) (fun s_ r_ hs_ er_ => wl_Mod_rule_73 (M1.1 162 10) s_ (sb_t (by decide +kernel) hC) hs_ er_) e_x7 p_M4)
    obtain ⟨M8, e_M8, e⟩ := mo e
    have p_M8 : Fx C L A M8 := wi1 p_x7 e_M8 (tb1 hC (by decide +kernel))
    obtain rfl := Option.some.inj e
    exact p_M8
  obtain ⟨x9, e_x9, e⟩ := bo e
  have p_x9 : Fx C L A x9.2 := (wf_Mod_held (0 : Int32) M4 (sb_t (by decide +kernel) hC) p_M4 e_x9)
  rcases io e with ⟨_, e⟩ | ⟨_, e⟩
  · exact (wj_Mod_rule_57 (M1.1 162 10) x9.2 (sb_t (by decide +kernel) hC) p_x9 e)
  obtain ⟨x14, e_x14, e⟩ := bo e
  have p_x14 : Fx C L A x14 := (wf_Mod_fault (x9.2.1 162 17) x9.2 (sb_t (by decide +kernel) hC) p_x9 e_x14)
  exact (wj_Mod_rule_57 (M1.1 162 10) x14 (sb_t (by decide +kernel) hC) p_x14 e)
theorem wj_Mod_goes_31 {C : Nat} {L : List Nat} {A : Mem} (v1 : Nat) (v2 : Int32) (M : Mem) (hC : sb 81696010261883237580909909975607337871382870256975973055531740823552 C)  (p0 : Fx C L A M) {r : (Int32 × Mem)} (e : j_Mod_goes_31 v1 v2 M = some r) : (fun r : Int32 × Mem => Fx C L A r.2) r := by
  unfold j_Mod_goes_31 at e
  rcases io e with ⟨_, e⟩ | ⟨_, e⟩
  · obtain rfl := Option.some.inj e
    exact p0
  obtain ⟨x1, e_x1, e⟩ := bo e
  have p_x1 : Fx C L A x1 := (wf_Mod_begin 172 (M.1 162 23) (40 : Int32) M (sb_t (by decide +kernel) hC) p0 e_x1)
  obtain ⟨M2, e_M2, e⟩ := mo e
  have p_M2 : Fx C L A M2 := wq1 p_x1 e_M2 (tb1 hC (by decide +kernel))
  obtain ⟨M3, e_M3, e⟩ := mo e
  have p_M3 : Fx C L A M3 := wi1 p_M2 e_M3 (tb1 hC (by decide +kernel))
  obtain ⟨x4, e_x4, e⟩ := bo e
  have p_x4 : Fx C L A x4.2 := (wf_Mod_held (0 : Int32) M3 (sb_t (by decide +kernel) hC) p_M3 e_x4)
  rcases io e with ⟨_, e⟩ | ⟨_, e⟩
  · obtain rfl := Option.some.inj e
    exact p_x4
  obtain rfl := Option.some.inj e
  exact p_x4
theorem wf_Mod_goes {C : Nat} {L : List Nat} {A : Mem} (v1 : Nat) (v2 : Int32) (M : Mem) (hC : sb 81696010261883237580909909975607337871382870256975973055531740823552 C)  (p0 : Fx C L A M) {r : (Int32 × Mem)} (e : f_Mod_goes v1 v2 M = some r) : (fun r : Int32 × Mem => Fx C L A r.2) r := by
  unfold f_Mod_goes at e
  obtain ⟨g_v1, e⟩ := io_n e
  obtain ⟨_, e⟩ := io_n e
  rcases io e with ⟨_, e⟩ | ⟨_, e⟩
  · obtain ⟨x7, e_x7, e⟩ := bo e
    rcases io e with ⟨_, e⟩ | ⟨_, e⟩
    · exact (wj_Mod_goes_31 v1 v2 M (sb_t (by decide +kernel) hC) p0 e)
    obtain ⟨_, e⟩ := io_n e
    obtain ⟨x8, e_x8, e⟩ := bo e
    rcases io e with ⟨_, e⟩ | ⟨_, e⟩
    · obtain rfl := Option.some.inj e
      exact p0
    exact (wj_Mod_goes_31 v1 v2 M (sb_t (by decide +kernel) hC) p0 e)
  exact (wj_Mod_goes_31 v1 v2 M (sb_t (by decide +kernel) hC) p0 e)
theorem wj_Mod_cell_22 {C : Nat} {L : List Nat} {A : Mem} (M : Mem) (hC : sb 13164036458569648337239753460458804039861886925068638906788872192 C)  (p0 : Fx C L A M) {r : (Int32 × Mem)} (e : j_Mod_cell_22 M = some r) : (fun r : Int32 × Mem => Fx C L A r.2) r := by
  unfold j_Mod_cell_22 at e
  obtain ⟨x3, e_x3, e⟩ := bo e
  have p_x3 : Fx C L A x3.2 := (wf_Mod_lost M (sb_t (by decide +kernel) hC) p0 e_x3)
  obtain rfl := Option.some.inj e
  exact p_x3
theorem wf_Mod_cell {C : Nat} {L : List Nat} {A : Mem} (v1 : Int32) (v2 : Int32) (M : Mem) (hC : sb 13164036458569648337239753460458804039861886925068638906788872192 C)  (p0 : Fx C L A M) {r : (Int32 × Mem)} (e : f_Mod_cell v1 v2 M = some r) : (fun r : Int32 × Mem => Fx C L A r.2) r := by
  unfold f_Mod_cell at e
  obtain ⟨M1, e_M1, e⟩ := mo e
  have p_M1 : Fx C L A M1 := wi1 p0 e_M1 (tb1 hC (by decide +kernel))
  obtain ⟨x2, e_x2, e⟩ := bo e
  rcases io e with ⟨_, e⟩ | ⟨_, e⟩
  · exact (wj_Mod_cell_22 M1 (sb_t (by decide +kernel) hC) p_M1 e)
  obtain ⟨x4, e_x4, e⟩ := bo e
  rcases io e with ⟨_, e⟩ | ⟨_, e⟩
  · exact (wj_Mod_cell_22 M1 (sb_t (by decide +kernel) hC) p_M1 e)
  rcases io e with ⟨_, e⟩ | ⟨_, e⟩
  · obtain ⟨_, e⟩ := io_n e
    obtain rfl := Option.some.inj e
    exact p_M1
  rcases io e with ⟨_, e⟩ | ⟨_, e⟩
  · obtain ⟨x7, e_x7, e⟩ := bo e
    obtain ⟨x8, e_x8, e⟩ := bo e
    obtain rfl := Option.some.inj e
    exact p_M1
  rcases io e with ⟨_, e⟩ | ⟨_, e⟩
  · obtain ⟨x7, e_x7, e⟩ := bo e
    obtain ⟨x8, e_x8, e⟩ := bo e
    obtain rfl := Option.some.inj e
    exact p_M1
  rcases io e with ⟨_, e⟩ | ⟨_, e⟩
  · obtain ⟨x14, e_x14, e⟩ := bo e
    obtain rfl := Option.some.inj e
    exact p_M1
  obtain ⟨x5, e_x5, e⟩ := bo e
  obtain rfl := Option.some.inj e
  exact p_M1
theorem wj_Mod_person_23 {C : Nat} {L : List Nat} {A : Mem} (M : Mem) (hC : sb 13164036458569648337239753460458804039861886925068638906788872192 C)  (p0 : Fx C L A M) {r : (Int32 × Mem)} (e : j_Mod_person_23 M = some r) : (fun r : Int32 × Mem => Fx C L A r.2) r := by
  unfold j_Mod_person_23 at e
  obtain ⟨x3, e_x3, e⟩ := bo e
  have p_x3 : Fx C L A x3.2 := (wf_Mod_lost M (sb_t (by decide +kernel) hC) p0 e_x3)
  obtain rfl := Option.some.inj e
  exact p_x3
theorem wf_Mod_person {C : Nat} {L : List Nat} {A : Mem} (v1 : Int32) (v2 : Int32) (M : Mem) (hC : sb 81709174298341807229247149729067796675422732143901041694438529695744 C)  (p0 : Fx C L A M) {r : (Int32 × Mem)} (e : f_Mod_person v1 v2 M = some r) : (fun r : Int32 × Mem => Fx C L A r.2) r := by
  unfold f_Mod_person at e
  obtain ⟨M1, e_M1, e⟩ := mo e
  have p_M1 : Fx C L A M1 := wi1 p0 e_M1 (tb1 hC (by decide +kernel))
  obtain ⟨x2, e_x2, e⟩ := bo e
  rcases io e with ⟨_, e⟩ | ⟨_, e⟩
  · exact (wj_Mod_person_23 M1 (sb_t (by decide +kernel) hC) p_M1 e)
  obtain ⟨x4, e_x4, e⟩ := bo e
  rcases io e with ⟨_, e⟩ | ⟨_, e⟩
  · exact (wj_Mod_person_23 M1 (sb_t (by decide +kernel) hC) p_M1 e)
  rcases io e with ⟨_, e⟩ | ⟨_, e⟩
  · obtain rfl := Option.some.inj e
    exact p_M1
  rcases io e with ⟨_, e⟩ | ⟨_, e⟩
  · obtain ⟨_, e⟩ := io_n e
    obtain ⟨x8, e_x8, e⟩ := bo e
    obtain rfl := Option.some.inj e
    exact p_M1
  rcases io e with ⟨_, e⟩ | ⟨_, e⟩
  · obtain ⟨_, e⟩ := io_n e
    obtain ⟨x10, e_x10, e⟩ := bo e
    obtain rfl := Option.some.inj e
    exact p_M1
  rcases io e with ⟨_, e⟩ | ⟨_, e⟩
  · obtain ⟨_, e⟩ := io_n e
    obtain rfl := Option.some.inj e
    exact p_M1
  rcases io e with ⟨_, e⟩ | ⟨_, e⟩
  · obtain ⟨_, e⟩ := io_n e
    obtain rfl := Option.some.inj e
    exact p_M1
  rcases io e with ⟨_, e⟩ | ⟨_, e⟩
  · obtain rfl := Option.some.inj e
    exact p_M1
  rcases io e with ⟨_, e⟩ | ⟨_, e⟩
  · obtain ⟨x15, e_x15, e⟩ := bo e
    obtain rfl := Option.some.inj e
    exact p_M1
  obtain ⟨x5, e_x5, e⟩ := bo e
  have p_x5 : Fx C L A x5.2 := (wf_Mod_goes 163 v1 M1 (sb_t (by decide +kernel) hC) p_M1 e_x5)
  rcases io e with ⟨_, e⟩ | ⟨_, e⟩
  · obtain rfl := Option.some.inj e
    exact p_x5
  obtain rfl := Option.some.inj e
  exact p_x5
theorem wj_Mod_build_141 {C : Nat} {L : List Nat} {A : Mem} (v1 : Int32) (v2 : Int32) (M : Mem) (hC : sb 452313064262839725578442540910334033503327957956271157064239350854713344000 C)  (p0 : Fx C L A M) {r : (Int32 × Mem)} (e : j_Mod_build_141 v1 v2 M = some r) : (fun r : Int32 × Mem => Fx C L A r.2) r := by
  unfold j_Mod_build_141 at e
  obtain ⟨_, e⟩ := io_n e
  obtain ⟨_, e⟩ := io_n e
  obtain ⟨M12, e_M12, e⟩ := mo e
  have p_M12 : Fx C L A M12 := wi p0 e_M12 (oc_c hC (by decide +kernel))
  obtain ⟨M13, e_M13, e⟩ := mo e
  have p_M13 : Fx C L A M13 := wi1 p_M12 e_M13 (tb1 hC (by decide +kernel))
  obtain ⟨M14, e_M14, e⟩ := mo e
  have p_M14 : Fx C L A M14 := wi1 p_M13 e_M14 (tb1 hC (by decide +kernel))
  obtain rfl := Option.some.inj e
  exact p_M14
theorem wj_Mod_build_62 {C : Nat} {L : List Nat} {A : Mem} (v1 : Int32) (v2 : Int32) (v3 : Int32) (M : Mem) (hC : sb 452313064262839725578442540910334033503327957956271157064239350854713344000 C)  (p0 : Fx C L A M) {r : (Int32 × Mem)} (e : j_Mod_build_62 v1 v2 v3 M = some r) : (fun r : Int32 × Mem => Fx C L A r.2) r := by
  unfold j_Mod_build_62 at e
  obtain ⟨x5, e_x5, e⟩ := bo e
  obtain ⟨x6, e_x6, e⟩ := bo e
  rcases io e with ⟨_, e⟩ | ⟨_, e⟩
  · obtain ⟨y_, e_y, e⟩ := bo e
    rcases y_ with y11 | y18
    · replace e := el_l e
      rcases io e with ⟨_, e⟩ | ⟨_, e⟩
      · exact (wj_Mod_build_141 v1 v2 M (sb_t (by decide +kernel) hC) p0 e)
      obtain ⟨x15, e_x15, e⟩ := bo e
      rcases io e with ⟨_, e⟩ | ⟨_, e⟩
      · exact (wj_Mod_build_141 v1 v2 M (sb_t (by decide +kernel) hC) p0 e)
      obtain rfl := Option.some.inj e
      exact p0
    · replace e := el_r e
      obtain rfl := Option.some.inj e
      exact p0
  rcases io e with ⟨_, e⟩ | ⟨_, e⟩
  · obtain rfl := Option.some.inj e
    exact p0
  obtain ⟨y_, e_y, e⟩ := bo e
  rcases y_ with y20 | y24
  · replace e := el_l e
    rcases io e with ⟨_, e⟩ | ⟨_, e⟩
    · exact (wj_Mod_build_141 v1 v2 M (sb_t (by decide +kernel) hC) p0 e)
    obtain ⟨x21, e_x21, e⟩ := bo e
    rcases io e with ⟨_, e⟩ | ⟨_, e⟩
    · exact (wj_Mod_build_141 v1 v2 M (sb_t (by decide +kernel) hC) p0 e)
    obtain rfl := Option.some.inj e
    exact p0
  · replace e := el_r e
    obtain rfl := Option.some.inj e
    exact p0
theorem wj_Mod_build_39 {C : Nat} {L : List Nat} {A : Mem} (v1 : Int32) (v2 : Int32) (w0 : Int32) (M : Mem) (hC : sb 452313064262839725578442540910334033503327957956271157064239350854713344000 C)  (p0 : Fx C L A M) {r : (Int32 × Mem)} (e : j_Mod_build_39 v1 v2 w0 M = some r) : (fun r : Int32 × Mem => Fx C L A r.2) r := by
  unfold j_Mod_build_39 at e
  obtain ⟨x4, e_x4, e⟩ := bo e
  rcases io e with ⟨_, e⟩ | ⟨_, e⟩
  · exact (wj_Mod_build_62 v1 v2 w0 M (sb_t (by decide +kernel) hC) p0 e)
  rcases io e with ⟨_, e⟩ | ⟨_, e⟩
  · exact (wj_Mod_build_62 v1 v2 w0 M (sb_t (by decide +kernel) hC) p0 e)
  rcases io e with ⟨_, e⟩ | ⟨_, e⟩
  · exact (wj_Mod_build_62 v1 v2 w0 M (sb_t (by decide +kernel) hC) p0 e)
  obtain rfl := Option.some.inj e
  exact p0
theorem wf_Mod_build {C : Nat} {L : List Nat} {A : Mem} (v1 : Int32) (v2 : Int32) (M : Mem) (hC : sb 452313064276003762037012189247573786963786761996133043989307989761502216192 C)  (p0 : Fx C L A M) {r : (Int32 × Mem)} (e : f_Mod_build v1 v2 M = some r) : (fun r : Int32 × Mem => Fx C L A r.2) r := by
  unfold f_Mod_build at e
  obtain ⟨M1, e_M1, e⟩ := mo e
  have p_M1 : Fx C L A M1 := wi1 p0 e_M1 (tb1 hC (by decide +kernel))
  obtain ⟨x2, e_x2, e⟩ := bo e
  rcases io e with ⟨_, e⟩ | ⟨_, e⟩
  · obtain rfl := Option.some.inj e
    exact p_M1
  obtain ⟨x3, e_x3, e⟩ := bo e
  rcases io e with ⟨_, e⟩ | ⟨_, e⟩
  · obtain rfl := Option.some.inj e
    exact p_M1
  rcases io e with ⟨_, e⟩ | ⟨_, e⟩
  · exact (wj_Mod_build_39 v1 v2 (1 : Int32) M1 (sb_t (by decide +kernel) hC) p_M1 e)
  rcases io e with ⟨_, e⟩ | ⟨_, e⟩
  · exact (wj_Mod_build_39 v1 v2 (1 : Int32) M1 (sb_t (by decide +kernel) hC) p_M1 e)
  exact (wj_Mod_build_39 v1 v2 (0 : Int32) M1 (sb_t (by decide +kernel) hC) p_M1 e)
theorem wf_Mod_layPlank {C : Nat} {L : List Nat} {A : Mem} (v1 : Int32) (v2 : Int32) (M : Mem) (hC : sb 11692013098647223345629478661730264157247460343808 C)  (p0 : Fx C L A M) {r : (Mem)} (e : f_Mod_layPlank v1 v2 M = some r) : (fun r : Mem => Fx C L A r) r := by
  unfold f_Mod_layPlank at e
  obtain ⟨_, e⟩ := io_n e
  obtain ⟨M1, e_M1, e⟩ := mo e
  have p_M1 : Fx C L A M1 := wi p0 e_M1 (oc_c hC (by decide +kernel))
  obtain ⟨_, e⟩ := io_n e
  obtain ⟨M2, e_M2, e⟩ := mo e
  have p_M2 : Fx C L A M2 := wi p_M1 e_M2 (oc_c hC (by decide +kernel))
  obtain ⟨M3, e_M3, e⟩ := mo e
  have p_M3 : Fx C L A M3 := wi p_M2 e_M3 (oc_c hC (by decide +kernel))
  obtain rfl := Option.some.inj e
  exact p_M3
theorem wl_Mod_lay_2 {C : Nat} {L : List Nat} {A : Mem} (v0 : Nat) (v1 : Nat) (v2 : Int32) (s : Int32 × Mem) (hC : sb 0 C) (h_v1 : Oc C L (v1)) (p0 : Fx C L A s.2) {r : ((Int32 × Mem) ⊕ ((Mem)))} (e : lb_Mod_lay_2 v0 v1 v2 s = some r) : (Sum.elim (fun r : Int32 × Mem => Fx C L A r.2) (fun r : Mem => Fx C L A r)) r := by
  unfold lb_Mod_lay_2 at e
  rcases io e with ⟨_, e⟩ | ⟨_, e⟩
  · obtain rfl := Option.some.inj e
    exact p0
  obtain ⟨_, e⟩ := io_n e
  obtain ⟨_, e⟩ := io_n e
  obtain ⟨M1, e_M1, e⟩ := mo e
  have p_M1 : Fx C L A M1 := wi p0 e_M1 h_v1
  obtain rfl := Option.some.inj e
  exact p_M1
theorem wf_Mod_lay {C : Nat} {L : List Nat} {A : Mem} (v0 : Nat) (v1 : Nat) (v2 : Int32) (M : Mem) (hC : sb 0 C) (h_v1 : Oc C L (v1)) (p0 : Fx C L A M) {r : (Mem)} (e : f_Mod_lay v0 v1 v2 M = some r) : (fun r : Mem => Fx C L A r) r := by
  unfold f_Mod_lay at e
  obtain ⟨g_v0, e⟩ := io_n e
  obtain ⟨g_v1, e⟩ := io_n e
  obtain ⟨x3, e_x3, e⟩ := bo e
  have p_x3 : Fx C L A x3 := (it_r (I := fun s : Int32 × Mem => Fx C L A s.2) (Q := (fun r : Mem => Fx C L A r)) (fun s_ r_ hs_ er_ => wl_Mod_lay_2 v0 v1 v2 s_ (sb_t (by decide +kernel) hC) h_v1 hs_ er_) e_x3 p0)
  obtain rfl := Option.some.inj e
  exact p_x3
theorem wj_Mod_remember_49 {C : Nat} {L : List Nat} {A : Mem} (v1 : Nat) (M : Mem) (hC : sb 215679573337205130329957533710913751313683304992115076870228274053120 C)  (p0 : Fx C L A M) {r : (Mem)} (e : j_Mod_remember_49 v1 M = some r) : (fun r : Mem => Fx C L A r) r := by
  unfold j_Mod_remember_49 at e
  obtain ⟨x1, e_x1, e⟩ := bo e
  have p_x1 : Fx C L A x1 := (wf_Mod_lay v1 173 ((96 : Int32) * (M.1 162 27)) M (sb_t (by decide +kernel) hC) (oc_c hC (by decide +kernel)) p0 e_x1)
  obtain ⟨M2, e_M2, e⟩ := mo e
  have p_M2 : Fx C L A M2 := wi1 p_x1 e_M2 (tb1 hC (by decide +kernel))
  obtain rfl := Option.some.inj e
  exact p_M2
theorem wl_Mod_remember_11 {C : Nat} {L : List Nat} {A : Mem} (v1 : Nat) (s : Int32 × Mem) (hC : sb 11972621413014756705924586149611790497021399392059392 C)  (p0 : Fx C L A s.2) {r : ((Int32 × Mem) ⊕ ((Mem)))} (e : lb_Mod_remember_11 v1 s = some r) : (Sum.elim (fun r : Int32 × Mem => Fx C L A r.2) (fun r : Mem => Fx C L A r)) r := by
  unfold lb_Mod_remember_11 at e
  rcases io e with ⟨_, e⟩ | ⟨_, e⟩
  · obtain rfl := Option.some.inj e
    exact p0
  obtain ⟨_, e⟩ := io_n e
  obtain ⟨_, e⟩ := io_n e
  obtain ⟨M3, e_M3, e⟩ := mo e
  have p_M3 : Fx C L A M3 := wi p0 e_M3 (oc_c hC (by decide +kernel))
  obtain rfl := Option.some.inj e
  exact p_M3
theorem wf_Mod_remember {C : Nat} {L : List Nat} {A : Mem} (v1 : Nat) (M : Mem) (hC : sb 215679573337205130329957533710913751313683304992115076870228274053120 C)  (p0 : Fx C L A M) {r : (Mem)} (e : f_Mod_remember v1 M = some r) : (fun r : Mem => Fx C L A r) r := by
  unfold f_Mod_remember at e
  obtain ⟨g_v1, e⟩ := io_n e
  rcases io e with ⟨_, e⟩ | ⟨_, e⟩
  · obtain ⟨x5, e_x5, e⟩ := bo e
    have p_x5 : Fx C L A x5 := (it_r (I := fun s : Int32 × Mem => Fx C L A s.2) (Q := (fun r : Mem => Fx C L A r)) (fun s_ r_ hs_ er_ => wl_Mod_remember_11 v1 s_ (sb_t (by decide +kernel) hC) hs_ er_) e_x5 p0)
    obtain ⟨M6, e_M6, e⟩ := mo e
    have p_M6 : Fx C L A M6 := wi1 p_x5 e_M6 (tb1 hC (by decide +kernel))
    exact (wj_Mod_remember_49 v1 M6 (sb_t (by decide +kernel) hC) p_M6 e)
  exact (wj_Mod_remember_49 v1 M (sb_t (by decide +kernel) hC) p0 e)
theorem wf_Mod_plank {C : Nat} {L : List Nat} {A : Mem} (v1 : Int32) (v2 : Int32) (M : Mem) (hC : sb 215692737373663699989986786563021433463352645540770409666382523269120 C)  (p0 : Fx C L A M) {r : (Int32 × Mem)} (e : f_Mod_plank v1 v2 M = some r) : (fun r : Int32 × Mem => Fx C L A r.2) r := by
  unfold f_Mod_plank at e
  obtain ⟨M1, e_M1, e⟩ := mo e
  have p_M1 : Fx C L A M1 := wi1 p0 e_M1 (tb1 hC (by decide +kernel))
  obtain ⟨x2, e_x2, e⟩ := bo e
  rcases io e with ⟨_, e⟩ | ⟨_, e⟩
  · obtain ⟨x3, e_x3, e⟩ := bo e
    have p_x3 : Fx C L A x3 := (wf_Mod_remember 163 M1 (sb_t (by decide +kernel) hC) p_M1 e_x3)
    obtain ⟨x4, e_x4, e⟩ := bo e
    have p_x4 : Fx C L A x4 := (wf_Mod_layPlank v1 v2 x3 (sb_t (by decide +kernel) hC) p_x3 e_x4)
    obtain rfl := Option.some.inj e
    exact p_x4
  obtain rfl := Option.some.inj e
  exact p_M1
theorem wf_Mod_take {C : Nat} {L : List Nat} {A : Mem} (M : Mem) (hC : sb 215692737373663699989986786563021433463352645540770409666382523269120 C)  (p0 : Fx C L A M) {r : (Int32 × Mem)} (e : f_Mod_take M = some r) : (fun r : Int32 × Mem => Fx C L A r.2) r := by
  unfold f_Mod_take at e
  obtain ⟨M1, e_M1, e⟩ := mo e
  have p_M1 : Fx C L A M1 := wi1 p0 e_M1 (tb1 hC (by decide +kernel))
  rcases io e with ⟨_, e⟩ | ⟨_, e⟩
  · obtain rfl := Option.some.inj e
    exact p_M1
  obtain ⟨x2, e_x2, e⟩ := bo e
  have p_x2 : Fx C L A x2 := (wf_Mod_remember 163 M1 (sb_t (by decide +kernel) hC) p_M1 e_x2)
  obtain ⟨M3, e_M3, e⟩ := mo e
  have p_M3 : Fx C L A M3 := wi p_x2 e_M3 (oc_c hC (by decide +kernel))
  obtain rfl := Option.some.inj e
  exact p_M3
theorem wj_Mod_sheet_119_43 {C : Nat} {L : List Nat} {A : Mem} (v1 : Int32) (v2 : Int32) (v4 : Int32) (v5 : Int32) (v6 : Int32) (v7 : Int32) (w0 : Int32) (w1 : Int32) (M : Mem) (hC : sb 11692013098647223345629478661730264157247460343808 C)  (p0 : Fx C L A M) {r : ((Int32 × Int32 × Int32 × Mem) ⊕ ((Int32 × Mem)))} (e : j_Mod_sheet_119_43 v1 v2 v4 v5 v6 v7 w0 w1 M = some r) : (Sum.elim (fun r : Int32 × Int32 × Int32 × Mem => Fx C L A r.2.2.2) (fun r : Int32 × Mem => Fx C L A r.2)) r := by
  unfold j_Mod_sheet_119_43 at e
  obtain ⟨_, e⟩ := io_n e
  obtain ⟨M3, e_M3, e⟩ := mo e
  have p_M3 : Fx C L A M3 := wi p0 e_M3 (oc_c hC (by decide +kernel))
  obtain ⟨_, e⟩ := io_n e
  obtain rfl := Option.some.inj e
  exact p_M3
theorem wj_Mod_sheet_75_43 {C : Nat} {L : List Nat} {A : Mem} (v1 : Int32) (v2 : Int32) (v4 : Int32) (v5 : Int32) (v6 : Int32) (v7 : Int32) (w0 : Int32) (M : Mem) (hC : sb 11692013098647223345629478661730264157247460343808 C)  (p0 : Fx C L A M) {r : ((Int32 × Int32 × Int32 × Mem) ⊕ ((Int32 × Mem)))} (e : j_Mod_sheet_75_43 v1 v2 v4 v5 v6 v7 w0 M = some r) : (Sum.elim (fun r : Int32 × Int32 × Int32 × Mem => Fx C L A r.2.2.2) (fun r : Int32 × Mem => Fx C L A r.2)) r := by
  unfold j_Mod_sheet_75_43 at e
  rcases io e with ⟨_, e⟩ | ⟨_, e⟩
  · exact (wj_Mod_sheet_119_43 v1 v2 v4 v5 v6 v7 (0 : Int32) ((8 : Int32) + v7) M (sb_t (by decide +kernel) hC) p0 e)
  rcases io e with ⟨_, e⟩ | ⟨_, e⟩
  · obtain ⟨_, e⟩ := io_n e
    exact (wj_Mod_sheet_119_43 v1 v2 v4 v5 v6 v7 (if (0 : Int32) < (if w0 < ((M.1 166 v7.toNatClampNeg) - (1 : Int32)) then w0 else ((M.1 166 v7.toNatClampNeg) - (1 : Int32))) then (if w0 < ((M.1 166 v7.toNatClampNeg) - (1 : Int32)) then w0 else ((M.1 166 v7.toNatClampNeg) - (1 : Int32))) else (0 : Int32)) ((8 : Int32) + v7) M (sb_t (by decide +kernel) hC) p0 e)
  exact (wj_Mod_sheet_119_43 v1 v2 v4 v5 v6 v7 (0 : Int32) ((8 : Int32) + v7) M (sb_t (by decide +kernel) hC) p0 e)
theorem wl_Mod_sheet_43 {C : Nat} {L : List Nat} {A : Mem} (v1 : Int32) (v2 : Int32) (v4 : Int32) (s : Int32 × Int32 × Int32 × Mem) (hC : sb 11692013098647223345629478661730264157247460343808 C)  (p0 : Fx C L A s.2.2.2) {r : ((Int32 × Int32 × Int32 × Mem) ⊕ ((Int32 × Mem)))} (e : lb_Mod_sheet_43 v1 v2 v4 s = some r) : (Sum.elim (fun r : Int32 × Int32 × Int32 × Mem => Fx C L A r.2.2.2) (fun r : Int32 × Mem => Fx C L A r.2)) r := by
  unfold lb_Mod_sheet_43 at e
  rcases io e with ⟨_, e⟩ | ⟨_, e⟩
  · obtain rfl := Option.some.inj e
    exact p0
  rcases io e with ⟨_, e⟩ | ⟨_, e⟩
  · exact (wj_Mod_sheet_75_43 v1 v2 v4 s.1 s.2.1 s.2.2.1 s.2.1.toInt8.toInt32 s.2.2.2 (sb_t (by decide +kernel) hC) p0 e)
  rcases io e with ⟨_, e⟩ | ⟨_, e⟩
  · exact (wj_Mod_sheet_75_43 v1 v2 v4 s.1 s.2.1 s.2.2.1 s.2.1.toInt16.toInt32 s.2.2.2 (sb_t (by decide +kernel) hC) p0 e)
  exact (wj_Mod_sheet_75_43 v1 v2 v4 s.1 s.2.1 s.2.2.1 s.2.1 s.2.2.2 (sb_t (by decide +kernel) hC) p0 e)
end
