/-! taking a call apart; frames -/
theorem bo {α β : Type} {a : Option α} {f : α → Option β} {x : β} (e : Option.bind a f = some x) : ∃ y, a = some y ∧ f y = some x := Option.bind_eq_some_iff.mp e
theorem io {α : Type} {c : Prop} [Decidable c] {a b : Option α} {x : α} (e : (if c then a else b) = some x) : (c ∧ a = some x) ∨ (¬ c ∧ b = some x) := by
  by_cases h : c
  · rw [if_pos h] at e; exact .inl ⟨h, e⟩
  · rw [if_neg h] at e; exact .inr ⟨h, e⟩
theorem io_n {α : Type} {c : Prop} [Decidable c] {a : Option α} {x : α} (e : (if c then a else none) = some x) : c ∧ a = some x := by
  rcases io e with h | ⟨_, h⟩
  · exact h
  · cases h
theorem io_m {α : Type} {c : Prop} [Decidable c] {a : Option α} {x : α} (e : (if c then none else a) = some x) : ¬ c ∧ a = some x := by
  rcases io e with ⟨_, h⟩ | h
  · cases h
  · exact h
theorem mo {α β : Type} {m : α} {f : α → Option β} {x : β} (e : mem_ m f = some x) : ∃ N, N = m ∧ f N = some x := ⟨m, rfl, e⟩
theorem el_l {α β γ : Type} {f : α → Option γ} {g : β → Option γ} {y : α} {x : γ} (e : Sum.elim f g (.inl y) = some x) : f y = some x := e
theorem el_r {α β γ : Type} {f : α → Option γ} {g : β → Option γ} {y : β} {x : γ} (e : Sum.elim f g (.inr y) = some x) : g y = some x := e
theorem it_r {S X : Type} {f : S → Option (S ⊕ X)} {I : S → Prop} {Q : X → Prop} (hs : ∀ s r, I s → f s = some r → Sum.elim I Q r) {n : Nat} {s : S} {x : X} (e : iter f n s = some x) (h : I s) : Q x := by
  induction n generalizing s with
  | zero => cases e
  | succ n ih =>
    simp only [iter] at e
    cases hf : f s with
    | none => rw [hf] at e; cases e
    | some r =>
      rw [hf] at e
      have k := hs s r h hf
      cases r with
      | inl s' => exact ih e k
      | inr y => obtain rfl := Option.some.inj e; exact k
def sl (k i : Nat) : Nat := if k = 162 then 200 + i else if k = 1 then 270 + i else if k = 0 then 280 + i else if k = 3 then 300 + i else if k = 46 then 310 + i else if k = 6 then 320 + i else if k = 40 then 330 + i else if k = 45 then 350 + i else if k = 147 then 360 + i else if k = 151 then 370 + i else k
def pl (k : Nat) : Bool := !(k == 162 || k == 1 || k == 0 || k == 3 || k == 46 || k == 6 || k == 40 || k == 45 || k == 147 || k == 151)
theorem sl_pl {k : Nat} (h : pl k = true) (i : Nat) : sl k i = k := by
  simp only [pl, Bool.not_eq_true', Bool.or_eq_false_iff, beq_eq_false_iff_ne] at h
  obtain ⟨⟨⟨⟨⟨⟨⟨⟨⟨h1, h2⟩, h3⟩, h4⟩, h5⟩, h6⟩, h7⟩, h8⟩, h9⟩, h10⟩ := h
  simp [sl, h1, h2, h3, h4, h5, h6, h7, h8, h9, h10]
def Fx (C : Nat) (L : List Nat) (A N : Mem) : Prop := ∀ k i : Nat, Nat.testBit C (sl k i) = false → k ∉ L → N.1 k i = A.1 k i ∧ N.2.1 k i = A.2.1 k i ∧ N.2.2 k i = A.2.2 k i
def Oc (C : Nat) (L : List Nat) (k : Nat) : Prop := k ∈ L ∨ ∀ i, Nat.testBit C (sl k i) = true
abbrev sb (c C : Nat) : Prop := c ||| C = C
theorem sb_r (c : Nat) : sb c c := Nat.or_self c
theorem sbb {c C : Nat} (h : sb c C) {n : Nat} (b : Nat.testBit c n = true) : Nat.testBit C n = true := by
  unfold sb at h
  rw [← h, Nat.testBit_or, b, Bool.true_or]
theorem sb_t {a c C : Nat} (h : a ||| c = c) (hC : sb c C) : sb a C := by
  unfold sb at *
  rw [← hC, ← Nat.or_assoc, h]
theorem tb1 {c C n : Nat} (h : sb c C) (b : Nat.testBit c n = true) : Nat.testBit C n = true := sbb h b
theorem oc_c {c C : Nat} {L : List Nat} {k : Nat} (h : sb c C) (b : (pl k && Nat.testBit c k) = true) : Oc C L k := by
  rw [Bool.and_eq_true] at b
  exact .inr (fun i => by rw [sl_pl b.1]; exact sbb h b.2)
theorem Fx_r {C : Nat} {L : List Nat} {A : Mem} : Fx C L A A := fun _ _ _ _ => ⟨rfl, rfl, rfl⟩
theorem Fx_t {C : Nat} {L : List Nat} {A B N : Mem} (h : Fx C L A B) (g : Fx C L B N) : Fx C L A N := fun k i a b => ⟨(g k i a b).1.trans (h k i a b).1, (g k i a b).2.1.trans (h k i a b).2.1, (g k i a b).2.2.trans (h k i a b).2.2⟩
theorem Oc_ne {C : Nat} {L : List Nat} {k j : Nat} (h : Oc C L k) (i : Nat) (a : Nat.testBit C (sl j i) = false) (b : j ∉ L) : j ≠ k := by
  rintro rfl
  rcases h with h | h
  · exact b h
  · rw [h i] at a; cases a
theorem wi {C : Nat} {L : List Nat} {A M N : Mem} {k i : Nat} {v : Int32} (p : Fx C L A M) (e : N = s_i M k i v) (h : Oc C L k) : Fx C L A N := by
  intro j x a b
  have n := Oc_ne h x a b
  subst e
  have q := p j x a b
  exact ⟨by rw [← q.1]; simp [s_i, n], q.2⟩
theorem wi1 {C : Nat} {L : List Nat} {A M N : Mem} {k i : Nat} {v : Int32} (p : Fx C L A M) (e : N = s_i M k i v) (h : Nat.testBit C (sl k i) = true) : Fx C L A N := by
  intro j x a b
  have n : ¬ (j = k ∧ x = i) := by rintro ⟨rfl, rfl⟩; rw [h] at a; cases a
  subst e
  have q := p j x a b
  exact ⟨by rw [← q.1]; simp only [s_i, if_neg n], q.2⟩
theorem wlg {C : Nat} {L : List Nat} {A M N : Mem} {k i : Nat} {v : Int64} (p : Fx C L A M) (e : N = s_l M k i v) (h : Oc C L k) : Fx C L A N := by
  intro j x a b
  have n := Oc_ne h x a b
  subst e
  have q := p j x a b
  exact ⟨q.1, by rw [← q.2.1]; simp [s_l, n], q.2.2⟩
theorem wlg1 {C : Nat} {L : List Nat} {A M N : Mem} {k i : Nat} {v : Int64} (p : Fx C L A M) (e : N = s_l M k i v) (h : Nat.testBit C (sl k i) = true) : Fx C L A N := by
  intro j x a b
  have n : ¬ (j = k ∧ x = i) := by rintro ⟨rfl, rfl⟩; rw [h] at a; cases a
  subst e
  have q := p j x a b
  exact ⟨q.1, by rw [← q.2.1]; simp only [s_l, if_neg n], q.2.2⟩
theorem wq {C : Nat} {L : List Nat} {A M N : Mem} {k i : Nat} {v : Option Nat} (p : Fx C L A M) (e : N = s_q M k i v) (h : Oc C L k) : Fx C L A N := by
  intro j x a b
  have n := Oc_ne h x a b
  subst e
  have q := p j x a b
  exact ⟨q.1, q.2.1, by rw [← q.2.2]; simp [s_q, n]⟩
theorem wq1 {C : Nat} {L : List Nat} {A M N : Mem} {k i : Nat} {v : Option Nat} (p : Fx C L A M) (e : N = s_q M k i v) (h : Nat.testBit C (sl k i) = true) : Fx C L A N := by
  intro j x a b
  have n : ¬ (j = k ∧ x = i) := by rintro ⟨rfl, rfl⟩; rw [h] at a; cases a
  subst e
  have q := p j x a b
  exact ⟨q.1, q.2.1, by rw [← q.2.2]; simp only [s_q, if_neg n]⟩
theorem wc {C : Nat} {L : List Nat} {A M N : Mem} {k0 k1 sp dp n : Nat} (p : Fx C L A M) (e : N = s_c M k0 k1 sp dp n) (h : Oc C L k1) : Fx C L A N := by
  intro j x a b
  have n := Oc_ne h x a b
  subst e
  have q := p j x a b
  exact ⟨by rw [← q.1]; simp [s_c, n], q.2⟩
theorem scn_all : (List.range 193).all (fun a => !(kd a == 17) || ((pl a && Nat.testBit 178405961588244985132285746180623946389387264 a) && (List.range 6).all (fun j => pl (rf a j) && Nat.testBit 178405961588244985132285746180623946389387264 (rf a j)))) = true := by decide +kernel
theorem kd_193 {a : Nat} (h : kd a ≠ 0) : a < 193 := by
  have := kd_lt (k := a) (by omega)
  have e : NT = 193 := by decide +kernel
  omega
theorem oc_s {c C : Nat} {L : List Nat} {a : Nat} (hC : sb c C) (hs : 178405961588244985132285746180623946389387264 ||| c = c) (g : kd a = 10 + 7) (o : Option (Fin 6)) : Oc C L (match o with | none => a | some j => rf a j.val) := by
  have h := List.all_eq_true.mp scn_all a (List.mem_range.mpr (kd_193 (by omega)))
  have g' : (kd a == 17) = true := by rw [g]; rfl
  rw [g'] at h
  simp only [Bool.not_true, Bool.false_or, Bool.and_eq_true, List.all_eq_true] at h
  cases o with
  | none => exact oc_c (sb_t hs hC) (by rw [Bool.and_eq_true]; exact h.1)
  | some j => exact oc_c (sb_t hs hC) (by rw [Bool.and_eq_true]; have := h.2 j.val (List.mem_range.mpr j.isLt); exact this)
theorem Fx_w {C D : Nat} {L : List Nat} {A N : Mem} (s : sb C D) (h : Fx C L A N) : Fx D L A N := fun k i a b => h k i (by
  cases hh : Nat.testBit C (sl k i) with
  | false => rfl
  | true => rw [sbb s hh] at a; cases a) b
theorem o1 : (1 : Int32).toInt = 1 := rfl
theorem o4 : (4 : Int32).toInt = 4 := rfl
theorem om : (-1 : Int32).toInt = -1 := rfl
