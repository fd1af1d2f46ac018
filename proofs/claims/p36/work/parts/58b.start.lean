/-! the start; the law's calls -/
theorem rgA_0 : rgA.all (fun p => decide (p.2.1 ≤ 0) && decide (0 ≤ p.2.2)) = true := by decide +kernel
theorem lk_mem {l : List (Nat × (Int × Int))} {k : Nat} {p : Int × Int} (h : l.lookup k = some p) : (k, p) ∈ l := by
  induction l with
  | nil => cases h
  | cons x l ih =>
    obtain ⟨a, b⟩ := x
    rw [List.lookup_cons] at h
    by_cases e : (k == a) = true
    · rw [e] at h
      have : b = p := Option.some.inj h
      have e2 : k = a := by simpa using e
      subst this; subst e2
      exact List.mem_cons_self
    · have e' : (k == a) = false := by simpa using e
      rw [e'] at h
      exact List.mem_cons_of_mem _ (ih h)
theorem z0_if {c : Prop} [Decidable c] {p q : Int × Int} (h : c → p.1 ≤ 0 ∧ 0 ≤ p.2) (h2 : q.1 ≤ 0 ∧ 0 ≤ q.2) : (if c then p else q).1 ≤ 0 ∧ 0 ≤ (if c then p else q).2 := by
  by_cases e : c
  · rw [if_pos e]; exact h e
  · rw [if_neg e]; exact h2
theorem rng_0 (k i : Nat) (h1 : ¬ (k = 3 ∧ (i = 2 ∨ i = 3))) (h2 : ¬ (k = 162 ∧ (i = 2 ∨ i = 3))) : (rng k i).1 ≤ 0 ∧ 0 ≤ (rng k i).2 := by
  unfold rng
  cases hs : stb k with
  | true => exact reg_has0 _
  | false =>
    cases hl : rgA.lookup k with
    | some p =>
      have := List.all_eq_true.mp rgA_0 _ (lk_mem hl)
      simp only [Bool.and_eq_true, decide_eq_true_eq] at this
      exact this
    | none =>
      show (rgF k i).1 ≤ 0 ∧ 0 ≤ (rgF k i).2
      unfold rgF FUL
      repeat' refine z0_if (fun w => ?_) ?_
      all_goals first | (exact ⟨by decide, by decide⟩) | (exfalso; omega)
theorem J_M0 : J M0 := by
  refine ⟨fun k i => ?_, ⟨1, by decide +kernel⟩, ⟨fun i hi => ?_, fun i hi => ?_⟩, .inr (.inr (by decide +kernel)), .inl (by decide +kernel), fun p hp => ?_⟩
  · by_cases c1 : k = 164 ∧ i = 0
    · obtain ⟨rfl, rfl⟩ := c1; decide +kernel
    by_cases c2 : k = 162 ∧ (i = 2 ∨ i = 3 ∨ i = 8)
    · obtain ⟨rfl, rfl | rfl | rfl⟩ := c2 <;> decide +kernel
    by_cases c3 : k = 0 ∧ (i = 15 ∨ i = 16)
    · obtain ⟨rfl, rfl | rfl⟩ := c3 <;> decide +kernel
    by_cases c4 : k = 3 ∧ (i = 2 ∨ i = 3)
    · obtain ⟨rfl, rfl | rfl⟩ := c4 <;> decide +kernel
    by_cases c5 : k = 4 ∧ i = 0
    · obtain ⟨rfl, rfl⟩ := c5; decide +kernel
    have e : M0.1 k i = if k = 39 ∧ i < 288 then -1 else if k = 35 ∧ i < 288 then -1 else 0 := by
      unfold M0 mM
      rw [si_ne (by omega), si_ne (by omega), si_ne (by omega), si_ne (by omega)]
      unfold mT
      rw [si_ne (by omega), si_ne (by omega)]
      show (mN 36 (mN 32 (mG Mz))).1 k i = _
      unfold mN fil
      show (if k = 36 + 3 ∧ i < 288 then (-1 : Int32) else if k = 32 + 3 ∧ i < 288 then -1 else (mG Mz).1 k i) = _
      have : (mG Mz).1 k i = 0 := by
        unfold mG
        rw [si_ne (by omega), si_ne (by omega), si_ne (by omega)]; rfl
      rw [this]
    rw [e]
    have r0 := rng_0 k i (by omega) (by omega)
    by_cases c6 : k = 39 ∧ i < 288
    · rw [if_pos c6]; obtain ⟨rfl, -⟩ := c6; exact ⟨show (-1 : Int) ≤ (-1 : Int32).toInt by decide, show (-1 : Int32).toInt ≤ (35 : Int) by decide⟩
    rw [if_neg c6]
    by_cases c7 : k = 35 ∧ i < 288
    · rw [if_pos c7]; obtain ⟨rfl, -⟩ := c7; exact ⟨show (-1 : Int) ≤ (-1 : Int32).toInt by decide, show (-1 : Int32).toInt ≤ (35 : Int) by decide⟩
    rw [if_neg c7]
    exact r0
  · have : ∀ i : Fin 12, M0.2.2 47 i.val = some (49 + 7 * i.val) ∧ kd (49 + 7 * i.val) = 10 + 7 := by decide +kernel
    exact ⟨_, this ⟨i, hi⟩⟩
  · have : ∀ i : Fin 2, M0.2.2 48 i.val = some (133 + 7 * i.val) ∧ kd (133 + 7 * i.val) = 10 + 7 := by decide +kernel
    exact ⟨_, this ⟨i, hi⟩⟩
  · have : (M0.1 162 4).toInt = 0 := by decide +kernel
    omega
theorem Inv_M0 : Inv 0 M0 := by
  refine ⟨⟨J_M0, ⟨fun j hj => ?_, fun u hu => ?_, fun t ht => ?_⟩, by decide +kernel, by decide +kernel⟩, by decide +kernel⟩
  · have : (M0.1 163 (0 + 92)).toInt = 0 := by decide +kernel
    omega
  · have : (M0.1 162 27).toInt = 0 := by decide +kernel
    omega
  · have : ∀ i : Fin 2, (0 ≤ (M0.1 191 i.val).toInt ∧ (M0.1 191 i.val).toInt ≤ (M0.1 162 48).toInt) ∧ (M0.1 190 i.val).toInt = 0 := by decide +kernel
    have h := this ⟨t, ht⟩
    exact ⟨h.1, fun w => absurd h.2 w⟩
theorem Inv_up {n : Int} {M : Mem} (h : Inv n M) : Inv (n + 1) M := ⟨⟨h.1.1, h.1.2.1, h.1.2.2.1, by have := h.1.2.2.2; omega⟩, h.2⟩
theorem hv_ok {M : Mem} (h : J M) (y : Option Int32) : J (hv y M).2 ∧ Gc 0 M (hv y M).2 := by
  cases y with
  | none => exact ⟨h, Gc_r⟩
  | some r => exact ⟨Jl h, Gc_l Gc_r rfl⟩
theorem ct_Lw_cell {M : Mem} (h : J M) (v1 v2 : Int32) : ∃ x, f_Lw_cell v1 v2 M = some x ∧ (J x.2 ∧ Gc 0 M x.2) := by
  unfold f_Lw_cell
  exact bind_i (sf_Top_cell v1 v2 M h) (fun y _ _ => ⟨_, rfl, hv_ok h y⟩)
theorem ct_Lw_person {M : Mem} (h : J M) (v1 v2 : Int32) : ∃ x, f_Lw_person v1 v2 M = some x ∧ (J x.2 ∧ Gc 0 M x.2) := by
  unfold f_Lw_person
  exact bind_i (sf_Top_person v1 v2 M h) (fun y _ q => ⟨_, rfl, (hv_ok q.1 y.1).1, Gc_t q.2 (hv_ok q.1 y.1).2⟩)
theorem ct_Lw_row {M : Mem} (h : J M) (v1 : Int32) : ∃ x, f_Lw_row v1 M = some x ∧ (J x.2 ∧ Gc 0 M x.2) := by
  unfold f_Lw_row
  exact bind_i (sf_Top_row v1 M h) (fun y _ _ => ⟨_, rfl, hv_ok h y⟩)
