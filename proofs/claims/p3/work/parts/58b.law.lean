/-! the start; the law's calls -/
theorem rgA_0 : rgA.all (fun p => decide (p.2.1 ≤ 0) && decide (0 ≤ p.2.2)) = true := by decide +kernel
theorem lk_mem {l : List (Nat × (Int × Int))} {k : Nat} {p : Int × Int} (h : l.lookup k = some p) : (k, p) ∈ l := by
  induction l with
  | nil => cases h
  | cons x l ih =>
    obtain ⟨a, b⟩ := x
    rw [List.lookup_cons] at h
    by_cases e : (k == a) = true
    · rw [e] at h
      have : b = p := Option.some.inj h
      have e2 : k = a := by simpa using e
      subst this; subst e2
      exact List.mem_cons_self
    · have e' : (k == a) = false := by simpa using e
      rw [e'] at h
      exact List.mem_cons_of_mem _ (ih h)
theorem z0_if {c : Prop} [Decidable c] {p q : Int × Int} (h : c → p.1 ≤ 0 ∧ 0 ≤ p.2) (h2 : q.1 ≤ 0 ∧ 0 ≤ q.2) : (if c then p else q).1 ≤ 0 ∧ 0 ≤ (if c then p else q).2 := by
  by_cases e : c
  · rw [if_pos e]; exact h e
  · rw [if_neg e]; exact h2
theorem rng_0 (k i : Nat) (h1 : ¬ (k = 3 ∧ (i = 2 ∨ i = 3))) (h2 : ¬ (k = 162 ∧ (i = 2 ∨ i = 3))) : (rng k i).1 ≤ 0 ∧ 0 ≤ (rng k i).2 := by
  unfold rng
  cases hs : stb k with
  | true => exact reg_has0 _
  | false =>
    cases hl : rgA.lookup k with
    | some p =>
      have := List.all_eq_true.mp rgA_0 _ (lk_mem hl)
      simp only [Bool.and_eq_true, decide_eq_true_eq] at this
      exact this
    | none =>
      show (rgF k i).1 ≤ 0 ∧ 0 ≤ (rgF k i).2
      unfold rgF FUL
      repeat' refine z0_if (fun w => ?_) ?_
      all_goals first | (exact ⟨by decide, by decide⟩) | (exfalso; omega)
theorem J_M0 : J M0 := by
  refine ⟨fun k i => ?_, ⟨1, by decide +kernel⟩, ⟨fun i hi => ?_, fun i hi => ?_⟩, .inr (.inr (by decide +kernel)), .inl (by decide +kernel), fun p hp => ?_⟩
  · by_cases c1 : k = 164 ∧ i = 0
    · obtain ⟨rfl, rfl⟩ := c1; decide +kernel
    by_cases c2 : k = 162 ∧ (i = 2 ∨ i = 3 ∨ i = 8)
    · obtain ⟨rfl, rfl | rfl | rfl⟩ := c2 <;> decide +kernel
    by_cases c3 : k = 0 ∧ (i = 15 ∨ i = 16)
    · obtain ⟨rfl, rfl | rfl⟩ := c3 <;> decide +kernel
    by_cases c4 : k = 3 ∧ (i = 2 ∨ i = 3)
    · obtain ⟨rfl, rfl | rfl⟩ := c4 <;> decide +kernel
    by_cases c5 : k = 4 ∧ i = 0
    · obtain ⟨rfl, rfl⟩ := c5; decide +kernel
    have e : M0.1 k i = if k = 39 ∧ i < 288 then -1 else if k = 35 ∧ i < 288 then -1 else 0 := by
      unfold M0 mM
      rw [si_ne (by omega), si_ne (by omega), si_ne (by omega), si_ne (by omega)]
      unfold mT
      rw [si_ne (by omega), si_ne (by omega)]
      show (mN 36 (mN 32 (mG Mz))).1 k i = _
      unfold mN fil
      show (if k = 36 + 3 ∧ i < 288 then (-1 : Int32) else if k = 32 + 3 ∧ i < 288 then -1 else (mG Mz).1 k i) = _
      have : (mG Mz).1 k i = 0 := by
        unfold mG
        rw [si_ne (by omega), si_ne (by omega), si_ne (by omega)]; rfl
      rw [this]
    rw [e]
    have r0 := rng_0 k i (by omega) (by omega)
    by_cases c6 : k = 39 ∧ i < 288
    · rw [if_pos c6]; obtain ⟨rfl, -⟩ := c6; exact ⟨show (-1 : Int) ≤ (-1 : Int32).toInt by decide, show (-1 : Int32).toInt ≤ (35 : Int) by decide⟩
    rw [if_neg c6]
    by_cases c7 : k = 35 ∧ i < 288
    · rw [if_pos c7]; obtain ⟨rfl, -⟩ := c7; exact ⟨show (-1 : Int) ≤ (-1 : Int32).toInt by decide, show (-1 : Int32).toInt ≤ (35 : Int) by decide⟩
    rw [if_neg c7]
    exact r0
  · have : ∀ i : Fin 12, M0.2.2 47 i.val = some (49 + 7 * i.val) ∧ kd (49 + 7 * i.val) = 10 + 7 := by decide +kernel
    exact ⟨_, this ⟨i, hi⟩⟩
  · have : ∀ i : Fin 2, M0.2.2 48 i.val = some (133 + 7 * i.val) ∧ kd (133 + 7 * i.val) = 10 + 7 := by decide +kernel
    exact ⟨_, this ⟨i, hi⟩⟩
  · have : (M0.1 162 4).toInt = 0 := by decide +kernel
    omega
theorem Inv_M0 : Inv 0 M0 := by
  refine ⟨⟨J_M0, ⟨fun j hj => ?_, fun u hu => ?_, fun t ht => ?_⟩, by decide +kernel, by decide +kernel⟩, by decide +kernel⟩
  · have : (M0.1 163 (0 + 92)).toInt = 0 := by decide +kernel
    omega
  · have : (M0.1 162 27).toInt = 0 := by decide +kernel
    omega
  · have : ∀ i : Fin 2, (0 ≤ (M0.1 191 i.val).toInt ∧ (M0.1 191 i.val).toInt ≤ (M0.1 162 48).toInt) ∧ (M0.1 190 i.val).toInt = 0 := by decide +kernel
    have h := this ⟨t, ht⟩
    exact ⟨h.1, fun w => absurd h.2 w⟩
theorem Inv_up {n : Int} {M : Mem} (h : Inv n M) : Inv (n + 1) M := ⟨⟨h.1.1, h.1.2.1, h.1.2.2.1, by have := h.1.2.2.2; omega⟩, h.2⟩
def LQ (n : Int) (v4 : Int32) (o : (Int32 × Mem) ⊕ ((Mem) ⊕ (Int32 × Mem))) : Prop := ∃ r, o = .inl (v4 + (5 : Int32), r) ∧ Inv (n + 1) r
theorem hv_ok {M : Mem} (h : J M) (y : Option Int32) : J (hv y M).2 ∧ Gc 0 M (hv y M).2 := by
  cases y with
  | none => exact ⟨h, Gc_r⟩
  | some r => exact ⟨Jl h, Gc_l Gc_r rfl⟩
theorem ct_Lw_cell {M : Mem} (h : J M) (v1 v2 : Int32) : ∃ x, f_Lw_cell v1 v2 M = some x ∧ (J x.2 ∧ Gc 0 M x.2) := by
  unfold f_Lw_cell
  exact bind_i (sf_Top_cell v1 v2 M h) (fun y _ _ => ⟨_, rfl, hv_ok h y⟩)
theorem ct_Lw_person {M : Mem} (h : J M) (v1 v2 : Int32) : ∃ x, f_Lw_person v1 v2 M = some x ∧ (J x.2 ∧ Gc 0 M x.2) := by
  unfold f_Lw_person
  exact bind_i (sf_Top_person v1 v2 M h) (fun y _ q => ⟨_, rfl, (hv_ok q.1 y.1).1, Gc_t q.2 (hv_ok q.1 y.1).2⟩)
theorem ct_Lw_row {M : Mem} (h : J M) (v1 : Int32) : ∃ x, f_Lw_row v1 M = some x ∧ (J x.2 ∧ Gc 0 M x.2) := by
  unfold f_Lw_row
  exact bind_i (sf_Top_row v1 M h) (fun y _ _ => ⟨_, rfl, hv_ok h y⟩)
theorem jl_228_23 {n : Int} (hn : n ≤ 1000000) {M : Mem} (h : Inv n M) (L : Nat) (xs : Nat → Int32) (v4 : Int32) (h0 : 0 ≤ v4.toInt) (h5 : v4.toInt + 5 ≤ (L : Int)) (hL : (L : Int) ≤ 2560) : ∃ o, j_law_228_23 L xs v4 M = some o ∧ LQ n v4 o := by
  have a1 : (v4 + (1 : Int32)).toInt = v4.toInt + 1 := add_ti rfl rfl (by omega) (by omega)
  have a2 : (v4 + (2 : Int32)).toInt = v4.toInt + 2 := add_ti rfl rfl (by omega) (by omega)
  have a3 : (v4 + (3 : Int32)).toInt = v4.toInt + 3 := add_ti rfl rfl (by omega) (by omega)
  have a4 : (v4 + (4 : Int32)).toInt = v4.toInt + 4 := add_ti rfl rfl (by omega) (by omega)
  unfold j_law_228_23
  refine inb_i (by omega) (by omega) ?_
  obtain ⟨x1, e_x, r_, e_r, e_q, h_i⟩ := two_sign h (xs (v4 + (1 : Int32)).toNatClampNeg)
  refine bind_e e_x ?_
  refine inb_i (by omega) (by omega) ?_
  refine bind_e e_r ?_
  exact ⟨_, rfl, _, rfl, h_i⟩
theorem jl_253_23 {n : Int} (hn : n ≤ 1000000) {M : Mem} (h : Inv n M) (L : Nat) (xs : Nat → Int32) (v4 : Int32) (h0 : 0 ≤ v4.toInt) (h5 : v4.toInt + 5 ≤ (L : Int)) (hL : (L : Int) ≤ 2560) : ∃ o, j_law_253_23 L xs v4 M = some o ∧ LQ n v4 o := by
  have a1 : (v4 + (1 : Int32)).toInt = v4.toInt + 1 := add_ti rfl rfl (by omega) (by omega)
  have a2 : (v4 + (2 : Int32)).toInt = v4.toInt + 2 := add_ti rfl rfl (by omega) (by omega)
  have a3 : (v4 + (3 : Int32)).toInt = v4.toInt + 3 := add_ti rfl rfl (by omega) (by omega)
  have a4 : (v4 + (4 : Int32)).toInt = v4.toInt + 4 := add_ti rfl rfl (by omega) (by omega)
  unfold j_law_253_23
  refine inb_i (by omega) (by omega) ?_
  obtain ⟨x4, e_x, r_, e_r, e_q, h_i⟩ := two_end h (xs (v4 + (1 : Int32)).toNatClampNeg)
  refine bind_e e_x ?_
  refine inb_i (by omega) (by omega) ?_
  refine bind_e e_r ?_
  exact c_i2 e_q ⟨_, rfl, _, rfl, h_i⟩
theorem jl_278_23 {n : Int} (hn : n ≤ 1000000) {M : Mem} (h : Inv n M) (L : Nat) (xs : Nat → Int32) (v4 : Int32) (h0 : 0 ≤ v4.toInt) (h5 : v4.toInt + 5 ≤ (L : Int)) (hL : (L : Int) ≤ 2560) : ∃ o, j_law_278_23 L xs v4 M = some o ∧ LQ n v4 o := by
  have a1 : (v4 + (1 : Int32)).toInt = v4.toInt + 1 := add_ti rfl rfl (by omega) (by omega)
  have a2 : (v4 + (2 : Int32)).toInt = v4.toInt + 2 := add_ti rfl rfl (by omega) (by omega)
  have a3 : (v4 + (3 : Int32)).toInt = v4.toInt + 3 := add_ti rfl rfl (by omega) (by omega)
  have a4 : (v4 + (4 : Int32)).toInt = v4.toInt + 4 := add_ti rfl rfl (by omega) (by omega)
  unfold j_law_278_23
  refine bind_i (sf_Top_town  M h.1.1) (fun x8 _ q => ?_)
  refine bind_i (mr_town (RI_Gc h.1 q.1 q.2.1) ) (fun x9 _ o_ => ?_)
  exact ⟨_, rfl, _, rfl, fin1 q.2.2.2.2 o_⟩
theorem jl_291_23 {n : Int} (hn : n ≤ 1000000) {M : Mem} (h : Inv n M) (L : Nat) (xs : Nat → Int32) (v4 : Int32) (h0 : 0 ≤ v4.toInt) (h5 : v4.toInt + 5 ≤ (L : Int)) (hL : (L : Int) ≤ 2560) : ∃ o, j_law_291_23 L xs v4 M = some o ∧ LQ n v4 o := by
  have a1 : (v4 + (1 : Int32)).toInt = v4.toInt + 1 := add_ti rfl rfl (by omega) (by omega)
  have a2 : (v4 + (2 : Int32)).toInt = v4.toInt + 2 := add_ti rfl rfl (by omega) (by omega)
  have a3 : (v4 + (3 : Int32)).toInt = v4.toInt + 3 := add_ti rfl rfl (by omega) (by omega)
  have a4 : (v4 + (4 : Int32)).toInt = v4.toInt + 4 := add_ti rfl rfl (by omega) (by omega)
  unfold j_law_291_23
  refine bind_i (sf_Top_folk  M h.1.1) (fun x11 _ q => ?_)
  refine bind_i (mr_folk hn (RI_Gc h.1 q.1 q.2.1) ) (fun x12 _ o_ => ?_)
  exact ⟨_, rfl, _, rfl, fin1 q.2.2.2.2 o_⟩
theorem jl_304_23 {n : Int} (hn : n ≤ 1000000) {M : Mem} (h : Inv n M) (L : Nat) (xs : Nat → Int32) (v4 : Int32) (h0 : 0 ≤ v4.toInt) (h5 : v4.toInt + 5 ≤ (L : Int)) (hL : (L : Int) ≤ 2560) : ∃ o, j_law_304_23 L xs v4 M = some o ∧ LQ n v4 o := by
  have a1 : (v4 + (1 : Int32)).toInt = v4.toInt + 1 := add_ti rfl rfl (by omega) (by omega)
  have a2 : (v4 + (2 : Int32)).toInt = v4.toInt + 2 := add_ti rfl rfl (by omega) (by omega)
  have a3 : (v4 + (3 : Int32)).toInt = v4.toInt + 3 := add_ti rfl rfl (by omega) (by omega)
  have a4 : (v4 + (4 : Int32)).toInt = v4.toInt + 4 := add_ti rfl rfl (by omega) (by omega)
  unfold j_law_304_23
  refine bind_i (sf_Top_rule  M h.1.1) (fun x14 _ q => ?_)
  refine bind_i (mr_rule (RI_Gc h.1 q.1 q.2.1) ) (fun x15 _ o_ => ?_)
  exact ⟨_, rfl, _, rfl, fin1 q.2.2.2.2 o_⟩
theorem jl_317_23 {n : Int} (hn : n ≤ 1000000) {M : Mem} (h : Inv n M) (L : Nat) (xs : Nat → Int32) (v4 : Int32) (h0 : 0 ≤ v4.toInt) (h5 : v4.toInt + 5 ≤ (L : Int)) (hL : (L : Int) ≤ 2560) : ∃ o, j_law_317_23 L xs v4 M = some o ∧ LQ n v4 o := by
  have a1 : (v4 + (1 : Int32)).toInt = v4.toInt + 1 := add_ti rfl rfl (by omega) (by omega)
  have a2 : (v4 + (2 : Int32)).toInt = v4.toInt + 2 := add_ti rfl rfl (by omega) (by omega)
  have a3 : (v4 + (3 : Int32)).toInt = v4.toInt + 3 := add_ti rfl rfl (by omega) (by omega)
  have a4 : (v4 + (4 : Int32)).toInt = v4.toInt + 4 := add_ti rfl rfl (by omega) (by omega)
  unfold j_law_317_23
  refine inb_i (by omega) (by omega) ?_
  refine bind_i (sf_Top_route (xs (v4 + (1 : Int32)).toNatClampNeg) M h.1.1) (fun x17 _ q => ?_)
  refine inb_i (by omega) (by omega) ?_
  refine bind_i (mr_route hn (RI_Gc h.1 q.1 q.2.1) (xs (v4 + (1 : Int32)).toNatClampNeg)) (fun x18 _ o_ => ?_)
  exact ⟨_, rfl, _, rfl, fin1 q.2.2.2.2 o_⟩
theorem jl_342_23 {n : Int} (hn : n ≤ 1000000) {M : Mem} (h : Inv n M) (L : Nat) (xs : Nat → Int32) (v4 : Int32) (h0 : 0 ≤ v4.toInt) (h5 : v4.toInt + 5 ≤ (L : Int)) (hL : (L : Int) ≤ 2560) : ∃ o, j_law_342_23 L xs v4 M = some o ∧ LQ n v4 o := by
  have a1 : (v4 + (1 : Int32)).toInt = v4.toInt + 1 := add_ti rfl rfl (by omega) (by omega)
  have a2 : (v4 + (2 : Int32)).toInt = v4.toInt + 2 := add_ti rfl rfl (by omega) (by omega)
  have a3 : (v4 + (3 : Int32)).toInt = v4.toInt + 3 := add_ti rfl rfl (by omega) (by omega)
  have a4 : (v4 + (4 : Int32)).toInt = v4.toInt + 4 := add_ti rfl rfl (by omega) (by omega)
  unfold j_law_342_23
  refine inb_i (by omega) (by omega) ?_
  refine inb_i (by omega) (by omega) ?_
  refine bind_i (ct_Lw_cell h.1.1 (xs (v4 + (1 : Int32)).toNatClampNeg) (xs (v4 + (2 : Int32)).toNatClampNeg)) (fun x20 _ q => ?_)
  refine inb_i (by omega) (by omega) ?_
  refine inb_i (by omega) (by omega) ?_
  refine bind_i (mr_cell (RI_Gc h.1 q.1 q.2) (xs (v4 + (1 : Int32)).toNatClampNeg) (xs (v4 + (2 : Int32)).toNatClampNeg)) (fun x21 _ o_ => ?_)
  exact ⟨_, rfl, _, rfl, fin0 h q.2 o_⟩
theorem jl_382_23 {n : Int} (hn : n ≤ 1000000) {M : Mem} (h : Inv n M) (L : Nat) (xs : Nat → Int32) (v4 : Int32) (h0 : 0 ≤ v4.toInt) (h5 : v4.toInt + 5 ≤ (L : Int)) (hL : (L : Int) ≤ 2560) : ∃ o, j_law_382_23 L xs v4 M = some o ∧ LQ n v4 o := by
  have a1 : (v4 + (1 : Int32)).toInt = v4.toInt + 1 := add_ti rfl rfl (by omega) (by omega)
  have a2 : (v4 + (2 : Int32)).toInt = v4.toInt + 2 := add_ti rfl rfl (by omega) (by omega)
  have a3 : (v4 + (3 : Int32)).toInt = v4.toInt + 3 := add_ti rfl rfl (by omega) (by omega)
  have a4 : (v4 + (4 : Int32)).toInt = v4.toInt + 4 := add_ti rfl rfl (by omega) (by omega)
  unfold j_law_382_23
  refine inb_i (by omega) (by omega) ?_
  refine inb_i (by omega) (by omega) ?_
  refine bind_i (ct_Lw_person h.1.1 (xs (v4 + (1 : Int32)).toNatClampNeg) (xs (v4 + (2 : Int32)).toNatClampNeg)) (fun x23 _ q => ?_)
  refine inb_i (by omega) (by omega) ?_
  refine inb_i (by omega) (by omega) ?_
  refine bind_i (mr_person (RI_Gc h.1 q.1 q.2) (xs (v4 + (1 : Int32)).toNatClampNeg) (xs (v4 + (2 : Int32)).toNatClampNeg)) (fun x24 _ o_ => ?_)
  exact ⟨_, rfl, _, rfl, fin0 h q.2 o_⟩
theorem jl_422_23 {n : Int} (hn : n ≤ 1000000) {M : Mem} (h : Inv n M) (L : Nat) (xs : Nat → Int32) (v4 : Int32) (h0 : 0 ≤ v4.toInt) (h5 : v4.toInt + 5 ≤ (L : Int)) (hL : (L : Int) ≤ 2560) : ∃ o, j_law_422_23 L xs v4 M = some o ∧ LQ n v4 o := by
  have a1 : (v4 + (1 : Int32)).toInt = v4.toInt + 1 := add_ti rfl rfl (by omega) (by omega)
  have a2 : (v4 + (2 : Int32)).toInt = v4.toInt + 2 := add_ti rfl rfl (by omega) (by omega)
  have a3 : (v4 + (3 : Int32)).toInt = v4.toInt + 3 := add_ti rfl rfl (by omega) (by omega)
  have a4 : (v4 + (4 : Int32)).toInt = v4.toInt + 4 := add_ti rfl rfl (by omega) (by omega)
  unfold j_law_422_23
  refine inb_i (by omega) (by omega) ?_
  refine inb_i (by omega) (by omega) ?_
  refine bind_i (sf_Top_build (xs (v4 + (1 : Int32)).toNatClampNeg) (xs (v4 + (2 : Int32)).toNatClampNeg) M h.1.1) (fun x26 _ q => ?_)
  refine inb_i (by omega) (by omega) ?_
  refine inb_i (by omega) (by omega) ?_
  refine bind_i (mr_build hn (RI_Gc h.1 q.1 q.2) (xs (v4 + (1 : Int32)).toNatClampNeg) (xs (v4 + (2 : Int32)).toNatClampNeg)) (fun x27 _ o_ => ?_)
  exact ⟨_, rfl, _, rfl, fin0 h q.2 o_⟩
theorem jl_459_23 {n : Int} (hn : n ≤ 1000000) {M : Mem} (h : Inv n M) (L : Nat) (xs : Nat → Int32) (v4 : Int32) (h0 : 0 ≤ v4.toInt) (h5 : v4.toInt + 5 ≤ (L : Int)) (hL : (L : Int) ≤ 2560) : ∃ o, j_law_459_23 L xs v4 M = some o ∧ LQ n v4 o := by
  have a1 : (v4 + (1 : Int32)).toInt = v4.toInt + 1 := add_ti rfl rfl (by omega) (by omega)
  have a2 : (v4 + (2 : Int32)).toInt = v4.toInt + 2 := add_ti rfl rfl (by omega) (by omega)
  have a3 : (v4 + (3 : Int32)).toInt = v4.toInt + 3 := add_ti rfl rfl (by omega) (by omega)
  have a4 : (v4 + (4 : Int32)).toInt = v4.toInt + 4 := add_ti rfl rfl (by omega) (by omega)
  unfold j_law_459_23
  refine inb_i (by omega) (by omega) ?_
  refine inb_i (by omega) (by omega) ?_
  refine bind_i (sf_Top_plank (xs (v4 + (1 : Int32)).toNatClampNeg) (xs (v4 + (2 : Int32)).toNatClampNeg) M h.1.1) (fun x29 _ q => ?_)
  refine inb_i (by omega) (by omega) ?_
  refine inb_i (by omega) (by omega) ?_
  refine bind_i (mr_plank (RI_Gc h.1 q.1 q.2) (xs (v4 + (1 : Int32)).toNatClampNeg) (xs (v4 + (2 : Int32)).toNatClampNeg)) (fun x30 _ o_ => ?_)
  exact ⟨_, rfl, _, rfl, fin0 h q.2 o_⟩
theorem jl_496_23 {n : Int} (hn : n ≤ 1000000) {M : Mem} (h : Inv n M) (L : Nat) (xs : Nat → Int32) (v4 : Int32) (h0 : 0 ≤ v4.toInt) (h5 : v4.toInt + 5 ≤ (L : Int)) (hL : (L : Int) ≤ 2560) : ∃ o, j_law_496_23 L xs v4 M = some o ∧ LQ n v4 o := by
  have a1 : (v4 + (1 : Int32)).toInt = v4.toInt + 1 := add_ti rfl rfl (by omega) (by omega)
  have a2 : (v4 + (2 : Int32)).toInt = v4.toInt + 2 := add_ti rfl rfl (by omega) (by omega)
  have a3 : (v4 + (3 : Int32)).toInt = v4.toInt + 3 := add_ti rfl rfl (by omega) (by omega)
  have a4 : (v4 + (4 : Int32)).toInt = v4.toInt + 4 := add_ti rfl rfl (by omega) (by omega)
  unfold j_law_496_23
  refine bind_i (sf_Top_take  M h.1.1) (fun x32 _ q => ?_)
  refine bind_i (mr_take (RI_Gc h.1 q.1 q.2) ) (fun x33 _ o_ => ?_)
  exact ⟨_, rfl, _, rfl, fin0 h q.2 o_⟩
theorem jl_509_23 {n : Int} (hn : n ≤ 1000000) {M : Mem} (h : Inv n M) (L : Nat) (xs : Nat → Int32) (v4 : Int32) (h0 : 0 ≤ v4.toInt) (h5 : v4.toInt + 5 ≤ (L : Int)) (hL : (L : Int) ≤ 2560) : ∃ o, j_law_509_23 L xs v4 M = some o ∧ LQ n v4 o := by
  have a1 : (v4 + (1 : Int32)).toInt = v4.toInt + 1 := add_ti rfl rfl (by omega) (by omega)
  have a2 : (v4 + (2 : Int32)).toInt = v4.toInt + 2 := add_ti rfl rfl (by omega) (by omega)
  have a3 : (v4 + (3 : Int32)).toInt = v4.toInt + 3 := add_ti rfl rfl (by omega) (by omega)
  have a4 : (v4 + (4 : Int32)).toInt = v4.toInt + 4 := add_ti rfl rfl (by omega) (by omega)
  unfold j_law_509_23
  refine inb_i (by omega) (by omega) ?_
  refine inb_i (by omega) (by omega) ?_
  refine inb_i (by omega) (by omega) ?_
  refine inb_i (by omega) (by omega) ?_
  refine bind_i (sf_Top_sheet (xs (v4 + (1 : Int32)).toNatClampNeg) (xs (v4 + (2 : Int32)).toNatClampNeg) (xs (v4 + (3 : Int32)).toNatClampNeg) (xs (v4 + (4 : Int32)).toNatClampNeg) M h.1.1) (fun x35 _ q => ?_)
  refine inb_i (by omega) (by omega) ?_
  refine inb_i (by omega) (by omega) ?_
  refine inb_i (by omega) (by omega) ?_
  refine inb_i (by omega) (by omega) ?_
  refine bind_i (mr_sheet (RI_Gc h.1 q.1 q.2) (xs (v4 + (1 : Int32)).toNatClampNeg) (xs (v4 + (2 : Int32)).toNatClampNeg) (xs (v4 + (3 : Int32)).toNatClampNeg) (xs (v4 + (4 : Int32)).toNatClampNeg)) (fun x36 _ o_ => ?_)
  exact ⟨_, rfl, _, rfl, fin0 h q.2 o_⟩
theorem jl_570_23 {n : Int} (hn : n ≤ 1000000) {M : Mem} (h : Inv n M) (L : Nat) (xs : Nat → Int32) (v4 : Int32) (h0 : 0 ≤ v4.toInt) (h5 : v4.toInt + 5 ≤ (L : Int)) (hL : (L : Int) ≤ 2560) : ∃ o, j_law_570_23 L xs v4 M = some o ∧ LQ n v4 o := by
  have a1 : (v4 + (1 : Int32)).toInt = v4.toInt + 1 := add_ti rfl rfl (by omega) (by omega)
  have a2 : (v4 + (2 : Int32)).toInt = v4.toInt + 2 := add_ti rfl rfl (by omega) (by omega)
  have a3 : (v4 + (3 : Int32)).toInt = v4.toInt + 3 := add_ti rfl rfl (by omega) (by omega)
  have a4 : (v4 + (4 : Int32)).toInt = v4.toInt + 4 := add_ti rfl rfl (by omega) (by omega)
  unfold j_law_570_23
  refine inb_i (by omega) (by omega) ?_
  refine bind_i (sf_Top_tell (xs (v4 + (1 : Int32)).toNatClampNeg) M h.1.1) (fun x38 _ q => ?_)
  refine inb_i (by omega) (by omega) ?_
  refine bind_i (mr_tell (RI_Gc h.1 q.1 q.2.1) (xs (v4 + (1 : Int32)).toNatClampNeg)) (fun x39 _ o_ => ?_)
  exact ⟨_, rfl, _, rfl, fin0 h q.2.1 o_⟩
theorem jl_595_23 {n : Int} (hn : n ≤ 1000000) {M : Mem} (h : Inv n M) (L : Nat) (xs : Nat → Int32) (v4 : Int32) (h0 : 0 ≤ v4.toInt) (h5 : v4.toInt + 5 ≤ (L : Int)) (hL : (L : Int) ≤ 2560) : ∃ o, j_law_595_23 L xs v4 M = some o ∧ LQ n v4 o := by
  have a1 : (v4 + (1 : Int32)).toInt = v4.toInt + 1 := add_ti rfl rfl (by omega) (by omega)
  have a2 : (v4 + (2 : Int32)).toInt = v4.toInt + 2 := add_ti rfl rfl (by omega) (by omega)
  have a3 : (v4 + (3 : Int32)).toInt = v4.toInt + 3 := add_ti rfl rfl (by omega) (by omega)
  have a4 : (v4 + (4 : Int32)).toInt = v4.toInt + 4 := add_ti rfl rfl (by omega) (by omega)
  unfold j_law_595_23
  refine inb_i (by omega) (by omega) ?_
  refine bind_i (sf_Top_feast (xs (v4 + (1 : Int32)).toNatClampNeg) M h.1.1) (fun x41 _ q => ?_)
  refine inb_i (by omega) (by omega) ?_
  refine bind_i (mr_feast (RI_Gc h.1 q.1 q.2) (xs (v4 + (1 : Int32)).toNatClampNeg)) (fun x42 _ o_ => ?_)
  exact ⟨_, rfl, _, rfl, fin0 h q.2 o_⟩
theorem jl_620_23 {n : Int} (hn : n ≤ 1000000) {M : Mem} (h : Inv n M) (L : Nat) (xs : Nat → Int32) (v4 : Int32) (h0 : 0 ≤ v4.toInt) (h5 : v4.toInt + 5 ≤ (L : Int)) (hL : (L : Int) ≤ 2560) : ∃ o, j_law_620_23 L xs v4 M = some o ∧ LQ n v4 o := by
  have a1 : (v4 + (1 : Int32)).toInt = v4.toInt + 1 := add_ti rfl rfl (by omega) (by omega)
  have a2 : (v4 + (2 : Int32)).toInt = v4.toInt + 2 := add_ti rfl rfl (by omega) (by omega)
  have a3 : (v4 + (3 : Int32)).toInt = v4.toInt + 3 := add_ti rfl rfl (by omega) (by omega)
  have a4 : (v4 + (4 : Int32)).toInt = v4.toInt + 4 := add_ti rfl rfl (by omega) (by omega)
  unfold j_law_620_23
  refine bind_i (sf_Top_minute  M h.1.1) (fun x44 _ q => ?_)
  refine bind_i (mr_minute (RI_Gc h.1 q.1 q.2) ) (fun x45 _ o_ => ?_)
  exact ⟨_, rfl, _, rfl, fin0 h q.2 o_⟩
theorem jl_633_23 {n : Int} (hn : n ≤ 1000000) {M : Mem} (h : Inv n M) (L : Nat) (xs : Nat → Int32) (v4 : Int32) (h0 : 0 ≤ v4.toInt) (h5 : v4.toInt + 5 ≤ (L : Int)) (hL : (L : Int) ≤ 2560) : ∃ o, j_law_633_23 L xs v4 M = some o ∧ LQ n v4 o := by
  have a1 : (v4 + (1 : Int32)).toInt = v4.toInt + 1 := add_ti rfl rfl (by omega) (by omega)
  have a2 : (v4 + (2 : Int32)).toInt = v4.toInt + 2 := add_ti rfl rfl (by omega) (by omega)
  have a3 : (v4 + (3 : Int32)).toInt = v4.toInt + 3 := add_ti rfl rfl (by omega) (by omega)
  have a4 : (v4 + (4 : Int32)).toInt = v4.toInt + 4 := add_ti rfl rfl (by omega) (by omega)
  unfold j_law_633_23
  refine inb_i (by omega) (by omega) ?_
  refine bind_i (sf_Top_minutes (xs (v4 + (1 : Int32)).toNatClampNeg) M h.1.1) (fun x47 _ q => ?_)
  refine inb_i (by omega) (by omega) ?_
  refine bind_i (mr_minutes (RI_Gc h.1 q.1 q.2) (xs (v4 + (1 : Int32)).toNatClampNeg)) (fun x48 _ o_ => ?_)
  exact ⟨_, rfl, _, rfl, fin0 h q.2 o_⟩
theorem jl_658_23 {n : Int} (hn : n ≤ 1000000) {M : Mem} (h : Inv n M) (L : Nat) (xs : Nat → Int32) (v4 : Int32) (h0 : 0 ≤ v4.toInt) (h5 : v4.toInt + 5 ≤ (L : Int)) (hL : (L : Int) ≤ 2560) : ∃ o, j_law_658_23 L xs v4 M = some o ∧ LQ n v4 o := by
  have a1 : (v4 + (1 : Int32)).toInt = v4.toInt + 1 := add_ti rfl rfl (by omega) (by omega)
  have a2 : (v4 + (2 : Int32)).toInt = v4.toInt + 2 := add_ti rfl rfl (by omega) (by omega)
  have a3 : (v4 + (3 : Int32)).toInt = v4.toInt + 3 := add_ti rfl rfl (by omega) (by omega)
  have a4 : (v4 + (4 : Int32)).toInt = v4.toInt + 4 := add_ti rfl rfl (by omega) (by omega)
  unfold j_law_658_23
  refine bind_i (sf_Top_evening  M h.1.1) (fun x50 _ q => ?_)
  refine bind_i (mr_evening (RI_Gc h.1 q.1 q.2.1) ) (fun x51 _ o_ => ?_)
  exact ⟨_, rfl, _, rfl, fin1 q.2.2.2 o_⟩
theorem jl_671_23 {n : Int} (hn : n ≤ 1000000) {M : Mem} (h : Inv n M) (L : Nat) (xs : Nat → Int32) (v4 : Int32) (h0 : 0 ≤ v4.toInt) (h5 : v4.toInt + 5 ≤ (L : Int)) (hL : (L : Int) ≤ 2560) : ∃ o, j_law_671_23 L xs v4 M = some o ∧ LQ n v4 o := by
  have a1 : (v4 + (1 : Int32)).toInt = v4.toInt + 1 := add_ti rfl rfl (by omega) (by omega)
  have a2 : (v4 + (2 : Int32)).toInt = v4.toInt + 2 := add_ti rfl rfl (by omega) (by omega)
  have a3 : (v4 + (3 : Int32)).toInt = v4.toInt + 3 := add_ti rfl rfl (by omega) (by omega)
  have a4 : (v4 + (4 : Int32)).toInt = v4.toInt + 4 := add_ti rfl rfl (by omega) (by omega)
  unfold j_law_671_23
  refine bind_i (sf_Top_undo  M h.1.1) (fun x53 _ q => ?_)
  refine bind_i (mr_undo (RI_Gc h.1 q.1 q.2.1) ) (fun x54 _ o_ => ?_)
  exact ⟨_, rfl, _, rfl, fin0 h q.2.1 o_⟩
theorem jl_684_23 {n : Int} (hn : n ≤ 1000000) {M : Mem} (h : Inv n M) (L : Nat) (xs : Nat → Int32) (v4 : Int32) (h0 : 0 ≤ v4.toInt) (h5 : v4.toInt + 5 ≤ (L : Int)) (hL : (L : Int) ≤ 2560) : ∃ o, j_law_684_23 L xs v4 M = some o ∧ LQ n v4 o := by
  have a1 : (v4 + (1 : Int32)).toInt = v4.toInt + 1 := add_ti rfl rfl (by omega) (by omega)
  have a2 : (v4 + (2 : Int32)).toInt = v4.toInt + 2 := add_ti rfl rfl (by omega) (by omega)
  have a3 : (v4 + (3 : Int32)).toInt = v4.toInt + 3 := add_ti rfl rfl (by omega) (by omega)
  have a4 : (v4 + (4 : Int32)).toInt = v4.toInt + 4 := add_ti rfl rfl (by omega) (by omega)
  unfold j_law_684_23
  refine inb_i (by omega) (by omega) ?_
  refine inb_i (by omega) (by omega) ?_
  refine bind_i (sf_Top_met (xs (v4 + (1 : Int32)).toNatClampNeg) (xs (v4 + (2 : Int32)).toNatClampNeg) M h.1.1) (fun x56 _ _ => ?_)
  refine inb_i (by omega) (by omega) ?_
  refine inb_i (by omega) (by omega) ?_
  refine bind_i (mr_met h.1 (xs (v4 + (1 : Int32)).toNatClampNeg) (xs (v4 + (2 : Int32)).toNatClampNeg)) (fun x57 _ o_ => ?_)
  exact ⟨_, rfl, _, rfl, fin0 h Gc_r o_⟩
theorem jl_721_23 {n : Int} (hn : n ≤ 1000000) {M : Mem} (h : Inv n M) (L : Nat) (xs : Nat → Int32) (v4 : Int32) (h0 : 0 ≤ v4.toInt) (h5 : v4.toInt + 5 ≤ (L : Int)) (hL : (L : Int) ≤ 2560) : ∃ o, j_law_721_23 L xs v4 M = some o ∧ LQ n v4 o := by
  have a1 : (v4 + (1 : Int32)).toInt = v4.toInt + 1 := add_ti rfl rfl (by omega) (by omega)
  have a2 : (v4 + (2 : Int32)).toInt = v4.toInt + 2 := add_ti rfl rfl (by omega) (by omega)
  have a3 : (v4 + (3 : Int32)).toInt = v4.toInt + 3 := add_ti rfl rfl (by omega) (by omega)
  have a4 : (v4 + (4 : Int32)).toInt = v4.toInt + 4 := add_ti rfl rfl (by omega) (by omega)
  unfold j_law_721_23
  refine inb_i (by omega) (by omega) ?_
  refine bind_i (sf_Top_ahead (xs (v4 + (1 : Int32)).toNatClampNeg) M h.1.1) (fun x59 _ q => ?_)
  refine inb_i (by omega) (by omega) ?_
  refine bind_i (mr_ahead (RI_Gc h.1 q.1 q.2) (xs (v4 + (1 : Int32)).toNatClampNeg)) (fun x60 _ o_ => ?_)
  exact ⟨_, rfl, _, rfl, fin0 h q.2 o_⟩
theorem jl_746_23 {n : Int} (hn : n ≤ 1000000) {M : Mem} (h : Inv n M) (L : Nat) (xs : Nat → Int32) (v4 : Int32) (h0 : 0 ≤ v4.toInt) (h5 : v4.toInt + 5 ≤ (L : Int)) (hL : (L : Int) ≤ 2560) : ∃ o, j_law_746_23 L xs v4 M = some o ∧ LQ n v4 o := by
  have a1 : (v4 + (1 : Int32)).toInt = v4.toInt + 1 := add_ti rfl rfl (by omega) (by omega)
  have a2 : (v4 + (2 : Int32)).toInt = v4.toInt + 2 := add_ti rfl rfl (by omega) (by omega)
  have a3 : (v4 + (3 : Int32)).toInt = v4.toInt + 3 := add_ti rfl rfl (by omega) (by omega)
  have a4 : (v4 + (4 : Int32)).toInt = v4.toInt + 4 := add_ti rfl rfl (by omega) (by omega)
  unfold j_law_746_23
  refine inb_i (by omega) (by omega) ?_
  refine inb_i (by omega) (by omega) ?_
  refine bind_i (sf_Top_meet (xs (v4 + (1 : Int32)).toNatClampNeg) (xs (v4 + (2 : Int32)).toNatClampNeg) M h.1.1) (fun x62 _ q => ?_)
  refine inb_i (by omega) (by omega) ?_
  refine inb_i (by omega) (by omega) ?_
  refine bind_i (mr_meet (RI_Gc h.1 q.1 q.2.1) (xs (v4 + (1 : Int32)).toNatClampNeg) (xs (v4 + (2 : Int32)).toNatClampNeg)) (fun x63 _ o_ => ?_)
  exact ⟨_, rfl, _, rfl, fin0 h q.2.1 o_⟩
theorem jl_783_23 {n : Int} (hn : n ≤ 1000000) {M : Mem} (h : Inv n M) (L : Nat) (xs : Nat → Int32) (v4 : Int32) (h0 : 0 ≤ v4.toInt) (h5 : v4.toInt + 5 ≤ (L : Int)) (hL : (L : Int) ≤ 2560) : ∃ o, j_law_783_23 L xs v4 M = some o ∧ LQ n v4 o := by
  have a1 : (v4 + (1 : Int32)).toInt = v4.toInt + 1 := add_ti rfl rfl (by omega) (by omega)
  have a2 : (v4 + (2 : Int32)).toInt = v4.toInt + 2 := add_ti rfl rfl (by omega) (by omega)
  have a3 : (v4 + (3 : Int32)).toInt = v4.toInt + 3 := add_ti rfl rfl (by omega) (by omega)
  have a4 : (v4 + (4 : Int32)).toInt = v4.toInt + 4 := add_ti rfl rfl (by omega) (by omega)
  unfold j_law_783_23
  refine bind_i (sf_Top_known  M h.1.1) (fun x65 _ q => ?_)
  refine bind_i (mr_known (RI_Gc h.1 q.1 q.2) ) (fun x66 _ o_ => ?_)
  exact ⟨_, rfl, _, rfl, fin0 h q.2 o_⟩
theorem jl_796_23 {n : Int} (hn : n ≤ 1000000) {M : Mem} (h : Inv n M) (L : Nat) (xs : Nat → Int32) (v4 : Int32) (h0 : 0 ≤ v4.toInt) (h5 : v4.toInt + 5 ≤ (L : Int)) (hL : (L : Int) ≤ 2560) : ∃ o, j_law_796_23 L xs v4 M = some o ∧ LQ n v4 o := by
  have a1 : (v4 + (1 : Int32)).toInt = v4.toInt + 1 := add_ti rfl rfl (by omega) (by omega)
  have a2 : (v4 + (2 : Int32)).toInt = v4.toInt + 2 := add_ti rfl rfl (by omega) (by omega)
  have a3 : (v4 + (3 : Int32)).toInt = v4.toInt + 3 := add_ti rfl rfl (by omega) (by omega)
  have a4 : (v4 + (4 : Int32)).toInt = v4.toInt + 4 := add_ti rfl rfl (by omega) (by omega)
  unfold j_law_796_23
  refine inb_i (by omega) (by omega) ?_
  refine bind_i (sf_Top_gossip (xs (v4 + (1 : Int32)).toNatClampNeg) M h.1.1) (fun x68 _ q => ?_)
  refine inb_i (by omega) (by omega) ?_
  refine bind_i (mr_gossip (RI_Gc h.1 q.1 q.2.1) (xs (v4 + (1 : Int32)).toNatClampNeg)) (fun x69 _ o_ => ?_)
  exact ⟨_, rfl, _, rfl, fin0 h q.2.1 o_⟩
theorem jl_821_23 {n : Int} (hn : n ≤ 1000000) {M : Mem} (h : Inv n M) (L : Nat) (xs : Nat → Int32) (v4 : Int32) (h0 : 0 ≤ v4.toInt) (h5 : v4.toInt + 5 ≤ (L : Int)) (hL : (L : Int) ≤ 2560) : ∃ o, j_law_821_23 L xs v4 M = some o ∧ LQ n v4 o := by
  have a1 : (v4 + (1 : Int32)).toInt = v4.toInt + 1 := add_ti rfl rfl (by omega) (by omega)
  have a2 : (v4 + (2 : Int32)).toInt = v4.toInt + 2 := add_ti rfl rfl (by omega) (by omega)
  have a3 : (v4 + (3 : Int32)).toInt = v4.toInt + 3 := add_ti rfl rfl (by omega) (by omega)
  have a4 : (v4 + (4 : Int32)).toInt = v4.toInt + 4 := add_ti rfl rfl (by omega) (by omega)
  unfold j_law_821_23
  refine inb_i (by omega) (by omega) ?_
  refine bind_i (sf_Top_pieces (xs (v4 + (1 : Int32)).toNatClampNeg) M h.1.1) (fun x71 _ q => ?_)
  refine inb_i (by omega) (by omega) ?_
  refine bind_i (mr_pieces (RI_Gc h.1 q.1 q.2) (xs (v4 + (1 : Int32)).toNatClampNeg)) (fun x72 _ o_ => ?_)
  exact ⟨_, rfl, _, rfl, fin0 h q.2 o_⟩
theorem jl_846_23 {n : Int} (hn : n ≤ 1000000) {M : Mem} (h : Inv n M) (L : Nat) (xs : Nat → Int32) (v4 : Int32) (h0 : 0 ≤ v4.toInt) (h5 : v4.toInt + 5 ≤ (L : Int)) (hL : (L : Int) ≤ 2560) : ∃ o, j_law_846_23 L xs v4 M = some o ∧ LQ n v4 o := by
  have a1 : (v4 + (1 : Int32)).toInt = v4.toInt + 1 := add_ti rfl rfl (by omega) (by omega)
  have a2 : (v4 + (2 : Int32)).toInt = v4.toInt + 2 := add_ti rfl rfl (by omega) (by omega)
  have a3 : (v4 + (3 : Int32)).toInt = v4.toInt + 3 := add_ti rfl rfl (by omega) (by omega)
  have a4 : (v4 + (4 : Int32)).toInt = v4.toInt + 4 := add_ti rfl rfl (by omega) (by omega)
  unfold j_law_846_23
  refine inb_i (by omega) (by omega) ?_
  refine inb_i (by omega) (by omega) ?_
  refine bind_i (sf_Top_reach (xs (v4 + (1 : Int32)).toNatClampNeg) (xs (v4 + (2 : Int32)).toNatClampNeg) M h.1.1) (fun x74 _ q => ?_)
  refine inb_i (by omega) (by omega) ?_
  refine inb_i (by omega) (by omega) ?_
  refine bind_i (mr_reach (RI_Gc h.1 q.1 q.2.1) (xs (v4 + (1 : Int32)).toNatClampNeg) (xs (v4 + (2 : Int32)).toNatClampNeg)) (fun x75 _ o_ => ?_)
  exact ⟨_, rfl, _, rfl, fin0 h q.2.1 o_⟩
theorem jl_883_23 {n : Int} (hn : n ≤ 1000000) {M : Mem} (h : Inv n M) (L : Nat) (xs : Nat → Int32) (v4 : Int32) (h0 : 0 ≤ v4.toInt) (h5 : v4.toInt + 5 ≤ (L : Int)) (hL : (L : Int) ≤ 2560) : ∃ o, j_law_883_23 L xs v4 M = some o ∧ LQ n v4 o := by
  have a1 : (v4 + (1 : Int32)).toInt = v4.toInt + 1 := add_ti rfl rfl (by omega) (by omega)
  have a2 : (v4 + (2 : Int32)).toInt = v4.toInt + 2 := add_ti rfl rfl (by omega) (by omega)
  have a3 : (v4 + (3 : Int32)).toInt = v4.toInt + 3 := add_ti rfl rfl (by omega) (by omega)
  have a4 : (v4 + (4 : Int32)).toInt = v4.toInt + 4 := add_ti rfl rfl (by omega) (by omega)
  unfold j_law_883_23
  refine inb_i (by omega) (by omega) ?_
  refine inb_i (by omega) (by omega) ?_
  refine inb_i (by omega) (by omega) ?_
  refine bind_i (sf_Top_path (xs (v4 + (1 : Int32)).toNatClampNeg) (xs (v4 + (2 : Int32)).toNatClampNeg) (xs (v4 + (3 : Int32)).toNatClampNeg) M h.1.1) (fun x77 _ q => ?_)
  refine inb_i (by omega) (by omega) ?_
  refine inb_i (by omega) (by omega) ?_
  refine inb_i (by omega) (by omega) ?_
  refine bind_i (mr_path (RI_Gc h.1 q.1 q.2.1) (xs (v4 + (1 : Int32)).toNatClampNeg) (xs (v4 + (2 : Int32)).toNatClampNeg) (xs (v4 + (3 : Int32)).toNatClampNeg)) (fun x78 _ o_ => ?_)
  exact ⟨_, rfl, _, rfl, fin0 h q.2.1 o_⟩
theorem jl_932_23 {n : Int} (hn : n ≤ 1000000) {M : Mem} (h : Inv n M) (L : Nat) (xs : Nat → Int32) (v4 : Int32) (h0 : 0 ≤ v4.toInt) (h5 : v4.toInt + 5 ≤ (L : Int)) (hL : (L : Int) ≤ 2560) : ∃ o, j_law_932_23 L xs v4 M = some o ∧ LQ n v4 o := by
  have a1 : (v4 + (1 : Int32)).toInt = v4.toInt + 1 := add_ti rfl rfl (by omega) (by omega)
  have a2 : (v4 + (2 : Int32)).toInt = v4.toInt + 2 := add_ti rfl rfl (by omega) (by omega)
  have a3 : (v4 + (3 : Int32)).toInt = v4.toInt + 3 := add_ti rfl rfl (by omega) (by omega)
  have a4 : (v4 + (4 : Int32)).toInt = v4.toInt + 4 := add_ti rfl rfl (by omega) (by omega)
  unfold j_law_932_23
  refine inb_i (by omega) (by omega) ?_
  refine inb_i (by omega) (by omega) ?_
  refine inb_i (by omega) (by omega) ?_
  refine inb_i (by omega) (by omega) ?_
  refine bind_i (sf_Top_both (xs (v4 + (1 : Int32)).toNatClampNeg) (xs (v4 + (2 : Int32)).toNatClampNeg) (xs (v4 + (3 : Int32)).toNatClampNeg) (xs (v4 + (4 : Int32)).toNatClampNeg) M h.1.1) (fun x80 _ q => ?_)
  refine inb_i (by omega) (by omega) ?_
  refine inb_i (by omega) (by omega) ?_
  refine inb_i (by omega) (by omega) ?_
  refine inb_i (by omega) (by omega) ?_
  refine bind_i (mr_both (RI_Gc h.1 q.1 q.2) (xs (v4 + (1 : Int32)).toNatClampNeg) (xs (v4 + (2 : Int32)).toNatClampNeg) (xs (v4 + (3 : Int32)).toNatClampNeg) (xs (v4 + (4 : Int32)).toNatClampNeg)) (fun x81 _ o_ => ?_)
  exact ⟨_, rfl, _, rfl, fin0 h q.2 o_⟩
theorem jl_993_23 {n : Int} (hn : n ≤ 1000000) {M : Mem} (h : Inv n M) (L : Nat) (xs : Nat → Int32) (v4 : Int32) (h0 : 0 ≤ v4.toInt) (h5 : v4.toInt + 5 ≤ (L : Int)) (hL : (L : Int) ≤ 2560) : ∃ o, j_law_993_23 L xs v4 M = some o ∧ LQ n v4 o := by
  have a1 : (v4 + (1 : Int32)).toInt = v4.toInt + 1 := add_ti rfl rfl (by omega) (by omega)
  have a2 : (v4 + (2 : Int32)).toInt = v4.toInt + 2 := add_ti rfl rfl (by omega) (by omega)
  have a3 : (v4 + (3 : Int32)).toInt = v4.toInt + 3 := add_ti rfl rfl (by omega) (by omega)
  have a4 : (v4 + (4 : Int32)).toInt = v4.toInt + 4 := add_ti rfl rfl (by omega) (by omega)
  unfold j_law_993_23
  refine inb_i (by omega) (by omega) ?_
  refine inb_i (by omega) (by omega) ?_
  refine bind_i (sf_Top_errand (xs (v4 + (1 : Int32)).toNatClampNeg) (xs (v4 + (2 : Int32)).toNatClampNeg) M h.1.1) (fun x83 _ q => ?_)
  refine inb_i (by omega) (by omega) ?_
  refine inb_i (by omega) (by omega) ?_
  refine bind_i (mr_errand (RI_Gc h.1 q.1 q.2.1) (xs (v4 + (1 : Int32)).toNatClampNeg) (xs (v4 + (2 : Int32)).toNatClampNeg)) (fun x84 _ o_ => ?_)
  exact ⟨_, rfl, _, rfl, fin0 h q.2.1 o_⟩
theorem jl_1030_23 {n : Int} (hn : n ≤ 1000000) {M : Mem} (h : Inv n M) (L : Nat) (xs : Nat → Int32) (v4 : Int32) (h0 : 0 ≤ v4.toInt) (h5 : v4.toInt + 5 ≤ (L : Int)) (hL : (L : Int) ≤ 2560) : ∃ o, j_law_1030_23 L xs v4 M = some o ∧ LQ n v4 o := by
  have a1 : (v4 + (1 : Int32)).toInt = v4.toInt + 1 := add_ti rfl rfl (by omega) (by omega)
  have a2 : (v4 + (2 : Int32)).toInt = v4.toInt + 2 := add_ti rfl rfl (by omega) (by omega)
  have a3 : (v4 + (3 : Int32)).toInt = v4.toInt + 3 := add_ti rfl rfl (by omega) (by omega)
  have a4 : (v4 + (4 : Int32)).toInt = v4.toInt + 4 := add_ti rfl rfl (by omega) (by omega)
  unfold j_law_1030_23
  refine inb_i (by omega) (by omega) ?_
  refine inb_i (by omega) (by omega) ?_
  refine bind_i (sf_Top_tryst (xs (v4 + (1 : Int32)).toNatClampNeg) (xs (v4 + (2 : Int32)).toNatClampNeg) M h.1.1) (fun x86 _ q => ?_)
  refine inb_i (by omega) (by omega) ?_
  refine inb_i (by omega) (by omega) ?_
  refine bind_i (mr_tryst (RI_Gc h.1 q.1 q.2.1) (xs (v4 + (1 : Int32)).toNatClampNeg) (xs (v4 + (2 : Int32)).toNatClampNeg)) (fun x87 _ o_ => ?_)
  exact ⟨_, rfl, _, rfl, fin0 h q.2.1 o_⟩
theorem jl_1067_23 {n : Int} (hn : n ≤ 1000000) {M : Mem} (h : Inv n M) (L : Nat) (xs : Nat → Int32) (v4 : Int32) (h0 : 0 ≤ v4.toInt) (h5 : v4.toInt + 5 ≤ (L : Int)) (hL : (L : Int) ≤ 2560) : ∃ o, j_law_1067_23 L xs v4 M = some o ∧ LQ n v4 o := by
  have a1 : (v4 + (1 : Int32)).toInt = v4.toInt + 1 := add_ti rfl rfl (by omega) (by omega)
  have a2 : (v4 + (2 : Int32)).toInt = v4.toInt + 2 := add_ti rfl rfl (by omega) (by omega)
  have a3 : (v4 + (3 : Int32)).toInt = v4.toInt + 3 := add_ti rfl rfl (by omega) (by omega)
  have a4 : (v4 + (4 : Int32)).toInt = v4.toInt + 4 := add_ti rfl rfl (by omega) (by omega)
  unfold j_law_1067_23
  refine inb_i (by omega) (by omega) ?_
  refine inb_i (by omega) (by omega) ?_
  refine bind_i (sf_Top_open (xs (v4 + (1 : Int32)).toNatClampNeg) (xs (v4 + (2 : Int32)).toNatClampNeg) M h.1.1) (fun x89 _ q => ?_)
  refine inb_i (by omega) (by omega) ?_
  refine inb_i (by omega) (by omega) ?_
  refine bind_i (mr_open (RI_Gc h.1 q.1 q.2.1) (xs (v4 + (1 : Int32)).toNatClampNeg) (xs (v4 + (2 : Int32)).toNatClampNeg)) (fun x90 _ o_ => ?_)
  exact ⟨_, rfl, _, rfl, fin0 h q.2.1 o_⟩
theorem jl_1104_23 {n : Int} (hn : n ≤ 1000000) {M : Mem} (h : Inv n M) (L : Nat) (xs : Nat → Int32) (v4 : Int32) (h0 : 0 ≤ v4.toInt) (h5 : v4.toInt + 5 ≤ (L : Int)) (hL : (L : Int) ≤ 2560) : ∃ o, j_law_1104_23 L xs v4 M = some o ∧ LQ n v4 o := by
  have a1 : (v4 + (1 : Int32)).toInt = v4.toInt + 1 := add_ti rfl rfl (by omega) (by omega)
  have a2 : (v4 + (2 : Int32)).toInt = v4.toInt + 2 := add_ti rfl rfl (by omega) (by omega)
  have a3 : (v4 + (3 : Int32)).toInt = v4.toInt + 3 := add_ti rfl rfl (by omega) (by omega)
  have a4 : (v4 + (4 : Int32)).toInt = v4.toInt + 4 := add_ti rfl rfl (by omega) (by omega)
  unfold j_law_1104_23
  refine inb_i (by omega) (by omega) ?_
  refine inb_i (by omega) (by omega) ?_
  refine bind_i (sf_Top_part (xs (v4 + (1 : Int32)).toNatClampNeg) (xs (v4 + (2 : Int32)).toNatClampNeg) M h.1.1) (fun x92 _ q => ?_)
  refine inb_i (by omega) (by omega) ?_
  refine inb_i (by omega) (by omega) ?_
  refine bind_i (mr_part (RI_Gc h.1 q.1 q.2.1) (xs (v4 + (1 : Int32)).toNatClampNeg) (xs (v4 + (2 : Int32)).toNatClampNeg)) (fun x93 _ o_ => ?_)
  exact ⟨_, rfl, _, rfl, fin0 h q.2.1 o_⟩
theorem jl_1141_23 {n : Int} (hn : n ≤ 1000000) {M : Mem} (h : Inv n M) (L : Nat) (xs : Nat → Int32) (v4 : Int32) (h0 : 0 ≤ v4.toInt) (h5 : v4.toInt + 5 ≤ (L : Int)) (hL : (L : Int) ≤ 2560) : ∃ o, j_law_1141_23 L xs v4 M = some o ∧ LQ n v4 o := by
  have a1 : (v4 + (1 : Int32)).toInt = v4.toInt + 1 := add_ti rfl rfl (by omega) (by omega)
  have a2 : (v4 + (2 : Int32)).toInt = v4.toInt + 2 := add_ti rfl rfl (by omega) (by omega)
  have a3 : (v4 + (3 : Int32)).toInt = v4.toInt + 3 := add_ti rfl rfl (by omega) (by omega)
  have a4 : (v4 + (4 : Int32)).toInt = v4.toInt + 4 := add_ti rfl rfl (by omega) (by omega)
  unfold j_law_1141_23
  refine inb_i (by omega) (by omega) ?_
  refine inb_i (by omega) (by omega) ?_
  refine bind_i (sf_Top_planks (xs (v4 + (1 : Int32)).toNatClampNeg) (xs (v4 + (2 : Int32)).toNatClampNeg) M h.1.1) (fun x95 _ q => ?_)
  refine inb_i (by omega) (by omega) ?_
  refine inb_i (by omega) (by omega) ?_
  refine bind_i (mr_planks (RI_Gc h.1 q.1 q.2) (xs (v4 + (1 : Int32)).toNatClampNeg) (xs (v4 + (2 : Int32)).toNatClampNeg)) (fun x96 _ o_ => ?_)
  exact ⟨_, rfl, _, rfl, fin0 h q.2 o_⟩
theorem jl_1178_23 {n : Int} (hn : n ≤ 1000000) {M : Mem} (h : Inv n M) (L : Nat) (xs : Nat → Int32) (v4 : Int32) (h0 : 0 ≤ v4.toInt) (h5 : v4.toInt + 5 ≤ (L : Int)) (hL : (L : Int) ≤ 2560) : ∃ o, j_law_1178_23 L xs v4 M = some o ∧ LQ n v4 o := by
  have a1 : (v4 + (1 : Int32)).toInt = v4.toInt + 1 := add_ti rfl rfl (by omega) (by omega)
  have a2 : (v4 + (2 : Int32)).toInt = v4.toInt + 2 := add_ti rfl rfl (by omega) (by omega)
  have a3 : (v4 + (3 : Int32)).toInt = v4.toInt + 3 := add_ti rfl rfl (by omega) (by omega)
  have a4 : (v4 + (4 : Int32)).toInt = v4.toInt + 4 := add_ti rfl rfl (by omega) (by omega)
  unfold j_law_1178_23
  refine inb_i (by omega) (by omega) ?_
  refine bind_i (sf_Top_fire (xs (v4 + (1 : Int32)).toNatClampNeg) M h.1.1) (fun x98 _ q => ?_)
  refine inb_i (by omega) (by omega) ?_
  refine bind_i (mr_fire (RI_Gc h.1 q.1 q.2) (xs (v4 + (1 : Int32)).toNatClampNeg)) (fun x99 _ o_ => ?_)
  exact ⟨_, rfl, _, rfl, fin0 h q.2 o_⟩
theorem jl_1203_23 {n : Int} (hn : n ≤ 1000000) {M : Mem} (h : Inv n M) (L : Nat) (xs : Nat → Int32) (v4 : Int32) (h0 : 0 ≤ v4.toInt) (h5 : v4.toInt + 5 ≤ (L : Int)) (hL : (L : Int) ≤ 2560) : ∃ o, j_law_1203_23 L xs v4 M = some o ∧ LQ n v4 o := by
  have a1 : (v4 + (1 : Int32)).toInt = v4.toInt + 1 := add_ti rfl rfl (by omega) (by omega)
  have a2 : (v4 + (2 : Int32)).toInt = v4.toInt + 2 := add_ti rfl rfl (by omega) (by omega)
  have a3 : (v4 + (3 : Int32)).toInt = v4.toInt + 3 := add_ti rfl rfl (by omega) (by omega)
  have a4 : (v4 + (4 : Int32)).toInt = v4.toInt + 4 := add_ti rfl rfl (by omega) (by omega)
  unfold j_law_1203_23
  refine inb_i (by omega) (by omega) ?_
  refine bind_i (sf_Top_fights (xs (v4 + (1 : Int32)).toNatClampNeg) M h.1.1) (fun x101 _ q => ?_)
  refine inb_i (by omega) (by omega) ?_
  refine bind_i (mr_fights (RI_Gc h.1 q.1 q.2) (xs (v4 + (1 : Int32)).toNatClampNeg)) (fun x102 _ o_ => ?_)
  exact ⟨_, rfl, _, rfl, fin0 h q.2 o_⟩
theorem jl_1228_23 {n : Int} (hn : n ≤ 1000000) {M : Mem} (h : Inv n M) (L : Nat) (xs : Nat → Int32) (v4 : Int32) (h0 : 0 ≤ v4.toInt) (h5 : v4.toInt + 5 ≤ (L : Int)) (hL : (L : Int) ≤ 2560) : ∃ o, j_law_1228_23 L xs v4 M = some o ∧ LQ n v4 o := by
  have a1 : (v4 + (1 : Int32)).toInt = v4.toInt + 1 := add_ti rfl rfl (by omega) (by omega)
  have a2 : (v4 + (2 : Int32)).toInt = v4.toInt + 2 := add_ti rfl rfl (by omega) (by omega)
  have a3 : (v4 + (3 : Int32)).toInt = v4.toInt + 3 := add_ti rfl rfl (by omega) (by omega)
  have a4 : (v4 + (4 : Int32)).toInt = v4.toInt + 4 := add_ti rfl rfl (by omega) (by omega)
  unfold j_law_1228_23
  refine bind_i (sf_Top_saved  M h.1.1) (fun x104 _ q => ?_)
  refine bind_i (mr_saved (RI_Gc h.1 q.1 q.2.1) ) (fun x105 _ o_ => ?_)
  exact ⟨_, rfl, _, rfl, fin0 h q.2.1 o_⟩
theorem jl_1241_23 {n : Int} (hn : n ≤ 1000000) {M : Mem} (h : Inv n M) (L : Nat) (xs : Nat → Int32) (v4 : Int32) (h0 : 0 ≤ v4.toInt) (h5 : v4.toInt + 5 ≤ (L : Int)) (hL : (L : Int) ≤ 2560) : ∃ o, j_law_1241_23 L xs v4 M = some o ∧ LQ n v4 o := by
  have a1 : (v4 + (1 : Int32)).toInt = v4.toInt + 1 := add_ti rfl rfl (by omega) (by omega)
  have a2 : (v4 + (2 : Int32)).toInt = v4.toInt + 2 := add_ti rfl rfl (by omega) (by omega)
  have a3 : (v4 + (3 : Int32)).toInt = v4.toInt + 3 := add_ti rfl rfl (by omega) (by omega)
  have a4 : (v4 + (4 : Int32)).toInt = v4.toInt + 4 := add_ti rfl rfl (by omega) (by omega)
  unfold j_law_1241_23
  refine inb_i (by omega) (by omega) ?_
  refine inb_i (by omega) (by omega) ?_
  refine bind_i (sf_Top_wardrobe (xs (v4 + (1 : Int32)).toNatClampNeg) (xs (v4 + (2 : Int32)).toNatClampNeg) M h.1.1) (fun x107 _ q => ?_)
  refine inb_i (by omega) (by omega) ?_
  refine inb_i (by omega) (by omega) ?_
  refine bind_i (mr_wardrobe (RI_Gc h.1 q.1 q.2.1) (xs (v4 + (1 : Int32)).toNatClampNeg) (xs (v4 + (2 : Int32)).toNatClampNeg)) (fun x108 _ o_ => ?_)
  exact ⟨_, rfl, _, rfl, fin0 h q.2.1 o_⟩
theorem jl_1278_23 {n : Int} (hn : n ≤ 1000000) {M : Mem} (h : Inv n M) (L : Nat) (xs : Nat → Int32) (v4 : Int32) (h0 : 0 ≤ v4.toInt) (h5 : v4.toInt + 5 ≤ (L : Int)) (hL : (L : Int) ≤ 2560) : ∃ o, j_law_1278_23 L xs v4 M = some o ∧ LQ n v4 o := by
  have a1 : (v4 + (1 : Int32)).toInt = v4.toInt + 1 := add_ti rfl rfl (by omega) (by omega)
  have a2 : (v4 + (2 : Int32)).toInt = v4.toInt + 2 := add_ti rfl rfl (by omega) (by omega)
  have a3 : (v4 + (3 : Int32)).toInt = v4.toInt + 3 := add_ti rfl rfl (by omega) (by omega)
  have a4 : (v4 + (4 : Int32)).toInt = v4.toInt + 4 := add_ti rfl rfl (by omega) (by omega)
  unfold j_law_1278_23
  refine inb_i (by omega) (by omega) ?_
  refine inb_i (by omega) (by omega) ?_
  refine inb_i (by omega) (by omega) ?_
  refine bind_i (sf_Top_flees (xs (v4 + (1 : Int32)).toNatClampNeg) (xs (v4 + (2 : Int32)).toNatClampNeg) (xs (v4 + (3 : Int32)).toNatClampNeg) M h.1.1) (fun x110 _ q => ?_)
  refine inb_i (by omega) (by omega) ?_
  refine inb_i (by omega) (by omega) ?_
  refine inb_i (by omega) (by omega) ?_
  refine bind_i (mr_flees (RI_Gc h.1 q.1 q.2.1) (xs (v4 + (1 : Int32)).toNatClampNeg) (xs (v4 + (2 : Int32)).toNatClampNeg) (xs (v4 + (3 : Int32)).toNatClampNeg)) (fun x111 _ o_ => ?_)
  exact ⟨_, rfl, _, rfl, fin0 h q.2.1 o_⟩
theorem jl_1327_23 {n : Int} (hn : n ≤ 1000000) {M : Mem} (h : Inv n M) (L : Nat) (xs : Nat → Int32) (v4 : Int32) (h0 : 0 ≤ v4.toInt) (h5 : v4.toInt + 5 ≤ (L : Int)) (hL : (L : Int) ≤ 2560) : ∃ o, j_law_1327_23 L xs v4 M = some o ∧ LQ n v4 o := by
  have a1 : (v4 + (1 : Int32)).toInt = v4.toInt + 1 := add_ti rfl rfl (by omega) (by omega)
  have a2 : (v4 + (2 : Int32)).toInt = v4.toInt + 2 := add_ti rfl rfl (by omega) (by omega)
  have a3 : (v4 + (3 : Int32)).toInt = v4.toInt + 3 := add_ti rfl rfl (by omega) (by omega)
  have a4 : (v4 + (4 : Int32)).toInt = v4.toInt + 4 := add_ti rfl rfl (by omega) (by omega)
  unfold j_law_1327_23
  refine inb_i (by omega) (by omega) ?_
  refine bind_i (sf_Top_lairs (xs (v4 + (1 : Int32)).toNatClampNeg) M h.1.1) (fun x113 _ q => ?_)
  refine inb_i (by omega) (by omega) ?_
  refine bind_i (mr_lairs (RI_Gc h.1 q.1 q.2.1) (xs (v4 + (1 : Int32)).toNatClampNeg)) (fun x114 _ o_ => ?_)
  exact ⟨_, rfl, _, rfl, fin0 h q.2.1 o_⟩
theorem jl_1352_23 {n : Int} (hn : n ≤ 1000000) {M : Mem} (h : Inv n M) (L : Nat) (xs : Nat → Int32) (v4 : Int32) (h0 : 0 ≤ v4.toInt) (h5 : v4.toInt + 5 ≤ (L : Int)) (hL : (L : Int) ≤ 2560) : ∃ o, j_law_1352_23 L xs v4 M = some o ∧ LQ n v4 o := by
  have a1 : (v4 + (1 : Int32)).toInt = v4.toInt + 1 := add_ti rfl rfl (by omega) (by omega)
  have a2 : (v4 + (2 : Int32)).toInt = v4.toInt + 2 := add_ti rfl rfl (by omega) (by omega)
  have a3 : (v4 + (3 : Int32)).toInt = v4.toInt + 3 := add_ti rfl rfl (by omega) (by omega)
  have a4 : (v4 + (4 : Int32)).toInt = v4.toInt + 4 := add_ti rfl rfl (by omega) (by omega)
  unfold j_law_1352_23
  refine inb_i (by omega) (by omega) ?_
  refine inb_i (by omega) (by omega) ?_
  refine bind_i (sf_Top_caught (xs (v4 + (1 : Int32)).toNatClampNeg) (xs (v4 + (2 : Int32)).toNatClampNeg) M h.1.1) (fun x116 _ q => ?_)
  refine inb_i (by omega) (by omega) ?_
  refine inb_i (by omega) (by omega) ?_
  refine bind_i (mr_caught (RI_Gc h.1 q.1 q.2.1) (xs (v4 + (1 : Int32)).toNatClampNeg) (xs (v4 + (2 : Int32)).toNatClampNeg)) (fun x117 _ o_ => ?_)
  exact ⟨_, rfl, _, rfl, fin0 h q.2.1 o_⟩
theorem jl_1389_23 {n : Int} (hn : n ≤ 1000000) {M : Mem} (h : Inv n M) (L : Nat) (xs : Nat → Int32) (v4 : Int32) (h0 : 0 ≤ v4.toInt) (h5 : v4.toInt + 5 ≤ (L : Int)) (hL : (L : Int) ≤ 2560) : ∃ o, j_law_1389_23 L xs v4 M = some o ∧ LQ n v4 o := by
  have a1 : (v4 + (1 : Int32)).toInt = v4.toInt + 1 := add_ti rfl rfl (by omega) (by omega)
  have a2 : (v4 + (2 : Int32)).toInt = v4.toInt + 2 := add_ti rfl rfl (by omega) (by omega)
  have a3 : (v4 + (3 : Int32)).toInt = v4.toInt + 3 := add_ti rfl rfl (by omega) (by omega)
  have a4 : (v4 + (4 : Int32)).toInt = v4.toInt + 4 := add_ti rfl rfl (by omega) (by omega)
  unfold j_law_1389_23
  refine inb_i (by omega) (by omega) ?_
  refine inb_i (by omega) (by omega) ?_
  refine inb_i (by omega) (by omega) ?_
  refine inb_i (by omega) (by omega) ?_
  refine bind_i (sf_Top_watch (xs (v4 + (1 : Int32)).toNatClampNeg) (xs (v4 + (2 : Int32)).toNatClampNeg) (xs (v4 + (3 : Int32)).toNatClampNeg) (xs (v4 + (4 : Int32)).toNatClampNeg) M h.1.1) (fun x119 _ q => ?_)
  refine inb_i (by omega) (by omega) ?_
  refine inb_i (by omega) (by omega) ?_
  refine inb_i (by omega) (by omega) ?_
  refine inb_i (by omega) (by omega) ?_
  refine bind_i (mr_watch (RI_Gc h.1 q.1 q.2.1) (xs (v4 + (1 : Int32)).toNatClampNeg) (xs (v4 + (2 : Int32)).toNatClampNeg) (xs (v4 + (3 : Int32)).toNatClampNeg) (xs (v4 + (4 : Int32)).toNatClampNeg)) (fun x120 _ o_ => ?_)
  exact ⟨_, rfl, _, rfl, fin0 h q.2.1 o_⟩
theorem jl_1450_23 {n : Int} (hn : n ≤ 1000000) {M : Mem} (h : Inv n M) (L : Nat) (xs : Nat → Int32) (v4 : Int32) (h0 : 0 ≤ v4.toInt) (h5 : v4.toInt + 5 ≤ (L : Int)) (hL : (L : Int) ≤ 2560) : ∃ o, j_law_1450_23 L xs v4 M = some o ∧ LQ n v4 o := by
  have a1 : (v4 + (1 : Int32)).toInt = v4.toInt + 1 := add_ti rfl rfl (by omega) (by omega)
  have a2 : (v4 + (2 : Int32)).toInt = v4.toInt + 2 := add_ti rfl rfl (by omega) (by omega)
  have a3 : (v4 + (3 : Int32)).toInt = v4.toInt + 3 := add_ti rfl rfl (by omega) (by omega)
  have a4 : (v4 + (4 : Int32)).toInt = v4.toInt + 4 := add_ti rfl rfl (by omega) (by omega)
  unfold j_law_1450_23
  refine inb_i (by omega) (by omega) ?_
  refine bind_i (sf_Top_keep (xs (v4 + (1 : Int32)).toNatClampNeg) M h.1.1) (fun x122 _ q => ?_)
  refine inb_i (by omega) (by omega) ?_
  refine bind_i (mr_keep (RI_Gc h.1 q.1 q.2.1) (xs (v4 + (1 : Int32)).toNatClampNeg)) (fun x123 _ o_ => ?_)
  exact ⟨_, rfl, _, rfl, fin0 h q.2.1 o_⟩
theorem jl_1475_23 {n : Int} (hn : n ≤ 1000000) {M : Mem} (h : Inv n M) (L : Nat) (xs : Nat → Int32) (v4 : Int32) (h0 : 0 ≤ v4.toInt) (h5 : v4.toInt + 5 ≤ (L : Int)) (hL : (L : Int) ≤ 2560) : ∃ o, j_law_1475_23 L xs v4 M = some o ∧ LQ n v4 o := by
  have a1 : (v4 + (1 : Int32)).toInt = v4.toInt + 1 := add_ti rfl rfl (by omega) (by omega)
  have a2 : (v4 + (2 : Int32)).toInt = v4.toInt + 2 := add_ti rfl rfl (by omega) (by omega)
  have a3 : (v4 + (3 : Int32)).toInt = v4.toInt + 3 := add_ti rfl rfl (by omega) (by omega)
  have a4 : (v4 + (4 : Int32)).toInt = v4.toInt + 4 := add_ti rfl rfl (by omega) (by omega)
  unfold j_law_1475_23
  refine inb_i (by omega) (by omega) ?_
  refine bind_i (sf_Top_again (xs (v4 + (1 : Int32)).toNatClampNeg) M h.1.1) (fun x125 _ q => ?_)
  refine inb_i (by omega) (by omega) ?_
  refine bind_i (mr_again (RI_Gc h.1 q.1 q.2.1) (xs (v4 + (1 : Int32)).toNatClampNeg)) (fun x126 _ o_ => ?_)
  exact ⟨_, rfl, _, rfl, fin0 h q.2.1 o_⟩
theorem jl_1500_23 {n : Int} (hn : n ≤ 1000000) {M : Mem} (h : Inv n M) (L : Nat) (xs : Nat → Int32) (v4 : Int32) (h0 : 0 ≤ v4.toInt) (h5 : v4.toInt + 5 ≤ (L : Int)) (hL : (L : Int) ≤ 2560) : ∃ o, j_law_1500_23 L xs v4 M = some o ∧ LQ n v4 o := by
  have a1 : (v4 + (1 : Int32)).toInt = v4.toInt + 1 := add_ti rfl rfl (by omega) (by omega)
  have a2 : (v4 + (2 : Int32)).toInt = v4.toInt + 2 := add_ti rfl rfl (by omega) (by omega)
  have a3 : (v4 + (3 : Int32)).toInt = v4.toInt + 3 := add_ti rfl rfl (by omega) (by omega)
  have a4 : (v4 + (4 : Int32)).toInt = v4.toInt + 4 := add_ti rfl rfl (by omega) (by omega)
  unfold j_law_1500_23
  refine inb_i (by omega) (by omega) ?_
  refine bind_i (sf_Top_count (xs (v4 + (1 : Int32)).toNatClampNeg) M h.1.1) (fun x128 _ _ => ?_)
  refine inb_i (by omega) (by omega) ?_
  refine bind_i (mr_count h.1 (xs (v4 + (1 : Int32)).toNatClampNeg)) (fun x129 _ o_ => ?_)
  exact ⟨_, rfl, _, rfl, fin0 h Gc_r o_⟩
theorem jl_1525_23 {n : Int} (hn : n ≤ 1000000) {M : Mem} (h : Inv n M) (L : Nat) (xs : Nat → Int32) (v4 : Int32) (h0 : 0 ≤ v4.toInt) (h5 : v4.toInt + 5 ≤ (L : Int)) (hL : (L : Int) ≤ 2560) : ∃ o, j_law_1525_23 L xs v4 M = some o ∧ LQ n v4 o := by
  have a1 : (v4 + (1 : Int32)).toInt = v4.toInt + 1 := add_ti rfl rfl (by omega) (by omega)
  have a2 : (v4 + (2 : Int32)).toInt = v4.toInt + 2 := add_ti rfl rfl (by omega) (by omega)
  have a3 : (v4 + (3 : Int32)).toInt = v4.toInt + 3 := add_ti rfl rfl (by omega) (by omega)
  have a4 : (v4 + (4 : Int32)).toInt = v4.toInt + 4 := add_ti rfl rfl (by omega) (by omega)
  unfold j_law_1525_23
  refine inb_i (by omega) (by omega) ?_
  refine bind_i (ct_Lw_row h.1.1 (xs (v4 + (1 : Int32)).toNatClampNeg)) (fun x131 _ q => ?_)
  refine inb_i (by omega) (by omega) ?_
  refine bind_i (mr_row (RI_Gc h.1 q.1 q.2) (xs (v4 + (1 : Int32)).toNatClampNeg)) (fun x132 _ o_ => ?_)
  exact ⟨_, rfl, _, rfl, fin0 h q.2 o_⟩
theorem lw_call {n : Int} (hn : n ≤ 1000000) {M : Mem} (h : Inv n M) (L : Nat) (xs : Nat → Int32) (v4 : Int32) (h0 : 0 ≤ v4.toInt) (h5 : v4.toInt + 5 ≤ (L : Int)) (hL : (L : Int) ≤ 2560) : ∃ o, lb_law L xs (v4, M) = some o ∧ LQ n v4 o := by
  have eL : (Int32.ofNat L).toInt = (L : Int) := ofn_ti (by omega)
  have eS : ((Int32.ofNat L) - (5 : Int32)).toInt = (L : Int) - 5 := sub_ti eL rfl (by omega) (by omega)
  unfold lb_law
  dsimp only
  refine if_i (fun c => by have := lti.mp c; omega) (fun _ => inb_i h0 (by omega) ?_)
  refine if_i (fun _ => jl_228_23 hn h L xs v4 h0 h5 hL) (fun _ => ?_)
  refine if_i (fun _ => jl_253_23 hn h L xs v4 h0 h5 hL) (fun _ => ?_)
  refine if_i (fun _ => jl_278_23 hn h L xs v4 h0 h5 hL) (fun _ => ?_)
  refine if_i (fun _ => jl_291_23 hn h L xs v4 h0 h5 hL) (fun _ => ?_)
  refine if_i (fun _ => jl_304_23 hn h L xs v4 h0 h5 hL) (fun _ => ?_)
  refine if_i (fun _ => jl_317_23 hn h L xs v4 h0 h5 hL) (fun _ => ?_)
  refine if_i (fun _ => jl_342_23 hn h L xs v4 h0 h5 hL) (fun _ => ?_)
  refine if_i (fun _ => jl_382_23 hn h L xs v4 h0 h5 hL) (fun _ => ?_)
  refine if_i (fun _ => jl_422_23 hn h L xs v4 h0 h5 hL) (fun _ => ?_)
  refine if_i (fun _ => jl_459_23 hn h L xs v4 h0 h5 hL) (fun _ => ?_)
  refine if_i (fun _ => jl_496_23 hn h L xs v4 h0 h5 hL) (fun _ => ?_)
  refine if_i (fun _ => jl_509_23 hn h L xs v4 h0 h5 hL) (fun _ => ?_)
  refine if_i (fun _ => jl_570_23 hn h L xs v4 h0 h5 hL) (fun _ => ?_)
  refine if_i (fun _ => jl_595_23 hn h L xs v4 h0 h5 hL) (fun _ => ?_)
  refine if_i (fun _ => jl_620_23 hn h L xs v4 h0 h5 hL) (fun _ => ?_)
  refine if_i (fun _ => jl_633_23 hn h L xs v4 h0 h5 hL) (fun _ => ?_)
  refine if_i (fun _ => jl_658_23 hn h L xs v4 h0 h5 hL) (fun _ => ?_)
  refine if_i (fun _ => jl_671_23 hn h L xs v4 h0 h5 hL) (fun _ => ?_)
  refine if_i (fun _ => jl_684_23 hn h L xs v4 h0 h5 hL) (fun _ => ?_)
  refine if_i (fun _ => jl_721_23 hn h L xs v4 h0 h5 hL) (fun _ => ?_)
  refine if_i (fun _ => jl_746_23 hn h L xs v4 h0 h5 hL) (fun _ => ?_)
  refine if_i (fun _ => jl_783_23 hn h L xs v4 h0 h5 hL) (fun _ => ?_)
  refine if_i (fun _ => jl_796_23 hn h L xs v4 h0 h5 hL) (fun _ => ?_)
  refine if_i (fun _ => jl_821_23 hn h L xs v4 h0 h5 hL) (fun _ => ?_)
  refine if_i (fun _ => jl_846_23 hn h L xs v4 h0 h5 hL) (fun _ => ?_)
  refine if_i (fun _ => jl_883_23 hn h L xs v4 h0 h5 hL) (fun _ => ?_)
  refine if_i (fun _ => jl_932_23 hn h L xs v4 h0 h5 hL) (fun _ => ?_)
  refine if_i (fun _ => jl_993_23 hn h L xs v4 h0 h5 hL) (fun _ => ?_)
  refine if_i (fun _ => jl_1030_23 hn h L xs v4 h0 h5 hL) (fun _ => ?_)
  refine if_i (fun _ => jl_1067_23 hn h L xs v4 h0 h5 hL) (fun _ => ?_)
  refine if_i (fun _ => jl_1104_23 hn h L xs v4 h0 h5 hL) (fun _ => ?_)
  refine if_i (fun _ => jl_1141_23 hn h L xs v4 h0 h5 hL) (fun _ => ?_)
  refine if_i (fun _ => jl_1178_23 hn h L xs v4 h0 h5 hL) (fun _ => ?_)
  refine if_i (fun _ => jl_1203_23 hn h L xs v4 h0 h5 hL) (fun _ => ?_)
  refine if_i (fun _ => jl_1228_23 hn h L xs v4 h0 h5 hL) (fun _ => ?_)
  refine if_i (fun _ => jl_1241_23 hn h L xs v4 h0 h5 hL) (fun _ => ?_)
  refine if_i (fun _ => jl_1278_23 hn h L xs v4 h0 h5 hL) (fun _ => ?_)
  refine if_i (fun _ => jl_1327_23 hn h L xs v4 h0 h5 hL) (fun _ => ?_)
  refine if_i (fun _ => jl_1352_23 hn h L xs v4 h0 h5 hL) (fun _ => ?_)
  refine if_i (fun _ => jl_1389_23 hn h L xs v4 h0 h5 hL) (fun _ => ?_)
  refine if_i (fun _ => jl_1450_23 hn h L xs v4 h0 h5 hL) (fun _ => ?_)
  refine if_i (fun _ => jl_1475_23 hn h L xs v4 h0 h5 hL) (fun _ => ?_)
  refine if_i (fun _ => jl_1500_23 hn h L xs v4 h0 h5 hL) (fun _ => ?_)
  refine if_i (fun _ => jl_1525_23 hn h L xs v4 h0 h5 hL) (fun _ => ?_)
  exact ⟨_, rfl, _, rfl, Inv_up h⟩
theorem pure_law (L : Nat) (xs : Nat → Int32) (hL : L ≤ 2560) : ∃ (n : Nat) (x : Mem), n ≤ 90000 ∧ iter (lb_law L xs) n (0, M0) = some (.inl x) := by
  have hl : ∃ x, iter (lb_law L xs) 3000 ((0 : Int32), M0) = some x ∧ (∃ y, x = Sum.inl y) := by
    refine iter_r (fun s : Int32 × Mem => 0 ≤ s.1.toInt ∧ s.1.toInt ≤ 2565 ∧ ∃ n : Int, n ≤ s.1.toInt ∧ Inv n s.2) (fun s : Int32 × Mem => (2566 - s.1.toInt).toNat) _ ?_ 3000 _ ⟨(by show (0 : Int) ≤ (0 : Int32).toInt; decide), (by show (0 : Int32).toInt ≤ 2565; decide), 0, (by show (0 : Int) ≤ (0 : Int32).toInt; decide), Inv_M0⟩ (by show (2566 - (0 : Int)).toNat < 3000; decide)
    rintro ⟨i, M⟩ ⟨h0, h1, n, hn, hI⟩
    dsimp only at h0 h1 hn hI
    by_cases c : i.toInt + 5 ≤ (L : Int)
    · obtain ⟨o, eo, r, er, hr⟩ := lw_call (by omega) hI L xs i h0 c (by omega)
      subst er
      have e5 : (i + (5 : Int32)).toInt = i.toInt + 5 := add_ti rfl rfl (by omega) (by omega)
      refine ⟨_, eo, ⟨?_, ?_, n + 1, ?_, hr⟩, ?_⟩
      · show 0 ≤ (i + (5 : Int32)).toInt; omega
      · show (i + (5 : Int32)).toInt ≤ 2565; omega
      · show n + 1 ≤ (i + (5 : Int32)).toInt; omega
      · show (2566 - (i + (5 : Int32)).toInt).toNat < (2566 - i.toInt).toNat; omega
    · have eL : (Int32.ofNat L).toInt = (L : Int) := ofn_ti (by omega)
      have eS : ((Int32.ofNat L) - (5 : Int32)).toInt = (L : Int) - 5 := sub_ti eL rfl (by omega) (by omega)
      refine ⟨.inr (Sum.inl M), ?_, M, rfl⟩
      unfold lb_law
      dsimp only
      rw [if_pos (lti.mpr (by omega))]
  obtain ⟨x, ex, y, rfl⟩ := hl
  exact ⟨3000, y, by decide, ex⟩
