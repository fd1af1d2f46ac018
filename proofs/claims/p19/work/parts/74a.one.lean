/-! both sides in one memory, between two calls -/
def CXr (kx i : Nat) : Prop := CX kx i ∨ (kx = 40 ∧ i = 4) ∨ kx = 41
def CRr (kx i : Nat) : Prop := CR kx i ∨ (kx = 162 ∧ i = 23) ∨ kx = 172
theorem ZL_a {X Y R S : Mem} (x4 : Y.1 40 4 = X.1 40 4) (x41 : ∀ i, Y.1 41 i = X.1 41 i) (r23 : S.1 162 23 = R.1 162 23) (r172 : ∀ i, S.1 172 i = R.1 172 i) (zl : ZL X R) : ZL Y S := by
  have rl : rlx S = rlx R := by funext p; unfold rlx; rw [r23, r172]
  unfold ZL at zl ⊢
  rw [rl, r23, x4]
  rcases zl with l | ⟨l1, l40, l2, Sx, l3, l4, l5, l6, l7, l8, l9⟩
  · exact .inl l
  · exact .inr ⟨l1, l40, fun p hp => by rw [r172]; exact l2 p hp, Sx, l3, l4, l5, l6, l7, l8, stk_c l9 (fun i _ => x41 i)⟩
theorem ZA_z {X Y R S : Mem} {n : Nat} (za : ZA X R n) (jS : J S) (fx : ∀ kx i, CXr kx i → Y.1 kx i = X.1 kx i) (f33 : ∀ i, Y.2.1 33 i = X.2.1 33 i) (f34 : ∀ i, Y.2.1 34 i = X.2.1 34 i) (f47 : ∀ i, Y.2.2 47 i = X.2.2 47 i) (f48 : ∀ i, Y.2.2 48 i = X.2.2 48 i) (fr : ∀ kx i, CRr kx i → S.1 kx i = R.1 kx i) : ZA Y S n :=
  ZA_y za jS (ZL_a (fx 40 4 (.inr (.inl ⟨rfl, rfl⟩))) (fun i => fx 41 i (.inr (.inr rfl))) (fr 162 23 (.inr (.inl ⟨rfl, rfl⟩))) (fun i => fr 172 i (.inr (.inr rfl))) za.1.2.2.1.2.2) (fun kx i h => fx kx i (.inl h)) f33 f34 f47 f48 (fun kx i h => fr kx i (.inl h))
def cxl : List Nat := [302, 303, 324, 325, 312, 313, 4, 7, 8, 11, 12, 13, 14, 15, 16, 17, 33, 34, 35, 47, 48]
def cxb0 (C : Nat) : Bool := (cxl.all fun s => !Nat.testBit C s) && ((List.range 98).all fun j => !Nat.testBit C (49 + j))
def cxb (C : Nat) : Bool := cxb0 C && (!Nat.testBit C 334 && !Nat.testBit C 41)
def crl : List Nat := [202, 203, 204, 205, 227, 248, 163, 164, 165, 166, 173, 189, 190, 191]
def crb0 (C : Nat) : Bool := crl.all fun s => !Nat.testBit C s
def crb (C : Nat) : Bool := crb0 C && (!Nat.testBit C 223 && !Nat.testBit C 172)
theorem pl49 : (List.range 98).all (fun j => pl (49 + j)) = true := by decide +kernel
def Fz0 (M x : Mem) : Prop := (∀ kx i, CX kx i → x.1 kx i = M.1 kx i) ∧ (∀ i, x.2.1 33 i = M.2.1 33 i) ∧ (∀ i, x.2.1 34 i = M.2.1 34 i) ∧ (∀ i, x.2.2 47 i = M.2.2 47 i) ∧ (∀ i, x.2.2 48 i = M.2.2 48 i)
def Fz (M x : Mem) : Prop := (∀ kx i, CXr kx i → x.1 kx i = M.1 kx i) ∧ (∀ i, x.2.1 33 i = M.2.1 33 i) ∧ (∀ i, x.2.1 34 i = M.2.1 34 i) ∧ (∀ i, x.2.2 47 i = M.2.2 47 i) ∧ (∀ i, x.2.2 48 i = M.2.2 48 i)
theorem cx_f0 {C : Nat} {M x : Mem} (b : cxb0 C = true) (f : Fx C [] M x) : Fz0 M x := by
  unfold cxb0 at b
  rw [Bool.and_eq_true] at b
  have b1 : ∀ s, s ∈ cxl → Nat.testBit C s = false := fun s hs => by
    have := List.all_eq_true.mp b.1 s hs
    simpa using this
  have b2 : ∀ j, j < 98 → Nat.testBit C (49 + j) = false := fun j hj => by
    have := List.all_eq_true.mp b.2 j (List.mem_range.mpr hj)
    simpa using this
  have P : ∀ k i, pl k = true → Nat.testBit C k = false → x.1 k i = M.1 k i ∧ x.2.1 k i = M.2.1 k i ∧ x.2.2 k i = M.2.2 k i := fun k i hp ht => f k i (by rw [sl_pl hp]; exact ht) (by simp)
  refine ⟨fun kx i h => ?_, fun i => (P 33 i rfl (b1 33 (by decide))).2.1, fun i => (P 34 i rfl (b1 34 (by decide))).2.1, fun i => (P 47 i rfl (b1 47 (by decide))).2.2, fun i => (P 48 i rfl (b1 48 (by decide))).2.2⟩
  unfold CX at h
  rcases h with ⟨rfl, rfl | rfl⟩ | rfl | ⟨rfl, rfl | rfl⟩ | rfl | rfl | h | rfl | ⟨rfl, rfl | rfl⟩ | h
  · exact (f 3 2 (b1 302 (by decide)) (by simp)).1
  · exact (f 3 3 (b1 303 (by decide)) (by simp)).1
  · exact (P 4 i rfl (b1 4 (by decide))).1
  · exact (f 6 4 (b1 324 (by decide)) (by simp)).1
  · exact (f 6 5 (b1 325 (by decide)) (by simp)).1
  · exact (P 7 i rfl (b1 7 (by decide))).1
  · exact (P 8 i rfl (b1 8 (by decide))).1
  · have : kx = 11 ∨ kx = 12 ∨ kx = 13 ∨ kx = 14 ∨ kx = 15 ∨ kx = 16 ∨ kx = 17 := by omega
    rcases this with rfl | rfl | rfl | rfl | rfl | rfl | rfl
    · exact (P 11 i rfl (b1 11 (by decide))).1
    · exact (P 12 i rfl (b1 12 (by decide))).1
    · exact (P 13 i rfl (b1 13 (by decide))).1
    · exact (P 14 i rfl (b1 14 (by decide))).1
    · exact (P 15 i rfl (b1 15 (by decide))).1
    · exact (P 16 i rfl (b1 16 (by decide))).1
    · exact (P 17 i rfl (b1 17 (by decide))).1
  · exact (P 35 i rfl (b1 35 (by decide))).1
  · exact (f 46 2 (b1 312 (by decide)) (by simp)).1
  · exact (f 46 3 (b1 313 (by decide)) (by simp)).1
  · obtain ⟨j, hj, rfl⟩ : ∃ j, j < 98 ∧ kx = 49 + j := ⟨kx - 49, by omega, by omega⟩
    have hp := List.all_eq_true.mp pl49 j (List.mem_range.mpr hj)
    exact (P _ i hp (b2 j hj)).1
theorem cx_f {C : Nat} {M x : Mem} (b : cxb C = true) (f : Fx C [] M x) : Fz M x := by
  unfold cxb at b
  rw [Bool.and_eq_true, Bool.and_eq_true, Bool.not_eq_true', Bool.not_eq_true'] at b
  obtain ⟨h1, h2⟩ := cx_f0 b.1 f
  refine ⟨fun kx i h => ?_, h2⟩
  rcases h with h | ⟨rfl, rfl⟩ | rfl
  · exact h1 kx i h
  · exact (f 40 4 b.2.1 (by simp)).1
  · exact (f 41 i b.2.2 (by simp)).1
theorem cr_f0 {C : Nat} {M x : Mem} (b : crb0 C = true) (f : Fx C [] M x) : ∀ kx i, CR kx i → x.1 kx i = M.1 kx i := by
  have b1 : ∀ s, s ∈ crl → Nat.testBit C s = false := fun s hs => by
    have := List.all_eq_true.mp b s hs
    simpa using this
  have P : ∀ k i, pl k = true → Nat.testBit C k = false → x.1 k i = M.1 k i := fun k i hp ht => (f k i (by rw [sl_pl hp]; exact ht) (by simp)).1
  intro kx i h
  unfold CR at h
  rcases h with ⟨rfl, rfl | rfl | rfl | rfl | rfl | rfl⟩ | rfl | rfl | rfl | rfl | rfl | rfl | rfl | rfl
  · exact (f 162 2 (b1 202 (by decide)) (by simp)).1
  · exact (f 162 3 (b1 203 (by decide)) (by simp)).1
  · exact (f 162 4 (b1 204 (by decide)) (by simp)).1
  · exact (f 162 5 (b1 205 (by decide)) (by simp)).1
  · exact (f 162 27 (b1 227 (by decide)) (by simp)).1
  · exact (f 162 48 (b1 248 (by decide)) (by simp)).1
  · exact P 163 i rfl (b1 163 (by decide))
  · exact P 164 i rfl (b1 164 (by decide))
  · exact P 165 i rfl (b1 165 (by decide))
  · exact P 166 i rfl (b1 166 (by decide))
  · exact P 173 i rfl (b1 173 (by decide))
  · exact P 189 i rfl (b1 189 (by decide))
  · exact P 190 i rfl (b1 190 (by decide))
  · exact P 191 i rfl (b1 191 (by decide))
theorem cr_f {C : Nat} {M x : Mem} (b : crb C = true) (f : Fx C [] M x) : ∀ kx i, CRr kx i → x.1 kx i = M.1 kx i := by
  unfold crb at b
  rw [Bool.and_eq_true, Bool.and_eq_true, Bool.not_eq_true', Bool.not_eq_true'] at b
  intro kx i h
  rcases h with h | ⟨rfl, rfl⟩ | rfl
  · exact cr_f0 b.1 f kx i h
  · exact (f 162 23 b.2.1 (by simp)).1
  · exact (f 172 i b.2.2 (by simp)).1
theorem cr_ge {kx i : Nat} (h : CRr kx i) : 162 ≤ kx := by unfold CRr CR at h; omega
theorem cr_gd {M N : Mem} (g : Gd 1000 M N) : ∀ kx i, CRr kx i → N.1 kx i = M.1 kx i := by
  intro kx i h
  refine g kx i (.inl ?_)
  unfold CRr CR at h
  rcases h with (⟨rfl, rfl | rfl | rfl | rfl | rfl | rfl⟩ | rfl | rfl | rfl | rfl | rfl | rfl | rfl | rfl) | ⟨rfl, rfl⟩ | rfl <;> exact ⟨rfl, by decide⟩
/-- before the reference's call -/
theorem up_c {M x : Mem} {m : Nat} (z : ZA M M m) (jx : J x) (g : ∀ kx i, 162 ≤ kx → x.1 kx i = M.1 kx i) : ZA M x m :=
  ZA_z z jx (fun _ _ _ => rfl) (fun _ => rfl) (fun _ => rfl) (fun _ => rfl) (fun _ => rfl) (fun kx i h => g kx i (cr_ge h))
/-- behind the reference's call -/
theorem dn_r {x r : Mem} {m : Nat} (z : ZA x r m) (f : Fz x r) : ZA r r m :=
  ZA_z z z.1.2.1 f.1 f.2.1 f.2.2.1 f.2.2.2.1 f.2.2.2.2 (fun _ _ _ => rfl)
/-- a question -/
theorem qz {M x r : Mem} {m : Nat} (z : ZA M M m) (jr : J r) (fx : Fz M x) (gx : ∀ kx i, 162 ≤ kx → x.1 kx i = M.1 kx i) (fr : Fz x r) (gr : ∀ kx i, CRr kx i → r.1 kx i = x.1 kx i) : ZA r r m :=
  ZA_z z jr (fun kx i h => (fr.1 kx i h).trans (fx.1 kx i h)) (fun i => (fr.2.1 i).trans (fx.2.1 i)) (fun i => (fr.2.2.1 i).trans (fx.2.2.1 i)) (fun i => (fr.2.2.2.1 i).trans (fx.2.2.2.1 i)) (fun i => (fr.2.2.2.2 i).trans (fx.2.2.2.2 i)) (fun kx i h => (gr kx i h).trans (gx kx i (cr_ge h)))
theorem Fz_r {M : Mem} : Fz M M := ⟨fun _ _ _ => rfl, fun _ => rfl, fun _ => rfl, fun _ => rfl, fun _ => rfl⟩
theorem Fz_hv {M x : Mem} (y : Option Int32) (h : Fz M x) : Fz M (hv y x).2 := by
  cases y with
  | none => exact h
  | some r =>
    refine ⟨fun kx i w => h.1 kx i w, fun i => ?_, fun i => ?_, h.2.2.2.1, h.2.2.2.2⟩
    · rw [← h.2.1 i]; exact sl_ne (by omega)
    · rw [← h.2.2.1 i]; exact sl_ne (by omega)
def IW (n : Int) (M : Mem) : Prop := IV n M ∧ ∃ m, ZA M M m
theorem IW_up {n : Int} {M : Mem} (h : IW n M) : IW (n + 1) M := ⟨⟨Inv_up h.1.1, h.1.2⟩, h.2⟩
theorem bes110 : ∀ s : Fin 4, bes 1 1 ((0 : Nat) : Int) (s.val : Int) = -1 := by decide +kernel
theorem ZA_0 : ZA M0 M0 0 := by
  have w1 : xw M0 = 1 := by decide +kernel
  have h1 : xh M0 = 1 := by decide +kernel
  have on : ∀ l c : Int, onN M0 l c ↔ c = 0 := by
    intro l c
    unfold onN
    rw [w1, h1]
    constructor
    · intro h; omega
    · rintro rfl
      refine ⟨by omega, by omega, ?_⟩
      have k : (M0.1 164 (0 : Int).toNat).toInt = 3 := by decide +kernel
      split
      · exact .inr k
      · exact .inr k
  have onA0 : ∀ l d : Nat, onA M0 l d ↔ d = 0 := by
    intro l d
    unfold onA
    rw [om, on]
    omega
  have nolk : ∀ l c s : Nat, s < 4 → ¬ lk M0 (onA M0) l c s := by
    rintro l c s hs ⟨a, b, _⟩
    have c0 := (onA0 l c).mp a
    subst c0
    rw [w1, h1] at b
    exact b (bes110 ⟨s, hs⟩)
  have z92 : (M0.1 163 92).toInt = 0 := by decide +kernel
  have nop : ∀ c d : Int, ¬ plk M0 163 c d := by
    rintro c d ⟨j, hj, _⟩
    omega
  have k35 : ∀ i : Fin 288, (M0.1 35 i.val).toInt = -1 := by decide +kernel
  have k34 : ∀ i : Fin 72, M0.2.1 34 i.val = 0 := by decide +kernel
  have k33 : ∀ i : Fin 2, M0.2.1 33 i.val = 1 := by decide +kernel
  have k4 : ∀ i : Fin 36, M0.1 4 i.val = M0.1 164 i.val ∧ 0 ≤ (M0.1 164 i.val).toInt ∧ (M0.1 164 i.val).toInt ≤ 3 := by decide +kernel
  have k15 : ∀ i : Fin 64, M0.1 15 i.val = 0 := by decide +kernel
  have k47 : ∀ i : Fin 12, M0.2.2 47 i.val = some (49 + 7 * i.val) := by decide +kernel
  have k48 : ∀ i : Fin 2, M0.2.2 48 i.val = some (133 + 7 * i.val) := by decide +kernel
  have k190 : ∀ i : Fin 2, (M0.1 190 i.val).toInt = 0 := by decide +kernel
  refine ⟨⟨by omega, J_M0, ⟨⟨by rw [w1]; decide +kernel, by rw [w1, h1]; decide +kernel, fun i hi => (k4 ⟨i, hi⟩).1, fun i hi => (k4 ⟨i, hi⟩).2⟩, ⟨by decide +kernel, by decide +kernel, by decide +kernel, fun p hp => by omega, fun p i hp => by omega, fun p _ => ?_⟩, .inl ⟨by decide +kernel, by decide +kernel⟩⟩, ?_, ?_, ?_, ?_⟩, ⟨⟨fun i hi => ⟨i, hi, k47 ⟨i, hi⟩⟩, fun i j hi hj e => ?_⟩, 0, by omega, by decide +kernel, by decide +kernel, fun u hu => by omega⟩, fun t ht => k48 ⟨t, ht⟩, fun t ht => ?_⟩
  · rw [show M0.1 162 5 = 0 by decide +kernel]; exact bt_0 p
  · refine ⟨fun p hp => by omega, fun p q hp => by omega, fun p q hp hq _ => k15 ⟨8 * p + q, by omega⟩, by decide +kernel, fun j hj h => by omega, by decide +kernel, by decide +kernel, by decide +kernel⟩
  · exact ⟨fun p hp => by omega, by rw [z92]; omega, by decide +kernel, fun j hj => by omega⟩
  · intro l d hl
    rw [show M0.2.1 (32 + 1) l = 1 from k33 ⟨l, hl⟩, bl_1, decide_eq_true_iff, onA0]
    omega
  · refine ⟨fun l c s hl hc hs => ⟨fun h => absurd h.2.2 (nop _ _), fun _ => ⟨fun h => absurd h (nolk l c s hs), fun _ => k35 ⟨(l * 36 + c) * 4 + s, by omega⟩⟩⟩, fun l c hl hc d => ?_⟩
    rw [show M0.2.1 (32 + 2) (l * 36 + c) = 0 from k34 ⟨l * 36 + c, by omega⟩, bl_0]
    constructor
    · intro h; cases h
    · rintro (⟨s, hs, h, _⟩ | ⟨_, s, hs, _, h⟩)
      · exact absurd h (nolk l c s hs)
      · exact absurd h (nop _ _)
  · rw [show M0.2.2 47 i = some (49 + 7 * i) from k47 ⟨i, hi⟩, show M0.2.2 47 j = some (49 + 7 * j) from k47 ⟨j, hj⟩] at e
    have := Option.some.inj e
    omega
  · refine ⟨?_, fun h => ?_⟩
    · rw [show M0.1 46 3 = 0 by decide +kernel, bt_0]
      constructor
      · intro h; cases h
      · intro h; exact absurd (k190 ⟨t, ht⟩) h.1
    · rw [show M0.1 46 3 = 0 by decide +kernel, bt_0] at h
      cases h
theorem IW_0 (h : Inv 0 M0) : IW 0 M0 := ⟨IV_0 h, 0, ZA_0⟩
