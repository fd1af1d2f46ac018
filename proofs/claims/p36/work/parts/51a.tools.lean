/-! more rules of ranges -/
theorem i32of {x : Int32} {n : Int} {y : Int32} (h : x.toInt = n) (hy : y.toInt = n) : x = y := Int32.toInt_inj.mp (h.trans hy.symm)
theorem or01 {a b : Int32} (h1 : 0 ≤ a.toInt) (h2 : a.toInt ≤ 1) (h3 : 0 ≤ b.toInt) (h4 : b.toInt ≤ 1) : 0 ≤ (a ||| b).toInt ∧ (a ||| b).toInt ≤ 1 := by
  rcases bool_of h1 h2 with rfl | rfl <;> rcases bool_of h3 h4 with rfl | rfl <;> decide
theorem and01 {a b : Int32} (h1 : 0 ≤ a.toInt) (h2 : a.toInt ≤ 1) (h3 : 0 ≤ b.toInt) (h4 : b.toInt ≤ 1) : 0 ≤ (a &&& b).toInt ∧ (a &&& b).toInt ≤ 1 := by
  rcases bool_of h1 h2 with rfl | rfl <;> rcases bool_of h3 h4 with rfl | rfl <;> decide
theorem to8 {s : Int32} (h1 : 0 ≤ s.toInt) (h2 : s.toInt ≤ 8) : s = 0 ∨ s = 1 ∨ s = 2 ∨ s = 3 ∨ s = 4 ∨ s = 5 ∨ s = 6 ∨ s = 7 ∨ s = 8 := by
  have : s.toInt = 0 ∨ s.toInt = 1 ∨ s.toInt = 2 ∨ s.toInt = 3 ∨ s.toInt = 4 ∨ s.toInt = 5 ∨ s.toInt = 6 ∨ s.toInt = 7 ∨ s.toInt = 8 := by omega
  rcases this with h | h | h | h | h | h | h | h | h
  · exact .inl (i32of h rfl)
  · exact .inr (.inl (i32of h rfl))
  · exact .inr (.inr (.inl (i32of h rfl)))
  · exact .inr (.inr (.inr (.inl (i32of h rfl))))
  · exact .inr (.inr (.inr (.inr (.inl (i32of h rfl)))))
  · exact .inr (.inr (.inr (.inr (.inr (.inl (i32of h rfl))))))
  · exact .inr (.inr (.inr (.inr (.inr (.inr (.inl (i32of h rfl)))))))
  · exact .inr (.inr (.inr (.inr (.inr (.inr (.inr (.inl (i32of h rfl))))))))
  · exact .inr (.inr (.inr (.inr (.inr (.inr (.inr (.inr (i32of h rfl))))))))
theorem shl8 {s : Int32} (h1 : 0 ≤ s.toInt) (h2 : s.toInt ≤ 8) : 1 ≤ ((1 : Int32) <<< (s &&& 31)).toInt ∧ ((1 : Int32) <<< (s &&& 31)).toInt ≤ 256 := by
  rcases to8 h1 h2 with rfl | rfl | rfl | rfl | rfl | rfl | rfl | rfl | rfl <;> decide
theorem neg_ti {a : Int32} {x : Int} (ha : a.toInt = x) (h1 : -2147483648 ≤ -x) (h2 : -x ≤ 2147483647) : (-a).toInt = -x := by
  rw [Int32.toInt_neg, ha]; exact bm h1 h2
theorem nz2_of {x : Int32} (h : ¬ x.toInt = 0) : ¬ x = 0 := fun e => by subst e; exact h rfl
/-! frames of the class: the reference's cells, and THE TEXT's length if v is 0 -/
def Gc (v : Nat) (M N : Mem) : Prop := ∀ k i : Nat, (162 ≤ k ∨ (k = 1 ∧ i = 1 ∧ v = 0)) → N.1 k i = M.1 k i
theorem Gc_r {v : Nat} {M : Mem} : Gc v M M := fun _ _ _ => rfl
theorem Gc_t {v : Nat} {A B C : Mem} (g : Gc v A B) (h : Gc v B C) : Gc v A C := fun k i w => (h k i w).trans (g k i w)
theorem Gc_up {v : Nat} {M N : Mem} (h : Gc 0 M N) : Gc v M N := fun k i w => h k i (w.elim .inl (fun z => .inr ⟨z.1, z.2.1, rfl⟩))
def clc (k : Nat) : Bool := decide (k < 162) && k != 1
theorem Gc_i {v : Nat} {M A B : Mem} {k i : Nat} {x : Int32} (g : Gc v M A) (e : B = s_i A k i x) (h : clc k = true) : Gc v M B := fun a b w => by
  simp only [clc, Bool.and_eq_true, decide_eq_true_eq, bne_iff_ne] at h
  rw [e, si_ne (fun z => by
    rcases w with w | w
    · omega
    · exact h.2 (z.1.symm.trans w.1))]
  exact g a b w
theorem Gc_1 {v : Nat} {M A B : Mem} {i : Nat} {x : Int32} (g : Gc v M A) (e : B = s_i A 1 i x) (h : ¬ (i = 1 ∧ v = 0)) : Gc v M B := fun a b w => by
  rw [e, si_ne (fun z => by
    rcases w with w | w
    · omega
    · exact h ⟨z.2.symm.trans w.2.1, w.2.2⟩)]
  exact g a b w
theorem Gc_c {v : Nat} {M A B : Mem} {k0 k1 n : Nat} (g : Gc v M A) (e : B = s_c A k0 k1 0 0 n) (h : clc k1 = true) : Gc v M B := fun a b w => by
  simp only [clc, Bool.and_eq_true, decide_eq_true_eq, bne_iff_ne] at h
  rw [e, sc_ne (fun z => by
    rcases w with w | w
    · omega
    · exact h.2 (z.symm.trans w.1))]
  exact g a b w
theorem Gc_l {v : Nat} {M A B : Mem} {k i : Nat} {x : Int64} (g : Gc v M A) (e : B = s_l A k i x) : Gc v M B := fun a b w => by rw [e]; exact g a b w
theorem Gc_q {v : Nat} {M A B : Mem} {k i : Nat} {z : Option Nat} (g : Gc v M A) (e : B = s_q A k i z) : Gc v M B := fun a b w => by rw [e]; exact g a b w
theorem cl_scene {v : Nat} (hk : kd v = 10 + 7) : clc v = true := kd_all (P := fun v => kd v = 10 + 7 → clc v = true) (by decide +kernel) (by omega) hk
theorem cl_scene0 {v : Nat} (hk : kd v = 10 + 7) : clc (rf v 0) = true := kd_all (P := fun v => kd v = 10 + 7 → clc (rf v 0) = true) (by decide +kernel) (by omega) hk
theorem cl_scene1 {v : Nat} (hk : kd v = 10 + 7) : clc (rf v 1) = true := kd_all (P := fun v => kd v = 10 + 7 → clc (rf v 1) = true) (by decide +kernel) (by omega) hk
theorem cl_scene2 {v : Nat} (hk : kd v = 10 + 7) : clc (rf v 2) = true := kd_all (P := fun v => kd v = 10 + 7 → clc (rf v 2) = true) (by decide +kernel) (by omega) hk
theorem cl_scene3 {v : Nat} (hk : kd v = 10 + 7) : clc (rf v 3) = true := kd_all (P := fun v => kd v = 10 + 7 → clc (rf v 3) = true) (by decide +kernel) (by omega) hk
theorem cl_scene4 {v : Nat} (hk : kd v = 10 + 7) : clc (rf v 4) = true := kd_all (P := fun v => kd v = 10 + 7 → clc (rf v 4) = true) (by decide +kernel) (by omega) hk
theorem cl_scene5 {v : Nat} (hk : kd v = 10 + 7) : clc (rf v 5) = true := kd_all (P := fun v => kd v = 10 + 7 → clc (rf v 5) = true) (by decide +kernel) (by omega) hk
theorem cl_nets0 {v : Nat} (hk : kd v = 10 + 6) : clc (rf v 0) = true := kd_all (P := fun v => kd v = 10 + 6 → clc (rf v 0) = true) (by decide +kernel) (by omega) hk
theorem cl_nets1 {v : Nat} (hk : kd v = 10 + 6) : clc (rf v 1) = true := kd_all (P := fun v => kd v = 10 + 6 → clc (rf v 1) = true) (by decide +kernel) (by omega) hk
theorem cl_nets2 {v : Nat} (hk : kd v = 10 + 6) : clc (rf v 2) = true := kd_all (P := fun v => kd v = 10 + 6 → clc (rf v 2) = true) (by decide +kernel) (by omega) hk
theorem cl_far {v : Nat} (h : FA v) : clc v = true := by rcases h with rfl | rfl | rfl <;> decide
theorem cl_steps {v : Nat} (h : FS v) : clc v = true := by rcases h with rfl | rfl <;> decide
