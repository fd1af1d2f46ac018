/-! more rules of ranges -/
theorem i32of {x : Int32} {n : Int} {y : Int32} (h : x.toInt = n) (hy : y.toInt = n) : x = y := Int32.toInt_inj.mp (h.trans hy.symm)
theorem or01 {a b : Int32} (h1 : 0 ≤ a.toInt) (h2 : a.toInt ≤ 1) (h3 : 0 ≤ b.toInt) (h4 : b.toInt ≤ 1) : 0 ≤ (a ||| b).toInt ∧ (a ||| b).toInt ≤ 1 := by
  rcases bool_of h1 h2 with rfl | rfl <;> rcases bool_of h3 h4 with rfl | rfl <;> decide
theorem and01 {a b : Int32} (h1 : 0 ≤ a.toInt) (h2 : a.toInt ≤ 1) (h3 : 0 ≤ b.toInt) (h4 : b.toInt ≤ 1) : 0 ≤ (a &&& b).toInt ∧ (a &&& b).toInt ≤ 1 := by
  rcases bool_of h1 h2 with rfl | rfl <;> rcases bool_of h3 h4 with rfl | rfl <;> decide
theorem to8 {s : Int32} (h1 : 0 ≤ s.toInt) (h2 : s.toInt ≤ 8) : s = 0 ∨ s = 1 ∨ s = 2 ∨ s = 3 ∨ s = 4 ∨ s = 5 ∨ s = 6 ∨ s = 7 ∨ s = 8 := by
  have : s.toInt = 0 ∨ s.toInt = 1 ∨ s.toInt = 2 ∨ s.toInt = 3 ∨ s.toInt = 4 ∨ s.toInt = 5 ∨ s.toInt = 6 ∨ s.toInt = 7 ∨ s.toInt = 8 := by omega
  rcases this with h | h | h | h | h | h | h | h | h
  · exact .inl (i32of h rfl)
  · exact .inr (.inl (i32of h rfl))
  · exact .inr (.inr (.inl (i32of h rfl)))
  · exact .inr (.inr (.inr (.inl (i32of h rfl))))
  · exact .inr (.inr (.inr (.inr (.inl (i32of h rfl)))))
  · exact .inr (.inr (.inr (.inr (.inr (.inl (i32of h rfl))))))
  · exact .inr (.inr (.inr (.inr (.inr (.inr (.inl (i32of h rfl)))))))
  · exact .inr (.inr (.inr (.inr (.inr (.inr (.inr (.inl (i32of h rfl))))))))
  · exact .inr (.inr (.inr (.inr (.inr (.inr (.inr (.inr (i32of h rfl))))))))
theorem shl8 {s : Int32} (h1 : 0 ≤ s.toInt) (h2 : s.toInt ≤ 8) : 1 ≤ ((1 : Int32) <<< (s &&& 31)).toInt ∧ ((1 : Int32) <<< (s &&& 31)).toInt ≤ 256 := by
  rcases to8 h1 h2 with rfl | rfl | rfl | rfl | rfl | rfl | rfl | rfl | rfl <;> decide
theorem neg_ti {a : Int32} {x : Int} (ha : a.toInt = x) (h1 : -2147483648 ≤ -x) (h2 : -x ≤ 2147483647) : (-a).toInt = -x := by
  rw [Int32.toInt_neg, ha]; exact bm h1 h2
theorem nz2_of {x : Int32} (h : ¬ x.toInt = 0) : ¬ x = 0 := fun e => by subst e; exact h rfl
