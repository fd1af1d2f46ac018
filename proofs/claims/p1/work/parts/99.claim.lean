/-! the claim -/
theorem pure_law (L : Nat) (xs : Nat → Int32) (h : L ≤ 5) : ∃ (n : Nat) (x : Mem), n ≤ 90000 ∧ iter (lb_law L xs) n (0, M0) = some (.inl x) := sorry
theorem i_vc : Claimed_1_1 ∧ Claimed_1_2 := vc_of pure_law
