/-! the law's calls -/
def LV (n : Int) (v4 : Int32) (o : (Int32 × Mem) ⊕ ((Mem) ⊕ (Int32 × Mem))) : Prop := ∃ r, o = .inl (v4 + (5 : Int32), r) ∧ IW (n + 1) r
theorem jv_228_23 {n : Int} (hn : n ≤ 1000000) {M : Mem} (h : IW n M) (L : Nat) (xs : Nat → Int32) (v4 : Int32) (h0 : 0 ≤ v4.toInt) (h5 : v4.toInt + 5 ≤ (L : Int)) (hL : (L : Int) ≤ 2560) : ∃ o, j_law_228_23 L xs v4 M = some o ∧ LV n v4 o := by
  have a1 : (v4 + (1 : Int32)).toInt = v4.toInt + 1 := add_ti rfl rfl (by omega) (by omega)
  have a2 : (v4 + (2 : Int32)).toInt = v4.toInt + 2 := add_ti rfl rfl (by omega) (by omega)
  have a3 : (v4 + (3 : Int32)).toInt = v4.toInt + 3 := add_ti rfl rfl (by omega) (by omega)
  have a4 : (v4 + (4 : Int32)).toInt = v4.toInt + 4 := add_ti rfl rfl (by omega) (by omega)
  unfold j_law_228_23
  refine inb_i (by omega) (by omega) ?_
  obtain ⟨x1, e_x, r_, e_r, e_q, h_i⟩ := tz_sign h (xs (v4 + (1 : Int32)).toNatClampNeg)
  refine bind_e e_x ?_
  refine inb_i (by omega) (by omega) ?_
  refine bind_e e_r ?_
  exact ⟨_, rfl, _, rfl, h_i⟩
theorem jv_253_23 {n : Int} (hn : n ≤ 1000000) {M : Mem} (h : IW n M) (L : Nat) (xs : Nat → Int32) (v4 : Int32) (h0 : 0 ≤ v4.toInt) (h5 : v4.toInt + 5 ≤ (L : Int)) (hL : (L : Int) ≤ 2560) : ∃ o, j_law_253_23 L xs v4 M = some o ∧ LV n v4 o := by
  have a1 : (v4 + (1 : Int32)).toInt = v4.toInt + 1 := add_ti rfl rfl (by omega) (by omega)
  have a2 : (v4 + (2 : Int32)).toInt = v4.toInt + 2 := add_ti rfl rfl (by omega) (by omega)
  have a3 : (v4 + (3 : Int32)).toInt = v4.toInt + 3 := add_ti rfl rfl (by omega) (by omega)
  have a4 : (v4 + (4 : Int32)).toInt = v4.toInt + 4 := add_ti rfl rfl (by omega) (by omega)
  unfold j_law_253_23
  refine inb_i (by omega) (by omega) ?_
  obtain ⟨x4, e_x, r_, e_r, e_q, h_i⟩ := tz_end h (xs (v4 + (1 : Int32)).toNatClampNeg)
  refine bind_e e_x ?_
  refine inb_i (by omega) (by omega) ?_
  refine bind_e e_r ?_
  exact ⟨_, rfl, _, rfl, h_i⟩
theorem jv_278_23 {n : Int} (hn : n ≤ 1000000) {M : Mem} (h : IW n M) (L : Nat) (xs : Nat → Int32) (v4 : Int32) (h0 : 0 ≤ v4.toInt) (h5 : v4.toInt + 5 ≤ (L : Int)) (hL : (L : Int) ≤ 2560) : ∃ o, j_law_278_23 L xs v4 M = some o ∧ LV n v4 o := by
  have a1 : (v4 + (1 : Int32)).toInt = v4.toInt + 1 := add_ti rfl rfl (by omega) (by omega)
  have a2 : (v4 + (2 : Int32)).toInt = v4.toInt + 2 := add_ti rfl rfl (by omega) (by omega)
  have a3 : (v4 + (3 : Int32)).toInt = v4.toInt + 3 := add_ti rfl rfl (by omega) (by omega)
  have a4 : (v4 + (4 : Int32)).toInt = v4.toInt + 4 := add_ti rfl rfl (by omega) (by omega)
  unfold j_law_278_23
  obtain ⟨x7, e_x, r_, e_r, e_q, h_i⟩ := tz_town h 
  refine bind_e e_x ?_
  refine bind_e e_r ?_
  exact ⟨_, rfl, _, rfl, h_i⟩
theorem jv_291_23 {n : Int} (hn : n ≤ 1000000) {M : Mem} (h : IW n M) (L : Nat) (xs : Nat → Int32) (v4 : Int32) (h0 : 0 ≤ v4.toInt) (h5 : v4.toInt + 5 ≤ (L : Int)) (hL : (L : Int) ≤ 2560) : ∃ o, j_law_291_23 L xs v4 M = some o ∧ LV n v4 o := by
  have a1 : (v4 + (1 : Int32)).toInt = v4.toInt + 1 := add_ti rfl rfl (by omega) (by omega)
  have a2 : (v4 + (2 : Int32)).toInt = v4.toInt + 2 := add_ti rfl rfl (by omega) (by omega)
  have a3 : (v4 + (3 : Int32)).toInt = v4.toInt + 3 := add_ti rfl rfl (by omega) (by omega)
  have a4 : (v4 + (4 : Int32)).toInt = v4.toInt + 4 := add_ti rfl rfl (by omega) (by omega)
  unfold j_law_291_23
  obtain ⟨x10, e_x, r_, e_r, e_q, h_i⟩ := tz_folk hn h 
  refine bind_e e_x ?_
  refine bind_e e_r ?_
  exact ⟨_, rfl, _, rfl, h_i⟩
theorem jv_304_23 {n : Int} (hn : n ≤ 1000000) {M : Mem} (h : IW n M) (L : Nat) (xs : Nat → Int32) (v4 : Int32) (h0 : 0 ≤ v4.toInt) (h5 : v4.toInt + 5 ≤ (L : Int)) (hL : (L : Int) ≤ 2560) : ∃ o, j_law_304_23 L xs v4 M = some o ∧ LV n v4 o := by
  have a1 : (v4 + (1 : Int32)).toInt = v4.toInt + 1 := add_ti rfl rfl (by omega) (by omega)
  have a2 : (v4 + (2 : Int32)).toInt = v4.toInt + 2 := add_ti rfl rfl (by omega) (by omega)
  have a3 : (v4 + (3 : Int32)).toInt = v4.toInt + 3 := add_ti rfl rfl (by omega) (by omega)
  have a4 : (v4 + (4 : Int32)).toInt = v4.toInt + 4 := add_ti rfl rfl (by omega) (by omega)
  unfold j_law_304_23
  obtain ⟨x13, e_x, r_, e_r, e_q, h_i⟩ := tz_rule h 
  refine bind_e e_x ?_
  refine bind_e e_r ?_
  exact ⟨_, rfl, _, rfl, h_i⟩
theorem jv_317_23 {n : Int} (hn : n ≤ 1000000) {M : Mem} (h : IW n M) (L : Nat) (xs : Nat → Int32) (v4 : Int32) (h0 : 0 ≤ v4.toInt) (h5 : v4.toInt + 5 ≤ (L : Int)) (hL : (L : Int) ≤ 2560) : ∃ o, j_law_317_23 L xs v4 M = some o ∧ LV n v4 o := by
  have a1 : (v4 + (1 : Int32)).toInt = v4.toInt + 1 := add_ti rfl rfl (by omega) (by omega)
  have a2 : (v4 + (2 : Int32)).toInt = v4.toInt + 2 := add_ti rfl rfl (by omega) (by omega)
  have a3 : (v4 + (3 : Int32)).toInt = v4.toInt + 3 := add_ti rfl rfl (by omega) (by omega)
  have a4 : (v4 + (4 : Int32)).toInt = v4.toInt + 4 := add_ti rfl rfl (by omega) (by omega)
  unfold j_law_317_23
  refine inb_i (by omega) (by omega) ?_
  obtain ⟨x16, e_x, r_, e_r, e_q, h_i⟩ := tz_route hn h (xs (v4 + (1 : Int32)).toNatClampNeg)
  refine bind_e e_x ?_
  refine inb_i (by omega) (by omega) ?_
  refine bind_e e_r ?_
  exact ⟨_, rfl, _, rfl, h_i⟩
theorem jv_342_23 {n : Int} (hn : n ≤ 1000000) {M : Mem} (h : IW n M) (L : Nat) (xs : Nat → Int32) (v4 : Int32) (h0 : 0 ≤ v4.toInt) (h5 : v4.toInt + 5 ≤ (L : Int)) (hL : (L : Int) ≤ 2560) : ∃ o, j_law_342_23 L xs v4 M = some o ∧ LV n v4 o := by
  have a1 : (v4 + (1 : Int32)).toInt = v4.toInt + 1 := add_ti rfl rfl (by omega) (by omega)
  have a2 : (v4 + (2 : Int32)).toInt = v4.toInt + 2 := add_ti rfl rfl (by omega) (by omega)
  have a3 : (v4 + (3 : Int32)).toInt = v4.toInt + 3 := add_ti rfl rfl (by omega) (by omega)
  have a4 : (v4 + (4 : Int32)).toInt = v4.toInt + 4 := add_ti rfl rfl (by omega) (by omega)
  unfold j_law_342_23
  refine inb_i (by omega) (by omega) ?_
  refine inb_i (by omega) (by omega) ?_
  obtain ⟨x19, e_x, r_, e_r, e_q, h_i⟩ := tz_cell h (xs (v4 + (1 : Int32)).toNatClampNeg) (xs (v4 + (2 : Int32)).toNatClampNeg)
  refine bind_e e_x ?_
  refine inb_i (by omega) (by omega) ?_
  refine inb_i (by omega) (by omega) ?_
  refine bind_e e_r ?_
  refine bind_e (a := r_.2.1 162 13) rfl ?_
  refine c_i2 e_q.1 (if_i (fun c_ => ?_) (fun _ => ⟨_, rfl, _, rfl, h_i⟩))
  exact c_i2 (e_q.2 c_) ⟨_, rfl, _, rfl, h_i⟩
theorem jv_410_23 {n : Int} (hn : n ≤ 1000000) {M : Mem} (h : IW n M) (L : Nat) (xs : Nat → Int32) (v4 : Int32) (h0 : 0 ≤ v4.toInt) (h5 : v4.toInt + 5 ≤ (L : Int)) (hL : (L : Int) ≤ 2560) : ∃ o, j_law_410_23 L xs v4 M = some o ∧ LV n v4 o := by
  have a1 : (v4 + (1 : Int32)).toInt = v4.toInt + 1 := add_ti rfl rfl (by omega) (by omega)
  have a2 : (v4 + (2 : Int32)).toInt = v4.toInt + 2 := add_ti rfl rfl (by omega) (by omega)
  have a3 : (v4 + (3 : Int32)).toInt = v4.toInt + 3 := add_ti rfl rfl (by omega) (by omega)
  have a4 : (v4 + (4 : Int32)).toInt = v4.toInt + 4 := add_ti rfl rfl (by omega) (by omega)
  unfold j_law_410_23
  refine inb_i (by omega) (by omega) ?_
  refine inb_i (by omega) (by omega) ?_
  obtain ⟨x26, e_x, r_, e_r, e_q, h_i⟩ := tz_person h (xs (v4 + (1 : Int32)).toNatClampNeg) (xs (v4 + (2 : Int32)).toNatClampNeg)
  refine bind_e e_x ?_
  refine inb_i (by omega) (by omega) ?_
  refine inb_i (by omega) (by omega) ?_
  refine bind_e e_r ?_
  exact ⟨_, rfl, _, rfl, h_i⟩
theorem jv_450_23 {n : Int} (hn : n ≤ 1000000) {M : Mem} (h : IW n M) (L : Nat) (xs : Nat → Int32) (v4 : Int32) (h0 : 0 ≤ v4.toInt) (h5 : v4.toInt + 5 ≤ (L : Int)) (hL : (L : Int) ≤ 2560) : ∃ o, j_law_450_23 L xs v4 M = some o ∧ LV n v4 o := by
  have a1 : (v4 + (1 : Int32)).toInt = v4.toInt + 1 := add_ti rfl rfl (by omega) (by omega)
  have a2 : (v4 + (2 : Int32)).toInt = v4.toInt + 2 := add_ti rfl rfl (by omega) (by omega)
  have a3 : (v4 + (3 : Int32)).toInt = v4.toInt + 3 := add_ti rfl rfl (by omega) (by omega)
  have a4 : (v4 + (4 : Int32)).toInt = v4.toInt + 4 := add_ti rfl rfl (by omega) (by omega)
  unfold j_law_450_23
  refine inb_i (by omega) (by omega) ?_
  refine inb_i (by omega) (by omega) ?_
  obtain ⟨x29, e_x, r_, e_r, e_q, h_i⟩ := tz_build hn h (xs (v4 + (1 : Int32)).toNatClampNeg) (xs (v4 + (2 : Int32)).toNatClampNeg)
  refine bind_e e_x ?_
  refine inb_i (by omega) (by omega) ?_
  refine inb_i (by omega) (by omega) ?_
  refine bind_e e_r ?_
  exact ⟨_, rfl, _, rfl, h_i⟩
theorem jv_487_23 {n : Int} (hn : n ≤ 1000000) {M : Mem} (h : IW n M) (L : Nat) (xs : Nat → Int32) (v4 : Int32) (h0 : 0 ≤ v4.toInt) (h5 : v4.toInt + 5 ≤ (L : Int)) (hL : (L : Int) ≤ 2560) : ∃ o, j_law_487_23 L xs v4 M = some o ∧ LV n v4 o := by
  have a1 : (v4 + (1 : Int32)).toInt = v4.toInt + 1 := add_ti rfl rfl (by omega) (by omega)
  have a2 : (v4 + (2 : Int32)).toInt = v4.toInt + 2 := add_ti rfl rfl (by omega) (by omega)
  have a3 : (v4 + (3 : Int32)).toInt = v4.toInt + 3 := add_ti rfl rfl (by omega) (by omega)
  have a4 : (v4 + (4 : Int32)).toInt = v4.toInt + 4 := add_ti rfl rfl (by omega) (by omega)
  unfold j_law_487_23
  refine inb_i (by omega) (by omega) ?_
  refine inb_i (by omega) (by omega) ?_
  obtain ⟨x32, e_x, r_, e_r, e_q, h_i⟩ := tz_plank h (xs (v4 + (1 : Int32)).toNatClampNeg) (xs (v4 + (2 : Int32)).toNatClampNeg)
  refine bind_e e_x ?_
  refine inb_i (by omega) (by omega) ?_
  refine inb_i (by omega) (by omega) ?_
  refine bind_e e_r ?_
  exact ⟨_, rfl, _, rfl, h_i⟩
theorem jv_524_23 {n : Int} (hn : n ≤ 1000000) {M : Mem} (h : IW n M) (L : Nat) (xs : Nat → Int32) (v4 : Int32) (h0 : 0 ≤ v4.toInt) (h5 : v4.toInt + 5 ≤ (L : Int)) (hL : (L : Int) ≤ 2560) : ∃ o, j_law_524_23 L xs v4 M = some o ∧ LV n v4 o := by
  have a1 : (v4 + (1 : Int32)).toInt = v4.toInt + 1 := add_ti rfl rfl (by omega) (by omega)
  have a2 : (v4 + (2 : Int32)).toInt = v4.toInt + 2 := add_ti rfl rfl (by omega) (by omega)
  have a3 : (v4 + (3 : Int32)).toInt = v4.toInt + 3 := add_ti rfl rfl (by omega) (by omega)
  have a4 : (v4 + (4 : Int32)).toInt = v4.toInt + 4 := add_ti rfl rfl (by omega) (by omega)
  unfold j_law_524_23
  obtain ⟨x35, e_x, r_, e_r, e_q, h_i⟩ := tz_take h 
  refine bind_e e_x ?_
  refine bind_e e_r ?_
  exact ⟨_, rfl, _, rfl, h_i⟩
theorem jv_537_23 {n : Int} (hn : n ≤ 1000000) {M : Mem} (h : IW n M) (L : Nat) (xs : Nat → Int32) (v4 : Int32) (h0 : 0 ≤ v4.toInt) (h5 : v4.toInt + 5 ≤ (L : Int)) (hL : (L : Int) ≤ 2560) : ∃ o, j_law_537_23 L xs v4 M = some o ∧ LV n v4 o := by
  have a1 : (v4 + (1 : Int32)).toInt = v4.toInt + 1 := add_ti rfl rfl (by omega) (by omega)
  have a2 : (v4 + (2 : Int32)).toInt = v4.toInt + 2 := add_ti rfl rfl (by omega) (by omega)
  have a3 : (v4 + (3 : Int32)).toInt = v4.toInt + 3 := add_ti rfl rfl (by omega) (by omega)
  have a4 : (v4 + (4 : Int32)).toInt = v4.toInt + 4 := add_ti rfl rfl (by omega) (by omega)
  unfold j_law_537_23
  refine inb_i (by omega) (by omega) ?_
  refine inb_i (by omega) (by omega) ?_
  refine inb_i (by omega) (by omega) ?_
  refine inb_i (by omega) (by omega) ?_
  obtain ⟨x38, e_x, r_, e_r, e_q, h_i⟩ := tz_sheet h (xs (v4 + (1 : Int32)).toNatClampNeg) (xs (v4 + (2 : Int32)).toNatClampNeg) (xs (v4 + (3 : Int32)).toNatClampNeg) (xs (v4 + (4 : Int32)).toNatClampNeg)
  refine bind_e e_x ?_
  refine inb_i (by omega) (by omega) ?_
  refine inb_i (by omega) (by omega) ?_
  refine inb_i (by omega) (by omega) ?_
  refine inb_i (by omega) (by omega) ?_
  refine bind_e e_r ?_
  exact ⟨_, rfl, _, rfl, h_i⟩
theorem jv_598_23 {n : Int} (hn : n ≤ 1000000) {M : Mem} (h : IW n M) (L : Nat) (xs : Nat → Int32) (v4 : Int32) (h0 : 0 ≤ v4.toInt) (h5 : v4.toInt + 5 ≤ (L : Int)) (hL : (L : Int) ≤ 2560) : ∃ o, j_law_598_23 L xs v4 M = some o ∧ LV n v4 o := by
  have a1 : (v4 + (1 : Int32)).toInt = v4.toInt + 1 := add_ti rfl rfl (by omega) (by omega)
  have a2 : (v4 + (2 : Int32)).toInt = v4.toInt + 2 := add_ti rfl rfl (by omega) (by omega)
  have a3 : (v4 + (3 : Int32)).toInt = v4.toInt + 3 := add_ti rfl rfl (by omega) (by omega)
  have a4 : (v4 + (4 : Int32)).toInt = v4.toInt + 4 := add_ti rfl rfl (by omega) (by omega)
  unfold j_law_598_23
  refine inb_i (by omega) (by omega) ?_
  obtain ⟨x41, e_x, r_, e_r, e_q, h_i⟩ := tz_tell h (xs (v4 + (1 : Int32)).toNatClampNeg)
  refine bind_e e_x ?_
  refine inb_i (by omega) (by omega) ?_
  refine bind_e e_r ?_
  exact ⟨_, rfl, _, rfl, h_i⟩
theorem jv_623_23 {n : Int} (hn : n ≤ 1000000) {M : Mem} (h : IW n M) (L : Nat) (xs : Nat → Int32) (v4 : Int32) (h0 : 0 ≤ v4.toInt) (h5 : v4.toInt + 5 ≤ (L : Int)) (hL : (L : Int) ≤ 2560) : ∃ o, j_law_623_23 L xs v4 M = some o ∧ LV n v4 o := by
  have a1 : (v4 + (1 : Int32)).toInt = v4.toInt + 1 := add_ti rfl rfl (by omega) (by omega)
  have a2 : (v4 + (2 : Int32)).toInt = v4.toInt + 2 := add_ti rfl rfl (by omega) (by omega)
  have a3 : (v4 + (3 : Int32)).toInt = v4.toInt + 3 := add_ti rfl rfl (by omega) (by omega)
  have a4 : (v4 + (4 : Int32)).toInt = v4.toInt + 4 := add_ti rfl rfl (by omega) (by omega)
  unfold j_law_623_23
  refine inb_i (by omega) (by omega) ?_
  obtain ⟨x44, e_x, r_, e_r, e_q, h_i⟩ := tz_feast h (xs (v4 + (1 : Int32)).toNatClampNeg)
  refine bind_e e_x ?_
  refine inb_i (by omega) (by omega) ?_
  refine bind_e e_r ?_
  exact ⟨_, rfl, _, rfl, h_i⟩
theorem jv_648_23 {n : Int} (hn : n ≤ 1000000) {M : Mem} (h : IW n M) (L : Nat) (xs : Nat → Int32) (v4 : Int32) (h0 : 0 ≤ v4.toInt) (h5 : v4.toInt + 5 ≤ (L : Int)) (hL : (L : Int) ≤ 2560) : ∃ o, j_law_648_23 L xs v4 M = some o ∧ LV n v4 o := by
  have a1 : (v4 + (1 : Int32)).toInt = v4.toInt + 1 := add_ti rfl rfl (by omega) (by omega)
  have a2 : (v4 + (2 : Int32)).toInt = v4.toInt + 2 := add_ti rfl rfl (by omega) (by omega)
  have a3 : (v4 + (3 : Int32)).toInt = v4.toInt + 3 := add_ti rfl rfl (by omega) (by omega)
  have a4 : (v4 + (4 : Int32)).toInt = v4.toInt + 4 := add_ti rfl rfl (by omega) (by omega)
  unfold j_law_648_23
  obtain ⟨x47, e_x, r_, e_r, e_q, h_i⟩ := tz_minute h 
  refine bind_e e_x ?_
  refine bind_e e_r ?_
  exact ⟨_, rfl, _, rfl, h_i⟩
theorem jv_661_23 {n : Int} (hn : n ≤ 1000000) {M : Mem} (h : IW n M) (L : Nat) (xs : Nat → Int32) (v4 : Int32) (h0 : 0 ≤ v4.toInt) (h5 : v4.toInt + 5 ≤ (L : Int)) (hL : (L : Int) ≤ 2560) : ∃ o, j_law_661_23 L xs v4 M = some o ∧ LV n v4 o := by
  have a1 : (v4 + (1 : Int32)).toInt = v4.toInt + 1 := add_ti rfl rfl (by omega) (by omega)
  have a2 : (v4 + (2 : Int32)).toInt = v4.toInt + 2 := add_ti rfl rfl (by omega) (by omega)
  have a3 : (v4 + (3 : Int32)).toInt = v4.toInt + 3 := add_ti rfl rfl (by omega) (by omega)
  have a4 : (v4 + (4 : Int32)).toInt = v4.toInt + 4 := add_ti rfl rfl (by omega) (by omega)
  unfold j_law_661_23
  refine inb_i (by omega) (by omega) ?_
  obtain ⟨x50, e_x, r_, e_r, e_q, h_i⟩ := tz_minutes h (xs (v4 + (1 : Int32)).toNatClampNeg)
  refine bind_e e_x ?_
  refine inb_i (by omega) (by omega) ?_
  refine bind_e e_r ?_
  exact ⟨_, rfl, _, rfl, h_i⟩
theorem jv_686_23 {n : Int} (hn : n ≤ 1000000) {M : Mem} (h : IW n M) (L : Nat) (xs : Nat → Int32) (v4 : Int32) (h0 : 0 ≤ v4.toInt) (h5 : v4.toInt + 5 ≤ (L : Int)) (hL : (L : Int) ≤ 2560) : ∃ o, j_law_686_23 L xs v4 M = some o ∧ LV n v4 o := by
  have a1 : (v4 + (1 : Int32)).toInt = v4.toInt + 1 := add_ti rfl rfl (by omega) (by omega)
  have a2 : (v4 + (2 : Int32)).toInt = v4.toInt + 2 := add_ti rfl rfl (by omega) (by omega)
  have a3 : (v4 + (3 : Int32)).toInt = v4.toInt + 3 := add_ti rfl rfl (by omega) (by omega)
  have a4 : (v4 + (4 : Int32)).toInt = v4.toInt + 4 := add_ti rfl rfl (by omega) (by omega)
  unfold j_law_686_23
  obtain ⟨x53, e_x, r_, e_r, e_q, h_i⟩ := tz_evening h 
  refine bind_e e_x ?_
  refine bind_e e_r ?_
  exact ⟨_, rfl, _, rfl, h_i⟩
theorem jv_699_23 {n : Int} (hn : n ≤ 1000000) {M : Mem} (h : IW n M) (L : Nat) (xs : Nat → Int32) (v4 : Int32) (h0 : 0 ≤ v4.toInt) (h5 : v4.toInt + 5 ≤ (L : Int)) (hL : (L : Int) ≤ 2560) : ∃ o, j_law_699_23 L xs v4 M = some o ∧ LV n v4 o := by
  have a1 : (v4 + (1 : Int32)).toInt = v4.toInt + 1 := add_ti rfl rfl (by omega) (by omega)
  have a2 : (v4 + (2 : Int32)).toInt = v4.toInt + 2 := add_ti rfl rfl (by omega) (by omega)
  have a3 : (v4 + (3 : Int32)).toInt = v4.toInt + 3 := add_ti rfl rfl (by omega) (by omega)
  have a4 : (v4 + (4 : Int32)).toInt = v4.toInt + 4 := add_ti rfl rfl (by omega) (by omega)
  unfold j_law_699_23
  obtain ⟨x56, e_x, r_, e_r, e_q, h_i⟩ := tz_undo h 
  refine bind_e e_x ?_
  refine bind_e e_r ?_
  exact ⟨_, rfl, _, rfl, h_i⟩
theorem jv_712_23 {n : Int} (hn : n ≤ 1000000) {M : Mem} (h : IW n M) (L : Nat) (xs : Nat → Int32) (v4 : Int32) (h0 : 0 ≤ v4.toInt) (h5 : v4.toInt + 5 ≤ (L : Int)) (hL : (L : Int) ≤ 2560) : ∃ o, j_law_712_23 L xs v4 M = some o ∧ LV n v4 o := by
  have a1 : (v4 + (1 : Int32)).toInt = v4.toInt + 1 := add_ti rfl rfl (by omega) (by omega)
  have a2 : (v4 + (2 : Int32)).toInt = v4.toInt + 2 := add_ti rfl rfl (by omega) (by omega)
  have a3 : (v4 + (3 : Int32)).toInt = v4.toInt + 3 := add_ti rfl rfl (by omega) (by omega)
  have a4 : (v4 + (4 : Int32)).toInt = v4.toInt + 4 := add_ti rfl rfl (by omega) (by omega)
  unfold j_law_712_23
  refine inb_i (by omega) (by omega) ?_
  refine inb_i (by omega) (by omega) ?_
  obtain ⟨x59, e_x, r_, e_r, e_q, h_i⟩ := tz_met h (xs (v4 + (1 : Int32)).toNatClampNeg) (xs (v4 + (2 : Int32)).toNatClampNeg)
  refine bind_e e_x ?_
  refine inb_i (by omega) (by omega) ?_
  refine inb_i (by omega) (by omega) ?_
  refine bind_e e_r ?_
  exact ⟨_, rfl, _, rfl, h_i⟩
theorem jv_749_23 {n : Int} (hn : n ≤ 1000000) {M : Mem} (h : IW n M) (L : Nat) (xs : Nat → Int32) (v4 : Int32) (h0 : 0 ≤ v4.toInt) (h5 : v4.toInt + 5 ≤ (L : Int)) (hL : (L : Int) ≤ 2560) : ∃ o, j_law_749_23 L xs v4 M = some o ∧ LV n v4 o := by
  have a1 : (v4 + (1 : Int32)).toInt = v4.toInt + 1 := add_ti rfl rfl (by omega) (by omega)
  have a2 : (v4 + (2 : Int32)).toInt = v4.toInt + 2 := add_ti rfl rfl (by omega) (by omega)
  have a3 : (v4 + (3 : Int32)).toInt = v4.toInt + 3 := add_ti rfl rfl (by omega) (by omega)
  have a4 : (v4 + (4 : Int32)).toInt = v4.toInt + 4 := add_ti rfl rfl (by omega) (by omega)
  unfold j_law_749_23
  refine inb_i (by omega) (by omega) ?_
  obtain ⟨x62, e_x, r_, e_r, e_q, h_i⟩ := tz_ahead h (xs (v4 + (1 : Int32)).toNatClampNeg)
  refine bind_e e_x ?_
  refine inb_i (by omega) (by omega) ?_
  refine bind_e e_r ?_
  exact ⟨_, rfl, _, rfl, h_i⟩
theorem jv_774_23 {n : Int} (hn : n ≤ 1000000) {M : Mem} (h : IW n M) (L : Nat) (xs : Nat → Int32) (v4 : Int32) (h0 : 0 ≤ v4.toInt) (h5 : v4.toInt + 5 ≤ (L : Int)) (hL : (L : Int) ≤ 2560) : ∃ o, j_law_774_23 L xs v4 M = some o ∧ LV n v4 o := by
  have a1 : (v4 + (1 : Int32)).toInt = v4.toInt + 1 := add_ti rfl rfl (by omega) (by omega)
  have a2 : (v4 + (2 : Int32)).toInt = v4.toInt + 2 := add_ti rfl rfl (by omega) (by omega)
  have a3 : (v4 + (3 : Int32)).toInt = v4.toInt + 3 := add_ti rfl rfl (by omega) (by omega)
  have a4 : (v4 + (4 : Int32)).toInt = v4.toInt + 4 := add_ti rfl rfl (by omega) (by omega)
  unfold j_law_774_23
  refine inb_i (by omega) (by omega) ?_
  refine inb_i (by omega) (by omega) ?_
  obtain ⟨x65, e_x, r_, e_r, e_q, h_i⟩ := tz_meet h (xs (v4 + (1 : Int32)).toNatClampNeg) (xs (v4 + (2 : Int32)).toNatClampNeg)
  refine bind_e e_x ?_
  refine inb_i (by omega) (by omega) ?_
  refine inb_i (by omega) (by omega) ?_
  refine bind_e e_r ?_
  exact ⟨_, rfl, _, rfl, h_i⟩
theorem jv_811_23 {n : Int} (hn : n ≤ 1000000) {M : Mem} (h : IW n M) (L : Nat) (xs : Nat → Int32) (v4 : Int32) (h0 : 0 ≤ v4.toInt) (h5 : v4.toInt + 5 ≤ (L : Int)) (hL : (L : Int) ≤ 2560) : ∃ o, j_law_811_23 L xs v4 M = some o ∧ LV n v4 o := by
  have a1 : (v4 + (1 : Int32)).toInt = v4.toInt + 1 := add_ti rfl rfl (by omega) (by omega)
  have a2 : (v4 + (2 : Int32)).toInt = v4.toInt + 2 := add_ti rfl rfl (by omega) (by omega)
  have a3 : (v4 + (3 : Int32)).toInt = v4.toInt + 3 := add_ti rfl rfl (by omega) (by omega)
  have a4 : (v4 + (4 : Int32)).toInt = v4.toInt + 4 := add_ti rfl rfl (by omega) (by omega)
  unfold j_law_811_23
  obtain ⟨x68, e_x, r_, e_r, e_q, h_i⟩ := tz_known h 
  refine bind_e e_x ?_
  refine bind_e e_r ?_
  exact ⟨_, rfl, _, rfl, h_i⟩
theorem jv_824_23 {n : Int} (hn : n ≤ 1000000) {M : Mem} (h : IW n M) (L : Nat) (xs : Nat → Int32) (v4 : Int32) (h0 : 0 ≤ v4.toInt) (h5 : v4.toInt + 5 ≤ (L : Int)) (hL : (L : Int) ≤ 2560) : ∃ o, j_law_824_23 L xs v4 M = some o ∧ LV n v4 o := by
  have a1 : (v4 + (1 : Int32)).toInt = v4.toInt + 1 := add_ti rfl rfl (by omega) (by omega)
  have a2 : (v4 + (2 : Int32)).toInt = v4.toInt + 2 := add_ti rfl rfl (by omega) (by omega)
  have a3 : (v4 + (3 : Int32)).toInt = v4.toInt + 3 := add_ti rfl rfl (by omega) (by omega)
  have a4 : (v4 + (4 : Int32)).toInt = v4.toInt + 4 := add_ti rfl rfl (by omega) (by omega)
  unfold j_law_824_23
  refine inb_i (by omega) (by omega) ?_
  obtain ⟨x71, e_x, r_, e_r, e_q, h_i⟩ := tz_gossip h (xs (v4 + (1 : Int32)).toNatClampNeg)
  refine bind_e e_x ?_
  refine inb_i (by omega) (by omega) ?_
  refine bind_e e_r ?_
  exact ⟨_, rfl, _, rfl, h_i⟩
theorem jv_849_23 {n : Int} (hn : n ≤ 1000000) {M : Mem} (h : IW n M) (L : Nat) (xs : Nat → Int32) (v4 : Int32) (h0 : 0 ≤ v4.toInt) (h5 : v4.toInt + 5 ≤ (L : Int)) (hL : (L : Int) ≤ 2560) : ∃ o, j_law_849_23 L xs v4 M = some o ∧ LV n v4 o := by
  have a1 : (v4 + (1 : Int32)).toInt = v4.toInt + 1 := add_ti rfl rfl (by omega) (by omega)
  have a2 : (v4 + (2 : Int32)).toInt = v4.toInt + 2 := add_ti rfl rfl (by omega) (by omega)
  have a3 : (v4 + (3 : Int32)).toInt = v4.toInt + 3 := add_ti rfl rfl (by omega) (by omega)
  have a4 : (v4 + (4 : Int32)).toInt = v4.toInt + 4 := add_ti rfl rfl (by omega) (by omega)
  unfold j_law_849_23
  refine inb_i (by omega) (by omega) ?_
  obtain ⟨x74, e_x, r_, e_r, e_q, h_i⟩ := tz_pieces h (xs (v4 + (1 : Int32)).toNatClampNeg)
  refine bind_e e_x ?_
  refine inb_i (by omega) (by omega) ?_
  refine bind_e e_r ?_
  exact ⟨_, rfl, _, rfl, h_i⟩
theorem jv_874_23 {n : Int} (hn : n ≤ 1000000) {M : Mem} (h : IW n M) (L : Nat) (xs : Nat → Int32) (v4 : Int32) (h0 : 0 ≤ v4.toInt) (h5 : v4.toInt + 5 ≤ (L : Int)) (hL : (L : Int) ≤ 2560) : ∃ o, j_law_874_23 L xs v4 M = some o ∧ LV n v4 o := by
  have a1 : (v4 + (1 : Int32)).toInt = v4.toInt + 1 := add_ti rfl rfl (by omega) (by omega)
  have a2 : (v4 + (2 : Int32)).toInt = v4.toInt + 2 := add_ti rfl rfl (by omega) (by omega)
  have a3 : (v4 + (3 : Int32)).toInt = v4.toInt + 3 := add_ti rfl rfl (by omega) (by omega)
  have a4 : (v4 + (4 : Int32)).toInt = v4.toInt + 4 := add_ti rfl rfl (by omega) (by omega)
  unfold j_law_874_23
  refine inb_i (by omega) (by omega) ?_
  refine inb_i (by omega) (by omega) ?_
  obtain ⟨x77, e_x, r_, e_r, e_q, h_i⟩ := tz_reach h (xs (v4 + (1 : Int32)).toNatClampNeg) (xs (v4 + (2 : Int32)).toNatClampNeg)
  refine bind_e e_x ?_
  refine inb_i (by omega) (by omega) ?_
  refine inb_i (by omega) (by omega) ?_
  refine bind_e e_r ?_
  exact ⟨_, rfl, _, rfl, h_i⟩
theorem jv_911_23 {n : Int} (hn : n ≤ 1000000) {M : Mem} (h : IW n M) (L : Nat) (xs : Nat → Int32) (v4 : Int32) (h0 : 0 ≤ v4.toInt) (h5 : v4.toInt + 5 ≤ (L : Int)) (hL : (L : Int) ≤ 2560) : ∃ o, j_law_911_23 L xs v4 M = some o ∧ LV n v4 o := by
  have a1 : (v4 + (1 : Int32)).toInt = v4.toInt + 1 := add_ti rfl rfl (by omega) (by omega)
  have a2 : (v4 + (2 : Int32)).toInt = v4.toInt + 2 := add_ti rfl rfl (by omega) (by omega)
  have a3 : (v4 + (3 : Int32)).toInt = v4.toInt + 3 := add_ti rfl rfl (by omega) (by omega)
  have a4 : (v4 + (4 : Int32)).toInt = v4.toInt + 4 := add_ti rfl rfl (by omega) (by omega)
  unfold j_law_911_23
  refine inb_i (by omega) (by omega) ?_
  refine inb_i (by omega) (by omega) ?_
  refine inb_i (by omega) (by omega) ?_
  obtain ⟨x80, e_x, r_, e_r, e_q, h_i⟩ := tz_path h (xs (v4 + (1 : Int32)).toNatClampNeg) (xs (v4 + (2 : Int32)).toNatClampNeg) (xs (v4 + (3 : Int32)).toNatClampNeg)
  refine bind_e e_x ?_
  refine inb_i (by omega) (by omega) ?_
  refine inb_i (by omega) (by omega) ?_
  refine inb_i (by omega) (by omega) ?_
  refine bind_e e_r ?_
  exact ⟨_, rfl, _, rfl, h_i⟩
theorem jv_960_23 {n : Int} (hn : n ≤ 1000000) {M : Mem} (h : IW n M) (L : Nat) (xs : Nat → Int32) (v4 : Int32) (h0 : 0 ≤ v4.toInt) (h5 : v4.toInt + 5 ≤ (L : Int)) (hL : (L : Int) ≤ 2560) : ∃ o, j_law_960_23 L xs v4 M = some o ∧ LV n v4 o := by
  have a1 : (v4 + (1 : Int32)).toInt = v4.toInt + 1 := add_ti rfl rfl (by omega) (by omega)
  have a2 : (v4 + (2 : Int32)).toInt = v4.toInt + 2 := add_ti rfl rfl (by omega) (by omega)
  have a3 : (v4 + (3 : Int32)).toInt = v4.toInt + 3 := add_ti rfl rfl (by omega) (by omega)
  have a4 : (v4 + (4 : Int32)).toInt = v4.toInt + 4 := add_ti rfl rfl (by omega) (by omega)
  unfold j_law_960_23
  refine inb_i (by omega) (by omega) ?_
  refine inb_i (by omega) (by omega) ?_
  refine inb_i (by omega) (by omega) ?_
  refine inb_i (by omega) (by omega) ?_
  obtain ⟨x83, e_x, r_, e_r, e_q, h_i⟩ := tz_both h (xs (v4 + (1 : Int32)).toNatClampNeg) (xs (v4 + (2 : Int32)).toNatClampNeg) (xs (v4 + (3 : Int32)).toNatClampNeg) (xs (v4 + (4 : Int32)).toNatClampNeg)
  refine bind_e e_x ?_
  refine inb_i (by omega) (by omega) ?_
  refine inb_i (by omega) (by omega) ?_
  refine inb_i (by omega) (by omega) ?_
  refine inb_i (by omega) (by omega) ?_
  refine bind_e e_r ?_
  exact ⟨_, rfl, _, rfl, h_i⟩
theorem jv_1021_23 {n : Int} (hn : n ≤ 1000000) {M : Mem} (h : IW n M) (L : Nat) (xs : Nat → Int32) (v4 : Int32) (h0 : 0 ≤ v4.toInt) (h5 : v4.toInt + 5 ≤ (L : Int)) (hL : (L : Int) ≤ 2560) : ∃ o, j_law_1021_23 L xs v4 M = some o ∧ LV n v4 o := by
  have a1 : (v4 + (1 : Int32)).toInt = v4.toInt + 1 := add_ti rfl rfl (by omega) (by omega)
  have a2 : (v4 + (2 : Int32)).toInt = v4.toInt + 2 := add_ti rfl rfl (by omega) (by omega)
  have a3 : (v4 + (3 : Int32)).toInt = v4.toInt + 3 := add_ti rfl rfl (by omega) (by omega)
  have a4 : (v4 + (4 : Int32)).toInt = v4.toInt + 4 := add_ti rfl rfl (by omega) (by omega)
  unfold j_law_1021_23
  refine inb_i (by omega) (by omega) ?_
  refine inb_i (by omega) (by omega) ?_
  obtain ⟨x86, e_x, r_, e_r, e_q, h_i⟩ := tz_errand h (xs (v4 + (1 : Int32)).toNatClampNeg) (xs (v4 + (2 : Int32)).toNatClampNeg)
  refine bind_e e_x ?_
  refine inb_i (by omega) (by omega) ?_
  refine inb_i (by omega) (by omega) ?_
  refine bind_e e_r ?_
  exact ⟨_, rfl, _, rfl, h_i⟩
theorem jv_1058_23 {n : Int} (hn : n ≤ 1000000) {M : Mem} (h : IW n M) (L : Nat) (xs : Nat → Int32) (v4 : Int32) (h0 : 0 ≤ v4.toInt) (h5 : v4.toInt + 5 ≤ (L : Int)) (hL : (L : Int) ≤ 2560) : ∃ o, j_law_1058_23 L xs v4 M = some o ∧ LV n v4 o := by
  have a1 : (v4 + (1 : Int32)).toInt = v4.toInt + 1 := add_ti rfl rfl (by omega) (by omega)
  have a2 : (v4 + (2 : Int32)).toInt = v4.toInt + 2 := add_ti rfl rfl (by omega) (by omega)
  have a3 : (v4 + (3 : Int32)).toInt = v4.toInt + 3 := add_ti rfl rfl (by omega) (by omega)
  have a4 : (v4 + (4 : Int32)).toInt = v4.toInt + 4 := add_ti rfl rfl (by omega) (by omega)
  unfold j_law_1058_23
  refine inb_i (by omega) (by omega) ?_
  refine inb_i (by omega) (by omega) ?_
  obtain ⟨x89, e_x, r_, e_r, e_q, h_i⟩ := tz_tryst h (xs (v4 + (1 : Int32)).toNatClampNeg) (xs (v4 + (2 : Int32)).toNatClampNeg)
  refine bind_e e_x ?_
  refine inb_i (by omega) (by omega) ?_
  refine inb_i (by omega) (by omega) ?_
  refine bind_e e_r ?_
  exact ⟨_, rfl, _, rfl, h_i⟩
theorem jv_1095_23 {n : Int} (hn : n ≤ 1000000) {M : Mem} (h : IW n M) (L : Nat) (xs : Nat → Int32) (v4 : Int32) (h0 : 0 ≤ v4.toInt) (h5 : v4.toInt + 5 ≤ (L : Int)) (hL : (L : Int) ≤ 2560) : ∃ o, j_law_1095_23 L xs v4 M = some o ∧ LV n v4 o := by
  have a1 : (v4 + (1 : Int32)).toInt = v4.toInt + 1 := add_ti rfl rfl (by omega) (by omega)
  have a2 : (v4 + (2 : Int32)).toInt = v4.toInt + 2 := add_ti rfl rfl (by omega) (by omega)
  have a3 : (v4 + (3 : Int32)).toInt = v4.toInt + 3 := add_ti rfl rfl (by omega) (by omega)
  have a4 : (v4 + (4 : Int32)).toInt = v4.toInt + 4 := add_ti rfl rfl (by omega) (by omega)
  unfold j_law_1095_23
  refine inb_i (by omega) (by omega) ?_
  refine inb_i (by omega) (by omega) ?_
  obtain ⟨x92, e_x, r_, e_r, e_q, h_i⟩ := tz_open h (xs (v4 + (1 : Int32)).toNatClampNeg) (xs (v4 + (2 : Int32)).toNatClampNeg)
  refine bind_e e_x ?_
  refine inb_i (by omega) (by omega) ?_
  refine inb_i (by omega) (by omega) ?_
  refine bind_e e_r ?_
  exact ⟨_, rfl, _, rfl, h_i⟩
theorem jv_1132_23 {n : Int} (hn : n ≤ 1000000) {M : Mem} (h : IW n M) (L : Nat) (xs : Nat → Int32) (v4 : Int32) (h0 : 0 ≤ v4.toInt) (h5 : v4.toInt + 5 ≤ (L : Int)) (hL : (L : Int) ≤ 2560) : ∃ o, j_law_1132_23 L xs v4 M = some o ∧ LV n v4 o := by
  have a1 : (v4 + (1 : Int32)).toInt = v4.toInt + 1 := add_ti rfl rfl (by omega) (by omega)
  have a2 : (v4 + (2 : Int32)).toInt = v4.toInt + 2 := add_ti rfl rfl (by omega) (by omega)
  have a3 : (v4 + (3 : Int32)).toInt = v4.toInt + 3 := add_ti rfl rfl (by omega) (by omega)
  have a4 : (v4 + (4 : Int32)).toInt = v4.toInt + 4 := add_ti rfl rfl (by omega) (by omega)
  unfold j_law_1132_23
  refine inb_i (by omega) (by omega) ?_
  refine inb_i (by omega) (by omega) ?_
  obtain ⟨x95, e_x, r_, e_r, e_q, h_i⟩ := tz_part h (xs (v4 + (1 : Int32)).toNatClampNeg) (xs (v4 + (2 : Int32)).toNatClampNeg)
  refine bind_e e_x ?_
  refine inb_i (by omega) (by omega) ?_
  refine inb_i (by omega) (by omega) ?_
  refine bind_e e_r ?_
  exact ⟨_, rfl, _, rfl, h_i⟩
theorem jv_1169_23 {n : Int} (hn : n ≤ 1000000) {M : Mem} (h : IW n M) (L : Nat) (xs : Nat → Int32) (v4 : Int32) (h0 : 0 ≤ v4.toInt) (h5 : v4.toInt + 5 ≤ (L : Int)) (hL : (L : Int) ≤ 2560) : ∃ o, j_law_1169_23 L xs v4 M = some o ∧ LV n v4 o := by
  have a1 : (v4 + (1 : Int32)).toInt = v4.toInt + 1 := add_ti rfl rfl (by omega) (by omega)
  have a2 : (v4 + (2 : Int32)).toInt = v4.toInt + 2 := add_ti rfl rfl (by omega) (by omega)
  have a3 : (v4 + (3 : Int32)).toInt = v4.toInt + 3 := add_ti rfl rfl (by omega) (by omega)
  have a4 : (v4 + (4 : Int32)).toInt = v4.toInt + 4 := add_ti rfl rfl (by omega) (by omega)
  unfold j_law_1169_23
  refine inb_i (by omega) (by omega) ?_
  refine inb_i (by omega) (by omega) ?_
  obtain ⟨x98, e_x, r_, e_r, e_q, h_i⟩ := tz_planks h (xs (v4 + (1 : Int32)).toNatClampNeg) (xs (v4 + (2 : Int32)).toNatClampNeg)
  refine bind_e e_x ?_
  refine inb_i (by omega) (by omega) ?_
  refine inb_i (by omega) (by omega) ?_
  refine bind_e e_r ?_
  exact ⟨_, rfl, _, rfl, h_i⟩
theorem jv_1206_23 {n : Int} (hn : n ≤ 1000000) {M : Mem} (h : IW n M) (L : Nat) (xs : Nat → Int32) (v4 : Int32) (h0 : 0 ≤ v4.toInt) (h5 : v4.toInt + 5 ≤ (L : Int)) (hL : (L : Int) ≤ 2560) : ∃ o, j_law_1206_23 L xs v4 M = some o ∧ LV n v4 o := by
  have a1 : (v4 + (1 : Int32)).toInt = v4.toInt + 1 := add_ti rfl rfl (by omega) (by omega)
  have a2 : (v4 + (2 : Int32)).toInt = v4.toInt + 2 := add_ti rfl rfl (by omega) (by omega)
  have a3 : (v4 + (3 : Int32)).toInt = v4.toInt + 3 := add_ti rfl rfl (by omega) (by omega)
  have a4 : (v4 + (4 : Int32)).toInt = v4.toInt + 4 := add_ti rfl rfl (by omega) (by omega)
  unfold j_law_1206_23
  refine inb_i (by omega) (by omega) ?_
  obtain ⟨x101, e_x, r_, e_r, e_q, h_i⟩ := tz_fire h (xs (v4 + (1 : Int32)).toNatClampNeg)
  refine bind_e e_x ?_
  refine inb_i (by omega) (by omega) ?_
  refine bind_e e_r ?_
  exact ⟨_, rfl, _, rfl, h_i⟩
theorem jv_1231_23 {n : Int} (hn : n ≤ 1000000) {M : Mem} (h : IW n M) (L : Nat) (xs : Nat → Int32) (v4 : Int32) (h0 : 0 ≤ v4.toInt) (h5 : v4.toInt + 5 ≤ (L : Int)) (hL : (L : Int) ≤ 2560) : ∃ o, j_law_1231_23 L xs v4 M = some o ∧ LV n v4 o := by
  have a1 : (v4 + (1 : Int32)).toInt = v4.toInt + 1 := add_ti rfl rfl (by omega) (by omega)
  have a2 : (v4 + (2 : Int32)).toInt = v4.toInt + 2 := add_ti rfl rfl (by omega) (by omega)
  have a3 : (v4 + (3 : Int32)).toInt = v4.toInt + 3 := add_ti rfl rfl (by omega) (by omega)
  have a4 : (v4 + (4 : Int32)).toInt = v4.toInt + 4 := add_ti rfl rfl (by omega) (by omega)
  unfold j_law_1231_23
  refine inb_i (by omega) (by omega) ?_
  obtain ⟨x104, e_x, r_, e_r, e_q, h_i⟩ := tz_fights h (xs (v4 + (1 : Int32)).toNatClampNeg)
  refine bind_e e_x ?_
  refine inb_i (by omega) (by omega) ?_
  refine bind_e e_r ?_
  exact ⟨_, rfl, _, rfl, h_i⟩
theorem jv_1256_23 {n : Int} (hn : n ≤ 1000000) {M : Mem} (h : IW n M) (L : Nat) (xs : Nat → Int32) (v4 : Int32) (h0 : 0 ≤ v4.toInt) (h5 : v4.toInt + 5 ≤ (L : Int)) (hL : (L : Int) ≤ 2560) : ∃ o, j_law_1256_23 L xs v4 M = some o ∧ LV n v4 o := by
  have a1 : (v4 + (1 : Int32)).toInt = v4.toInt + 1 := add_ti rfl rfl (by omega) (by omega)
  have a2 : (v4 + (2 : Int32)).toInt = v4.toInt + 2 := add_ti rfl rfl (by omega) (by omega)
  have a3 : (v4 + (3 : Int32)).toInt = v4.toInt + 3 := add_ti rfl rfl (by omega) (by omega)
  have a4 : (v4 + (4 : Int32)).toInt = v4.toInt + 4 := add_ti rfl rfl (by omega) (by omega)
  unfold j_law_1256_23
  obtain ⟨x107, e_x, r_, e_r, e_q, h_i⟩ := tz_saved h 
  refine bind_e e_x ?_
  refine bind_e e_r ?_
  exact ⟨_, rfl, _, rfl, h_i⟩
theorem jv_1269_23 {n : Int} (hn : n ≤ 1000000) {M : Mem} (h : IW n M) (L : Nat) (xs : Nat → Int32) (v4 : Int32) (h0 : 0 ≤ v4.toInt) (h5 : v4.toInt + 5 ≤ (L : Int)) (hL : (L : Int) ≤ 2560) : ∃ o, j_law_1269_23 L xs v4 M = some o ∧ LV n v4 o := by
  have a1 : (v4 + (1 : Int32)).toInt = v4.toInt + 1 := add_ti rfl rfl (by omega) (by omega)
  have a2 : (v4 + (2 : Int32)).toInt = v4.toInt + 2 := add_ti rfl rfl (by omega) (by omega)
  have a3 : (v4 + (3 : Int32)).toInt = v4.toInt + 3 := add_ti rfl rfl (by omega) (by omega)
  have a4 : (v4 + (4 : Int32)).toInt = v4.toInt + 4 := add_ti rfl rfl (by omega) (by omega)
  unfold j_law_1269_23
  refine inb_i (by omega) (by omega) ?_
  refine inb_i (by omega) (by omega) ?_
  obtain ⟨x110, e_x, r_, e_r, e_q, h_i⟩ := tz_wardrobe h (xs (v4 + (1 : Int32)).toNatClampNeg) (xs (v4 + (2 : Int32)).toNatClampNeg)
  refine bind_e e_x ?_
  refine inb_i (by omega) (by omega) ?_
  refine inb_i (by omega) (by omega) ?_
  refine bind_e e_r ?_
  exact ⟨_, rfl, _, rfl, h_i⟩
theorem jv_1306_23 {n : Int} (hn : n ≤ 1000000) {M : Mem} (h : IW n M) (L : Nat) (xs : Nat → Int32) (v4 : Int32) (h0 : 0 ≤ v4.toInt) (h5 : v4.toInt + 5 ≤ (L : Int)) (hL : (L : Int) ≤ 2560) : ∃ o, j_law_1306_23 L xs v4 M = some o ∧ LV n v4 o := by
  have a1 : (v4 + (1 : Int32)).toInt = v4.toInt + 1 := add_ti rfl rfl (by omega) (by omega)
  have a2 : (v4 + (2 : Int32)).toInt = v4.toInt + 2 := add_ti rfl rfl (by omega) (by omega)
  have a3 : (v4 + (3 : Int32)).toInt = v4.toInt + 3 := add_ti rfl rfl (by omega) (by omega)
  have a4 : (v4 + (4 : Int32)).toInt = v4.toInt + 4 := add_ti rfl rfl (by omega) (by omega)
  unfold j_law_1306_23
  refine inb_i (by omega) (by omega) ?_
  refine inb_i (by omega) (by omega) ?_
  refine inb_i (by omega) (by omega) ?_
  obtain ⟨x113, e_x, r_, e_r, e_q, h_i⟩ := tz_flees h (xs (v4 + (1 : Int32)).toNatClampNeg) (xs (v4 + (2 : Int32)).toNatClampNeg) (xs (v4 + (3 : Int32)).toNatClampNeg)
  refine bind_e e_x ?_
  refine inb_i (by omega) (by omega) ?_
  refine inb_i (by omega) (by omega) ?_
  refine inb_i (by omega) (by omega) ?_
  refine bind_e e_r ?_
  exact ⟨_, rfl, _, rfl, h_i⟩
theorem jv_1355_23 {n : Int} (hn : n ≤ 1000000) {M : Mem} (h : IW n M) (L : Nat) (xs : Nat → Int32) (v4 : Int32) (h0 : 0 ≤ v4.toInt) (h5 : v4.toInt + 5 ≤ (L : Int)) (hL : (L : Int) ≤ 2560) : ∃ o, j_law_1355_23 L xs v4 M = some o ∧ LV n v4 o := by
  have a1 : (v4 + (1 : Int32)).toInt = v4.toInt + 1 := add_ti rfl rfl (by omega) (by omega)
  have a2 : (v4 + (2 : Int32)).toInt = v4.toInt + 2 := add_ti rfl rfl (by omega) (by omega)
  have a3 : (v4 + (3 : Int32)).toInt = v4.toInt + 3 := add_ti rfl rfl (by omega) (by omega)
  have a4 : (v4 + (4 : Int32)).toInt = v4.toInt + 4 := add_ti rfl rfl (by omega) (by omega)
  unfold j_law_1355_23
  refine inb_i (by omega) (by omega) ?_
  obtain ⟨x116, e_x, r_, e_r, e_q, h_i⟩ := tz_lairs h (xs (v4 + (1 : Int32)).toNatClampNeg)
  refine bind_e e_x ?_
  refine inb_i (by omega) (by omega) ?_
  refine bind_e e_r ?_
  exact ⟨_, rfl, _, rfl, h_i⟩
theorem jv_1380_23 {n : Int} (hn : n ≤ 1000000) {M : Mem} (h : IW n M) (L : Nat) (xs : Nat → Int32) (v4 : Int32) (h0 : 0 ≤ v4.toInt) (h5 : v4.toInt + 5 ≤ (L : Int)) (hL : (L : Int) ≤ 2560) : ∃ o, j_law_1380_23 L xs v4 M = some o ∧ LV n v4 o := by
  have a1 : (v4 + (1 : Int32)).toInt = v4.toInt + 1 := add_ti rfl rfl (by omega) (by omega)
  have a2 : (v4 + (2 : Int32)).toInt = v4.toInt + 2 := add_ti rfl rfl (by omega) (by omega)
  have a3 : (v4 + (3 : Int32)).toInt = v4.toInt + 3 := add_ti rfl rfl (by omega) (by omega)
  have a4 : (v4 + (4 : Int32)).toInt = v4.toInt + 4 := add_ti rfl rfl (by omega) (by omega)
  unfold j_law_1380_23
  refine inb_i (by omega) (by omega) ?_
  refine inb_i (by omega) (by omega) ?_
  obtain ⟨x119, e_x, r_, e_r, e_q, h_i⟩ := tz_caught h (xs (v4 + (1 : Int32)).toNatClampNeg) (xs (v4 + (2 : Int32)).toNatClampNeg)
  refine bind_e e_x ?_
  refine inb_i (by omega) (by omega) ?_
  refine inb_i (by omega) (by omega) ?_
  refine bind_e e_r ?_
  exact ⟨_, rfl, _, rfl, h_i⟩
theorem jv_1417_23 {n : Int} (hn : n ≤ 1000000) {M : Mem} (h : IW n M) (L : Nat) (xs : Nat → Int32) (v4 : Int32) (h0 : 0 ≤ v4.toInt) (h5 : v4.toInt + 5 ≤ (L : Int)) (hL : (L : Int) ≤ 2560) : ∃ o, j_law_1417_23 L xs v4 M = some o ∧ LV n v4 o := by
  have a1 : (v4 + (1 : Int32)).toInt = v4.toInt + 1 := add_ti rfl rfl (by omega) (by omega)
  have a2 : (v4 + (2 : Int32)).toInt = v4.toInt + 2 := add_ti rfl rfl (by omega) (by omega)
  have a3 : (v4 + (3 : Int32)).toInt = v4.toInt + 3 := add_ti rfl rfl (by omega) (by omega)
  have a4 : (v4 + (4 : Int32)).toInt = v4.toInt + 4 := add_ti rfl rfl (by omega) (by omega)
  unfold j_law_1417_23
  refine inb_i (by omega) (by omega) ?_
  refine inb_i (by omega) (by omega) ?_
  refine inb_i (by omega) (by omega) ?_
  refine inb_i (by omega) (by omega) ?_
  obtain ⟨x122, e_x, r_, e_r, e_q, h_i⟩ := tz_watch h (xs (v4 + (1 : Int32)).toNatClampNeg) (xs (v4 + (2 : Int32)).toNatClampNeg) (xs (v4 + (3 : Int32)).toNatClampNeg) (xs (v4 + (4 : Int32)).toNatClampNeg)
  refine bind_e e_x ?_
  refine inb_i (by omega) (by omega) ?_
  refine inb_i (by omega) (by omega) ?_
  refine inb_i (by omega) (by omega) ?_
  refine inb_i (by omega) (by omega) ?_
  refine bind_e e_r ?_
  exact ⟨_, rfl, _, rfl, h_i⟩
theorem jv_1478_23 {n : Int} (hn : n ≤ 1000000) {M : Mem} (h : IW n M) (L : Nat) (xs : Nat → Int32) (v4 : Int32) (h0 : 0 ≤ v4.toInt) (h5 : v4.toInt + 5 ≤ (L : Int)) (hL : (L : Int) ≤ 2560) : ∃ o, j_law_1478_23 L xs v4 M = some o ∧ LV n v4 o := by
  have a1 : (v4 + (1 : Int32)).toInt = v4.toInt + 1 := add_ti rfl rfl (by omega) (by omega)
  have a2 : (v4 + (2 : Int32)).toInt = v4.toInt + 2 := add_ti rfl rfl (by omega) (by omega)
  have a3 : (v4 + (3 : Int32)).toInt = v4.toInt + 3 := add_ti rfl rfl (by omega) (by omega)
  have a4 : (v4 + (4 : Int32)).toInt = v4.toInt + 4 := add_ti rfl rfl (by omega) (by omega)
  unfold j_law_1478_23
  refine inb_i (by omega) (by omega) ?_
  obtain ⟨x125, e_x, r_, e_r, e_q, h_i⟩ := tz_keep h (xs (v4 + (1 : Int32)).toNatClampNeg)
  refine bind_e e_x ?_
  refine inb_i (by omega) (by omega) ?_
  refine bind_e e_r ?_
  exact ⟨_, rfl, _, rfl, h_i⟩
theorem jv_1503_23 {n : Int} (hn : n ≤ 1000000) {M : Mem} (h : IW n M) (L : Nat) (xs : Nat → Int32) (v4 : Int32) (h0 : 0 ≤ v4.toInt) (h5 : v4.toInt + 5 ≤ (L : Int)) (hL : (L : Int) ≤ 2560) : ∃ o, j_law_1503_23 L xs v4 M = some o ∧ LV n v4 o := by
  have a1 : (v4 + (1 : Int32)).toInt = v4.toInt + 1 := add_ti rfl rfl (by omega) (by omega)
  have a2 : (v4 + (2 : Int32)).toInt = v4.toInt + 2 := add_ti rfl rfl (by omega) (by omega)
  have a3 : (v4 + (3 : Int32)).toInt = v4.toInt + 3 := add_ti rfl rfl (by omega) (by omega)
  have a4 : (v4 + (4 : Int32)).toInt = v4.toInt + 4 := add_ti rfl rfl (by omega) (by omega)
  unfold j_law_1503_23
  refine inb_i (by omega) (by omega) ?_
  obtain ⟨x128, e_x, r_, e_r, e_q, h_i⟩ := tz_again h (xs (v4 + (1 : Int32)).toNatClampNeg)
  refine bind_e e_x ?_
  refine inb_i (by omega) (by omega) ?_
  refine bind_e e_r ?_
  exact ⟨_, rfl, _, rfl, h_i⟩
theorem jv_1528_23 {n : Int} (hn : n ≤ 1000000) {M : Mem} (h : IW n M) (L : Nat) (xs : Nat → Int32) (v4 : Int32) (h0 : 0 ≤ v4.toInt) (h5 : v4.toInt + 5 ≤ (L : Int)) (hL : (L : Int) ≤ 2560) : ∃ o, j_law_1528_23 L xs v4 M = some o ∧ LV n v4 o := by
  have a1 : (v4 + (1 : Int32)).toInt = v4.toInt + 1 := add_ti rfl rfl (by omega) (by omega)
  have a2 : (v4 + (2 : Int32)).toInt = v4.toInt + 2 := add_ti rfl rfl (by omega) (by omega)
  have a3 : (v4 + (3 : Int32)).toInt = v4.toInt + 3 := add_ti rfl rfl (by omega) (by omega)
  have a4 : (v4 + (4 : Int32)).toInt = v4.toInt + 4 := add_ti rfl rfl (by omega) (by omega)
  unfold j_law_1528_23
  refine inb_i (by omega) (by omega) ?_
  obtain ⟨x131, e_x, r_, e_r, e_q, h_i⟩ := tz_count h (xs (v4 + (1 : Int32)).toNatClampNeg)
  refine bind_e e_x ?_
  refine inb_i (by omega) (by omega) ?_
  refine bind_e e_r ?_
  exact ⟨_, rfl, _, rfl, h_i⟩
theorem jv_1553_23 {n : Int} (hn : n ≤ 1000000) {M : Mem} (h : IW n M) (L : Nat) (xs : Nat → Int32) (v4 : Int32) (h0 : 0 ≤ v4.toInt) (h5 : v4.toInt + 5 ≤ (L : Int)) (hL : (L : Int) ≤ 2560) : ∃ o, j_law_1553_23 L xs v4 M = some o ∧ LV n v4 o := by
  have a1 : (v4 + (1 : Int32)).toInt = v4.toInt + 1 := add_ti rfl rfl (by omega) (by omega)
  have a2 : (v4 + (2 : Int32)).toInt = v4.toInt + 2 := add_ti rfl rfl (by omega) (by omega)
  have a3 : (v4 + (3 : Int32)).toInt = v4.toInt + 3 := add_ti rfl rfl (by omega) (by omega)
  have a4 : (v4 + (4 : Int32)).toInt = v4.toInt + 4 := add_ti rfl rfl (by omega) (by omega)
  unfold j_law_1553_23
  refine inb_i (by omega) (by omega) ?_
  obtain ⟨x134, e_x, r_, e_r, e_q, h_i⟩ := tz_row h (xs (v4 + (1 : Int32)).toNatClampNeg)
  refine bind_e e_x ?_
  refine inb_i (by omega) (by omega) ?_
  refine bind_e e_r ?_
  exact ⟨_, rfl, _, rfl, h_i⟩
theorem lv_call {n : Int} (hn : n ≤ 1000000) {M : Mem} (h : IW n M) (L : Nat) (xs : Nat → Int32) (v4 : Int32) (h0 : 0 ≤ v4.toInt) (h5 : v4.toInt + 5 ≤ (L : Int)) (hL : (L : Int) ≤ 2560) : ∃ o, lb_law L xs (v4, M) = some o ∧ LV n v4 o := by
  have eL : (Int32.ofNat L).toInt = (L : Int) := ofn_ti (by omega)
  have eS : ((Int32.ofNat L) - (5 : Int32)).toInt = (L : Int) - 5 := sub_ti eL rfl (by omega) (by omega)
  unfold lb_law
  dsimp only
  refine if_i (fun c => by have := lti.mp c; omega) (fun _ => inb_i h0 (by omega) ?_)
  refine if_i (fun _ => jv_228_23 hn h L xs v4 h0 h5 hL) (fun _ => ?_)
  refine if_i (fun _ => jv_253_23 hn h L xs v4 h0 h5 hL) (fun _ => ?_)
  refine if_i (fun _ => jv_278_23 hn h L xs v4 h0 h5 hL) (fun _ => ?_)
  refine if_i (fun _ => jv_291_23 hn h L xs v4 h0 h5 hL) (fun _ => ?_)
  refine if_i (fun _ => jv_304_23 hn h L xs v4 h0 h5 hL) (fun _ => ?_)
  refine if_i (fun _ => jv_317_23 hn h L xs v4 h0 h5 hL) (fun _ => ?_)
  refine if_i (fun _ => jv_342_23 hn h L xs v4 h0 h5 hL) (fun _ => ?_)
  refine if_i (fun _ => jv_410_23 hn h L xs v4 h0 h5 hL) (fun _ => ?_)
  refine if_i (fun _ => jv_450_23 hn h L xs v4 h0 h5 hL) (fun _ => ?_)
  refine if_i (fun _ => jv_487_23 hn h L xs v4 h0 h5 hL) (fun _ => ?_)
  refine if_i (fun _ => jv_524_23 hn h L xs v4 h0 h5 hL) (fun _ => ?_)
  refine if_i (fun _ => jv_537_23 hn h L xs v4 h0 h5 hL) (fun _ => ?_)
  refine if_i (fun _ => jv_598_23 hn h L xs v4 h0 h5 hL) (fun _ => ?_)
  refine if_i (fun _ => jv_623_23 hn h L xs v4 h0 h5 hL) (fun _ => ?_)
  refine if_i (fun _ => jv_648_23 hn h L xs v4 h0 h5 hL) (fun _ => ?_)
  refine if_i (fun _ => jv_661_23 hn h L xs v4 h0 h5 hL) (fun _ => ?_)
  refine if_i (fun _ => jv_686_23 hn h L xs v4 h0 h5 hL) (fun _ => ?_)
  refine if_i (fun _ => jv_699_23 hn h L xs v4 h0 h5 hL) (fun _ => ?_)
  refine if_i (fun _ => jv_712_23 hn h L xs v4 h0 h5 hL) (fun _ => ?_)
  refine if_i (fun _ => jv_749_23 hn h L xs v4 h0 h5 hL) (fun _ => ?_)
  refine if_i (fun _ => jv_774_23 hn h L xs v4 h0 h5 hL) (fun _ => ?_)
  refine if_i (fun _ => jv_811_23 hn h L xs v4 h0 h5 hL) (fun _ => ?_)
  refine if_i (fun _ => jv_824_23 hn h L xs v4 h0 h5 hL) (fun _ => ?_)
  refine if_i (fun _ => jv_849_23 hn h L xs v4 h0 h5 hL) (fun _ => ?_)
  refine if_i (fun _ => jv_874_23 hn h L xs v4 h0 h5 hL) (fun _ => ?_)
  refine if_i (fun _ => jv_911_23 hn h L xs v4 h0 h5 hL) (fun _ => ?_)
  refine if_i (fun _ => jv_960_23 hn h L xs v4 h0 h5 hL) (fun _ => ?_)
  refine if_i (fun _ => jv_1021_23 hn h L xs v4 h0 h5 hL) (fun _ => ?_)
  refine if_i (fun _ => jv_1058_23 hn h L xs v4 h0 h5 hL) (fun _ => ?_)
  refine if_i (fun _ => jv_1095_23 hn h L xs v4 h0 h5 hL) (fun _ => ?_)
  refine if_i (fun _ => jv_1132_23 hn h L xs v4 h0 h5 hL) (fun _ => ?_)
  refine if_i (fun _ => jv_1169_23 hn h L xs v4 h0 h5 hL) (fun _ => ?_)
  refine if_i (fun _ => jv_1206_23 hn h L xs v4 h0 h5 hL) (fun _ => ?_)
  refine if_i (fun _ => jv_1231_23 hn h L xs v4 h0 h5 hL) (fun _ => ?_)
  refine if_i (fun _ => jv_1256_23 hn h L xs v4 h0 h5 hL) (fun _ => ?_)
  refine if_i (fun _ => jv_1269_23 hn h L xs v4 h0 h5 hL) (fun _ => ?_)
  refine if_i (fun _ => jv_1306_23 hn h L xs v4 h0 h5 hL) (fun _ => ?_)
  refine if_i (fun _ => jv_1355_23 hn h L xs v4 h0 h5 hL) (fun _ => ?_)
  refine if_i (fun _ => jv_1380_23 hn h L xs v4 h0 h5 hL) (fun _ => ?_)
  refine if_i (fun _ => jv_1417_23 hn h L xs v4 h0 h5 hL) (fun _ => ?_)
  refine if_i (fun _ => jv_1478_23 hn h L xs v4 h0 h5 hL) (fun _ => ?_)
  refine if_i (fun _ => jv_1503_23 hn h L xs v4 h0 h5 hL) (fun _ => ?_)
  refine if_i (fun _ => jv_1528_23 hn h L xs v4 h0 h5 hL) (fun _ => ?_)
  refine if_i (fun _ => jv_1553_23 hn h L xs v4 h0 h5 hL) (fun _ => ?_)
  exact ⟨_, rfl, _, rfl, IW_up h⟩
theorem pure_law (L : Nat) (xs : Nat → Int32) (hL : L ≤ 2560) : ∃ (n : Nat) (x : Mem), n ≤ 90000 ∧ iter (lb_law L xs) n (0, M0) = some (.inl x) := by
  have hl : ∃ x, iter (lb_law L xs) 3000 ((0 : Int32), M0) = some x ∧ (∃ y, x = Sum.inl y) := by
    refine iter_r (fun s : Int32 × Mem => 0 ≤ s.1.toInt ∧ s.1.toInt ≤ 2565 ∧ ∃ n : Int, n ≤ s.1.toInt ∧ IW n s.2) (fun s : Int32 × Mem => (2566 - s.1.toInt).toNat) _ ?_ 3000 _ ⟨(by show (0 : Int) ≤ (0 : Int32).toInt; decide), (by show (0 : Int32).toInt ≤ 2565; decide), 0, (by show (0 : Int) ≤ (0 : Int32).toInt; decide), IW_0 Inv_M0⟩ (by show (2566 - (0 : Int)).toNat < 3000; decide)
    rintro ⟨i, M⟩ ⟨h0, h1, n, hn, hI⟩
    dsimp only at h0 h1 hn hI
    by_cases c : i.toInt + 5 ≤ (L : Int)
    · obtain ⟨o, eo, r, er, hr⟩ := lv_call (by omega) hI L xs i h0 c (by omega)
      subst er
      have e5 : (i + (5 : Int32)).toInt = i.toInt + 5 := add_ti rfl rfl (by omega) (by omega)
      refine ⟨_, eo, ⟨?_, ?_, n + 1, ?_, hr⟩, ?_⟩
      · show 0 ≤ (i + (5 : Int32)).toInt; omega
      · show (i + (5 : Int32)).toInt ≤ 2565; omega
      · show n + 1 ≤ (i + (5 : Int32)).toInt; omega
      · show (2566 - (i + (5 : Int32)).toInt).toNat < (2566 - i.toInt).toNat; omega
    · have eL : (Int32.ofNat L).toInt = (L : Int) := ofn_ti (by omega)
      have eS : ((Int32.ofNat L) - (5 : Int32)).toInt = (L : Int) - 5 := sub_ti eL rfl (by omega) (by omega)
      refine ⟨.inr (Sum.inl M), ?_, M, rfl⟩
      unfold lb_law
      dsimp only
      rw [if_pos (lti.mpr (by omega))]
  obtain ⟨x, ex, y, rfl⟩ := hl
  exact ⟨3000, y, by decide, ex⟩
