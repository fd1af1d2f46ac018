/-! the law's calls -/
def LV (n : Int) (v4 : Int32) (o : (Int32 × Mem) ⊕ ((Mem) ⊕ (Int32 × Mem))) : Prop := ∃ r, o = .inl (v4 + (5 : Int32), r) ∧ IY (n + 1) r
theorem jv_228_23 {n : Int} (hn : n ≤ 1000000) {M : Mem} (h : IY n M) (L : Nat) (xs : Nat → Int32) (v4 : Int32) (h0 : 0 ≤ v4.toInt) (h5 : v4.toInt + 5 ≤ (L : Int)) (hL : (L : Int) ≤ 2560) : ∃ o, j_law_228_23 L xs v4 M = some o ∧ LV n v4 o := by
  have a1 : (v4 + (1 : Int32)).toInt = v4.toInt + 1 := add_ti rfl rfl (by omega) (by omega)
  have a2 : (v4 + (2 : Int32)).toInt = v4.toInt + 2 := add_ti rfl rfl (by omega) (by omega)
  have a3 : (v4 + (3 : Int32)).toInt = v4.toInt + 3 := add_ti rfl rfl (by omega) (by omega)
  have a4 : (v4 + (4 : Int32)).toInt = v4.toInt + 4 := add_ti rfl rfl (by omega) (by omega)
  unfold j_law_228_23
  refine inb_i (by omega) (by omega) ?_
  obtain ⟨x1, e_x, r_, e_r, e_q, h_i⟩ := ty_sign h (xs (v4 + (1 : Int32)).toNatClampNeg)
  refine bind_e e_x ?_
  refine inb_i (by omega) (by omega) ?_
  refine bind_e e_r ?_
  exact ⟨_, rfl, _, rfl, h_i⟩
theorem jv_253_23 {n : Int} (hn : n ≤ 1000000) {M : Mem} (h : IY n M) (L : Nat) (xs : Nat → Int32) (v4 : Int32) (h0 : 0 ≤ v4.toInt) (h5 : v4.toInt + 5 ≤ (L : Int)) (hL : (L : Int) ≤ 2560) : ∃ o, j_law_253_23 L xs v4 M = some o ∧ LV n v4 o := by
  have a1 : (v4 + (1 : Int32)).toInt = v4.toInt + 1 := add_ti rfl rfl (by omega) (by omega)
  have a2 : (v4 + (2 : Int32)).toInt = v4.toInt + 2 := add_ti rfl rfl (by omega) (by omega)
  have a3 : (v4 + (3 : Int32)).toInt = v4.toInt + 3 := add_ti rfl rfl (by omega) (by omega)
  have a4 : (v4 + (4 : Int32)).toInt = v4.toInt + 4 := add_ti rfl rfl (by omega) (by omega)
  unfold j_law_253_23
  refine inb_i (by omega) (by omega) ?_
  obtain ⟨x4, e_x, r_, e_r, e_q, h_i⟩ := ty_end h (xs (v4 + (1 : Int32)).toNatClampNeg)
  refine bind_e e_x ?_
  refine inb_i (by omega) (by omega) ?_
  refine bind_e e_r ?_
  exact ⟨_, rfl, _, rfl, h_i⟩
theorem jv_278_23 {n : Int} (hn : n ≤ 1000000) {M : Mem} (h : IY n M) (L : Nat) (xs : Nat → Int32) (v4 : Int32) (h0 : 0 ≤ v4.toInt) (h5 : v4.toInt + 5 ≤ (L : Int)) (hL : (L : Int) ≤ 2560) : ∃ o, j_law_278_23 L xs v4 M = some o ∧ LV n v4 o := by
  have a1 : (v4 + (1 : Int32)).toInt = v4.toInt + 1 := add_ti rfl rfl (by omega) (by omega)
  have a2 : (v4 + (2 : Int32)).toInt = v4.toInt + 2 := add_ti rfl rfl (by omega) (by omega)
  have a3 : (v4 + (3 : Int32)).toInt = v4.toInt + 3 := add_ti rfl rfl (by omega) (by omega)
  have a4 : (v4 + (4 : Int32)).toInt = v4.toInt + 4 := add_ti rfl rfl (by omega) (by omega)
  unfold j_law_278_23
  obtain ⟨x7, e_x, r_, e_r, e_q, h_i⟩ := ty_town h 
  refine bind_e e_x ?_
  refine bind_e e_r ?_
  exact ⟨_, rfl, _, rfl, h_i⟩
theorem jv_291_23 {n : Int} (hn : n ≤ 1000000) {M : Mem} (h : IY n M) (L : Nat) (xs : Nat → Int32) (v4 : Int32) (h0 : 0 ≤ v4.toInt) (h5 : v4.toInt + 5 ≤ (L : Int)) (hL : (L : Int) ≤ 2560) : ∃ o, j_law_291_23 L xs v4 M = some o ∧ LV n v4 o := by
  have a1 : (v4 + (1 : Int32)).toInt = v4.toInt + 1 := add_ti rfl rfl (by omega) (by omega)
  have a2 : (v4 + (2 : Int32)).toInt = v4.toInt + 2 := add_ti rfl rfl (by omega) (by omega)
  have a3 : (v4 + (3 : Int32)).toInt = v4.toInt + 3 := add_ti rfl rfl (by omega) (by omega)
  have a4 : (v4 + (4 : Int32)).toInt = v4.toInt + 4 := add_ti rfl rfl (by omega) (by omega)
  unfold j_law_291_23
  obtain ⟨x10, e_x, r_, e_r, e_q, h_i⟩ := ty_folk hn h 
  refine bind_e e_x ?_
  refine bind_e e_r ?_
  exact ⟨_, rfl, _, rfl, h_i⟩
theorem jv_304_23 {n : Int} (hn : n ≤ 1000000) {M : Mem} (h : IY n M) (L : Nat) (xs : Nat → Int32) (v4 : Int32) (h0 : 0 ≤ v4.toInt) (h5 : v4.toInt + 5 ≤ (L : Int)) (hL : (L : Int) ≤ 2560) : ∃ o, j_law_304_23 L xs v4 M = some o ∧ LV n v4 o := by
  have a1 : (v4 + (1 : Int32)).toInt = v4.toInt + 1 := add_ti rfl rfl (by omega) (by omega)
  have a2 : (v4 + (2 : Int32)).toInt = v4.toInt + 2 := add_ti rfl rfl (by omega) (by omega)
  have a3 : (v4 + (3 : Int32)).toInt = v4.toInt + 3 := add_ti rfl rfl (by omega) (by omega)
  have a4 : (v4 + (4 : Int32)).toInt = v4.toInt + 4 := add_ti rfl rfl (by omega) (by omega)
  unfold j_law_304_23
  obtain ⟨x13, e_x, r_, e_r, e_q, h_i⟩ := ty_rule h 
  refine bind_e e_x ?_
  refine bind_e e_r ?_
  exact ⟨_, rfl, _, rfl, h_i⟩
theorem jv_317_23 {n : Int} (hn : n ≤ 1000000) {M : Mem} (h : IY n M) (L : Nat) (xs : Nat → Int32) (v4 : Int32) (h0 : 0 ≤ v4.toInt) (h5 : v4.toInt + 5 ≤ (L : Int)) (hL : (L : Int) ≤ 2560) : ∃ o, j_law_317_23 L xs v4 M = some o ∧ LV n v4 o := by
  have a1 : (v4 + (1 : Int32)).toInt = v4.toInt + 1 := add_ti rfl rfl (by omega) (by omega)
  have a2 : (v4 + (2 : Int32)).toInt = v4.toInt + 2 := add_ti rfl rfl (by omega) (by omega)
  have a3 : (v4 + (3 : Int32)).toInt = v4.toInt + 3 := add_ti rfl rfl (by omega) (by omega)
  have a4 : (v4 + (4 : Int32)).toInt = v4.toInt + 4 := add_ti rfl rfl (by omega) (by omega)
  unfold j_law_317_23
  refine inb_i (by omega) (by omega) ?_
  obtain ⟨x16, e_x, r_, e_r, e_q, h_i⟩ := ty_route hn h (xs (v4 + (1 : Int32)).toNatClampNeg)
  refine bind_e e_x ?_
  refine inb_i (by omega) (by omega) ?_
  refine bind_e e_r ?_
  exact ⟨_, rfl, _, rfl, h_i⟩
theorem jv_342_23 {n : Int} (hn : n ≤ 1000000) {M : Mem} (h : IY n M) (L : Nat) (xs : Nat → Int32) (v4 : Int32) (h0 : 0 ≤ v4.toInt) (h5 : v4.toInt + 5 ≤ (L : Int)) (hL : (L : Int) ≤ 2560) : ∃ o, j_law_342_23 L xs v4 M = some o ∧ LV n v4 o := by
  have a1 : (v4 + (1 : Int32)).toInt = v4.toInt + 1 := add_ti rfl rfl (by omega) (by omega)
  have a2 : (v4 + (2 : Int32)).toInt = v4.toInt + 2 := add_ti rfl rfl (by omega) (by omega)
  have a3 : (v4 + (3 : Int32)).toInt = v4.toInt + 3 := add_ti rfl rfl (by omega) (by omega)
  have a4 : (v4 + (4 : Int32)).toInt = v4.toInt + 4 := add_ti rfl rfl (by omega) (by omega)
  unfold j_law_342_23
  refine inb_i (by omega) (by omega) ?_
  refine inb_i (by omega) (by omega) ?_
  obtain ⟨x19, e_x, r_, e_r, e_q, h_i⟩ := ty_cell h (xs (v4 + (1 : Int32)).toNatClampNeg) (xs (v4 + (2 : Int32)).toNatClampNeg)
  refine bind_e e_x ?_
  refine inb_i (by omega) (by omega) ?_
  refine inb_i (by omega) (by omega) ?_
  refine bind_e e_r ?_
  exact ⟨_, rfl, _, rfl, h_i⟩
theorem jv_382_23 {n : Int} (hn : n ≤ 1000000) {M : Mem} (h : IY n M) (L : Nat) (xs : Nat → Int32) (v4 : Int32) (h0 : 0 ≤ v4.toInt) (h5 : v4.toInt + 5 ≤ (L : Int)) (hL : (L : Int) ≤ 2560) : ∃ o, j_law_382_23 L xs v4 M = some o ∧ LV n v4 o := by
  have a1 : (v4 + (1 : Int32)).toInt = v4.toInt + 1 := add_ti rfl rfl (by omega) (by omega)
  have a2 : (v4 + (2 : Int32)).toInt = v4.toInt + 2 := add_ti rfl rfl (by omega) (by omega)
  have a3 : (v4 + (3 : Int32)).toInt = v4.toInt + 3 := add_ti rfl rfl (by omega) (by omega)
  have a4 : (v4 + (4 : Int32)).toInt = v4.toInt + 4 := add_ti rfl rfl (by omega) (by omega)
  unfold j_law_382_23
  refine inb_i (by omega) (by omega) ?_
  refine inb_i (by omega) (by omega) ?_
  obtain ⟨x22, e_x, r_, e_r, e_q, h_i⟩ := ty_person h (xs (v4 + (1 : Int32)).toNatClampNeg) (xs (v4 + (2 : Int32)).toNatClampNeg)
  refine bind_e e_x ?_
  refine inb_i (by omega) (by omega) ?_
  refine inb_i (by omega) (by omega) ?_
  refine bind_e e_r ?_
  exact ⟨_, rfl, _, rfl, h_i⟩
theorem jv_422_23 {n : Int} (hn : n ≤ 1000000) {M : Mem} (h : IY n M) (L : Nat) (xs : Nat → Int32) (v4 : Int32) (h0 : 0 ≤ v4.toInt) (h5 : v4.toInt + 5 ≤ (L : Int)) (hL : (L : Int) ≤ 2560) : ∃ o, j_law_422_23 L xs v4 M = some o ∧ LV n v4 o := by
  have a1 : (v4 + (1 : Int32)).toInt = v4.toInt + 1 := add_ti rfl rfl (by omega) (by omega)
  have a2 : (v4 + (2 : Int32)).toInt = v4.toInt + 2 := add_ti rfl rfl (by omega) (by omega)
  have a3 : (v4 + (3 : Int32)).toInt = v4.toInt + 3 := add_ti rfl rfl (by omega) (by omega)
  have a4 : (v4 + (4 : Int32)).toInt = v4.toInt + 4 := add_ti rfl rfl (by omega) (by omega)
  unfold j_law_422_23
  refine inb_i (by omega) (by omega) ?_
  refine inb_i (by omega) (by omega) ?_
  obtain ⟨x25, e_x, r_, e_r, e_q, h_i⟩ := ty_build hn h (xs (v4 + (1 : Int32)).toNatClampNeg) (xs (v4 + (2 : Int32)).toNatClampNeg)
  refine bind_e e_x ?_
  refine inb_i (by omega) (by omega) ?_
  refine inb_i (by omega) (by omega) ?_
  refine bind_e e_r ?_
  exact ⟨_, rfl, _, rfl, h_i⟩
theorem jv_459_23 {n : Int} (hn : n ≤ 1000000) {M : Mem} (h : IY n M) (L : Nat) (xs : Nat → Int32) (v4 : Int32) (h0 : 0 ≤ v4.toInt) (h5 : v4.toInt + 5 ≤ (L : Int)) (hL : (L : Int) ≤ 2560) : ∃ o, j_law_459_23 L xs v4 M = some o ∧ LV n v4 o := by
  have a1 : (v4 + (1 : Int32)).toInt = v4.toInt + 1 := add_ti rfl rfl (by omega) (by omega)
  have a2 : (v4 + (2 : Int32)).toInt = v4.toInt + 2 := add_ti rfl rfl (by omega) (by omega)
  have a3 : (v4 + (3 : Int32)).toInt = v4.toInt + 3 := add_ti rfl rfl (by omega) (by omega)
  have a4 : (v4 + (4 : Int32)).toInt = v4.toInt + 4 := add_ti rfl rfl (by omega) (by omega)
  unfold j_law_459_23
  refine inb_i (by omega) (by omega) ?_
  refine inb_i (by omega) (by omega) ?_
  obtain ⟨x28, e_x, r_, e_r, e_q, h_i⟩ := ty_plank h (xs (v4 + (1 : Int32)).toNatClampNeg) (xs (v4 + (2 : Int32)).toNatClampNeg)
  refine bind_e e_x ?_
  refine inb_i (by omega) (by omega) ?_
  refine inb_i (by omega) (by omega) ?_
  refine bind_e e_r ?_
  exact ⟨_, rfl, _, rfl, h_i⟩
theorem jv_496_23 {n : Int} (hn : n ≤ 1000000) {M : Mem} (h : IY n M) (L : Nat) (xs : Nat → Int32) (v4 : Int32) (h0 : 0 ≤ v4.toInt) (h5 : v4.toInt + 5 ≤ (L : Int)) (hL : (L : Int) ≤ 2560) : ∃ o, j_law_496_23 L xs v4 M = some o ∧ LV n v4 o := by
  have a1 : (v4 + (1 : Int32)).toInt = v4.toInt + 1 := add_ti rfl rfl (by omega) (by omega)
  have a2 : (v4 + (2 : Int32)).toInt = v4.toInt + 2 := add_ti rfl rfl (by omega) (by omega)
  have a3 : (v4 + (3 : Int32)).toInt = v4.toInt + 3 := add_ti rfl rfl (by omega) (by omega)
  have a4 : (v4 + (4 : Int32)).toInt = v4.toInt + 4 := add_ti rfl rfl (by omega) (by omega)
  unfold j_law_496_23
  obtain ⟨x31, e_x, r_, e_r, e_q, h_i⟩ := ty_take h 
  refine bind_e e_x ?_
  refine bind_e e_r ?_
  exact ⟨_, rfl, _, rfl, h_i⟩
theorem jv_509_23 {n : Int} (hn : n ≤ 1000000) {M : Mem} (h : IY n M) (L : Nat) (xs : Nat → Int32) (v4 : Int32) (h0 : 0 ≤ v4.toInt) (h5 : v4.toInt + 5 ≤ (L : Int)) (hL : (L : Int) ≤ 2560) : ∃ o, j_law_509_23 L xs v4 M = some o ∧ LV n v4 o := by
  have a1 : (v4 + (1 : Int32)).toInt = v4.toInt + 1 := add_ti rfl rfl (by omega) (by omega)
  have a2 : (v4 + (2 : Int32)).toInt = v4.toInt + 2 := add_ti rfl rfl (by omega) (by omega)
  have a3 : (v4 + (3 : Int32)).toInt = v4.toInt + 3 := add_ti rfl rfl (by omega) (by omega)
  have a4 : (v4 + (4 : Int32)).toInt = v4.toInt + 4 := add_ti rfl rfl (by omega) (by omega)
  unfold j_law_509_23
  refine inb_i (by omega) (by omega) ?_
  refine inb_i (by omega) (by omega) ?_
  refine inb_i (by omega) (by omega) ?_
  refine inb_i (by omega) (by omega) ?_
  obtain ⟨x34, e_x, r_, e_r, e_q, h_i⟩ := ty_sheet h (xs (v4 + (1 : Int32)).toNatClampNeg) (xs (v4 + (2 : Int32)).toNatClampNeg) (xs (v4 + (3 : Int32)).toNatClampNeg) (xs (v4 + (4 : Int32)).toNatClampNeg)
  refine bind_e e_x ?_
  refine inb_i (by omega) (by omega) ?_
  refine inb_i (by omega) (by omega) ?_
  refine inb_i (by omega) (by omega) ?_
  refine inb_i (by omega) (by omega) ?_
  refine bind_e e_r ?_
  exact ⟨_, rfl, _, rfl, h_i⟩
theorem jv_570_23 {n : Int} (hn : n ≤ 1000000) {M : Mem} (h : IY n M) (L : Nat) (xs : Nat → Int32) (v4 : Int32) (h0 : 0 ≤ v4.toInt) (h5 : v4.toInt + 5 ≤ (L : Int)) (hL : (L : Int) ≤ 2560) : ∃ o, j_law_570_23 L xs v4 M = some o ∧ LV n v4 o := by
  have a1 : (v4 + (1 : Int32)).toInt = v4.toInt + 1 := add_ti rfl rfl (by omega) (by omega)
  have a2 : (v4 + (2 : Int32)).toInt = v4.toInt + 2 := add_ti rfl rfl (by omega) (by omega)
  have a3 : (v4 + (3 : Int32)).toInt = v4.toInt + 3 := add_ti rfl rfl (by omega) (by omega)
  have a4 : (v4 + (4 : Int32)).toInt = v4.toInt + 4 := add_ti rfl rfl (by omega) (by omega)
  unfold j_law_570_23
  refine inb_i (by omega) (by omega) ?_
  obtain ⟨x37, e_x, r_, e_r, e_q, h_i⟩ := ty_tell h (xs (v4 + (1 : Int32)).toNatClampNeg)
  refine bind_e e_x ?_
  refine inb_i (by omega) (by omega) ?_
  refine bind_e e_r ?_
  exact ⟨_, rfl, _, rfl, h_i⟩
theorem jv_595_23 {n : Int} (hn : n ≤ 1000000) {M : Mem} (h : IY n M) (L : Nat) (xs : Nat → Int32) (v4 : Int32) (h0 : 0 ≤ v4.toInt) (h5 : v4.toInt + 5 ≤ (L : Int)) (hL : (L : Int) ≤ 2560) : ∃ o, j_law_595_23 L xs v4 M = some o ∧ LV n v4 o := by
  have a1 : (v4 + (1 : Int32)).toInt = v4.toInt + 1 := add_ti rfl rfl (by omega) (by omega)
  have a2 : (v4 + (2 : Int32)).toInt = v4.toInt + 2 := add_ti rfl rfl (by omega) (by omega)
  have a3 : (v4 + (3 : Int32)).toInt = v4.toInt + 3 := add_ti rfl rfl (by omega) (by omega)
  have a4 : (v4 + (4 : Int32)).toInt = v4.toInt + 4 := add_ti rfl rfl (by omega) (by omega)
  unfold j_law_595_23
  refine inb_i (by omega) (by omega) ?_
  obtain ⟨x40, e_x, r_, e_r, e_q, h_i⟩ := ty_feast h (xs (v4 + (1 : Int32)).toNatClampNeg)
  refine bind_e e_x ?_
  refine inb_i (by omega) (by omega) ?_
  refine bind_e e_r ?_
  exact ⟨_, rfl, _, rfl, h_i⟩
theorem jv_620_23 {n : Int} (hn : n ≤ 1000000) {M : Mem} (h : IY n M) (L : Nat) (xs : Nat → Int32) (v4 : Int32) (h0 : 0 ≤ v4.toInt) (h5 : v4.toInt + 5 ≤ (L : Int)) (hL : (L : Int) ≤ 2560) : ∃ o, j_law_620_23 L xs v4 M = some o ∧ LV n v4 o := by
  have a1 : (v4 + (1 : Int32)).toInt = v4.toInt + 1 := add_ti rfl rfl (by omega) (by omega)
  have a2 : (v4 + (2 : Int32)).toInt = v4.toInt + 2 := add_ti rfl rfl (by omega) (by omega)
  have a3 : (v4 + (3 : Int32)).toInt = v4.toInt + 3 := add_ti rfl rfl (by omega) (by omega)
  have a4 : (v4 + (4 : Int32)).toInt = v4.toInt + 4 := add_ti rfl rfl (by omega) (by omega)
  unfold j_law_620_23
  obtain ⟨x43, e_x, r_, e_r, e_q, h_i⟩ := ty_minute h 
  refine bind_e e_x ?_
  refine bind_e e_r ?_
  exact ⟨_, rfl, _, rfl, h_i⟩
theorem jv_633_23 {n : Int} (hn : n ≤ 1000000) {M : Mem} (h : IY n M) (L : Nat) (xs : Nat → Int32) (v4 : Int32) (h0 : 0 ≤ v4.toInt) (h5 : v4.toInt + 5 ≤ (L : Int)) (hL : (L : Int) ≤ 2560) : ∃ o, j_law_633_23 L xs v4 M = some o ∧ LV n v4 o := by
  have a1 : (v4 + (1 : Int32)).toInt = v4.toInt + 1 := add_ti rfl rfl (by omega) (by omega)
  have a2 : (v4 + (2 : Int32)).toInt = v4.toInt + 2 := add_ti rfl rfl (by omega) (by omega)
  have a3 : (v4 + (3 : Int32)).toInt = v4.toInt + 3 := add_ti rfl rfl (by omega) (by omega)
  have a4 : (v4 + (4 : Int32)).toInt = v4.toInt + 4 := add_ti rfl rfl (by omega) (by omega)
  unfold j_law_633_23
  refine inb_i (by omega) (by omega) ?_
  obtain ⟨x46, e_x, r_, e_r, e_q, h_i⟩ := ty_minutes h (xs (v4 + (1 : Int32)).toNatClampNeg)
  refine bind_e e_x ?_
  refine inb_i (by omega) (by omega) ?_
  refine bind_e e_r ?_
  exact ⟨_, rfl, _, rfl, h_i⟩
theorem jv_658_23 {n : Int} (hn : n ≤ 1000000) {M : Mem} (h : IY n M) (L : Nat) (xs : Nat → Int32) (v4 : Int32) (h0 : 0 ≤ v4.toInt) (h5 : v4.toInt + 5 ≤ (L : Int)) (hL : (L : Int) ≤ 2560) : ∃ o, j_law_658_23 L xs v4 M = some o ∧ LV n v4 o := by
  have a1 : (v4 + (1 : Int32)).toInt = v4.toInt + 1 := add_ti rfl rfl (by omega) (by omega)
  have a2 : (v4 + (2 : Int32)).toInt = v4.toInt + 2 := add_ti rfl rfl (by omega) (by omega)
  have a3 : (v4 + (3 : Int32)).toInt = v4.toInt + 3 := add_ti rfl rfl (by omega) (by omega)
  have a4 : (v4 + (4 : Int32)).toInt = v4.toInt + 4 := add_ti rfl rfl (by omega) (by omega)
  unfold j_law_658_23
  obtain ⟨x49, e_x, r_, e_r, e_q, h_i⟩ := ty_evening h 
  refine bind_e e_x ?_
  refine bind_e e_r ?_
  exact ⟨_, rfl, _, rfl, h_i⟩
theorem jv_671_23 {n : Int} (hn : n ≤ 1000000) {M : Mem} (h : IY n M) (L : Nat) (xs : Nat → Int32) (v4 : Int32) (h0 : 0 ≤ v4.toInt) (h5 : v4.toInt + 5 ≤ (L : Int)) (hL : (L : Int) ≤ 2560) : ∃ o, j_law_671_23 L xs v4 M = some o ∧ LV n v4 o := by
  have a1 : (v4 + (1 : Int32)).toInt = v4.toInt + 1 := add_ti rfl rfl (by omega) (by omega)
  have a2 : (v4 + (2 : Int32)).toInt = v4.toInt + 2 := add_ti rfl rfl (by omega) (by omega)
  have a3 : (v4 + (3 : Int32)).toInt = v4.toInt + 3 := add_ti rfl rfl (by omega) (by omega)
  have a4 : (v4 + (4 : Int32)).toInt = v4.toInt + 4 := add_ti rfl rfl (by omega) (by omega)
  unfold j_law_671_23
  obtain ⟨x52, e_x, r_, e_r, e_q, h_i⟩ := ty_undo h 
  refine bind_e e_x ?_
  refine bind_e e_r ?_
  exact ⟨_, rfl, _, rfl, h_i⟩
theorem jv_684_23 {n : Int} (hn : n ≤ 1000000) {M : Mem} (h : IY n M) (L : Nat) (xs : Nat → Int32) (v4 : Int32) (h0 : 0 ≤ v4.toInt) (h5 : v4.toInt + 5 ≤ (L : Int)) (hL : (L : Int) ≤ 2560) : ∃ o, j_law_684_23 L xs v4 M = some o ∧ LV n v4 o := by
  have a1 : (v4 + (1 : Int32)).toInt = v4.toInt + 1 := add_ti rfl rfl (by omega) (by omega)
  have a2 : (v4 + (2 : Int32)).toInt = v4.toInt + 2 := add_ti rfl rfl (by omega) (by omega)
  have a3 : (v4 + (3 : Int32)).toInt = v4.toInt + 3 := add_ti rfl rfl (by omega) (by omega)
  have a4 : (v4 + (4 : Int32)).toInt = v4.toInt + 4 := add_ti rfl rfl (by omega) (by omega)
  unfold j_law_684_23
  refine inb_i (by omega) (by omega) ?_
  refine inb_i (by omega) (by omega) ?_
  obtain ⟨x55, e_x, r_, e_r, e_q, h_i⟩ := ty_met h (xs (v4 + (1 : Int32)).toNatClampNeg) (xs (v4 + (2 : Int32)).toNatClampNeg)
  refine bind_e e_x ?_
  refine inb_i (by omega) (by omega) ?_
  refine inb_i (by omega) (by omega) ?_
  refine bind_e e_r ?_
  exact ⟨_, rfl, _, rfl, h_i⟩
theorem jv_721_23 {n : Int} (hn : n ≤ 1000000) {M : Mem} (h : IY n M) (L : Nat) (xs : Nat → Int32) (v4 : Int32) (h0 : 0 ≤ v4.toInt) (h5 : v4.toInt + 5 ≤ (L : Int)) (hL : (L : Int) ≤ 2560) : ∃ o, j_law_721_23 L xs v4 M = some o ∧ LV n v4 o := by
  have a1 : (v4 + (1 : Int32)).toInt = v4.toInt + 1 := add_ti rfl rfl (by omega) (by omega)
  have a2 : (v4 + (2 : Int32)).toInt = v4.toInt + 2 := add_ti rfl rfl (by omega) (by omega)
  have a3 : (v4 + (3 : Int32)).toInt = v4.toInt + 3 := add_ti rfl rfl (by omega) (by omega)
  have a4 : (v4 + (4 : Int32)).toInt = v4.toInt + 4 := add_ti rfl rfl (by omega) (by omega)
  unfold j_law_721_23
  refine inb_i (by omega) (by omega) ?_
  obtain ⟨x58, e_x, r_, e_r, e_q, h_i⟩ := ty_ahead h (xs (v4 + (1 : Int32)).toNatClampNeg)
  refine bind_e e_x ?_
  refine inb_i (by omega) (by omega) ?_
  refine bind_e e_r ?_
  exact ⟨_, rfl, _, rfl, h_i⟩
theorem jv_746_23 {n : Int} (hn : n ≤ 1000000) {M : Mem} (h : IY n M) (L : Nat) (xs : Nat → Int32) (v4 : Int32) (h0 : 0 ≤ v4.toInt) (h5 : v4.toInt + 5 ≤ (L : Int)) (hL : (L : Int) ≤ 2560) : ∃ o, j_law_746_23 L xs v4 M = some o ∧ LV n v4 o := by
  have a1 : (v4 + (1 : Int32)).toInt = v4.toInt + 1 := add_ti rfl rfl (by omega) (by omega)
  have a2 : (v4 + (2 : Int32)).toInt = v4.toInt + 2 := add_ti rfl rfl (by omega) (by omega)
  have a3 : (v4 + (3 : Int32)).toInt = v4.toInt + 3 := add_ti rfl rfl (by omega) (by omega)
  have a4 : (v4 + (4 : Int32)).toInt = v4.toInt + 4 := add_ti rfl rfl (by omega) (by omega)
  unfold j_law_746_23
  refine inb_i (by omega) (by omega) ?_
  refine inb_i (by omega) (by omega) ?_
  obtain ⟨x61, e_x, r_, e_r, e_q, h_i⟩ := ty_meet h (xs (v4 + (1 : Int32)).toNatClampNeg) (xs (v4 + (2 : Int32)).toNatClampNeg)
  refine bind_e e_x ?_
  refine inb_i (by omega) (by omega) ?_
  refine inb_i (by omega) (by omega) ?_
  refine bind_e e_r ?_
  exact ⟨_, rfl, _, rfl, h_i⟩
theorem jv_783_23 {n : Int} (hn : n ≤ 1000000) {M : Mem} (h : IY n M) (L : Nat) (xs : Nat → Int32) (v4 : Int32) (h0 : 0 ≤ v4.toInt) (h5 : v4.toInt + 5 ≤ (L : Int)) (hL : (L : Int) ≤ 2560) : ∃ o, j_law_783_23 L xs v4 M = some o ∧ LV n v4 o := by
  have a1 : (v4 + (1 : Int32)).toInt = v4.toInt + 1 := add_ti rfl rfl (by omega) (by omega)
  have a2 : (v4 + (2 : Int32)).toInt = v4.toInt + 2 := add_ti rfl rfl (by omega) (by omega)
  have a3 : (v4 + (3 : Int32)).toInt = v4.toInt + 3 := add_ti rfl rfl (by omega) (by omega)
  have a4 : (v4 + (4 : Int32)).toInt = v4.toInt + 4 := add_ti rfl rfl (by omega) (by omega)
  unfold j_law_783_23
  obtain ⟨x64, e_x, r_, e_r, e_q, h_i⟩ := ty_known h 
  refine bind_e e_x ?_
  refine bind_e e_r ?_
  exact ⟨_, rfl, _, rfl, h_i⟩
theorem jv_796_23 {n : Int} (hn : n ≤ 1000000) {M : Mem} (h : IY n M) (L : Nat) (xs : Nat → Int32) (v4 : Int32) (h0 : 0 ≤ v4.toInt) (h5 : v4.toInt + 5 ≤ (L : Int)) (hL : (L : Int) ≤ 2560) : ∃ o, j_law_796_23 L xs v4 M = some o ∧ LV n v4 o := by
  have a1 : (v4 + (1 : Int32)).toInt = v4.toInt + 1 := add_ti rfl rfl (by omega) (by omega)
  have a2 : (v4 + (2 : Int32)).toInt = v4.toInt + 2 := add_ti rfl rfl (by omega) (by omega)
  have a3 : (v4 + (3 : Int32)).toInt = v4.toInt + 3 := add_ti rfl rfl (by omega) (by omega)
  have a4 : (v4 + (4 : Int32)).toInt = v4.toInt + 4 := add_ti rfl rfl (by omega) (by omega)
  unfold j_law_796_23
  refine inb_i (by omega) (by omega) ?_
  obtain ⟨x67, e_x, r_, e_r, e_q, h_i⟩ := ty_gossip h (xs (v4 + (1 : Int32)).toNatClampNeg)
  refine bind_e e_x ?_
  refine inb_i (by omega) (by omega) ?_
  refine bind_e e_r ?_
  exact ⟨_, rfl, _, rfl, h_i⟩
theorem jv_821_23 {n : Int} (hn : n ≤ 1000000) {M : Mem} (h : IY n M) (L : Nat) (xs : Nat → Int32) (v4 : Int32) (h0 : 0 ≤ v4.toInt) (h5 : v4.toInt + 5 ≤ (L : Int)) (hL : (L : Int) ≤ 2560) : ∃ o, j_law_821_23 L xs v4 M = some o ∧ LV n v4 o := by
  have a1 : (v4 + (1 : Int32)).toInt = v4.toInt + 1 := add_ti rfl rfl (by omega) (by omega)
  have a2 : (v4 + (2 : Int32)).toInt = v4.toInt + 2 := add_ti rfl rfl (by omega) (by omega)
  have a3 : (v4 + (3 : Int32)).toInt = v4.toInt + 3 := add_ti rfl rfl (by omega) (by omega)
  have a4 : (v4 + (4 : Int32)).toInt = v4.toInt + 4 := add_ti rfl rfl (by omega) (by omega)
  unfold j_law_821_23
  refine inb_i (by omega) (by omega) ?_
  obtain ⟨x70, e_x, r_, e_r, e_q, h_i⟩ := ty_pieces h (xs (v4 + (1 : Int32)).toNatClampNeg)
  refine bind_e e_x ?_
  refine inb_i (by omega) (by omega) ?_
  refine bind_e e_r ?_
  exact ⟨_, rfl, _, rfl, h_i⟩
theorem jv_846_23 {n : Int} (hn : n ≤ 1000000) {M : Mem} (h : IY n M) (L : Nat) (xs : Nat → Int32) (v4 : Int32) (h0 : 0 ≤ v4.toInt) (h5 : v4.toInt + 5 ≤ (L : Int)) (hL : (L : Int) ≤ 2560) : ∃ o, j_law_846_23 L xs v4 M = some o ∧ LV n v4 o := by
  have a1 : (v4 + (1 : Int32)).toInt = v4.toInt + 1 := add_ti rfl rfl (by omega) (by omega)
  have a2 : (v4 + (2 : Int32)).toInt = v4.toInt + 2 := add_ti rfl rfl (by omega) (by omega)
  have a3 : (v4 + (3 : Int32)).toInt = v4.toInt + 3 := add_ti rfl rfl (by omega) (by omega)
  have a4 : (v4 + (4 : Int32)).toInt = v4.toInt + 4 := add_ti rfl rfl (by omega) (by omega)
  unfold j_law_846_23
  refine inb_i (by omega) (by omega) ?_
  refine inb_i (by omega) (by omega) ?_
  obtain ⟨x73, e_x, r_, e_r, e_q, h_i⟩ := ty_reach h (xs (v4 + (1 : Int32)).toNatClampNeg) (xs (v4 + (2 : Int32)).toNatClampNeg)
  refine bind_e e_x ?_
  refine inb_i (by omega) (by omega) ?_
  refine inb_i (by omega) (by omega) ?_
  refine bind_e e_r ?_
  exact ⟨_, rfl, _, rfl, h_i⟩
theorem jv_883_23 {n : Int} (hn : n ≤ 1000000) {M : Mem} (h : IY n M) (L : Nat) (xs : Nat → Int32) (v4 : Int32) (h0 : 0 ≤ v4.toInt) (h5 : v4.toInt + 5 ≤ (L : Int)) (hL : (L : Int) ≤ 2560) : ∃ o, j_law_883_23 L xs v4 M = some o ∧ LV n v4 o := by
  have a1 : (v4 + (1 : Int32)).toInt = v4.toInt + 1 := add_ti rfl rfl (by omega) (by omega)
  have a2 : (v4 + (2 : Int32)).toInt = v4.toInt + 2 := add_ti rfl rfl (by omega) (by omega)
  have a3 : (v4 + (3 : Int32)).toInt = v4.toInt + 3 := add_ti rfl rfl (by omega) (by omega)
  have a4 : (v4 + (4 : Int32)).toInt = v4.toInt + 4 := add_ti rfl rfl (by omega) (by omega)
  unfold j_law_883_23
  refine inb_i (by omega) (by omega) ?_
  refine inb_i (by omega) (by omega) ?_
  refine inb_i (by omega) (by omega) ?_
  obtain ⟨x76, e_x, r_, e_r, e_q, h_i⟩ := ty_path h (xs (v4 + (1 : Int32)).toNatClampNeg) (xs (v4 + (2 : Int32)).toNatClampNeg) (xs (v4 + (3 : Int32)).toNatClampNeg)
  refine bind_e e_x ?_
  refine inb_i (by omega) (by omega) ?_
  refine inb_i (by omega) (by omega) ?_
  refine inb_i (by omega) (by omega) ?_
  refine bind_e e_r ?_
  exact ⟨_, rfl, _, rfl, h_i⟩
theorem jv_932_23 {n : Int} (hn : n ≤ 1000000) {M : Mem} (h : IY n M) (L : Nat) (xs : Nat → Int32) (v4 : Int32) (h0 : 0 ≤ v4.toInt) (h5 : v4.toInt + 5 ≤ (L : Int)) (hL : (L : Int) ≤ 2560) : ∃ o, j_law_932_23 L xs v4 M = some o ∧ LV n v4 o := by
  have a1 : (v4 + (1 : Int32)).toInt = v4.toInt + 1 := add_ti rfl rfl (by omega) (by omega)
  have a2 : (v4 + (2 : Int32)).toInt = v4.toInt + 2 := add_ti rfl rfl (by omega) (by omega)
  have a3 : (v4 + (3 : Int32)).toInt = v4.toInt + 3 := add_ti rfl rfl (by omega) (by omega)
  have a4 : (v4 + (4 : Int32)).toInt = v4.toInt + 4 := add_ti rfl rfl (by omega) (by omega)
  unfold j_law_932_23
  refine inb_i (by omega) (by omega) ?_
  refine inb_i (by omega) (by omega) ?_
  refine inb_i (by omega) (by omega) ?_
  refine inb_i (by omega) (by omega) ?_
  obtain ⟨x79, e_x, r_, e_r, e_q, h_i⟩ := ty_both h (xs (v4 + (1 : Int32)).toNatClampNeg) (xs (v4 + (2 : Int32)).toNatClampNeg) (xs (v4 + (3 : Int32)).toNatClampNeg) (xs (v4 + (4 : Int32)).toNatClampNeg)
  refine bind_e e_x ?_
  refine inb_i (by omega) (by omega) ?_
  refine inb_i (by omega) (by omega) ?_
  refine inb_i (by omega) (by omega) ?_
  refine inb_i (by omega) (by omega) ?_
  refine bind_e e_r ?_
  exact ⟨_, rfl, _, rfl, h_i⟩
theorem jv_993_23 {n : Int} (hn : n ≤ 1000000) {M : Mem} (h : IY n M) (L : Nat) (xs : Nat → Int32) (v4 : Int32) (h0 : 0 ≤ v4.toInt) (h5 : v4.toInt + 5 ≤ (L : Int)) (hL : (L : Int) ≤ 2560) : ∃ o, j_law_993_23 L xs v4 M = some o ∧ LV n v4 o := by
  have a1 : (v4 + (1 : Int32)).toInt = v4.toInt + 1 := add_ti rfl rfl (by omega) (by omega)
  have a2 : (v4 + (2 : Int32)).toInt = v4.toInt + 2 := add_ti rfl rfl (by omega) (by omega)
  have a3 : (v4 + (3 : Int32)).toInt = v4.toInt + 3 := add_ti rfl rfl (by omega) (by omega)
  have a4 : (v4 + (4 : Int32)).toInt = v4.toInt + 4 := add_ti rfl rfl (by omega) (by omega)
  unfold j_law_993_23
  refine inb_i (by omega) (by omega) ?_
  refine inb_i (by omega) (by omega) ?_
  obtain ⟨x82, e_x, r_, e_r, e_q, h_i⟩ := ty_errand h (xs (v4 + (1 : Int32)).toNatClampNeg) (xs (v4 + (2 : Int32)).toNatClampNeg)
  refine bind_e e_x ?_
  refine inb_i (by omega) (by omega) ?_
  refine inb_i (by omega) (by omega) ?_
  refine bind_e e_r ?_
  exact ⟨_, rfl, _, rfl, h_i⟩
theorem jv_1030_23 {n : Int} (hn : n ≤ 1000000) {M : Mem} (h : IY n M) (L : Nat) (xs : Nat → Int32) (v4 : Int32) (h0 : 0 ≤ v4.toInt) (h5 : v4.toInt + 5 ≤ (L : Int)) (hL : (L : Int) ≤ 2560) : ∃ o, j_law_1030_23 L xs v4 M = some o ∧ LV n v4 o := by
  have a1 : (v4 + (1 : Int32)).toInt = v4.toInt + 1 := add_ti rfl rfl (by omega) (by omega)
  have a2 : (v4 + (2 : Int32)).toInt = v4.toInt + 2 := add_ti rfl rfl (by omega) (by omega)
  have a3 : (v4 + (3 : Int32)).toInt = v4.toInt + 3 := add_ti rfl rfl (by omega) (by omega)
  have a4 : (v4 + (4 : Int32)).toInt = v4.toInt + 4 := add_ti rfl rfl (by omega) (by omega)
  unfold j_law_1030_23
  refine inb_i (by omega) (by omega) ?_
  refine inb_i (by omega) (by omega) ?_
  obtain ⟨x85, e_x, r_, e_r, e_q, h_i⟩ := ty_tryst h (xs (v4 + (1 : Int32)).toNatClampNeg) (xs (v4 + (2 : Int32)).toNatClampNeg)
  refine bind_e e_x ?_
  refine inb_i (by omega) (by omega) ?_
  refine inb_i (by omega) (by omega) ?_
  refine bind_e e_r ?_
  exact ⟨_, rfl, _, rfl, h_i⟩
theorem jv_1067_23 {n : Int} (hn : n ≤ 1000000) {M : Mem} (h : IY n M) (L : Nat) (xs : Nat → Int32) (v4 : Int32) (h0 : 0 ≤ v4.toInt) (h5 : v4.toInt + 5 ≤ (L : Int)) (hL : (L : Int) ≤ 2560) : ∃ o, j_law_1067_23 L xs v4 M = some o ∧ LV n v4 o := by
  have a1 : (v4 + (1 : Int32)).toInt = v4.toInt + 1 := add_ti rfl rfl (by omega) (by omega)
  have a2 : (v4 + (2 : Int32)).toInt = v4.toInt + 2 := add_ti rfl rfl (by omega) (by omega)
  have a3 : (v4 + (3 : Int32)).toInt = v4.toInt + 3 := add_ti rfl rfl (by omega) (by omega)
  have a4 : (v4 + (4 : Int32)).toInt = v4.toInt + 4 := add_ti rfl rfl (by omega) (by omega)
  unfold j_law_1067_23
  refine inb_i (by omega) (by omega) ?_
  refine inb_i (by omega) (by omega) ?_
  obtain ⟨x88, e_x, r_, e_r, e_q, h_i⟩ := ty_open h (xs (v4 + (1 : Int32)).toNatClampNeg) (xs (v4 + (2 : Int32)).toNatClampNeg)
  refine bind_e e_x ?_
  refine inb_i (by omega) (by omega) ?_
  refine inb_i (by omega) (by omega) ?_
  refine bind_e e_r ?_
  exact ⟨_, rfl, _, rfl, h_i⟩
theorem jv_1104_23 {n : Int} (hn : n ≤ 1000000) {M : Mem} (h : IY n M) (L : Nat) (xs : Nat → Int32) (v4 : Int32) (h0 : 0 ≤ v4.toInt) (h5 : v4.toInt + 5 ≤ (L : Int)) (hL : (L : Int) ≤ 2560) : ∃ o, j_law_1104_23 L xs v4 M = some o ∧ LV n v4 o := by
  have a1 : (v4 + (1 : Int32)).toInt = v4.toInt + 1 := add_ti rfl rfl (by omega) (by omega)
  have a2 : (v4 + (2 : Int32)).toInt = v4.toInt + 2 := add_ti rfl rfl (by omega) (by omega)
  have a3 : (v4 + (3 : Int32)).toInt = v4.toInt + 3 := add_ti rfl rfl (by omega) (by omega)
  have a4 : (v4 + (4 : Int32)).toInt = v4.toInt + 4 := add_ti rfl rfl (by omega) (by omega)
  unfold j_law_1104_23
  refine inb_i (by omega) (by omega) ?_
  refine inb_i (by omega) (by omega) ?_
  obtain ⟨x91, e_x, r_, e_r, e_q, h_i⟩ := ty_part h (xs (v4 + (1 : Int32)).toNatClampNeg) (xs (v4 + (2 : Int32)).toNatClampNeg)
  refine bind_e e_x ?_
  refine inb_i (by omega) (by omega) ?_
  refine inb_i (by omega) (by omega) ?_
  refine bind_e e_r ?_
  exact ⟨_, rfl, _, rfl, h_i⟩
theorem jv_1141_23 {n : Int} (hn : n ≤ 1000000) {M : Mem} (h : IY n M) (L : Nat) (xs : Nat → Int32) (v4 : Int32) (h0 : 0 ≤ v4.toInt) (h5 : v4.toInt + 5 ≤ (L : Int)) (hL : (L : Int) ≤ 2560) : ∃ o, j_law_1141_23 L xs v4 M = some o ∧ LV n v4 o := by
  have a1 : (v4 + (1 : Int32)).toInt = v4.toInt + 1 := add_ti rfl rfl (by omega) (by omega)
  have a2 : (v4 + (2 : Int32)).toInt = v4.toInt + 2 := add_ti rfl rfl (by omega) (by omega)
  have a3 : (v4 + (3 : Int32)).toInt = v4.toInt + 3 := add_ti rfl rfl (by omega) (by omega)
  have a4 : (v4 + (4 : Int32)).toInt = v4.toInt + 4 := add_ti rfl rfl (by omega) (by omega)
  unfold j_law_1141_23
  refine inb_i (by omega) (by omega) ?_
  refine inb_i (by omega) (by omega) ?_
  obtain ⟨x94, e_x, r_, e_r, e_q, h_i⟩ := ty_planks h (xs (v4 + (1 : Int32)).toNatClampNeg) (xs (v4 + (2 : Int32)).toNatClampNeg)
  refine bind_e e_x ?_
  refine inb_i (by omega) (by omega) ?_
  refine inb_i (by omega) (by omega) ?_
  refine bind_e e_r ?_
  exact ⟨_, rfl, _, rfl, h_i⟩
theorem jv_1178_23 {n : Int} (hn : n ≤ 1000000) {M : Mem} (h : IY n M) (L : Nat) (xs : Nat → Int32) (v4 : Int32) (h0 : 0 ≤ v4.toInt) (h5 : v4.toInt + 5 ≤ (L : Int)) (hL : (L : Int) ≤ 2560) : ∃ o, j_law_1178_23 L xs v4 M = some o ∧ LV n v4 o := by
  have a1 : (v4 + (1 : Int32)).toInt = v4.toInt + 1 := add_ti rfl rfl (by omega) (by omega)
  have a2 : (v4 + (2 : Int32)).toInt = v4.toInt + 2 := add_ti rfl rfl (by omega) (by omega)
  have a3 : (v4 + (3 : Int32)).toInt = v4.toInt + 3 := add_ti rfl rfl (by omega) (by omega)
  have a4 : (v4 + (4 : Int32)).toInt = v4.toInt + 4 := add_ti rfl rfl (by omega) (by omega)
  unfold j_law_1178_23
  refine inb_i (by omega) (by omega) ?_
  obtain ⟨x97, e_x, r_, e_r, e_q, h_i⟩ := ty_fire h (xs (v4 + (1 : Int32)).toNatClampNeg)
  refine bind_e e_x ?_
  refine inb_i (by omega) (by omega) ?_
  refine bind_e e_r ?_
  exact ⟨_, rfl, _, rfl, h_i⟩
theorem jv_1203_23 {n : Int} (hn : n ≤ 1000000) {M : Mem} (h : IY n M) (L : Nat) (xs : Nat → Int32) (v4 : Int32) (h0 : 0 ≤ v4.toInt) (h5 : v4.toInt + 5 ≤ (L : Int)) (hL : (L : Int) ≤ 2560) : ∃ o, j_law_1203_23 L xs v4 M = some o ∧ LV n v4 o := by
  have a1 : (v4 + (1 : Int32)).toInt = v4.toInt + 1 := add_ti rfl rfl (by omega) (by omega)
  have a2 : (v4 + (2 : Int32)).toInt = v4.toInt + 2 := add_ti rfl rfl (by omega) (by omega)
  have a3 : (v4 + (3 : Int32)).toInt = v4.toInt + 3 := add_ti rfl rfl (by omega) (by omega)
  have a4 : (v4 + (4 : Int32)).toInt = v4.toInt + 4 := add_ti rfl rfl (by omega) (by omega)
  unfold j_law_1203_23
  refine inb_i (by omega) (by omega) ?_
  obtain ⟨x100, e_x, r_, e_r, e_q, h_i⟩ := ty_fights h (xs (v4 + (1 : Int32)).toNatClampNeg)
  refine bind_e e_x ?_
  refine inb_i (by omega) (by omega) ?_
  refine bind_e e_r ?_
  exact ⟨_, rfl, _, rfl, h_i⟩
theorem jv_1228_23 {n : Int} (hn : n ≤ 1000000) {M : Mem} (h : IY n M) (L : Nat) (xs : Nat → Int32) (v4 : Int32) (h0 : 0 ≤ v4.toInt) (h5 : v4.toInt + 5 ≤ (L : Int)) (hL : (L : Int) ≤ 2560) : ∃ o, j_law_1228_23 L xs v4 M = some o ∧ LV n v4 o := by
  have a1 : (v4 + (1 : Int32)).toInt = v4.toInt + 1 := add_ti rfl rfl (by omega) (by omega)
  have a2 : (v4 + (2 : Int32)).toInt = v4.toInt + 2 := add_ti rfl rfl (by omega) (by omega)
  have a3 : (v4 + (3 : Int32)).toInt = v4.toInt + 3 := add_ti rfl rfl (by omega) (by omega)
  have a4 : (v4 + (4 : Int32)).toInt = v4.toInt + 4 := add_ti rfl rfl (by omega) (by omega)
  unfold j_law_1228_23
  obtain ⟨x103, e_x, r_, e_r, e_q, h_i⟩ := ty_saved h 
  refine bind_e e_x ?_
  refine bind_e e_r ?_
  exact c_i2 e_q ⟨_, rfl, _, rfl, h_i⟩
theorem jv_1241_23 {n : Int} (hn : n ≤ 1000000) {M : Mem} (h : IY n M) (L : Nat) (xs : Nat → Int32) (v4 : Int32) (h0 : 0 ≤ v4.toInt) (h5 : v4.toInt + 5 ≤ (L : Int)) (hL : (L : Int) ≤ 2560) : ∃ o, j_law_1241_23 L xs v4 M = some o ∧ LV n v4 o := by
  have a1 : (v4 + (1 : Int32)).toInt = v4.toInt + 1 := add_ti rfl rfl (by omega) (by omega)
  have a2 : (v4 + (2 : Int32)).toInt = v4.toInt + 2 := add_ti rfl rfl (by omega) (by omega)
  have a3 : (v4 + (3 : Int32)).toInt = v4.toInt + 3 := add_ti rfl rfl (by omega) (by omega)
  have a4 : (v4 + (4 : Int32)).toInt = v4.toInt + 4 := add_ti rfl rfl (by omega) (by omega)
  unfold j_law_1241_23
  refine inb_i (by omega) (by omega) ?_
  refine inb_i (by omega) (by omega) ?_
  obtain ⟨x107, e_x, r_, e_r, e_q, h_i⟩ := ty_wardrobe h (xs (v4 + (1 : Int32)).toNatClampNeg) (xs (v4 + (2 : Int32)).toNatClampNeg)
  refine bind_e e_x ?_
  refine inb_i (by omega) (by omega) ?_
  refine inb_i (by omega) (by omega) ?_
  refine bind_e e_r ?_
  exact ⟨_, rfl, _, rfl, h_i⟩
theorem jv_1278_23 {n : Int} (hn : n ≤ 1000000) {M : Mem} (h : IY n M) (L : Nat) (xs : Nat → Int32) (v4 : Int32) (h0 : 0 ≤ v4.toInt) (h5 : v4.toInt + 5 ≤ (L : Int)) (hL : (L : Int) ≤ 2560) : ∃ o, j_law_1278_23 L xs v4 M = some o ∧ LV n v4 o := by
  have a1 : (v4 + (1 : Int32)).toInt = v4.toInt + 1 := add_ti rfl rfl (by omega) (by omega)
  have a2 : (v4 + (2 : Int32)).toInt = v4.toInt + 2 := add_ti rfl rfl (by omega) (by omega)
  have a3 : (v4 + (3 : Int32)).toInt = v4.toInt + 3 := add_ti rfl rfl (by omega) (by omega)
  have a4 : (v4 + (4 : Int32)).toInt = v4.toInt + 4 := add_ti rfl rfl (by omega) (by omega)
  unfold j_law_1278_23
  refine inb_i (by omega) (by omega) ?_
  refine inb_i (by omega) (by omega) ?_
  refine inb_i (by omega) (by omega) ?_
  obtain ⟨x110, e_x, r_, e_r, e_q, h_i⟩ := ty_flees h (xs (v4 + (1 : Int32)).toNatClampNeg) (xs (v4 + (2 : Int32)).toNatClampNeg) (xs (v4 + (3 : Int32)).toNatClampNeg)
  refine bind_e e_x ?_
  refine inb_i (by omega) (by omega) ?_
  refine inb_i (by omega) (by omega) ?_
  refine inb_i (by omega) (by omega) ?_
  refine bind_e e_r ?_
  exact ⟨_, rfl, _, rfl, h_i⟩
theorem jv_1327_23 {n : Int} (hn : n ≤ 1000000) {M : Mem} (h : IY n M) (L : Nat) (xs : Nat → Int32) (v4 : Int32) (h0 : 0 ≤ v4.toInt) (h5 : v4.toInt + 5 ≤ (L : Int)) (hL : (L : Int) ≤ 2560) : ∃ o, j_law_1327_23 L xs v4 M = some o ∧ LV n v4 o := by
  have a1 : (v4 + (1 : Int32)).toInt = v4.toInt + 1 := add_ti rfl rfl (by omega) (by omega)
  have a2 : (v4 + (2 : Int32)).toInt = v4.toInt + 2 := add_ti rfl rfl (by omega) (by omega)
  have a3 : (v4 + (3 : Int32)).toInt = v4.toInt + 3 := add_ti rfl rfl (by omega) (by omega)
  have a4 : (v4 + (4 : Int32)).toInt = v4.toInt + 4 := add_ti rfl rfl (by omega) (by omega)
  unfold j_law_1327_23
  refine inb_i (by omega) (by omega) ?_
  obtain ⟨x113, e_x, r_, e_r, e_q, h_i⟩ := ty_lairs h (xs (v4 + (1 : Int32)).toNatClampNeg)
  refine bind_e e_x ?_
  refine inb_i (by omega) (by omega) ?_
  refine bind_e e_r ?_
  exact ⟨_, rfl, _, rfl, h_i⟩
theorem jv_1352_23 {n : Int} (hn : n ≤ 1000000) {M : Mem} (h : IY n M) (L : Nat) (xs : Nat → Int32) (v4 : Int32) (h0 : 0 ≤ v4.toInt) (h5 : v4.toInt + 5 ≤ (L : Int)) (hL : (L : Int) ≤ 2560) : ∃ o, j_law_1352_23 L xs v4 M = some o ∧ LV n v4 o := by
  have a1 : (v4 + (1 : Int32)).toInt = v4.toInt + 1 := add_ti rfl rfl (by omega) (by omega)
  have a2 : (v4 + (2 : Int32)).toInt = v4.toInt + 2 := add_ti rfl rfl (by omega) (by omega)
  have a3 : (v4 + (3 : Int32)).toInt = v4.toInt + 3 := add_ti rfl rfl (by omega) (by omega)
  have a4 : (v4 + (4 : Int32)).toInt = v4.toInt + 4 := add_ti rfl rfl (by omega) (by omega)
  unfold j_law_1352_23
  refine inb_i (by omega) (by omega) ?_
  refine inb_i (by omega) (by omega) ?_
  obtain ⟨x116, e_x, r_, e_r, e_q, h_i⟩ := ty_caught h (xs (v4 + (1 : Int32)).toNatClampNeg) (xs (v4 + (2 : Int32)).toNatClampNeg)
  refine bind_e e_x ?_
  refine inb_i (by omega) (by omega) ?_
  refine inb_i (by omega) (by omega) ?_
  refine bind_e e_r ?_
  exact ⟨_, rfl, _, rfl, h_i⟩
theorem jv_1389_23 {n : Int} (hn : n ≤ 1000000) {M : Mem} (h : IY n M) (L : Nat) (xs : Nat → Int32) (v4 : Int32) (h0 : 0 ≤ v4.toInt) (h5 : v4.toInt + 5 ≤ (L : Int)) (hL : (L : Int) ≤ 2560) : ∃ o, j_law_1389_23 L xs v4 M = some o ∧ LV n v4 o := by
  have a1 : (v4 + (1 : Int32)).toInt = v4.toInt + 1 := add_ti rfl rfl (by omega) (by omega)
  have a2 : (v4 + (2 : Int32)).toInt = v4.toInt + 2 := add_ti rfl rfl (by omega) (by omega)
  have a3 : (v4 + (3 : Int32)).toInt = v4.toInt + 3 := add_ti rfl rfl (by omega) (by omega)
  have a4 : (v4 + (4 : Int32)).toInt = v4.toInt + 4 := add_ti rfl rfl (by omega) (by omega)
  unfold j_law_1389_23
  refine inb_i (by omega) (by omega) ?_
  refine inb_i (by omega) (by omega) ?_
  refine inb_i (by omega) (by omega) ?_
  refine inb_i (by omega) (by omega) ?_
  obtain ⟨x119, e_x, r_, e_r, e_q, h_i⟩ := ty_watch h (xs (v4 + (1 : Int32)).toNatClampNeg) (xs (v4 + (2 : Int32)).toNatClampNeg) (xs (v4 + (3 : Int32)).toNatClampNeg) (xs (v4 + (4 : Int32)).toNatClampNeg)
  refine bind_e e_x ?_
  refine inb_i (by omega) (by omega) ?_
  refine inb_i (by omega) (by omega) ?_
  refine inb_i (by omega) (by omega) ?_
  refine inb_i (by omega) (by omega) ?_
  refine bind_e e_r ?_
  exact ⟨_, rfl, _, rfl, h_i⟩
theorem jv_1450_23 {n : Int} (hn : n ≤ 1000000) {M : Mem} (h : IY n M) (L : Nat) (xs : Nat → Int32) (v4 : Int32) (h0 : 0 ≤ v4.toInt) (h5 : v4.toInt + 5 ≤ (L : Int)) (hL : (L : Int) ≤ 2560) : ∃ o, j_law_1450_23 L xs v4 M = some o ∧ LV n v4 o := by
  have a1 : (v4 + (1 : Int32)).toInt = v4.toInt + 1 := add_ti rfl rfl (by omega) (by omega)
  have a2 : (v4 + (2 : Int32)).toInt = v4.toInt + 2 := add_ti rfl rfl (by omega) (by omega)
  have a3 : (v4 + (3 : Int32)).toInt = v4.toInt + 3 := add_ti rfl rfl (by omega) (by omega)
  have a4 : (v4 + (4 : Int32)).toInt = v4.toInt + 4 := add_ti rfl rfl (by omega) (by omega)
  unfold j_law_1450_23
  refine inb_i (by omega) (by omega) ?_
  obtain ⟨x122, e_x, r_, e_r, e_q, h_i⟩ := ty_keep h (xs (v4 + (1 : Int32)).toNatClampNeg)
  refine bind_e e_x ?_
  refine inb_i (by omega) (by omega) ?_
  refine bind_e e_r ?_
  exact ⟨_, rfl, _, rfl, h_i⟩
theorem jv_1475_23 {n : Int} (hn : n ≤ 1000000) {M : Mem} (h : IY n M) (L : Nat) (xs : Nat → Int32) (v4 : Int32) (h0 : 0 ≤ v4.toInt) (h5 : v4.toInt + 5 ≤ (L : Int)) (hL : (L : Int) ≤ 2560) : ∃ o, j_law_1475_23 L xs v4 M = some o ∧ LV n v4 o := by
  have a1 : (v4 + (1 : Int32)).toInt = v4.toInt + 1 := add_ti rfl rfl (by omega) (by omega)
  have a2 : (v4 + (2 : Int32)).toInt = v4.toInt + 2 := add_ti rfl rfl (by omega) (by omega)
  have a3 : (v4 + (3 : Int32)).toInt = v4.toInt + 3 := add_ti rfl rfl (by omega) (by omega)
  have a4 : (v4 + (4 : Int32)).toInt = v4.toInt + 4 := add_ti rfl rfl (by omega) (by omega)
  unfold j_law_1475_23
  refine inb_i (by omega) (by omega) ?_
  obtain ⟨x125, e_x, r_, e_r, e_q, h_i⟩ := ty_again h (xs (v4 + (1 : Int32)).toNatClampNeg)
  refine bind_e e_x ?_
  refine inb_i (by omega) (by omega) ?_
  refine bind_e e_r ?_
  exact ⟨_, rfl, _, rfl, h_i⟩
theorem jv_1500_23 {n : Int} (hn : n ≤ 1000000) {M : Mem} (h : IY n M) (L : Nat) (xs : Nat → Int32) (v4 : Int32) (h0 : 0 ≤ v4.toInt) (h5 : v4.toInt + 5 ≤ (L : Int)) (hL : (L : Int) ≤ 2560) : ∃ o, j_law_1500_23 L xs v4 M = some o ∧ LV n v4 o := by
  have a1 : (v4 + (1 : Int32)).toInt = v4.toInt + 1 := add_ti rfl rfl (by omega) (by omega)
  have a2 : (v4 + (2 : Int32)).toInt = v4.toInt + 2 := add_ti rfl rfl (by omega) (by omega)
  have a3 : (v4 + (3 : Int32)).toInt = v4.toInt + 3 := add_ti rfl rfl (by omega) (by omega)
  have a4 : (v4 + (4 : Int32)).toInt = v4.toInt + 4 := add_ti rfl rfl (by omega) (by omega)
  unfold j_law_1500_23
  refine inb_i (by omega) (by omega) ?_
  obtain ⟨x128, e_x, r_, e_r, e_q, h_i⟩ := ty_count h (xs (v4 + (1 : Int32)).toNatClampNeg)
  refine bind_e e_x ?_
  refine inb_i (by omega) (by omega) ?_
  refine bind_e e_r ?_
  exact ⟨_, rfl, _, rfl, h_i⟩
theorem jv_1525_23 {n : Int} (hn : n ≤ 1000000) {M : Mem} (h : IY n M) (L : Nat) (xs : Nat → Int32) (v4 : Int32) (h0 : 0 ≤ v4.toInt) (h5 : v4.toInt + 5 ≤ (L : Int)) (hL : (L : Int) ≤ 2560) : ∃ o, j_law_1525_23 L xs v4 M = some o ∧ LV n v4 o := by
  have a1 : (v4 + (1 : Int32)).toInt = v4.toInt + 1 := add_ti rfl rfl (by omega) (by omega)
  have a2 : (v4 + (2 : Int32)).toInt = v4.toInt + 2 := add_ti rfl rfl (by omega) (by omega)
  have a3 : (v4 + (3 : Int32)).toInt = v4.toInt + 3 := add_ti rfl rfl (by omega) (by omega)
  have a4 : (v4 + (4 : Int32)).toInt = v4.toInt + 4 := add_ti rfl rfl (by omega) (by omega)
  unfold j_law_1525_23
  refine inb_i (by omega) (by omega) ?_
  obtain ⟨x131, e_x, r_, e_r, e_q, h_i⟩ := ty_row h (xs (v4 + (1 : Int32)).toNatClampNeg)
  refine bind_e e_x ?_
  refine inb_i (by omega) (by omega) ?_
  refine bind_e e_r ?_
  exact ⟨_, rfl, _, rfl, h_i⟩
theorem lv_call {n : Int} (hn : n ≤ 1000000) {M : Mem} (h : IY n M) (L : Nat) (xs : Nat → Int32) (v4 : Int32) (h0 : 0 ≤ v4.toInt) (h5 : v4.toInt + 5 ≤ (L : Int)) (hL : (L : Int) ≤ 2560) : ∃ o, lb_law L xs (v4, M) = some o ∧ LV n v4 o := by
  have eL : (Int32.ofNat L).toInt = (L : Int) := ofn_ti (by omega)
  have eS : ((Int32.ofNat L) - (5 : Int32)).toInt = (L : Int) - 5 := sub_ti eL rfl (by omega) (by omega)
  unfold lb_law
  dsimp only
  refine if_i (fun c => by have := lti.mp c; omega) (fun _ => inb_i h0 (by omega) ?_)
  refine if_i (fun _ => jv_228_23 hn h L xs v4 h0 h5 hL) (fun _ => ?_)
  refine if_i (fun _ => jv_253_23 hn h L xs v4 h0 h5 hL) (fun _ => ?_)
  refine if_i (fun _ => jv_278_23 hn h L xs v4 h0 h5 hL) (fun _ => ?_)
  refine if_i (fun _ => jv_291_23 hn h L xs v4 h0 h5 hL) (fun _ => ?_)
  refine if_i (fun _ => jv_304_23 hn h L xs v4 h0 h5 hL) (fun _ => ?_)
  refine if_i (fun _ => jv_317_23 hn h L xs v4 h0 h5 hL) (fun _ => ?_)
  refine if_i (fun _ => jv_342_23 hn h L xs v4 h0 h5 hL) (fun _ => ?_)
  refine if_i (fun _ => jv_382_23 hn h L xs v4 h0 h5 hL) (fun _ => ?_)
  refine if_i (fun _ => jv_422_23 hn h L xs v4 h0 h5 hL) (fun _ => ?_)
  refine if_i (fun _ => jv_459_23 hn h L xs v4 h0 h5 hL) (fun _ => ?_)
  refine if_i (fun _ => jv_496_23 hn h L xs v4 h0 h5 hL) (fun _ => ?_)
  refine if_i (fun _ => jv_509_23 hn h L xs v4 h0 h5 hL) (fun _ => ?_)
  refine if_i (fun _ => jv_570_23 hn h L xs v4 h0 h5 hL) (fun _ => ?_)
  refine if_i (fun _ => jv_595_23 hn h L xs v4 h0 h5 hL) (fun _ => ?_)
  refine if_i (fun _ => jv_620_23 hn h L xs v4 h0 h5 hL) (fun _ => ?_)
  refine if_i (fun _ => jv_633_23 hn h L xs v4 h0 h5 hL) (fun _ => ?_)
  refine if_i (fun _ => jv_658_23 hn h L xs v4 h0 h5 hL) (fun _ => ?_)
  refine if_i (fun _ => jv_671_23 hn h L xs v4 h0 h5 hL) (fun _ => ?_)
  refine if_i (fun _ => jv_684_23 hn h L xs v4 h0 h5 hL) (fun _ => ?_)
  refine if_i (fun _ => jv_721_23 hn h L xs v4 h0 h5 hL) (fun _ => ?_)
  refine if_i (fun _ => jv_746_23 hn h L xs v4 h0 h5 hL) (fun _ => ?_)
  refine if_i (fun _ => jv_783_23 hn h L xs v4 h0 h5 hL) (fun _ => ?_)
  refine if_i (fun _ => jv_796_23 hn h L xs v4 h0 h5 hL) (fun _ => ?_)
  refine if_i (fun _ => jv_821_23 hn h L xs v4 h0 h5 hL) (fun _ => ?_)
  refine if_i (fun _ => jv_846_23 hn h L xs v4 h0 h5 hL) (fun _ => ?_)
  refine if_i (fun _ => jv_883_23 hn h L xs v4 h0 h5 hL) (fun _ => ?_)
  refine if_i (fun _ => jv_932_23 hn h L xs v4 h0 h5 hL) (fun _ => ?_)
  refine if_i (fun _ => jv_993_23 hn h L xs v4 h0 h5 hL) (fun _ => ?_)
  refine if_i (fun _ => jv_1030_23 hn h L xs v4 h0 h5 hL) (fun _ => ?_)
  refine if_i (fun _ => jv_1067_23 hn h L xs v4 h0 h5 hL) (fun _ => ?_)
  refine if_i (fun _ => jv_1104_23 hn h L xs v4 h0 h5 hL) (fun _ => ?_)
  refine if_i (fun _ => jv_1141_23 hn h L xs v4 h0 h5 hL) (fun _ => ?_)
  refine if_i (fun _ => jv_1178_23 hn h L xs v4 h0 h5 hL) (fun _ => ?_)
  refine if_i (fun _ => jv_1203_23 hn h L xs v4 h0 h5 hL) (fun _ => ?_)
  refine if_i (fun _ => jv_1228_23 hn h L xs v4 h0 h5 hL) (fun _ => ?_)
  refine if_i (fun _ => jv_1241_23 hn h L xs v4 h0 h5 hL) (fun _ => ?_)
  refine if_i (fun _ => jv_1278_23 hn h L xs v4 h0 h5 hL) (fun _ => ?_)
  refine if_i (fun _ => jv_1327_23 hn h L xs v4 h0 h5 hL) (fun _ => ?_)
  refine if_i (fun _ => jv_1352_23 hn h L xs v4 h0 h5 hL) (fun _ => ?_)
  refine if_i (fun _ => jv_1389_23 hn h L xs v4 h0 h5 hL) (fun _ => ?_)
  refine if_i (fun _ => jv_1450_23 hn h L xs v4 h0 h5 hL) (fun _ => ?_)
  refine if_i (fun _ => jv_1475_23 hn h L xs v4 h0 h5 hL) (fun _ => ?_)
  refine if_i (fun _ => jv_1500_23 hn h L xs v4 h0 h5 hL) (fun _ => ?_)
  refine if_i (fun _ => jv_1525_23 hn h L xs v4 h0 h5 hL) (fun _ => ?_)
  exact ⟨_, rfl, _, rfl, IY_up h⟩
theorem pure_law (L : Nat) (xs : Nat → Int32) (hL : L ≤ 2560) : ∃ (n : Nat) (x : Mem), n ≤ 90000 ∧ iter (lb_law L xs) n (0, M0) = some (.inl x) := by
  have hl : ∃ x, iter (lb_law L xs) 3000 ((0 : Int32), M0) = some x ∧ (∃ y, x = Sum.inl y) := by
    refine iter_r (fun s : Int32 × Mem => 0 ≤ s.1.toInt ∧ s.1.toInt ≤ 2565 ∧ ∃ n : Int, n ≤ s.1.toInt ∧ IY n s.2) (fun s : Int32 × Mem => (2566 - s.1.toInt).toNat) _ ?_ 3000 _ ⟨(by show (0 : Int) ≤ (0 : Int32).toInt; decide), (by show (0 : Int32).toInt ≤ 2565; decide), 0, (by show (0 : Int) ≤ (0 : Int32).toInt; decide), IY_0 Inv_M0⟩ (by show (2566 - (0 : Int)).toNat < 3000; decide)
    rintro ⟨i, M⟩ ⟨h0, h1, n, hn, hI⟩
    dsimp only at h0 h1 hn hI
    by_cases c : i.toInt + 5 ≤ (L : Int)
    · obtain ⟨o, eo, r, er, hr⟩ := lv_call (by omega) hI L xs i h0 c (by omega)
      subst er
      have e5 : (i + (5 : Int32)).toInt = i.toInt + 5 := add_ti rfl rfl (by omega) (by omega)
      refine ⟨_, eo, ⟨?_, ?_, n + 1, ?_, hr⟩, ?_⟩
      · show 0 ≤ (i + (5 : Int32)).toInt; omega
      · show (i + (5 : Int32)).toInt ≤ 2565; omega
      · show n + 1 ≤ (i + (5 : Int32)).toInt; omega
      · show (2566 - (i + (5 : Int32)).toInt).toNat < (2566 - i.toInt).toNat; omega
    · have eL : (Int32.ofNat L).toInt = (L : Int) := ofn_ti (by omega)
      have eS : ((Int32.ofNat L) - (5 : Int32)).toInt = (L : Int) - 5 := sub_ti eL rfl (by omega) (by omega)
      refine ⟨.inr (Sum.inl M), ?_, M, rfl⟩
      unfold lb_law
      dsimp only
      rw [if_pos (lti.mpr (by omega))]
  obtain ⟨x, ex, y, rfl⟩ := hl
  exact ⟨3000, y, by decide, ex⟩
