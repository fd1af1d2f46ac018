/-! a line of the folk: the reference's reader -/
theorem passes_n {N : Mem} (hw : (N.1 162 18).toInt ≠ -1) {c : Int32} {x : Int32 × Mem} (e : f_Mod_passes c N = some x) : x = (0, N) := by
  unfold f_Mod_passes at e
  obtain ⟨x1, e1, e⟩ := bo e
  rcases fine_i e1 with ⟨a, _⟩ | ⟨_, b⟩
  · rw [a, if_pos rfl] at e
    exact (Option.some.inj e).symm
  · exact absurd b hw
theorem fault_n {N r : Mem} {v : Int32} (hw : (N.1 162 18).toInt ≠ -1) (e : f_Mod_fault v N = some r) : r = N := by
  rcases fault_i e with ⟨_, h⟩ | ⟨h, _⟩
  · exact h
  · exact absurd h hw
theorem need_n {N r : Mem} (hw : (N.1 162 18).toInt ≠ -1) {c : Int32} (e : f_Mod_need c N = some r) : r = N := by
  unfold f_Mod_need at e
  obtain ⟨x1, e1, e⟩ := bo e
  have h := passes_n hw e1
  subst h
  rw [if_pos rfl] at e
  obtain ⟨x2, e2, e⟩ := bo e
  obtain rfl := Option.some.inj e
  exact fault_n hw e2
theorem number_n {N : Mem} (hw : (N.1 162 18).toInt ≠ -1) {c : Int32} {x : Int32 × Mem} (e : f_Mod_number c N = some x) : x = (0, N) := by
  unfold f_Mod_number at e
  obtain ⟨x1, e1, e⟩ := bo e
  rcases fine_i e1 with ⟨a, _⟩ | ⟨_, b⟩
  · rw [a, if_pos rfl] at e
    exact (Option.some.inj e).symm
  · exact absurd b hw
theorem route_n {N : Mem} (hw : (N.1 162 18).toInt ≠ -1) {v1 : Nat} {v2 : Int32} {x : Int32 × Mem} (e : f_Mod_readRoute v1 v2 N = some x) : x = (0, N) := by
  unfold f_Mod_readRoute at e
  obtain ⟨_, e⟩ := io_n e
  obtain ⟨x12, e12, e⟩ := bo e
  have key : x12 = (0, N) := by
    refine it_r (I := fun s : Int32 × Mem => s = (0, N)) (Q := fun s : Int32 × Mem => s = (0, N)) ?_ e12 rfl
    rintro s r rfl e
    unfold lb_Mod_readRoute_2 at e
    obtain ⟨x1, e1, e⟩ := bo e
    rcases fine_i e1 with ⟨a, _⟩ | ⟨_, b⟩
    · rw [a, if_pos rfl] at e
      obtain rfl := Option.some.inj e
      rfl
    · exact absurd b hw
  subst key
  unfold j_Mod_readRoute_65 at e
  dsimp only at e
  rw [if_pos rfl] at e
  obtain ⟨x13, e13, e⟩ := bo e
  obtain rfl := Option.some.inj e
  rw [fault_n hw e13]
theorem fault_f {N r : Mem} {v : Int32} (e : f_Mod_fault v N = some r) : (∀ kx i, ¬ (kx = 162 ∧ (i = 17 ∨ i = 18)) → r.1 kx i = N.1 kx i) ∧ r.2 = N.2 := by
  rcases fault_i e with ⟨_, h⟩ | ⟨_, h⟩
  · rw [h]; exact ⟨fun _ _ _ => rfl, rfl⟩
  · rw [h]; exact ⟨fun kx i g => si_ne (by omega), rfl⟩
theorem passes_f {N : Mem} {c : Int32} {x : Int32 × Mem} (e : f_Mod_passes c N = some x) : (∀ kx i, ¬ (kx = 162 ∧ (i = 17 ∨ i = 18)) → x.2.1 kx i = N.1 kx i) ∧ x.2.2 = N.2 := by
  unfold f_Mod_passes at e
  obtain ⟨x1, e1, e⟩ := bo e
  rcases io e with ⟨_, e⟩ | ⟨_, e⟩
  · obtain rfl := Option.some.inj e; exact ⟨fun _ _ _ => rfl, rfl⟩
  obtain ⟨x2, e2, e⟩ := bo e
  rcases io e with ⟨_, e⟩ | ⟨_, e⟩
  · obtain ⟨M3, m3, e⟩ := mo e
    obtain rfl := Option.some.inj e
    exact ⟨fun kx i g => by show M3.1 kx i = _; rw [m3, si_ne (by omega)], by show M3.2 = _; rw [m3, si_2]⟩
  · obtain rfl := Option.some.inj e; exact ⟨fun _ _ _ => rfl, rfl⟩
theorem number_f {N : Mem} {c : Int32} {x : Int32 × Mem} (e : f_Mod_number c N = some x) : (∀ kx i, ¬ (kx = 162 ∧ (i = 17 ∨ i = 18)) → x.2.1 kx i = N.1 kx i) ∧ x.2.2 = N.2 := by
  unfold f_Mod_number at e
  obtain ⟨x1, e1, e⟩ := bo e
  rcases io e with ⟨_, e⟩ | ⟨_, e⟩
  · obtain rfl := Option.some.inj e; exact ⟨fun _ _ _ => rfl, rfl⟩
  obtain ⟨x8, e8, e⟩ := bo e
  have k : (∀ kx i, ¬ (kx = 162 ∧ (i = 17 ∨ i = 18)) → x8.2.1 kx i = N.1 kx i) ∧ x8.2.2 = N.2 := by
    refine it_r (I := fun s : Int32 × Mem => (∀ kx i, ¬ (kx = 162 ∧ (i = 17 ∨ i = 18)) → s.2.1 kx i = N.1 kx i) ∧ s.2.2 = N.2) (Q := fun s : Int32 × Mem => (∀ kx i, ¬ (kx = 162 ∧ (i = 17 ∨ i = 18)) → s.2.1 kx i = N.1 kx i) ∧ s.2.2 = N.2) ?_ e8 ⟨fun _ _ _ => rfl, rfl⟩
    rintro ⟨a, B⟩ r ⟨h1, h2⟩ e
    dsimp only at h1 h2
    unfold lb_Mod_number_16 at e
    dsimp only at e
    rcases io e with ⟨_, e⟩ | ⟨_, e⟩
    · obtain rfl := Option.some.inj e; exact ⟨h1, h2⟩
    obtain ⟨x2, e2, e⟩ := bo e
    obtain ⟨x3, e3, e⟩ := bo e
    rcases io e with ⟨_, e⟩ | ⟨_, e⟩
    · obtain rfl := Option.some.inj e; exact ⟨h1, h2⟩
    obtain ⟨x4, e4, e⟩ := bo e
    obtain ⟨M5, m5, e⟩ := mo e
    obtain rfl := Option.some.inj e
    exact ⟨fun kx i g => by show M5.1 kx i = _; rw [m5, si_ne (by omega)]; exact h1 kx i g, by show M5.2 = _; rw [m5, si_2]; exact h2⟩
  unfold j_Mod_number_66 at e
  rcases io e with ⟨_, e⟩ | ⟨_, e⟩
  · obtain ⟨x9, e9, e⟩ := bo e
    obtain rfl := Option.some.inj e
    have f := fault_f e9
    exact ⟨fun kx i g => by show x9.1 kx i = _; rw [f.1 kx i g]; exact k.1 kx i g, by show x9.2 = _; rw [f.2]; exact k.2⟩
  · obtain rfl := Option.some.inj e; exact k
def PZ (N r : Mem) : Prop := (∀ kx i, kx ≠ 170 → ¬ (kx = 162 ∧ (i = 17 ∨ i = 18)) → r.1 kx i = N.1 kx i) ∧ r.2 = N.2
theorem PZ_t {A B C : Mem} (h : PZ A B) (g : PZ B C) : PZ A C := ⟨fun kx i a b => (g.1 kx i a b).trans (h.1 kx i a b), g.2.trans h.2⟩
theorem PZ_s {A B : Mem} {i : Nat} {v : Int32} (e : B = s_i A 170 i v) : PZ A B := ⟨fun kx j a b => by rw [e, si_ne (by omega)], by rw [e, si_2]⟩
theorem PZ_17 {A B : Mem} {v : Int32} (e : B = s_i A 162 17 v) : PZ A B := ⟨fun kx j a b => by rw [e, si_ne (by omega)], by rw [e, si_2]⟩
theorem PZ_f {A B : Mem} (h : (∀ kx i, ¬ (kx = 162 ∧ (i = 17 ∨ i = 18)) → B.1 kx i = A.1 kx i) ∧ B.2 = A.2) : PZ A B := ⟨fun kx i _ b => h.1 kx i b, h.2⟩
theorem need_f {N r : Mem} {c : Int32} (e : f_Mod_need c N = some r) : (∀ kx i, ¬ (kx = 162 ∧ (i = 17 ∨ i = 18)) → r.1 kx i = N.1 kx i) ∧ r.2 = N.2 := by
  unfold f_Mod_need at e
  obtain ⟨x1, e1, e⟩ := bo e
  have p := passes_f e1
  rcases io e with ⟨_, e⟩ | ⟨_, e⟩
  · obtain ⟨x2, e2, e⟩ := bo e
    obtain rfl := Option.some.inj e
    have f := fault_f e2
    exact ⟨fun kx i g => (f.1 kx i g).trans (p.1 kx i g), f.2.trans p.2⟩
  · obtain rfl := Option.some.inj e
    exact p
theorem route_f {N : Mem} {v2 : Int32} {x : Int32 × Mem} (e : f_Mod_readRoute 170 v2 N = some x) : PZ N x.2 := by
  unfold f_Mod_readRoute at e
  obtain ⟨_, e⟩ := io_n e
  obtain ⟨x12, e12, e⟩ := bo e
  have key : PZ N x12.2 := by
    refine it_r (I := fun s : Int32 × Mem => PZ N s.2) (Q := fun s : Int32 × Mem => PZ N s.2) ?_ e12 ⟨fun _ _ _ _ => rfl, rfl⟩
    rintro ⟨a, B⟩ r h e
    dsimp only at h
    unfold lb_Mod_readRoute_2 at e
    dsimp only at e
    obtain ⟨x1, e1, e⟩ := bo e
    rcases io e with ⟨_, e⟩ | ⟨_, e⟩
    · obtain rfl := Option.some.inj e; exact h
    obtain ⟨x2, e2, e⟩ := bo e
    obtain ⟨x3, e3, e⟩ := bo e
    rcases io e with ⟨_, e⟩ | ⟨_, e⟩
    · obtain rfl := Option.some.inj e; exact h
    rcases io e with ⟨_, e⟩ | ⟨_, e⟩
    · obtain ⟨x8, e8, e⟩ := bo e
      obtain rfl := Option.some.inj e
      exact PZ_t h (PZ_f (fault_f e8))
    obtain ⟨x4, e4, e⟩ := bo e
    obtain ⟨x5, e5, e⟩ := bo e
    obtain ⟨_, e⟩ := io_n e
    obtain ⟨M6, m6, e⟩ := mo e
    obtain ⟨M7, m7, e⟩ := mo e
    obtain rfl := Option.some.inj e
    exact PZ_t h (PZ_t (PZ_s m6) (PZ_17 m7))
  unfold j_Mod_readRoute_65 at e
  rcases io e with ⟨_, e⟩ | ⟨_, e⟩
  · obtain ⟨x13, e13, e⟩ := bo e
    obtain rfl := Option.some.inj e
    exact PZ_t key (PZ_f (fault_f e13))
  · obtain rfl := Option.some.inj e; exact key
theorem f107 {N x : Mem} {v1 : Int32} (e : j_Mod_readOne_107 v1 N = some x) : PZ N x := by
  unfold j_Mod_readOne_107 at e
  obtain ⟨x8, e8, e⟩ := bo e
  obtain ⟨x9, e9, e⟩ := bo e
  obtain ⟨_, e⟩ := io_n e
  obtain ⟨M10, m10, e⟩ := mo e
  obtain rfl := Option.some.inj e
  exact PZ_t (PZ_f (need_f e8)) (PZ_t (route_f e9) (PZ_s m10))
theorem f46 {N x : Mem} {v1 : Int32} (e : j_Mod_readOne_46 v1 N = some x) : PZ N x := by
  unfold j_Mod_readOne_46 at e
  obtain ⟨M4, m4, e⟩ := mo e
  obtain ⟨x5, e5, e⟩ := bo e
  obtain ⟨_, e⟩ := io_n e
  obtain ⟨M6, m6, e⟩ := mo e
  obtain ⟨x7, e7, e⟩ := bo e
  have h6 : PZ N M6 := PZ_t (PZ_17 m4) (PZ_t (PZ_f (number_f e5)) (PZ_s m6))
  rcases io e with ⟨_, e⟩ | ⟨_, e⟩
  · exact PZ_t h6 (f107 e)
  obtain ⟨_, e⟩ := io_n e
  obtain ⟨_, e⟩ := io_n e
  obtain ⟨x11, e11, e⟩ := bo e
  rcases io e with ⟨_, e⟩ | ⟨_, e⟩
  · obtain ⟨x12, e12, e⟩ := bo e
    exact PZ_t h6 (PZ_t (PZ_f (fault_f e12)) (f107 e))
  · exact PZ_t h6 (f107 e)
theorem f19 {N x : Mem} {v1 w0 w1 : Int32} (e : j_Mod_readOne_19 v1 w0 w1 N = some x) : PZ N x := by
  unfold j_Mod_readOne_19 at e
  obtain ⟨_, e⟩ := io_n e
  obtain ⟨M2, m2, e⟩ := mo e
  obtain ⟨x3, e3, e⟩ := bo e
  rcases io e with ⟨_, e⟩ | ⟨_, e⟩
  · exact PZ_t (PZ_s m2) (f46 e)
  obtain ⟨x15, e15, e⟩ := bo e
  rcases io e with ⟨_, e⟩ | ⟨_, e⟩
  · exact PZ_t (PZ_s m2) (f46 e)
  obtain ⟨x16, e16, e⟩ := bo e
  exact PZ_t (PZ_s m2) (PZ_t (PZ_f (fault_f e16)) (f46 e))
theorem one_f {N x : Mem} {v1 : Int32} (e : f_Mod_readOne v1 N = some x) : PZ N x := by
  unfold f_Mod_readOne at e
  obtain ⟨x1, e1, e⟩ := bo e
  rcases io e with ⟨_, e⟩ | ⟨_, e⟩
  · exact f19 e
  · exact f19 e
theorem isOf_e {N A : Mem} (h2 : N.1 162 2 = A.1 162 2) (h3 : N.1 162 3 = A.1 162 3) (h4 : ∀ i, N.1 164 i = A.1 164 i) (l c : Int32) : f_Mod_isOf l c N = f_Mod_isOf l c A := by
  unfold f_Mod_isOf f_Mod_isCell f_Mod_cells
  simp only [h2, h3, h4]
theorem bad_107 {N x : Mem} (hw : (N.1 162 18).toInt ≠ -1) {v1 : Int32} (e : j_Mod_readOne_107 v1 N = some x) : (x.1 162 18).toInt ≠ -1 := by
  unfold j_Mod_readOne_107 at e
  obtain ⟨x8, e8, ea⟩ := bo e
  rw [need_n hw e8] at ea
  obtain ⟨x9, e9, eb⟩ := bo ea
  rw [route_n hw e9] at eb
  obtain ⟨_, ec⟩ := io_n eb
  obtain ⟨M10, m10, ed⟩ := mo ec
  obtain rfl := Option.some.inj ed
  rw [m10, si_ne (by omega)]; exact hw
theorem bad_46 {N x : Mem} (hw : (N.1 162 18).toInt ≠ -1) {v1 : Int32} (e : j_Mod_readOne_46 v1 N = some x) : (x.1 162 18).toInt ≠ -1 := by
  unfold j_Mod_readOne_46 at e
  obtain ⟨M4, m4, e⟩ := mo e
  have w4 : (M4.1 162 18).toInt ≠ -1 := by rw [m4, si_ne (by omega)]; exact hw
  obtain ⟨x5, e5, e⟩ := bo e
  have h5 := number_n w4 e5
  subst h5
  obtain ⟨_, e⟩ := io_n e
  obtain ⟨M6, m6, e⟩ := mo e
  have w6 : (M6.1 162 18).toInt ≠ -1 := by rw [m6, si_ne (by omega)]; exact w4
  obtain ⟨x7, e7, e⟩ := bo e
  rcases fine_i e7 with ⟨a, _⟩ | ⟨_, b⟩
  · rw [a, if_pos rfl] at e
    exact bad_107 w6 e
  · exact absurd b w6
def LnD (t : Nat → Int) (p j : Nat) (x : Mem) : Prop := (x.1 170 (12 * j)).toInt = lvt t p ∧ (x.1 170 (12 * j + 1)).toInt = cel t p ∧ (x.1 170 (12 * j + 2)).toInt = (rtn t 9 (rst t p) : Int) ∧ ∀ i, i < rtn t 9 (rst t p) → (x.1 170 (12 * j + 3 + i)).toInt = stp (t (rst t p + i)) ∧ stp (t (rst t p + i)) ≠ -1
def FrO (A x : Mem) (j : Nat) : Prop := (∀ kx i, ¬ (kx = 170 ∧ 12 * j ≤ i ∧ i < 12 * j + 12) → ¬ (kx = 162 ∧ (i = 17 ∨ i = 18)) → x.1 kx i = A.1 kx i) ∧ x.2 = A.2
theorem line_r {t : Nat → Int} {A A0 : Mem} (hA : Rd t A) (jA : J A0) (t2 : A.1 162 2 = A0.1 162 2) (t3 : A.1 162 3 = A0.1 162 3) (t4 : ∀ i, A.1 164 i = A0.1 164 i) {v1 : Int32} {j p : Nat} (h1 : v1.toInt = ((12 * j : Nat) : Int)) (j7 : j ≤ 7) (hp : (A.1 162 17).toInt = (p : Int)) (p80 : p ≤ 80) (hw : (A.1 162 18).toInt = -1) {x} (e : f_Mod_readOne v1 A = some x) : ((x.1 162 18).toInt = -1 ∧ LnOk t (onN A0) p ∧ FrO A x j ∧ (x.1 162 17).toInt = ((rst t p + rtn t 9 (rst t p) : Nat) : Int) ∧ LnD t p j x ∧ stp (t (rst t p + rtn t 9 (rst t p))) = -1) ∨ ((x.1 162 18).toInt ≠ -1 ∧ (LnOk t (onN A0) p → stp (t (rst t p + rtn t 9 (rst t p))) ≠ -1)) := by
  have z0 := o0
  have ym := om
  have k119 : (119 : Int32).toInt = 119 := rfl
  have k109 : (109 : Int32).toInt = 109 := rfl
  have hlr := ln_rt
  have h46 : ∀ (w0 : Int32) (M2 : Mem), w0.toInt = lvt t p → (t p = 109 ∨ t p = 119) → M2 = s_i A 170 (12 * j) w0 → j_Mod_readOne_46 v1 M2 = some x → ((x.1 162 18).toInt = -1 ∧ LnOk t (onN A0) p ∧ FrO A x j ∧ (x.1 162 17).toInt = ((rst t p + rtn t 9 (rst t p) : Nat) : Int) ∧ LnD t p j x ∧ stp (t (rst t p + rtn t 9 (rst t p))) = -1) ∨ ((x.1 162 18).toInt ≠ -1 ∧ (LnOk t (onN A0) p → stp (t (rst t p + rtn t 9 (rst t p))) ≠ -1)) := by
    intro w0 M2 hw0 hmw m2 e
    have p79 : p < 80 := (Rd_rng hA p).2.2 (by omega)
    have dlb : dgl t p ≤ 2 := dgn_le _ 2 (p + 1)
    unfold j_Mod_readOne_46 at e
    obtain ⟨M4, m4, e⟩ := mo e
    have w4 : (M4.1 162 18).toInt = -1 := by rw [m4, si_ne (by omega), m2, si_ne (by omega)]; exact hw
    have a4 : (M4.1 162 17).toInt = ((p + 1 : Nat) : Int) := by
      rw [m4, si_eq, m2, si_ne (by omega)]; exact add_ti hp o1 (by omega) (by omega)
    have f4 : ∀ kx i, ¬ (kx = 170 ∧ i = 12 * j) → ¬ (kx = 162 ∧ (i = 17 ∨ i = 18)) → M4.1 kx i = A.1 kx i := fun kx i g1 g2 => by rw [m4, si_ne (by omega), m2, si_ne g1]
    have q4 : M4.2 = A.2 := by rw [m4, si_2, m2, si_2]
    have r4 : Rd t M4 := Rd_f hA (by rw [q4]) (f4 162 15 (by omega) (by omega)) (f4 162 16 (by omega) (by omega)) (fun i => f4 167 i (by omega) (by omega)) (fun i => f4 172 i (by omega) (by omega))
    obtain ⟨x5, e5, e⟩ := bo e
    obtain ⟨n1, n2, n3, n4, n5, n6⟩ := number_i (K := 2) r4 (by omega) rfl a4 (by omega) w4 e5
    have dl : dgn t 2 (p + 1) ≤ 2 := dgn_le _ 2 (p + 1)
    obtain ⟨_, e⟩ := io_n e
    obtain ⟨M6, m6, e⟩ := mo e
    have i1 : (v1 + (1 : Int32)).toInt = ((12 * j + 1 : Nat) : Int) := add_ti h1 o1 (by omega) (by omega)
    rw [q_nat i1] at m6
    have f5 : ∀ kx i, ¬ (kx = 162 ∧ (i = 17 ∨ i = 18)) → x5.2.1 kx i = M4.1 kx i := (number_f e5).1
    have q5 : x5.2.2 = M4.2 := (number_f e5).2
    have f6 : ∀ kx i, ¬ (kx = 170 ∧ 12 * j ≤ i ∧ i < 12 * j + 12) → ¬ (kx = 162 ∧ (i = 17 ∨ i = 18)) → M6.1 kx i = A.1 kx i := fun kx i g1 g2 => by
      rw [m6, si_ne (by omega), f5 kx i g2]; exact f4 kx i (by omega) g2
    have q6 : M6.2 = A.2 := by rw [m6, si_2, q5, q4]
    have a6 : (M6.1 162 17).toInt = ((p + 1 + dgl t p : Nat) : Int) := by rw [m6, si_ne (by omega)]; exact n5
    have l6 : (M6.1 170 (12 * j)).toInt = lvt t p := by rw [m6, si_ne (by omega), f5 170 _ (by omega), m4, si_ne (by omega), m2, si_eq]; exact hw0
    have c6 : (M6.1 170 (12 * j + 1)).toInt = cel t p := by rw [m6, si_eq]; exact n2
    obtain ⟨x7, e7, e⟩ := bo e
    rcases n6 with ⟨d0, w5⟩ | ⟨d0, w5⟩
    · have w6 : (M6.1 162 18).toInt ≠ -1 := by rw [m6, si_ne (by omega), w5]; omega
      rcases fine_i e7 with ⟨a, _⟩ | ⟨_, b⟩
      · rw [a, if_pos rfl] at e
        refine .inr ⟨bad_107 w6 e, fun h => ?_⟩
        have := h.2.1
        unfold dgl at this
        omega
      · exact absurd b w6
    have w6 : (M6.1 162 18).toInt = -1 := by rw [m6, si_ne (by omega)]; exact w5
    have dpos : 0 < dgl t p := d0
    rcases fine_i e7 with ⟨_, b⟩ | ⟨a, _⟩
    · exact absurd w6 b
    rw [a, if_neg (by decide)] at e
    obtain ⟨_, e⟩ := io_n e
    obtain ⟨_, e⟩ := io_n e
    obtain ⟨x11, e11, e⟩ := bo e
    rw [q_nat h1, q_nat i1] at e11
    rw [isOf_e ((f6 162 2 (by omega) (by omega)).trans t2) ((f6 162 3 (by omega) (by omega)).trans t3) (fun i => (f6 164 i (by omega) (by omega)).trans (t4 i))] at e11
    have hon := some_of (fs_isOf jA _ _) e11
    rw [l6, c6] at hon
    rcases hon with ⟨hx, hon⟩ | ⟨hx, hon⟩
    rotate_left
    · rw [hx, if_pos rfl] at e
      obtain ⟨x12, e12, e⟩ := bo e
      rcases fault_i e12 with ⟨h, _⟩ | ⟨_, h⟩
      · exact absurd w6 h
      · refine .inr ⟨bad_107 ?_ e, fun h => absurd h.2.2.1 hon⟩
        rw [h, si_eq, sub_ti a6 o1 (by omega) (by omega)]; omega
    rw [hx, if_neg (by decide)] at e
    unfold j_Mod_readOne_107 at e
    obtain ⟨x8, e8, e⟩ := bo e
    have r6 : Rd t M6 := Rd_f hA (by rw [q6]) (f6 162 15 (by omega) (by omega)) (f6 162 16 (by omega) (by omega)) (fun i => f6 167 i (by omega) (by omega)) (fun i => f6 172 i (by omega) (by omega))
    unfold f_Mod_need at e8
    obtain ⟨y1, ey1, e8⟩ := bo e8
    have k58 : (58 : Int32).toInt = 58 := rfl
    rcases passes_i r6 a6 w6 (by omega) (by omega) ey1 with ⟨tc, ty, ta, tw⟩ | ⟨tc, ty, te⟩
    rotate_left
    · rw [if_pos ty] at e8
      obtain ⟨y2, ey2, e8⟩ := bo e8
      obtain rfl := Option.some.inj e8
      have wn : (y2.1 162 18).toInt ≠ -1 := by
        rw [te] at ey2
        rcases fault_i ey2 with ⟨h, _⟩ | ⟨_, h⟩
        · exact absurd w6 h
        · rw [h, si_eq, a6]; omega
      obtain ⟨x9, e9, e⟩ := bo e
      have h9 := route_n wn e9
      subst h9
      obtain ⟨_, e⟩ := io_n e
      obtain ⟨M10, m10, e⟩ := mo e
      obtain rfl := Option.some.inj e
      refine .inr ⟨by rw [m10, si_ne (by omega)]; exact wn, fun h => ?_⟩
      have := h.2.2.2.1
      omega
    rw [if_neg ty] at e8
    obtain rfl := Option.some.inj e8
    have fp : (∀ kx i, ¬ (kx = 162 ∧ (i = 17 ∨ i = 18)) → y1.2.1 kx i = M6.1 kx i) ∧ y1.2.2 = M6.2 := passes_f ey1
    have f8 : ∀ kx i, ¬ (kx = 170 ∧ 12 * j ≤ i ∧ i < 12 * j + 12) → ¬ (kx = 162 ∧ (i = 17 ∨ i = 18)) → y1.2.1 kx i = A.1 kx i := fun kx i g1 g2 => by rw [fp.1 kx i g2]; exact f6 kx i g1 g2
    have q8 : y1.2.2 = A.2 := by rw [fp.2, q6]
    have r8 : Rd t y1.2 := Rd_f hA (by rw [q8]) (f8 162 15 (by omega) (by omega)) (f8 162 16 (by omega) (by omega)) (fun i => f8 167 i (by omega) (by omega)) (fun i => f8 172 i (by omega) (by omega))
    have p77 : p + 1 + dgl t p < 80 := (Rd_rng hA _).2.2 (by omega)
    have a8 : (y1.2.1 162 17).toInt = ((rst t p : Nat) : Int) := by rw [ta]; unfold rst; omega
    obtain ⟨x9, e9, e⟩ := bo e
    have z3 := o3
    have i3 : (v1 + (3 : Int32)).toInt = ((12 * j + 3 : Nat) : Int) := add_ti h1 z3 (by omega) (by omega)
    obtain ⟨g1, g2, g3, g4, g5, g6⟩ := route_i (o := 12 * j + 3) (p := rst t p) r8 (.inr rfl) i3 (by omega) a8 tw (by unfold rst; omega) e9
    obtain ⟨_, e⟩ := io_n e
    obtain ⟨M10, m10, e⟩ := mo e
    obtain rfl := Option.some.inj e
    have z2 := o2
    have i2 : (v1 + (2 : Int32)).toInt = ((12 * j + 2 : Nat) : Int) := add_ti h1 z2 (by omega) (by omega)
    rw [q_nat i2] at m10
    have w10 : M10.1 162 18 = x9.2.1 162 18 := by rw [m10, si_ne (by omega)]
    rw [w10]
    have rl := rtn_le t 9 (rst t p)
    rcases g4 with ⟨u1, u2⟩ | ⟨u1, u2, u3⟩ | ⟨u1, u2, u3⟩
    · exact .inr ⟨by rw [u2]; omega, fun h => by have := h.2.2.2.2; omega⟩
    · exact .inr ⟨by rw [u3]; omega, fun _ => by rw [u1]; exact u2⟩
    · refine .inl ⟨u3, ⟨hmw, dpos, hon, tc, u1⟩, ⟨fun kx i k1 k2 => ?_, ?_⟩, ?_, ⟨?_, ?_, ?_, fun i hi => ?_⟩, u2⟩
      · rw [m10, si_ne (by omega), g5 kx i (by omega) k2]; exact f8 kx i k1 k2
      · rw [m10, si_2, g6, q8]
      · rw [m10, si_ne (by omega)]; exact g2
      · rw [m10, si_ne (by omega), g5 170 _ (by omega) (by omega), fp.1 170 _ (by omega)]; exact l6
      · rw [m10, si_ne (by omega), g5 170 _ (by omega) (by omega), fp.1 170 _ (by omega)]; exact c6
      · rw [m10, si_eq]; exact g1
      · rw [m10, si_ne (by omega)]; exact g3 i hi
  have hbad : ∀ M2 y, (M2.1 162 17).toInt = (p : Int) → (M2.1 162 18).toInt = -1 → ¬ (t p = 109 ∨ t p = 119) → f_Mod_fault (M2.1 162 17) M2 = some y → j_Mod_readOne_46 v1 y = some x → (x.1 162 18).toInt ≠ -1 ∧ (LnOk t (onN A0) p → stp (t (rst t p + rtn t 9 (rst t p))) ≠ -1) := by
    intro M2 y ha hb hn ef e
    rcases fault_i ef with ⟨h, _⟩ | ⟨_, h⟩
    · exact absurd hb h
    · exact ⟨bad_46 (by rw [h, si_eq, ha]; omega) e, fun h => absurd h.1 hn⟩
  have h19 : ∀ w0 : Int32, w0.toInt = lvt t p → j_Mod_readOne_19 v1 w0 v1 A = some x → ((x.1 162 18).toInt = -1 ∧ LnOk t (onN A0) p ∧ FrO A x j ∧ (x.1 162 17).toInt = ((rst t p + rtn t 9 (rst t p) : Nat) : Int) ∧ LnD t p j x ∧ stp (t (rst t p + rtn t 9 (rst t p))) = -1) ∨ ((x.1 162 18).toInt ≠ -1 ∧ (LnOk t (onN A0) p → stp (t (rst t p + rtn t 9 (rst t p))) ≠ -1)) := by
    intro w0 hw0 e
    unfold j_Mod_readOne_19 at e
    obtain ⟨_, e⟩ := io_n e
    obtain ⟨M2, m2, e⟩ := mo e
    rw [q_nat h1] at m2
    have f2 : ∀ kx i, ¬ (kx = 170) → M2.1 kx i = A.1 kx i := fun kx i g => by rw [m2, si_ne (by omega)]
    have r2 : Rd t M2 := Rd_f hA (by rw [m2, si_2]) (f2 162 15 (by omega)) (f2 162 16 (by omega)) (fun i => f2 167 i (by omega)) (fun i => f2 172 i (by omega))
    have a2 : (M2.1 162 17).toInt = (p : Int) := by rw [f2 162 17 (by omega)]; exact hp
    have w2 : (M2.1 162 18).toInt = -1 := by rw [f2 162 18 (by omega)]; exact hw
    obtain ⟨x3, e3, e⟩ := bo e
    have c3 := here_c (c := 119) r2 a2 e3 (by omega) (by omega)
    rcases io e with ⟨c, e⟩ | ⟨c, e⟩
    · exact h46 w0 M2 hw0 (.inr (by rw [c3.mp c]; rfl)) m2 e
    obtain ⟨x15, e15, e⟩ := bo e
    have c15 := here_c (c := 109) r2 a2 e15 (by omega) (by omega)
    rcases io e with ⟨c', e⟩ | ⟨c', e⟩
    · exact h46 w0 M2 hw0 (.inl (by rw [c15.mp c']; rfl)) m2 e
    obtain ⟨x16, e16, e⟩ := bo e
    refine .inr (hbad M2 x16 a2 w2 ?_ e16 e)
    rintro (h | h)
    · exact c' (c15.mpr (by rw [h, k109]))
    · exact c (c3.mpr (by rw [h, k119]))
  unfold f_Mod_readOne at e
  obtain ⟨x1, e1, e⟩ := bo e
  have c1 := here_c (c := 119) hA hp e1 (by omega) (by omega)
  rcases io e with ⟨c, e⟩ | ⟨c, e⟩
  · exact h19 1 (by unfold lvt; rw [if_pos (by rw [c1.mp c]; rfl)]; exact o1) e
  · exact h19 0 (by unfold lvt; rw [if_neg (fun h => c (c1.mpr (by rw [h, k119])))]; exact o0) e
