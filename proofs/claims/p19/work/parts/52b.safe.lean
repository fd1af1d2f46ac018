/-! safety of the class, 2 -/
theorem sl_Ground_become_12 (v2 : Int32) (a0_ : Int32) (N_ : Mem) (B_ : Mem) (hp_v2 : (1 : Int) ≤ v2.toInt ∧ v2.toInt ≤ (36 : Int)) (hN : J N_) (hG : Gc 0 B_ N_) (i2_ : (0 : Int) ≤ a0_.toInt) (i3_ : a0_.toInt ≤ (36 : Int)) : ∃ x, iter (lb_Ground_become_12 v2) FU (a0_, N_) = some x ∧ (fun r : Mem => J r ∧ Gc 0 B_ r) x := by
  refine iter_r (fun s : Int32 × Mem => J s.2 ∧ Gc 0 B_ s.2 ∧ (0 : Int) ≤ s.1.toInt ∧ s.1.toInt ≤ (36 : Int)) (fun s : Int32 × Mem => (36 - s.1.toInt).toNat) (fun r : Mem => J r ∧ Gc 0 B_ r) ?_ FU (a0_, N_) ⟨hN, hG, i2_, i3_⟩ (by show (36 - a0_.toInt).toNat < FU; rw [FU_v]; omega)
  clear i3_ i2_ hG hN
  rintro ⟨a0_', N_'⟩ ⟨hN, hG, i2_, i3_⟩
  dsimp only at hN hG i2_ i3_
  unfold lb_Ground_become_12
  dsimp only
  refine if_i (fun c => ?_) (fun c => ?_)
  · have c1 := c
    have d2 : (36 : Int) ≤ a0_'.toInt := lei.mp c1
    exact ⟨_, rfl, hN, hG⟩
  · have c3 := c
    have d4 : a0_'.toInt < (36 : Int) := nlei.mp c3
    refine if_i (fun c => ?_) (fun c => ?_)
    · have c5 := c
      have d6 : v2.toInt ≤ a0_'.toInt := lei.mp c5
      refine inb_i (by omega) (by omega) ?_
      refine mem_i (fun M3 e8 => ?_)
      have hJ9 : J M3 := by rw [e8]; exact Jw_any ok_4 hN a0_'.toNatClampNeg (0 : Int32)
      have hG10 : Gc 0 B_ M3 := Gc_i hG e8 (by decide)
      clear e8
      have q11 : (a0_' + (1 : Int32)).toInt = a0_'.toInt + (1 : Int) := add_ti rfl rfl (by omega) (by omega)
      exact ⟨_, rfl, ⟨hJ9, hG10, (show (0 : Int) ≤ (a0_' + (1 : Int32)).toInt by omega), (show (a0_' + (1 : Int32)).toInt ≤ (36 : Int) by omega)⟩, show (36 - (a0_' + (1 : Int32)).toInt).toNat < (36 - a0_'.toInt).toNat by omega⟩
    · have c12 := c
      have d13 : a0_'.toInt < v2.toInt := nlei.mp c12
      refine inb_i (by omega) (by omega) ?_
      refine inb_i (by omega) (by omega) ?_
      refine mem_i (fun M4 e15 => ?_)
      have hJ16 : J M4 := by rw [e15]; exact Jw_any ok_4 hN a0_'.toNatClampNeg (N_'.1 5 a0_'.toNatClampNeg)
      have hG17 : Gc 0 B_ M4 := Gc_i hG e15 (by decide)
      clear e15
      have q18 : (a0_' + (1 : Int32)).toInt = a0_'.toInt + (1 : Int) := add_ti rfl rfl (by omega) (by omega)
      exact ⟨_, rfl, ⟨hJ16, hG17, (show (0 : Int) ≤ (a0_' + (1 : Int32)).toInt by omega), (show (a0_' + (1 : Int32)).toInt ≤ (36 : Int) by omega)⟩, show (36 - (a0_' + (1 : Int32)).toInt).toNat < (36 - a0_'.toInt).toNat by omega⟩
theorem J_grow {M : Mem} (h : J M) {a b : Int32} (h1 : 1 ≤ a.toInt) (h2 : a.toInt ≤ 6) (h3 : 1 ≤ b.toInt) (h4 : b.toInt ≤ 36) (h5 : ∃ z : Int, b.toInt = a.toInt * z) : J (s_i (s_i M 3 2 a) 3 3 b) := by
  have e1 : (s_i (s_i M 3 2 a) 3 3 b).1 3 3 = b := si_eq
  have e2 : (s_i (s_i M 3 2 a) 3 3 b).1 3 2 = a := by rw [si_ne (by decide)]; exact si_eq
  refine ⟨fun k i => ?_, ?_, h.2.2⟩
  · by_cases c1 : k = 3 ∧ i = 3
    · obtain ⟨rfl, rfl⟩ := c1
      rw [e1]; exact ⟨h3, h4⟩
    · rw [si_ne c1]
      by_cases c2 : k = 3 ∧ i = 2
      · obtain ⟨rfl, rfl⟩ := c2
        rw [si_eq]; exact ⟨h1, h2⟩
      · rw [si_ne c2]; exact h.1 k i
  · obtain ⟨z, hz⟩ := h5
    exact ⟨z, by rw [e1, e2, hz]⟩
theorem sf_Ground_become (v1 v2 : Int32) (M : Mem) (hJ : J M) (h1 : 1 ≤ v1.toInt) (h2 : v1.toInt ≤ 6) (h3 : 1 ≤ v2.toInt) (h4 : v2.toInt ≤ 36) (h5 : ∃ z : Int, v2.toInt = v1.toInt * z) : ∃ r, f_Ground_become v1 v2 M = some r ∧ (J r.2 ∧ Gc 0 M r.2 ∧ (1 : Int) ≤ r.1.toInt ∧ r.1.toInt ≤ (36 : Int)) := by
  unfold f_Ground_become
  refine mem_i (fun M1 e1 => ?_)
  refine mem_i (fun M2 e2 => ?_)
  have hJ2 : J M2 := by rw [e2, e1]; exact J_grow hJ h1 h2 h3 h4 h5
  have hG2 : Gc 0 M M2 := Gc_i (Gc_i Gc_r e1 (by decide)) e2 (by decide)
  refine bind_i (sl_Ground_become_12 v2 (0 : Int32) M2 M ⟨h3, h4⟩ hJ2 hG2 (by decide) (by decide)) (fun x _ q => ?_)
  exact ⟨_, rfl, q.1, q.2, h3, h4⟩
def GR_I (B : Mem) (s : Int32 × Int32 × Int32 × Int32 × Int32 × Mem) : Prop := (J s.2.2.2.2.2 ∧ Gc 0 B s.2.2.2.2.2) ∧ (0 : Int) ≤ s.2.2.2.2.1.toInt ∧ s.2.2.2.2.1.toInt ≤ 81 ∧ (0 : Int) ≤ s.2.2.1.toInt ∧ s.2.2.1.toInt ≤ 6 ∧ (0 : Int) ≤ s.2.1.toInt ∧ s.2.1.toInt ≤ s.2.2.2.1.toInt ∧ (1 : Int) ≤ s.2.2.2.1.toInt ∧ s.2.2.2.1.toInt ≤ 6 ∧ s.1.toInt = s.2.2.2.1.toInt * s.2.2.1.toInt + s.2.1.toInt
def GR_m (s : Int32 × Int32 × Int32 × Int32 × Int32 × Mem) : Nat := (81 - s.2.2.2.2.1.toInt).toNat
def GR_Q (B : Mem) : (Mem) ⊕ (Int32 × Mem) ⊕ (Int32 × Int32 × Mem) → Prop := SQ (fun r => J r ∧ Gc 0 B r) (SQ (fun r => (J r.2 ∧ Gc 0 B r.2) ∧ (0 : Int) ≤ r.1.toInt ∧ r.1.toInt ≤ (80 : Int)) (fun r => (J r.2.2 ∧ Gc 0 B r.2.2) ∧ (1 : Int) ≤ r.2.1.toInt ∧ r.2.1.toInt ≤ (6 : Int) ∧ (1 : Int) ≤ r.1.toInt ∧ r.1.toInt ≤ (36 : Int) ∧ ∃ z : Int, r.1.toInt = r.2.1.toInt * z))
theorem GR_step (B : Mem) (v2 v3 v4 v5 v6 : Int32) (N : Mem) (hN : J N ∧ Gc 0 B N) (p1 : 0 ≤ v6.toInt) (p2 : v6.toInt ≤ 81) (l1 : 0 ≤ v4.toInt) (l2 : v4.toInt ≤ 6) (c1 : 0 ≤ v3.toInt) (c2 : v3.toInt ≤ v5.toInt) (w1 : 1 ≤ v5.toInt) (w2 : v5.toInt ≤ 6) (hs : v2.toInt = v5.toInt * v4.toInt + v3.toInt) : ∃ r, lb_Ground_read_14 (v2, v3, v4, v5, v6, N) = some r ∧ LPq (GR_I B) GR_m (GR_Q B) (GR_m (v2, v3, v4, v5, v6, N)) r := by
  unfold lb_Ground_read_14
  dsimp only
  refine if_i (fun c => ⟨_, rfl, hN⟩) (fun c => ?_)
  have p3 : v6.toInt ≤ 80 := nlti.mp c
  have ep : (v6 + (1 : Int32)).toInt = v6.toInt + 1 := add_ti rfl rfl (by omega) (by omega)
  have ec : (v3 + (1 : Int32)).toInt = v3.toInt + 1 := add_ti rfl rfl (by omega) (by omega)
  have el : (v4 + (1 : Int32)).toInt = v4.toInt + 1 := add_ti rfl rfl (by omega) (by omega)
  have z0 : (0 : Int32).toInt = 0 := rfl
  have o1 : (1 : Int32).toInt = 1 := rfl
  have hp : 0 ≤ v5.toInt * v4.toInt := Int.mul_nonneg (by omega) l1
  have hp2 : v5.toInt * v4.toInt ≤ 6 * 6 := Int.mul_le_mul w2 l2 l1 (by decide)
  have bad : ∀ r : (Int32 × Int32 × Int32 × Int32 × Int32 × Mem) ⊕ ((Mem) ⊕ (Int32 × Mem) ⊕ (Int32 × Int32 × Mem)), r = .inr (Sum.inr (Sum.inl (v6, N))) → LPq (GR_I B) GR_m (GR_Q B) (GR_m (v2, v3, v4, v5, v6, N)) r := fun r e => by rw [e]; exact ⟨hN, p1, p3⟩
  -- a row ends
  have ends : ∀ x1 lst : Int32, v4.toInt < 6 → (v4.toInt = 0 → lst.toInt = 1) → (v4.toInt ≠ 0 → lst = v5) → ∃ r, j_Ground_read_74_14 v2 v3 v4 v5 v6 x1 1 lst v3 1 x1 N = some r ∧ LPq (GR_I B) GR_m (GR_Q B) (GR_m (v2, v3, v4, v5, v6, N)) r := by
    intro x1 lst h6 h7 h8
    unfold j_Ground_read_74_14
    have hf : ∃ x2, f_Ground_fits x1 1 v3 lst v5 = some x2 ∧ (¬ x2 = 0 → lst.toInt ≤ v3.toInt) := by
      unfold f_Ground_fits
      refine if_i (fun c => absurd c (by decide)) (fun c => ?_)
      refine if_i (fun c => ⟨_, rfl, fun h => absurd rfl h⟩) (fun c => ⟨_, rfl, fun _ => nlti.mp c⟩)
    refine bind_i hf (fun x2 _ q => ?_)
    refine if_i (fun c => ⟨_, rfl, bad _ rfl⟩) (fun c => ?_)
    have q := q c
    refine if_i (fun c => absurd c (by decide)) (fun c => ?_)
    unfold j_Ground_read_126_14
    have k1 : (1 : Int) ≤ v3.toInt := by
      by_cases e : v4.toInt = 0
      · have := h7 e; omega
      · rw [h8 e] at q; omega
    have k2 : v2.toInt = v3.toInt * (v4.toInt + 1) := by
      by_cases e : v4.toInt = 0
      · rw [e] at hs ⊢; omega
      · rw [h8 e] at q
        have e3 : v3.toInt = v5.toInt := by omega
        rw [e3, Int.mul_add, hs, e3]; omega
    refine if_i (fun c => ⟨_, rfl, ?_⟩) (fun c => ⟨_, rfl, ?_⟩)
    · refine ⟨hN, k1, show v3.toInt ≤ 6 by omega, ?_, ?_, v4.toInt + 1, k2⟩
      · show (1 : Int) ≤ v2.toInt
        rw [k2]
        have := Int.mul_le_mul k1 (show (1 : Int) ≤ v4.toInt + 1 by omega) (by decide) (by omega)
        omega
      · show v2.toInt ≤ 36
        rw [k2]
        have := Int.mul_le_mul (show v3.toInt ≤ 6 by omega) (show v4.toInt + 1 ≤ 6 by omega) (by omega) (by decide)
        omega
    · refine ⟨⟨hN, ?_, ?_, ?_, ?_, ?_, ?_, k1, ?_, ?_⟩, ?_⟩
      · show (0 : Int) ≤ (v6 + (1 : Int32)).toInt; omega
      · show (v6 + (1 : Int32)).toInt ≤ 81; omega
      · show (0 : Int) ≤ (v4 + (1 : Int32)).toInt; omega
      · show (v4 + (1 : Int32)).toInt ≤ 6; omega
      · show (0 : Int) ≤ (0 : Int32).toInt; omega
      · show (0 : Int32).toInt ≤ v3.toInt; omega
      · show v3.toInt ≤ 6; omega
      · show v2.toInt = v3.toInt * (v4 + (1 : Int32)).toInt + (0 : Int32).toInt; rw [el, z0, k2]; omega
      · show (81 - (v6 + (1 : Int32)).toInt).toNat < (81 - v6.toInt).toNat; omega
  -- a CELL more
  have more : ∀ x1 lst : Int32, ¬ x1 = -1 → ∃ r, j_Ground_read_74_14 v2 v3 v4 v5 v6 x1 0 lst v3 0 x1 N = some r ∧ LPq (GR_I B) GR_m (GR_Q B) (GR_m (v2, v3, v4, v5, v6, N)) r := by
    intro x1 lst hx
    unfold j_Ground_read_74_14
    have hf : ∃ x2, f_Ground_fits x1 0 v3 lst v5 = some x2 ∧ (¬ x2 = 0 → v3.toInt < v5.toInt) := by
      unfold f_Ground_fits
      refine if_i (fun c => ?_) (fun c => absurd rfl c)
      refine bind_i (sf_Ground_kindOf x1) (fun y _ _ => ?_)
      refine if_i (fun c => ⟨_, rfl, fun h => absurd rfl h⟩) (fun c => ?_)
      refine if_i (fun c => ⟨_, rfl, fun h => absurd rfl h⟩) (fun c => ⟨_, rfl, fun _ => nlei.mp c⟩)
    refine bind_i hf (fun x2 _ q => ?_)
    refine if_i (fun c => ⟨_, rfl, bad _ rfl⟩) (fun c => ?_)
    have q := q c
    refine if_i (fun c => ?_) (fun c => absurd rfl c)
    refine if_i (fun c => ?_) (fun c => ?_)
    · unfold j_Ground_read_126_14
      refine if_i (fun c => absurd c hx) (fun c => ⟨_, rfl, ?_⟩)
      refine ⟨⟨hN, ?_, ?_, l1, l2, c1, c2, w1, w2, hs⟩, ?_⟩
      · show (0 : Int) ≤ (v6 + (1 : Int32)).toInt; omega
      · show (v6 + (1 : Int32)).toInt ≤ 81; omega
      · show (81 - (v6 + (1 : Int32)).toInt).toNat < (81 - v6.toInt).toNat; omega
    · have d := nlei.mp c
      have d2 : v2.toInt < 36 := d
      have ev : (v2 + (1 : Int32)).toInt = v2.toInt + 1 := add_ti rfl rfl (by omega) (by omega)
      refine bind_i (sf_Ground_kindOf x1) (fun y _ _ => ?_)
      refine inb_i (by omega) (by omega) ?_
      refine mem_i (fun M5 e5 => ?_)
      have h5 : J M5 ∧ Gc 0 B M5 := ⟨by rw [e5]; exact Jw_any ok_5 hN.1 _ _, Gc_i hN.2 e5 (by decide)⟩
      unfold j_Ground_read_126_14
      refine if_i (fun c => absurd c hx) (fun c => ⟨_, rfl, ?_⟩)
      refine ⟨⟨h5, ?_, ?_, l1, l2, ?_, ?_, w1, w2, ?_⟩, ?_⟩
      · show (0 : Int) ≤ (v6 + (1 : Int32)).toInt; omega
      · show (v6 + (1 : Int32)).toInt ≤ 81; omega
      · show (0 : Int) ≤ (v3 + (1 : Int32)).toInt; omega
      · show (v3 + (1 : Int32)).toInt ≤ v5.toInt; omega
      · show (v2 + (1 : Int32)).toInt = v5.toInt * v4.toInt + (v3 + (1 : Int32)).toInt; omega
      · show (81 - (v6 + (1 : Int32)).toInt).toNat < (81 - v6.toInt).toNat; omega
  refine bind_i (sf_Signs_at v6 (80 : Int32) N hN.1) (fun x1 _ _ => ?_)
  have j49 : ∀ w0 : Int32, (w0 = 1 ∨ (w0 = 0 ∧ ¬ x1 = -1)) → ∃ r, j_Ground_read_49_14 v2 v3 v4 v5 v6 x1 w0 N = some r ∧ LPq (GR_I B) GR_m (GR_Q B) (GR_m (v2, v3, v4, v5, v6, N)) r := by
    intro w0 hw0
    unfold j_Ground_read_49_14
    refine if_i (fun c => ⟨_, rfl, bad _ rfl⟩) (fun c => ?_)
    have h6 : v4.toInt < 6 := nlei.mp c
    refine if_i (fun c => ?_) (fun c => ?_)
    · have e4 : v4.toInt = 0 := eqi.mp c
      rcases hw0 with rfl | ⟨rfl, hx⟩
      · exact ends x1 1 h6 (fun _ => rfl) (fun h => absurd e4 h)
      · exact more x1 1 hx
    · have e4 : ¬ v4.toInt = 0 := neqi.mp c
      rcases hw0 with rfl | ⟨rfl, hx⟩
      · exact ends x1 v5 h6 (fun h => absurd h e4) (fun _ => rfl)
      · exact more x1 v5 hx
  refine if_i (fun c => j49 1 (.inl rfl)) (fun c => ?_)
  exact if_i (fun c => j49 1 (.inl rfl)) (fun c => j49 0 (.inr ⟨rfl, c⟩))
theorem sl_Ground_read_14 (M : Mem) (hJ : J M) : ∃ x, iter lb_Ground_read_14 FU ((0 : Int32), (0 : Int32), (0 : Int32), (6 : Int32), (0 : Int32), M) = some x ∧ GR_Q M x := by
  refine iter_r (GR_I M) GR_m (GR_Q M) ?_ FU _ ⟨⟨hJ, Gc_r⟩, by show (0 : Int) ≤ (0 : Int32).toInt; decide, by show (0 : Int32).toInt ≤ 81; decide, by show (0 : Int) ≤ (0 : Int32).toInt; decide, by show (0 : Int32).toInt ≤ 6; decide, by show (0 : Int) ≤ (0 : Int32).toInt; decide, by show (0 : Int32).toInt ≤ (6 : Int32).toInt; decide, by show (1 : Int) ≤ (6 : Int32).toInt; decide, by show (6 : Int32).toInt ≤ 6; decide, by show (0 : Int32).toInt = (6 : Int32).toInt * (0 : Int32).toInt + (0 : Int32).toInt; decide⟩ (by show (81 - (0 : Int32).toInt).toNat < FU; decide)
  rintro ⟨v2, v3, v4, v5, v6, N⟩ ⟨hN, p1, p2, l1, l2, c1, c2, w1, w2, hs⟩
  exact GR_step M v2 v3 v4 v5 v6 N hN p1 p2 l1 l2 c1 c2 w1 w2 hs
theorem sf_Ground_read (M : Mem) (hJ : J M) : ∃ r, f_Ground_read M = some r ∧ (J r.2 ∧ Gc 0 M r.2 ∧ (-81 : Int) ≤ r.1.toInt ∧ r.1.toInt ≤ (36 : Int)) := by
  unfold f_Ground_read
  refine bind_i (sl_Ground_read_14 M hJ) (fun x _ q => ?_)
  rcases x with y | y | y
  · have q9 : J y ∧ Gc 0 M y := q
    exact ⟨_, rfl, q9.1, q9.2, (by show (-81 : Int) ≤ (-81 : Int32).toInt; decide), (by show (-81 : Int32).toInt ≤ 36; decide)⟩
  · have q9 : (J y.2 ∧ Gc 0 M y.2) ∧ (0 : Int) ≤ y.1.toInt ∧ y.1.toInt ≤ (80 : Int) := q
    have e : ((-1 : Int32) - y.1).toInt = -1 - y.1.toInt := sub_ti rfl rfl (by omega) (by omega)
    exact ⟨_, rfl, q9.1.1, q9.1.2, show (-81 : Int) ≤ ((-1 : Int32) - y.1).toInt by omega, show ((-1 : Int32) - y.1).toInt ≤ 36 by omega⟩
  · have q9 : (J y.2.2 ∧ Gc 0 M y.2.2) ∧ (1 : Int) ≤ y.2.1.toInt ∧ y.2.1.toInt ≤ (6 : Int) ∧ (1 : Int) ≤ y.1.toInt ∧ y.1.toInt ≤ (36 : Int) ∧ ∃ z : Int, y.1.toInt = y.2.1.toInt * z := q
    obtain ⟨⟨a1, ga⟩, a2, a3, a4, a5, a6⟩ := q9
    dsimp only [Sum.elim_inl, Sum.elim_inr]
    refine bind_i (sf_Ground_become y.2.1 y.1 y.2.2 a1 a2 a3 a4 a5 a6) (fun x _ q => ?_)
    exact ⟨_, rfl, q.1, Gc_t ga q.2.1, show (-81 : Int) ≤ x.1.toInt by have := q.2.2.1; omega, q.2.2.2⟩
theorem sf_Ground_holds (v1 : Int32) (v2 : Int32) (M : Mem) (hJ : J M) : ∃ r : Int32, f_Ground_holds v1 v2 M = some r ∧ ((0 : Int) ≤ r.toInt ∧ r.toInt ≤ (1 : Int) ∧ (¬ r.toInt = 0 → (0 : Int) ≤ v1.toInt ∧ v1.toInt ≤ (1 : Int)) ∧ (¬ r.toInt = 0 → (0 : Int) ≤ v2.toInt ∧ v2.toInt ≤ (35 : Int))) := by
  unfold f_Ground_holds
  refine if_i (fun c => ?_) (fun c => ?_)
  · have c1 := c
    have d2 : v1.toInt < (0 : Int) := lti.mp c1
    exact ⟨(0 : Int32), rfl, (show (0 : Int) ≤ (0 : Int32).toInt by decide), (show (0 : Int32).toInt ≤ (1 : Int) by decide), (fun hh => by have hh : ¬ (0 : Int32).toInt = 0 := hh; have zz : (0 : Int32).toInt = 0 := rfl; omega), (fun hh => by have hh : ¬ (0 : Int32).toInt = 0 := hh; have zz : (0 : Int32).toInt = 0 := rfl; omega)⟩
  · have c3 := c
    have d4 : (0 : Int) ≤ v1.toInt := nlti.mp c3
    refine if_i (fun c => ?_) (fun c => ?_)
    · have c5 := c
      have d6 : (1 : Int) < v1.toInt := lti.mp c5
      exact ⟨(0 : Int32), rfl, (show (0 : Int) ≤ (0 : Int32).toInt by decide), (show (0 : Int32).toInt ≤ (1 : Int) by decide), (fun hh => by have hh : ¬ (0 : Int32).toInt = 0 := hh; have zz : (0 : Int32).toInt = 0 := rfl; omega), (fun hh => by have hh : ¬ (0 : Int32).toInt = 0 := hh; have zz : (0 : Int32).toInt = 0 := rfl; omega)⟩
    · have c7 := c
      have d8 : v1.toInt ≤ (1 : Int) := nlti.mp c7
      refine if_i (fun c => ?_) (fun c => ?_)
      · have c9 := c
        have d10 : v2.toInt < (0 : Int) := lti.mp c9
        exact ⟨(0 : Int32), rfl, (show (0 : Int) ≤ (0 : Int32).toInt by decide), (show (0 : Int32).toInt ≤ (1 : Int) by decide), (fun hh => by have hh : ¬ (0 : Int32).toInt = 0 := hh; have zz : (0 : Int32).toInt = 0 := rfl; omega), (fun hh => by have hh : ¬ (0 : Int32).toInt = 0 := hh; have zz : (0 : Int32).toInt = 0 := rfl; omega)⟩
      · have c11 := c
        have d12 : (0 : Int) ≤ v2.toInt := nlti.mp c11
        refine if_i (fun c => ?_) (fun c => ?_)
        · have c13 := c
          have r14 := Jr_3_3 hJ
          have d15 : (M.1 3 3).toInt ≤ v2.toInt := lei.mp c13
          exact ⟨(0 : Int32), rfl, (show (0 : Int) ≤ (0 : Int32).toInt by decide), (show (0 : Int32).toInt ≤ (1 : Int) by decide), (fun hh => by have hh : ¬ (0 : Int32).toInt = 0 := hh; have zz : (0 : Int32).toInt = 0 := rfl; omega), (fun hh => by have hh : ¬ (0 : Int32).toInt = 0 := hh; have zz : (0 : Int32).toInt = 0 := rfl; omega)⟩
        · have c16 := c
          have r17 := Jr_3_3 hJ
          have d18 : v2.toInt < (M.1 3 3).toInt := nlei.mp c16
          refine if_i (fun c => ?_) (fun c => ?_)
          · have c19 := c
            have d20 : (36 : Int) ≤ v2.toInt := lei.mp c19
            exfalso; omega
          · have c21 := c
            have d22 : v2.toInt < (36 : Int) := nlei.mp c21
            refine inb_i (by omega) (by omega) ?_
            refine if_i (fun c => ?_) (fun c => ?_)
            · have c23 := c
              have q24 : (0 : Int) ≤ (((M.1 4 v2.toNatClampNeg) >>> (v1 &&& 31)) &&& (1 : Int32)).toInt ∧ (((M.1 4 v2.toNatClampNeg) >>> (v1 &&& 31)) &&& (1 : Int32)).toInt ≤ 1 := and_rng (by decide)
              have d25 : (((M.1 4 v2.toNatClampNeg) >>> (v1 &&& 31)) &&& (1 : Int32)).toInt = (0 : Int) := eqi.mp c23
              exact ⟨(0 : Int32), rfl, (show (0 : Int) ≤ (0 : Int32).toInt by decide), (show (0 : Int32).toInt ≤ (1 : Int) by decide), (fun hh => by have hh : ¬ (0 : Int32).toInt = 0 := hh; have zz : (0 : Int32).toInt = 0 := rfl; omega), (fun hh => by have hh : ¬ (0 : Int32).toInt = 0 := hh; have zz : (0 : Int32).toInt = 0 := rfl; omega)⟩
            · have c26 := c
              have q27 : (0 : Int) ≤ (((M.1 4 v2.toNatClampNeg) >>> (v1 &&& 31)) &&& (1 : Int32)).toInt ∧ (((M.1 4 v2.toNatClampNeg) >>> (v1 &&& 31)) &&& (1 : Int32)).toInt ≤ 1 := and_rng (by decide)
              have d28 : ¬ (((M.1 4 v2.toNatClampNeg) >>> (v1 &&& 31)) &&& (1 : Int32)).toInt = (0 : Int) := neqi.mp c26
              exact ⟨(1 : Int32), rfl, (show (0 : Int) ≤ (1 : Int32).toInt by decide), (show (1 : Int32).toInt ≤ (1 : Int) by decide), (fun hh => by have hh : ¬ (1 : Int32).toInt = 0 := hh; have zz : (1 : Int32).toInt = 1 := rfl; omega), (fun hh => by have hh : ¬ (1 : Int32).toInt = 0 := hh; have zz : (1 : Int32).toInt = 1 := rfl; omega)⟩
theorem sf_Ground_beside (v1 v2 : Int32) (M : Mem) (hJ : J M) : ∃ r, f_Ground_beside v1 v2 M = some r ∧ ((-1 : Int) ≤ r.toInt ∧ r.toInt ≤ (35 : Int) ∧ r.toInt < (M.1 3 3).toInt) := by
  obtain ⟨z, hz⟩ := hJ.2.1
  have w1 := Jr_3_2 hJ
  have w2 := Jr_3_3 hJ
  have n1 : (-1 : Int32).toInt = -1 := rfl
  unfold f_Ground_beside
  refine if_i (fun c => ⟨_, rfl, by rw [n1]; omega⟩) (fun c => ?_)
  have d1 : (0 : Int) ≤ v1.toInt := nlti.mp c
  refine if_i (fun c => ⟨_, rfl, by rw [n1]; omega⟩) (fun c => ?_)
  have d2 := nlei.mp c
  refine if_i (fun c => ?_) (fun c => ⟨_, rfl, by rw [n1]; omega⟩)
  refine z_i (nz_of (by omega)) ?_
  have hr : (v1 - v1 / (M.1 3 2) * (M.1 3 2)).toInt = v1.toInt % (M.1 3 2).toInt := rem_ti rfl rfl (by omega) (by omega)
  have hr2 := rem_rng (a := v1) (b := M.1 3 2) (by omega) (by omega)
  have hw : (M.1 3 2).toInt = 1 ∨ (M.1 3 2).toInt = 2 ∨ (M.1 3 2).toInt = 3 ∨ (M.1 3 2).toInt = 4 ∨ (M.1 3 2).toInt = 5 ∨ (M.1 3 2).toInt = 6 := by omega
  refine if_i (fun c => ?_) (fun c => ?_)
  · refine if_i (fun c => ⟨_, rfl, by rw [n1]; omega⟩) (fun c => ?_)
    have d4 := nlti.mp c
    have e : (v1 - M.1 3 2).toInt = v1.toInt - (M.1 3 2).toInt := sub_ti rfl rfl (by omega) (by omega)
    exact ⟨_, rfl, by rw [e]; omega⟩
  refine if_i (fun c => ?_) (fun c => ?_)
  · refine if_i (fun c => ⟨_, rfl, by rw [n1]; omega⟩) (fun c => ?_)
    have d4 := nlei.mp c
    have e1 : ((v1 - v1 / (M.1 3 2) * (M.1 3 2)) + (1 : Int32)).toInt = (v1 - v1 / (M.1 3 2) * (M.1 3 2)).toInt + 1 := add_ti rfl rfl (by omega) (by omega)
    have e : (v1 + (1 : Int32)).toInt = v1.toInt + 1 := add_ti rfl rfl (by omega) (by omega)
    refine ⟨_, rfl, ?_⟩
    rw [e]
    rw [e1, hr] at d4
    rcases hw with h | h | h | h | h | h <;> rw [h] at d4 hz <;> omega
  refine if_i (fun c => ?_) (fun c => ?_)
  · have e : (v1 + M.1 3 2).toInt = v1.toInt + (M.1 3 2).toInt := add_ti rfl rfl (by omega) (by omega)
    refine if_i (fun c => ⟨_, rfl, by rw [n1]; omega⟩) (fun c => ?_)
    have d4 := nlei.mp c
    exact ⟨_, rfl, by rw [e] at d4 ⊢; omega⟩
  refine if_i (fun c => ?_) (fun c => ⟨_, rfl, by rw [n1]; omega⟩)
  refine if_i (fun c => ⟨_, rfl, by rw [n1]; omega⟩) (fun c => ?_)
  have d4 : (0 : Int) < _ := nlei.mp c
  have e : (v1 - (1 : Int32)).toInt = v1.toInt - 1 := sub_ti rfl rfl (by omega) (by omega)
  exact ⟨_, rfl, by rw [e]; omega⟩
theorem sl_Ground_across_2 (v1 : Int32) (v2 : Int32) (M : Mem) (a0_ : Int32) (hJ_M : J M) (i0_ : (0 : Int) ≤ a0_.toInt) (i1_ : a0_.toInt ≤ (4 : Int)) : ∃ x, iter (lb_Ground_across_2 v1 v2 M) FU a0_ = some x ∧ (SQ (fun r : Unit => True) (fun r : Int32 => (0 : Int) ≤ r.toInt ∧ r.toInt ≤ (3 : Int))) x := by
  refine iter_r (fun s : Int32 => (0 : Int) ≤ s.toInt ∧ s.toInt ≤ (4 : Int)) (fun s : Int32 => (4 - s.toInt).toNat) (SQ (fun r : Unit => True) (fun r : Int32 => (0 : Int) ≤ r.toInt ∧ r.toInt ≤ (3 : Int))) ?_ FU a0_ ⟨i0_, i1_⟩ (by show (4 - a0_.toInt).toNat < FU; rw [FU_v]; omega)
  clear i1_ i0_
  rintro a0_' ⟨i0_, i1_⟩
  unfold lb_Ground_across_2
  refine if_i (fun c => ?_) (fun c => ?_)
  · have c1 := c
    have d2 : (4 : Int) ≤ a0_'.toInt := lei.mp c1
    exact ⟨_, rfl, trivial⟩
  · have c3 := c
    have d4 : a0_'.toInt < (4 : Int) := nlei.mp c3
    refine if_i (fun c => ?_) (fun c => ?_)
    · have c5 := c
      have d6 : v2.toInt = (-1 : Int) := eqi.mp c5
      have q7 : (a0_' + (1 : Int32)).toInt = a0_'.toInt + (1 : Int) := add_ti rfl rfl (by omega) (by omega)
      exact ⟨_, rfl, ⟨(show (0 : Int) ≤ (a0_' + (1 : Int32)).toInt by omega), (show (a0_' + (1 : Int32)).toInt ≤ (4 : Int) by omega)⟩, show (4 - (a0_' + (1 : Int32)).toInt).toNat < (4 - a0_'.toInt).toNat by omega⟩
    · have c8 := c
      have d9 : ¬ v2.toInt = (-1 : Int) := neqi.mp c8
      refine bind_i (sf_Ground_beside v1 a0_' M hJ_M) (fun x1 _ q => ?_)
      obtain ⟨h10, h11, h12⟩ := q
      refine bind_i (sf_Ground_beside x1 a0_' M hJ_M) (fun x2 _ q => ?_)
      obtain ⟨h13, h14, h15⟩ := q
      refine if_i (fun c => ?_) (fun c => ?_)
      · have c16 := c
        have d17 : x2.toInt = v2.toInt := eqi.mp c16
        exact ⟨_, rfl, (show (0 : Int) ≤ a0_'.toInt by omega), (show a0_'.toInt ≤ (3 : Int) by omega)⟩
      · have c18 := c
        have d19 : ¬ x2.toInt = v2.toInt := neqi.mp c18
        have q20 : (a0_' + (1 : Int32)).toInt = a0_'.toInt + (1 : Int) := add_ti rfl rfl (by omega) (by omega)
        exact ⟨_, rfl, ⟨(show (0 : Int) ≤ (a0_' + (1 : Int32)).toInt by omega), (show (a0_' + (1 : Int32)).toInt ≤ (4 : Int) by omega)⟩, show (4 - (a0_' + (1 : Int32)).toInt).toNat < (4 - a0_'.toInt).toNat by omega⟩
theorem sf_Ground_across (v1 : Int32) (v2 : Int32) (M : Mem) (hJ : J M) : ∃ r : Int32, f_Ground_across v1 v2 M = some r ∧ ((-1 : Int) ≤ r.toInt ∧ r.toInt ≤ (3 : Int)) := by
  unfold f_Ground_across
  refine bind_i (sl_Ground_across_2 v1 v2 M (0 : Int32) hJ (show (0 : Int) ≤ (0 : Int32).toInt by decide) (show (0 : Int32).toInt ≤ (4 : Int) by decide)) (fun x1 _ q => ?_)
  rcases x1 with y | y
  · have q9 : True := q
    dsimp only [Sum.elim_inl, Sum.elim_inr]
    exact ⟨(-1 : Int32), rfl, (show (-1 : Int) ≤ (-1 : Int32).toInt by decide), (show (-1 : Int32).toInt ≤ (3 : Int) by decide)⟩
  · have q9 : (0 : Int) ≤ y.toInt ∧ y.toInt ≤ (3 : Int) := q
    dsimp only [Sum.elim_inl, Sum.elim_inr]
    obtain ⟨h4, h5⟩ := q9
    exact ⟨y, rfl, (show (-1 : Int) ≤ y.toInt by omega), (show y.toInt ≤ (3 : Int) by omega)⟩
theorem sf_Ground_has (v1 : Int32) (M : Mem) (hJ : J M) : ∃ r : Int32, f_Ground_has v1 M = some r ∧ ((0 : Int) ≤ r.toInt ∧ r.toInt ≤ (1 : Int) ∧ (¬ r.toInt = 0 → (0 : Int) ≤ v1.toInt ∧ v1.toInt ≤ (35 : Int))) := by
  unfold f_Ground_has
  refine if_i (fun c => ?_) (fun c => ?_)
  · have c1 := c
    have d2 : v1.toInt < (0 : Int) := lti.mp c1
    exact ⟨(0 : Int32), rfl, (show (0 : Int) ≤ (0 : Int32).toInt by decide), (show (0 : Int32).toInt ≤ (1 : Int) by decide), (fun hh => by have hh : ¬ (0 : Int32).toInt = 0 := hh; have zz : (0 : Int32).toInt = 0 := rfl; omega)⟩
  · have c3 := c
    have d4 : (0 : Int) ≤ v1.toInt := nlti.mp c3
    refine if_i (fun c => ?_) (fun c => ?_)
    · have c5 := c
      have r6 := Jr_3_3 hJ
      have d7 : (M.1 3 3).toInt ≤ v1.toInt := lei.mp c5
      exact ⟨(0 : Int32), rfl, (show (0 : Int) ≤ (0 : Int32).toInt by decide), (show (0 : Int32).toInt ≤ (1 : Int) by decide), (fun hh => by have hh : ¬ (0 : Int32).toInt = 0 := hh; have zz : (0 : Int32).toInt = 0 := rfl; omega)⟩
    · have c8 := c
      have r9 := Jr_3_3 hJ
      have d10 : v1.toInt < (M.1 3 3).toInt := nlei.mp c8
      refine if_i (fun c => ?_) (fun c => ?_)
      · have c11 := c
        have d12 : (36 : Int) ≤ v1.toInt := lei.mp c11
        exfalso; omega
      · have c13 := c
        have d14 : v1.toInt < (36 : Int) := nlei.mp c13
        exact ⟨(1 : Int32), rfl, (show (0 : Int) ≤ (1 : Int32).toInt by decide), (show (1 : Int32).toInt ≤ (1 : Int) by decide), (fun hh => by have hh : ¬ (1 : Int32).toInt = 0 := hh; have zz : (1 : Int32).toInt = 1 := rfl; omega)⟩
theorem sf_Ground_column (v1 : Int32) (M : Mem) (hJ : J M) : ∃ r : Int32, f_Ground_column v1 M = some r ∧ (True) := by
  unfold f_Ground_column
  refine if_i (fun c => ?_) (fun c => ?_)
  · have c1 := c
    have r2 := Jr_3_2 hJ
    have d3 : (1 : Int) ≤ (M.1 3 2).toInt := lei.mp c1
    refine z_i (nz_of (by omega)) ?_
    exact ⟨(v1 - ((v1 / (M.1 3 2)) * (M.1 3 2))), rfl, trivial⟩
  · have c4 := c
    have r5 := Jr_3_2 hJ
    have d6 : (M.1 3 2).toInt < (1 : Int) := nlei.mp c4
    exfalso; omega
theorem sf_Ground_line (v1 : Int32) (M : Mem) (hJ : J M) : ∃ r : Int32, f_Ground_line v1 M = some r ∧ (True) := by
  unfold f_Ground_line
  refine if_i (fun c => ?_) (fun c => ?_)
  · have c1 := c
    have r2 := Jr_3_2 hJ
    have d3 : (1 : Int) ≤ (M.1 3 2).toInt := lei.mp c1
    refine z_i (nz_of (by omega)) ?_
    exact ⟨(v1 / (M.1 3 2)), rfl, trivial⟩
  · have c4 := c
    have r5 := Jr_3_2 hJ
    have d6 : (M.1 3 2).toInt < (1 : Int) := nlei.mp c4
    exfalso; omega
theorem sf_Ground_isStair (v1 : Int32) (M : Mem) (hJ : J M) : ∃ r : Int32, f_Ground_isStair v1 M = some r ∧ ((0 : Int) ≤ r.toInt ∧ r.toInt ≤ (1 : Int) ∧ (¬ r.toInt = 0 → (0 : Int) ≤ v1.toInt ∧ v1.toInt ≤ (35 : Int))) := by
  unfold f_Ground_isStair
  refine if_i (fun c => ?_) (fun c => ?_)
  · have c1 := c
    have d2 : v1.toInt < (0 : Int) := lti.mp c1
    exact ⟨(0 : Int32), rfl, (show (0 : Int) ≤ (0 : Int32).toInt by decide), (show (0 : Int32).toInt ≤ (1 : Int) by decide), (fun hh => by have hh : ¬ (0 : Int32).toInt = 0 := hh; have zz : (0 : Int32).toInt = 0 := rfl; omega)⟩
  · have c3 := c
    have d4 : (0 : Int) ≤ v1.toInt := nlti.mp c3
    refine if_i (fun c => ?_) (fun c => ?_)
    · have c5 := c
      have r6 := Jr_3_3 hJ
      have d7 : (M.1 3 3).toInt ≤ v1.toInt := lei.mp c5
      exact ⟨(0 : Int32), rfl, (show (0 : Int) ≤ (0 : Int32).toInt by decide), (show (0 : Int32).toInt ≤ (1 : Int) by decide), (fun hh => by have hh : ¬ (0 : Int32).toInt = 0 := hh; have zz : (0 : Int32).toInt = 0 := rfl; omega)⟩
    · have c8 := c
      have r9 := Jr_3_3 hJ
      have d10 : v1.toInt < (M.1 3 3).toInt := nlei.mp c8
      refine if_i (fun c => ?_) (fun c => ?_)
      · have c11 := c
        have d12 : (36 : Int) ≤ v1.toInt := lei.mp c11
        exfalso; omega
      · have c13 := c
        have d14 : v1.toInt < (36 : Int) := nlei.mp c13
        refine inb_i (by omega) (by omega) ?_
        refine if_i (fun c => ?_) (fun c => ?_)
        · have c15 := c
          have d16 : (M.1 4 v1.toNatClampNeg).toInt = (3 : Int) := eqi.mp c15
          exact ⟨(1 : Int32), rfl, (show (0 : Int) ≤ (1 : Int32).toInt by decide), (show (1 : Int32).toInt ≤ (1 : Int) by decide), (fun hh => by have hh : ¬ (1 : Int32).toInt = 0 := hh; have zz : (1 : Int32).toInt = 1 := rfl; omega)⟩
        · have c17 := c
          have d18 : ¬ (M.1 4 v1.toNatClampNeg).toInt = (3 : Int) := neqi.mp c17
          exact ⟨(0 : Int32), rfl, (show (0 : Int) ≤ (0 : Int32).toInt by decide), (show (0 : Int32).toInt ≤ (1 : Int) by decide), (fun hh => by have hh : ¬ (0 : Int32).toInt = 0 := hh; have zz : (0 : Int32).toInt = 0 := rfl; omega)⟩
