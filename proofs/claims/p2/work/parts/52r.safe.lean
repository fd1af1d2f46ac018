/-! safety of the class, 18 -/
theorem sf_Top_tryst (v1 : Int32) (v2 : Int32) (M : Mem) (hJ : J M) : ∃ r : Int32 × Mem, f_Top_tryst v1 v2 M = some r ∧ (J r.2 ∧ (-2 : Int) ≤ r.1.toInt ∧ r.1.toInt ≤ (35 : Int)) := by
  unfold f_Top_tryst
  refine bind_i (sf_Top_areManAndWoman v1 v2 M hJ) (fun x1 _ q => ?_)
  obtain ⟨h1, h2, h3, h4⟩ := q
  refine if_i (fun c => ?_) (fun c => ?_)
  · have c5 := c
    have d6 : x1.toInt = (0 : Int) := eqi.mp c5
    exact ⟨((-1 : Int32), M), rfl, hJ, (show (-2 : Int) ≤ (-1 : Int32).toInt by decide), (show (-1 : Int32).toInt ≤ (35 : Int) by decide)⟩
  · have c7 := c
    have d8 : ¬ x1.toInt = (0 : Int) := neqi.mp c7
    refine bind_i (sf_Top_soonestStair 32 v1 v2 M kd_32 (⟨show (0 : Int) ≤ v1.toInt by omega, show v1.toInt ≤ (7 : Int) by omega⟩) (⟨show (0 : Int) ≤ v2.toInt by omega, show v2.toInt ≤ (7 : Int) by omega⟩) hJ) (fun x2 _ q => ?_)
    obtain ⟨h9, h10, h11⟩ := q
    refine if_i (fun c => ?_) (fun c => ?_)
    · have c12 := c
      have d13 : x2.1.toInt = (-1 : Int) := eqi.mp c12
      exact ⟨((-2 : Int32), x2.2), rfl, h9, (show (-2 : Int) ≤ (-2 : Int32).toInt by decide), (show (-2 : Int32).toInt ≤ (35 : Int) by decide)⟩
    · have c14 := c
      have d15 : ¬ x2.1.toInt = (-1 : Int) := neqi.mp c14
      refine bind_i (sf_Top_emptyRow x2.2 h9) (fun x3 _ q => ?_)
      have h16 := q
      refine bind_i (sf_Ways_later x2.1 x3 (⟨show (0 : Int) ≤ x2.1.toInt by omega, show x2.1.toInt ≤ (35 : Int) by omega⟩) h16) (fun x4 _ q => ?_)
      refine bind_i (sf_Top_note x4 x3 h16) (fun x5 _ q => ?_)
      have h17 := q
      exact ⟨(x2.1, x5), rfl, h17, (show (-2 : Int) ≤ x2.1.toInt by omega), (show x2.1.toInt ≤ (35 : Int) by omega)⟩
theorem sf_Top_canOpen (v1 : Int32) (M : Mem) (hp_v1 : (0 : Int) ≤ v1.toInt ∧ v1.toInt ≤ (35 : Int)) (hJ : J M) : ∃ r : Int32, f_Top_canOpen v1 M = some r ∧ ((0 : Int) ≤ r.toInt ∧ r.toInt ≤ (1 : Int)) := by
  unfold f_Top_canOpen
  refine inb_i (by omega) (by omega) ?_
  refine if_i (fun c => ?_) (fun c => ?_)
  · have c1 := c
    have d2 : (M.1 4 v1.toNatClampNeg).toInt = (0 : Int) := eqi.mp c1
    exact ⟨(0 : Int32), rfl, (show (0 : Int) ≤ (0 : Int32).toInt by decide), (show (0 : Int32).toInt ≤ (1 : Int) by decide)⟩
  · have c3 := c
    have d4 : ¬ (M.1 4 v1.toNatClampNeg).toInt = (0 : Int) := neqi.mp c3
    refine if_i (fun c => ?_) (fun c => ?_)
    · have c5 := c
      have d6 : (M.1 4 v1.toNatClampNeg).toInt = (3 : Int) := eqi.mp c5
      exact ⟨(0 : Int32), rfl, (show (0 : Int) ≤ (0 : Int32).toInt by decide), (show (0 : Int32).toInt ≤ (1 : Int) by decide)⟩
    · have c7 := c
      have d8 : ¬ (M.1 4 v1.toNatClampNeg).toInt = (3 : Int) := neqi.mp c7
      refine bind_i (sf_Scene_isUnderPlank 11 v1 M kd_11 hJ) (fun x1 _ q => ?_)
      obtain ⟨h9, h10⟩ := q
      refine if_i (fun c => ?_) (fun c => ?_)
      · have c11 := c
        have d12 : x1.toInt = (0 : Int) := eqi.mp c11
        exact ⟨(1 : Int32), rfl, (show (0 : Int) ≤ (1 : Int32).toInt by decide), (show (1 : Int32).toInt ≤ (1 : Int) by decide)⟩
      · have c13 := c
        have d14 : ¬ x1.toInt = (0 : Int) := neqi.mp c13
        exact ⟨(0 : Int32), rfl, (show (0 : Int) ≤ (0 : Int32).toInt by decide), (show (0 : Int32).toInt ≤ (1 : Int) by decide)⟩
theorem sf_Top_trystWith (v1 : Int32) (v2 : Int32) (v3 : Int32) (M : Mem) (hp_v2 : (0 : Int) ≤ v2.toInt ∧ v2.toInt ≤ (7 : Int)) (hp_v3 : (0 : Int) ≤ v3.toInt ∧ v3.toInt ≤ (7 : Int)) (hJ : J M) : ∃ r : Int32 × Mem, f_Top_trystWith v1 v2 v3 M = some r ∧ (J r.2) := by
  unfold f_Top_trystWith
  refine bind_i (sf_Nets_lay 36 11 v1 M kd_36 kd_11 hJ) (fun x1 _ q => ?_)
  have h1 := q
  refine bind_i (sf_Top_soonestStair 36 v2 v3 x1 kd_36 (⟨show (0 : Int) ≤ v2.toInt by omega, show v2.toInt ≤ (7 : Int) by omega⟩) (⟨show (0 : Int) ≤ v3.toInt by omega, show v3.toInt ≤ (7 : Int) by omega⟩) h1) (fun x2 _ q => ?_)
  obtain ⟨h2, h3, h4⟩ := q
  refine if_i (fun c => ?_) (fun c => ?_)
  · have c5 := c
    have d6 : x2.1.toInt = (-1 : Int) := eqi.mp c5
    exact ⟨((1000000 : Int32), x2.2), rfl, h2⟩
  · have c7 := c
    have d8 : ¬ x2.1.toInt = (-1 : Int) := neqi.mp c7
    refine bind_i (sf_Ways_later x2.1 x2.2 (⟨show (0 : Int) ≤ x2.1.toInt by omega, show x2.1.toInt ≤ (35 : Int) by omega⟩) h2) (fun x3 _ q => ?_)
    exact ⟨(x3, x2.2), rfl, h2⟩
theorem sl_Top_open_21 (v1 : Int32) (v2 : Int32) (a0_ : Int32) (a1_ : Int32) (a2_ : Int32) (N_ : Mem) (hp_v1 : (0 : Int) ≤ v1.toInt ∧ v1.toInt ≤ (7 : Int)) (hp_v2 : (0 : Int) ≤ v2.toInt ∧ v2.toInt ≤ (7 : Int)) (hN : J N_) (i1_ : (-1 : Int) ≤ a0_.toInt) (i2_ : a0_.toInt ≤ (35 : Int)) (i3_ : a1_.toInt ≤ (1000000 : Int)) (i4_ : (0 : Int) ≤ a2_.toInt) (i5_ : a2_.toInt ≤ (36 : Int)) : ∃ x, iter (lb_Top_open_21 v1 v2) FU (a0_, a1_, a2_, N_) = some x ∧ (fun r : Int32 × Int32 × Mem => J r.2.2 ∧ (-1 : Int) ≤ r.1.toInt ∧ r.1.toInt ≤ (35 : Int) ∧ r.2.1.toInt ≤ (1000000 : Int)) x := by
  refine iter_r (fun s : Int32 × Int32 × Int32 × Mem => J s.2.2.2 ∧ (-1 : Int) ≤ s.1.toInt ∧ s.1.toInt ≤ (35 : Int) ∧ s.2.1.toInt ≤ (1000000 : Int) ∧ (0 : Int) ≤ s.2.2.1.toInt ∧ s.2.2.1.toInt ≤ (36 : Int)) (fun s : Int32 × Int32 × Int32 × Mem => (36 - s.2.2.1.toInt).toNat) (fun r : Int32 × Int32 × Mem => J r.2.2 ∧ (-1 : Int) ≤ r.1.toInt ∧ r.1.toInt ≤ (35 : Int) ∧ r.2.1.toInt ≤ (1000000 : Int)) ?_ FU (a0_, a1_, a2_, N_) ⟨hN, i1_, i2_, i3_, i4_, i5_⟩ (by show (36 - a2_.toInt).toNat < FU; rw [FU_v]; omega)
  clear i5_ i4_ i3_ i2_ i1_ hN
  rintro ⟨a0_', a1_', a2_', N_'⟩ ⟨hN, i1_, i2_, i3_, i4_, i5_⟩
  dsimp only at hN i1_ i2_ i3_ i4_ i5_
  unfold lb_Top_open_21
  dsimp only
  refine if_i (fun c => ?_) (fun c => ?_)
  · have c1 := c
    have r2 := Jr_3_3 hN
    have d3 : (N_'.1 3 3).toInt ≤ a2_'.toInt := lei.mp c1
    exact ⟨_, rfl, hN, (show (-1 : Int) ≤ a0_'.toInt by omega), (show a0_'.toInt ≤ (35 : Int) by omega), (show a1_'.toInt ≤ (1000000 : Int) by omega)⟩
  · have c4 := c
    have r5 := Jr_3_3 hN
    have d6 : a2_'.toInt < (N_'.1 3 3).toInt := nlei.mp c4
    refine bind_i (sf_Top_canOpen a2_' N_' (⟨show (0 : Int) ≤ a2_'.toInt by omega, show a2_'.toInt ≤ (35 : Int) by omega⟩) hN) (fun x2 _ q => ?_)
    obtain ⟨h7, h8⟩ := q
    refine if_i (fun c => ?_) (fun c => ?_)
    · have c9 := c
      have d10 : x2.toInt = (0 : Int) := eqi.mp c9
      unfold j_Top_open_56_21
      refine if_i (fun c => ?_) (fun c => ?_)
      · have c11 := c
        have d12 : a1_'.toInt ≤ (1000000 : Int) := lei.mp c11
        have q13 : (a2_' + (1 : Int32)).toInt = a2_'.toInt + (1 : Int) := add_ti rfl rfl (by omega) (by omega)
        exact ⟨_, rfl, ⟨hN, (show (-1 : Int) ≤ a0_'.toInt by omega), (show a0_'.toInt ≤ (35 : Int) by omega), (show a1_'.toInt ≤ (1000000 : Int) by omega), (show (0 : Int) ≤ (a2_' + (1 : Int32)).toInt by omega), (show (a2_' + (1 : Int32)).toInt ≤ (36 : Int) by omega)⟩, show (36 - (a2_' + (1 : Int32)).toInt).toNat < (36 - a2_'.toInt).toNat by omega⟩
      · have c14 := c
        have d15 : (1000000 : Int) < a1_'.toInt := nlei.mp c14
        exfalso; omega
    · have c16 := c
      have d17 : ¬ x2.toInt = (0 : Int) := neqi.mp c16
      refine bind_i (sf_Top_trystWith a2_' v1 v2 N_' (⟨show (0 : Int) ≤ v1.toInt by omega, show v1.toInt ≤ (7 : Int) by omega⟩) (⟨show (0 : Int) ≤ v2.toInt by omega, show v2.toInt ≤ (7 : Int) by omega⟩) hN) (fun x4 _ q => ?_)
      have h18 := q
      unfold j_Top_open_56_21
      refine if_i (fun c => ?_) (fun c => ?_)
      · have c19 := c
        have d20 : a1_'.toInt ≤ x4.1.toInt := lei.mp c19
        have q21 : (a2_' + (1 : Int32)).toInt = a2_'.toInt + (1 : Int) := add_ti rfl rfl (by omega) (by omega)
        exact ⟨_, rfl, ⟨h18, (show (-1 : Int) ≤ a0_'.toInt by omega), (show a0_'.toInt ≤ (35 : Int) by omega), (show a1_'.toInt ≤ (1000000 : Int) by omega), (show (0 : Int) ≤ (a2_' + (1 : Int32)).toInt by omega), (show (a2_' + (1 : Int32)).toInt ≤ (36 : Int) by omega)⟩, show (36 - (a2_' + (1 : Int32)).toInt).toNat < (36 - a2_'.toInt).toNat by omega⟩
      · have c22 := c
        have d23 : x4.1.toInt < a1_'.toInt := nlei.mp c22
        have q24 : (a2_' + (1 : Int32)).toInt = a2_'.toInt + (1 : Int) := add_ti rfl rfl (by omega) (by omega)
        exact ⟨_, rfl, ⟨h18, (show (-1 : Int) ≤ a2_'.toInt by omega), (show a2_'.toInt ≤ (35 : Int) by omega), (show x4.1.toInt ≤ (1000000 : Int) by omega), (show (0 : Int) ≤ (a2_' + (1 : Int32)).toInt by omega), (show (a2_' + (1 : Int32)).toInt ≤ (36 : Int) by omega)⟩, show (36 - (a2_' + (1 : Int32)).toInt).toNat < (36 - a2_'.toInt).toNat by omega⟩
theorem sf_Top_open (v1 : Int32) (v2 : Int32) (M : Mem) (hJ : J M) : ∃ r : Int32 × Mem, f_Top_open v1 v2 M = some r ∧ (J r.2 ∧ (-2 : Int) ≤ r.1.toInt ∧ r.1.toInt ≤ (35 : Int)) := by
  unfold f_Top_open
  refine bind_i (sf_Top_areManAndWoman v1 v2 M hJ) (fun x1 _ q => ?_)
  obtain ⟨h1, h2, h3, h4⟩ := q
  refine if_i (fun c => ?_) (fun c => ?_)
  · have c5 := c
    have d6 : x1.toInt = (0 : Int) := eqi.mp c5
    exact ⟨((-1 : Int32), M), rfl, hJ, (show (-2 : Int) ≤ (-1 : Int32).toInt by decide), (show (-1 : Int32).toInt ≤ (35 : Int) by decide)⟩
  · have c7 := c
    have d8 : ¬ x1.toInt = (0 : Int) := neqi.mp c7
    refine bind_i (sl_Top_open_21 v1 v2 (-1 : Int32) (1000000 : Int32) (0 : Int32) M (⟨show (0 : Int) ≤ v1.toInt by omega, show v1.toInt ≤ (7 : Int) by omega⟩) (⟨show (0 : Int) ≤ v2.toInt by omega, show v2.toInt ≤ (7 : Int) by omega⟩) hJ (show (-1 : Int) ≤ (-1 : Int32).toInt by decide) (show (-1 : Int32).toInt ≤ (35 : Int) by decide) (show (1000000 : Int32).toInt ≤ (1000000 : Int) by decide) (show (0 : Int) ≤ (0 : Int32).toInt by decide) (show (0 : Int32).toInt ≤ (36 : Int) by decide)) (fun x7 _ q => ?_)
    obtain ⟨h9, h10, h11, h12⟩ := q
    refine if_i (fun c => ?_) (fun c => ?_)
    · have c13 := c
      have d14 : x7.1.toInt = (-1 : Int) := eqi.mp c13
      exact ⟨((-2 : Int32), x7.2.2), rfl, h9, (show (-2 : Int) ≤ (-2 : Int32).toInt by decide), (show (-2 : Int32).toInt ≤ (35 : Int) by decide)⟩
    · have c15 := c
      have d16 : ¬ x7.1.toInt = (-1 : Int) := neqi.mp c15
      refine bind_i (sf_Top_emptyRow x7.2.2 h9) (fun x8 _ q => ?_)
      have h17 := q
      refine bind_i (sf_Top_note x7.2.1 x8 h17) (fun x9 _ q => ?_)
      have h18 := q
      exact ⟨(x7.1, x9), rfl, h18, (show (-2 : Int) ≤ x7.1.toInt by omega), (show x7.1.toInt ≤ (35 : Int) by omega)⟩
theorem sf_Top_roaming (v1 : Int32) (v2 : Int64) (M : Mem) (hp_v1 : (0 : Int) ≤ v1.toInt ∧ v1.toInt ≤ (7 : Int)) (hJ : J M) : ∃ r : Int64, f_Top_roaming v1 v2 M = some r ∧ (True) := by
  unfold f_Top_roaming
  refine inb_i (by omega) (by omega) ?_
  refine inb_i (by omega) (by omega) ?_
  refine if_i (fun c => ?_) (fun c => ?_)
  · have c1 := c
    have r2 := Jr_13 hJ v1.toNatClampNeg
    have d3 : (M.1 13 v1.toNatClampNeg).toInt = (0 : Int) := eqi.mp c1
    unfold j_Top_roaming_36
    refine bind_i (sf_Nets_flood 32 (M.1 13 v1.toNatClampNeg) (M.1 12 v1.toNatClampNeg) v2 M kd_32 (⟨show (0 : Int) ≤ (M.1 13 v1.toNatClampNeg).toInt by omega, show (M.1 13 v1.toNatClampNeg).toInt ≤ (1 : Int) by omega⟩) hJ) (fun x1 _ q => ?_)
    exact ⟨x1, rfl, trivial⟩
  · have c4 := c
    have r5 := Jr_13 hJ v1.toNatClampNeg
    have d6 : ¬ (M.1 13 v1.toNatClampNeg).toInt = (0 : Int) := neqi.mp c4
    unfold j_Top_roaming_36
    refine bind_i (sf_Nets_flood 32 (M.1 13 v1.toNatClampNeg) (M.1 12 v1.toNatClampNeg) (0 : Int64) M kd_32 (⟨show (0 : Int) ≤ (M.1 13 v1.toNatClampNeg).toInt by omega, show (M.1 13 v1.toNatClampNeg).toInt ≤ (1 : Int) by omega⟩) hJ) (fun x1 _ q => ?_)
    exact ⟨x1, rfl, trivial⟩
theorem sf_Top_canTryst (v1 : Int32) (v2 : Int32) (v3 : Int64) (M : Mem) (hp_v1 : (0 : Int) ≤ v1.toInt ∧ v1.toInt ≤ (7 : Int)) (hp_v2 : (0 : Int) ≤ v2.toInt ∧ v2.toInt ≤ (7 : Int)) (hJ : J M) : ∃ r : Int32, f_Top_canTryst v1 v2 v3 M = some r ∧ ((0 : Int) ≤ r.toInt ∧ r.toInt ≤ (1 : Int)) := by
  unfold f_Top_canTryst
  refine bind_i (sf_Top_roaming v1 v3 M (⟨show (0 : Int) ≤ v1.toInt by omega, show v1.toInt ≤ (7 : Int) by omega⟩) hJ) (fun x1 _ q => ?_)
  refine bind_i (sf_Top_roaming v2 v3 M (⟨show (0 : Int) ≤ v2.toInt by omega, show v2.toInt ≤ (7 : Int) by omega⟩) hJ) (fun x2 _ q => ?_)
  refine bind_i (sf_Nets_stairs 32 M kd_32 hJ) (fun x3 _ q => ?_)
  refine if_i (fun c => ?_) (fun c => ?_)
  · have c1 := c
    have d2 : (lg_cmp (((x1 &&& x2) &&& x3) &&& (v3 ^^^ (-1 : Int64))) (0 : Int64)).toInt = (0 : Int) := eqi.mp c1
    exact ⟨(0 : Int32), rfl, (show (0 : Int) ≤ (0 : Int32).toInt by decide), (show (0 : Int32).toInt ≤ (1 : Int) by decide)⟩
  · have c3 := c
    have d4 : ¬ (lg_cmp (((x1 &&& x2) &&& x3) &&& (v3 ^^^ (-1 : Int64))) (0 : Int64)).toInt = (0 : Int) := neqi.mp c3
    exact ⟨(1 : Int32), rfl, (show (0 : Int) ≤ (1 : Int32).toInt by decide), (show (1 : Int32).toInt ≤ (1 : Int) by decide)⟩
theorem sf_pby : ∀ (n : Nat) (a0 a1 : Int32) (a2 : Int64) (a3 : Int32) (a4 : Int64) (M : Mem), J M → (0 ≤ a0.toInt ∧ a0.toInt ≤ 7) → (0 ≤ a1.toInt ∧ a1.toInt ≤ 7) → 0 ≤ a3.toInt → a3.toInt < n → ∃ r, fr_pby n a0 a1 a2 a3 a4 M = some r ∧ True := by
  intro n
  induction n with
  | zero => intro a0 a1 a2 a3 a4 M _ _ _ h1 h2; omega
  | succ n ih =>
    intro a0 a1 a2 a3 a4 M hJ h0 h1 h3 h4
    show ∃ r, fb_Top_partedBy (fr_pby n) a0 a1 a2 a3 a4 M = some r ∧ True
    unfold fb_Top_partedBy
    refine if_i (fun c => ?_) (fun c => ?_)
    · have d : (0 : Int) < a3.toInt := lti.mp c
      have hz := Jr_3_3 hJ
      have es : (a3 - (1 : Int32)).toInt = a3.toInt - 1 := sub_ti rfl rfl (by have := i32hi a3; omega) (by have := i32hi a3; omega)
      refine bind_i (Q := fun _ => True) (iter_r (fun s : Int32 => 0 ≤ s.toInt ∧ s.toInt ≤ 36) (fun s => (36 - s.toInt).toNat) (fun _ => True) ?_ FU (0 : Int32) ⟨by decide, by decide⟩ (by decide)) (fun x _ _ => ?_)
      · rintro s ⟨q1, q2⟩
        have nx : (36 : Int) ≥ (M.1 3 3).toInt := hz.2
        unfold lb_Top_partedBy_28
        refine if_i (fun c => ⟨_, rfl, trivial⟩) (fun c => ?_)
        have d2 := nlei.mp c
        have ev : (s + (1 : Int32)).toInt = s.toInt + 1 := add_ti rfl rfl (by omega) (by omega)
        have nxt : ∀ r : Int32 ⊕ (Unit ⊕ Int64), r = .inl (s + (1 : Int32)) → LPq (fun s : Int32 => 0 ≤ s.toInt ∧ s.toInt ≤ 36) (fun s => (36 - s.toInt).toNat) (fun _ => True) ((36 - s.toInt).toNat) r := fun r e => by
          rw [e]
          exact ⟨⟨show (0 : Int) ≤ (s + (1 : Int32)).toInt by omega, show (s + (1 : Int32)).toInt ≤ 36 by omega⟩, show (36 - (s + (1 : Int32)).toInt).toNat < (36 - s.toInt).toNat by omega⟩
        have body : ∀ w0 : Int32, ∃ r, j_Top_partedBy_55_28 (fr_pby n) a0 a1 a2 a3 a4 s w0 M = some r ∧ LPq (fun s : Int32 => 0 ≤ s.toInt ∧ s.toInt ≤ 36) (fun s => (36 - s.toInt).toNat) (fun _ => True) ((36 - s.toInt).toNat) r := by
          intro w0
          unfold j_Top_partedBy_55_28
          refine if_i (fun c => ⟨_, rfl, nxt _ rfl⟩) (fun c => ?_)
          refine if_i (fun c => ⟨_, rfl, nxt _ rfl⟩) (fun c => ?_)
          refine bind_i (ih a0 a1 a2 (a3 - (1 : Int32)) _ M hJ h0 h1 (by omega) (by omega)) (fun x1 _ _ => ?_)
          exact if_i (fun c => ⟨_, rfl, nxt _ rfl⟩) (fun c => ⟨_, rfl, trivial⟩)
        exact if_i (fun c => body 1) (fun c => body 0)
      · rcases x with y | y
        · exact ⟨_, rfl, trivial⟩
        · exact ⟨_, rfl, trivial⟩
    · refine bind_i (sf_Top_canTryst a0 a1 a4 M h0 h1 hJ) (fun x _ _ => ?_)
      exact if_i (fun c => ⟨_, rfl, trivial⟩) (fun c => ⟨_, rfl, trivial⟩)
theorem sf_Top_partedBy (a0 : Int32) (a1 : Int32) (a2 : Int64) (a3 : Int32) (a4 : Int64) (M : Mem) (hp_a0 : (0 : Int) ≤ a0.toInt ∧ a0.toInt ≤ (7 : Int)) (hp_a1 : (0 : Int) ≤ a1.toInt ∧ a1.toInt ≤ (7 : Int)) (hp_a3 : (0 : Int) ≤ a3.toInt ∧ a3.toInt ≤ (3 : Int)) (hJ : J M) : ∃ r, f_Top_partedBy a0 a1 a2 a3 a4 M = some r ∧ (True) := sf_pby 8 a0 a1 a2 a3 a4 M hJ hp_a0 hp_a1 hp_a3.1 (by omega)
theorem sl_Top_part_67 (v1 : Int32) (v2 : Int32) (v3 : Int64) (M : Mem) (a0_ : Int32) (hp_v1 : (0 : Int) ≤ v1.toInt ∧ v1.toInt ≤ (7 : Int)) (hp_v2 : (0 : Int) ≤ v2.toInt ∧ v2.toInt ≤ (7 : Int)) (hJ_M : J M) (i0_ : (0 : Int) ≤ a0_.toInt) (i1_ : a0_.toInt ≤ (4 : Int)) : ∃ x, iter (lb_Top_part_67 v1 v2 v3 M) FU a0_ = some x ∧ (SQ (fun r : Unit => True) (fun r : Int32 × Int64 => (0 : Int) ≤ r.1.toInt ∧ r.1.toInt ≤ (3 : Int))) x := by
  refine iter_r (fun s : Int32 => (0 : Int) ≤ s.toInt ∧ s.toInt ≤ (4 : Int)) (fun s : Int32 => (4 - s.toInt).toNat) (SQ (fun r : Unit => True) (fun r : Int32 × Int64 => (0 : Int) ≤ r.1.toInt ∧ r.1.toInt ≤ (3 : Int))) ?_ FU a0_ ⟨i0_, i1_⟩ (by show (4 - a0_.toInt).toNat < FU; rw [FU_v]; omega)
  clear i1_ i0_
  rintro a0_' ⟨i0_, i1_⟩
  unfold lb_Top_part_67
  refine if_i (fun c => ?_) (fun c => ?_)
  · have c1 := c
    have d2 : (3 : Int) < a0_'.toInt := lti.mp c1
    exact ⟨_, rfl, trivial⟩
  · have c3 := c
    have d4 : a0_'.toInt ≤ (3 : Int) := nlti.mp c3
    refine bind_i (sf_Top_partedBy v1 v2 v3 a0_' (0 : Int64) M (⟨show (0 : Int) ≤ v1.toInt by omega, show v1.toInt ≤ (7 : Int) by omega⟩) (⟨show (0 : Int) ≤ v2.toInt by omega, show v2.toInt ≤ (7 : Int) by omega⟩) (⟨show (0 : Int) ≤ a0_'.toInt by omega, show a0_'.toInt ≤ (3 : Int) by omega⟩) hJ_M) (fun x4 _ q => ?_)
    refine if_i (fun c => ?_) (fun c => ?_)
    · have c5 := c
      have d6 : (lg_cmp x4 (0 : Int64)).toInt < (0 : Int) := lti.mp c5
      have q7 : (a0_' + (1 : Int32)).toInt = a0_'.toInt + (1 : Int) := add_ti rfl rfl (by omega) (by omega)
      exact ⟨_, rfl, ⟨(show (0 : Int) ≤ (a0_' + (1 : Int32)).toInt by omega), (show (a0_' + (1 : Int32)).toInt ≤ (4 : Int) by omega)⟩, show (4 - (a0_' + (1 : Int32)).toInt).toNat < (4 - a0_'.toInt).toNat by omega⟩
    · have c8 := c
      have d9 : (0 : Int) ≤ (lg_cmp x4 (0 : Int64)).toInt := nlti.mp c8
      exact ⟨_, rfl, (show (0 : Int) ≤ a0_'.toInt by omega), (show a0_'.toInt ≤ (3 : Int) by omega)⟩
theorem sl_Top_part_99 (v5 : Int32) (v6 : Int64) (a0_ : Int32) (N_ : Mem) (hp_v5 : (0 : Int) ≤ v5.toInt ∧ v5.toInt ≤ (3 : Int)) (hN : J N_) (i1_ : (0 : Int) ≤ a0_.toInt) (i2_ : a0_.toInt ≤ (36 : Int)) : ∃ x, iter (lb_Top_part_99 v5 v6) FU (a0_, N_) = some x ∧ (fun r : Mem => J r) x := by
  refine iter_r (fun s : Int32 × Mem => J s.2 ∧ (0 : Int) ≤ s.1.toInt ∧ s.1.toInt ≤ (36 : Int)) (fun s : Int32 × Mem => (36 - s.1.toInt).toNat) (fun r : Mem => J r) ?_ FU (a0_, N_) ⟨hN, i1_, i2_⟩ (by show (36 - a0_.toInt).toNat < FU; rw [FU_v]; omega)
  clear i2_ i1_ hN
  rintro ⟨a0_', N_'⟩ ⟨hN, i1_, i2_⟩
  dsimp only at hN i1_ i2_
  unfold lb_Top_part_99
  dsimp only
  refine if_i (fun c => ?_) (fun c => ?_)
  · have c1 := c
    have d2 : (36 : Int) ≤ a0_'.toInt := lei.mp c1
    exact ⟨_, rfl, hN⟩
  · have c3 := c
    have d4 : a0_'.toInt < (36 : Int) := nlei.mp c3
    refine if_i (fun c => ?_) (fun c => ?_)
    · have c5 := c
      have d6 : (lg_cmp ((v6 >>> (a0_'.toInt64 &&& 63)) &&& (1 : Int64)) (0 : Int64)).toInt = (0 : Int) := eqi.mp c5
      have q7 : (a0_' + (1 : Int32)).toInt = a0_'.toInt + (1 : Int) := add_ti rfl rfl (by omega) (by omega)
      exact ⟨_, rfl, ⟨hN, (show (0 : Int) ≤ (a0_' + (1 : Int32)).toInt by omega), (show (a0_' + (1 : Int32)).toInt ≤ (36 : Int) by omega)⟩, show (36 - (a0_' + (1 : Int32)).toInt).toNat < (36 - a0_'.toInt).toNat by omega⟩
    · have c8 := c
      have d9 : ¬ (lg_cmp ((v6 >>> (a0_'.toInt64 &&& 63)) &&& (1 : Int64)) (0 : Int64)).toInt = (0 : Int) := neqi.mp c8
      refine bind_i (sf_Top_note a0_' N_' hN) (fun x11 _ q => ?_)
      have h10 := q
      have q11 : (a0_' + (1 : Int32)).toInt = a0_'.toInt + (1 : Int) := add_ti rfl rfl (by omega) (by omega)
      exact ⟨_, rfl, ⟨h10, (show (0 : Int) ≤ (a0_' + (1 : Int32)).toInt by omega), (show (a0_' + (1 : Int32)).toInt ≤ (36 : Int) by omega)⟩, show (36 - (a0_' + (1 : Int32)).toInt).toNat < (36 - a0_'.toInt).toNat by omega⟩
theorem sf_Top_part (v1 : Int32) (v2 : Int32) (M : Mem) (hJ : J M) : ∃ r : Int32 × Mem, f_Top_part v1 v2 M = some r ∧ (J r.2 ∧ (-2 : Int) ≤ r.1.toInt ∧ r.1.toInt ≤ (3 : Int)) := by
  unfold f_Top_part
  refine bind_i (sf_Top_areManAndWoman v1 v2 M hJ) (fun x1 _ q => ?_)
  obtain ⟨h1, h2, h3, h4⟩ := q
  refine if_i (fun c => ?_) (fun c => ?_)
  · have c5 := c
    have d6 : x1.toInt = (0 : Int) := eqi.mp c5
    exact ⟨((-1 : Int32), M), rfl, hJ, (show (-2 : Int) ≤ (-1 : Int32).toInt by decide), (show (-1 : Int32).toInt ≤ (3 : Int) by decide)⟩
  · have c7 := c
    have d8 : ¬ x1.toInt = (0 : Int) := neqi.mp c7
    refine bind_i (sf_Nets_stairs 32 M kd_32 hJ) (fun x2 _ q => ?_)
    refine inb_i (by omega) (by omega) ?_
    refine inb_i (by omega) (by omega) ?_
    refine bind_i (sf_Top_canTryst v1 v2 ((x2 &&& (((1 : Int64) <<< ((M.1 12 v1.toNatClampNeg).toInt64 &&& 63)) ^^^ (-1 : Int64))) &&& (((1 : Int64) <<< ((M.1 12 v2.toNatClampNeg).toInt64 &&& 63)) ^^^ (-1 : Int64))) M (⟨show (0 : Int) ≤ v1.toInt by omega, show v1.toInt ≤ (7 : Int) by omega⟩) (⟨show (0 : Int) ≤ v2.toInt by omega, show v2.toInt ≤ (7 : Int) by omega⟩) hJ) (fun x3 _ q => ?_)
    obtain ⟨h9, h10⟩ := q
    refine if_i (fun c => ?_) (fun c => ?_)
    · have c11 := c
      have d12 : x3.toInt = (0 : Int) := eqi.mp c11
      refine bind_i (sl_Top_part_67 v1 v2 ((x2 &&& (((1 : Int64) <<< ((M.1 12 v1.toNatClampNeg).toInt64 &&& 63)) ^^^ (-1 : Int64))) &&& (((1 : Int64) <<< ((M.1 12 v2.toNatClampNeg).toInt64 &&& 63)) ^^^ (-1 : Int64))) M (0 : Int32) (⟨show (0 : Int) ≤ v1.toInt by omega, show v1.toInt ≤ (7 : Int) by omega⟩) (⟨show (0 : Int) ≤ v2.toInt by omega, show v2.toInt ≤ (7 : Int) by omega⟩) hJ (show (0 : Int) ≤ (0 : Int32).toInt by decide) (show (0 : Int32).toInt ≤ (4 : Int) by decide)) (fun x13 _ q => ?_)
      rcases x13 with y | y
      · have q9 : True := q
        dsimp only [Sum.elim_inl, Sum.elim_inr]
        exact ⟨((-2 : Int32), M), rfl, hJ, (show (-2 : Int) ≤ (-2 : Int32).toInt by decide), (show (-2 : Int32).toInt ≤ (3 : Int) by decide)⟩
      · have q9 : (0 : Int) ≤ y.1.toInt ∧ y.1.toInt ≤ (3 : Int) := q
        dsimp only [Sum.elim_inl, Sum.elim_inr]
        obtain ⟨h16, h17⟩ := q9
        refine bind_i (sf_Top_emptyRow M hJ) (fun x10 _ q => ?_)
        have h18 := q
        refine bind_i (sl_Top_part_99 y.1 y.2 (0 : Int32) x10 (⟨show (0 : Int) ≤ y.1.toInt by omega, show y.1.toInt ≤ (3 : Int) by omega⟩) h18 (show (0 : Int) ≤ (0 : Int32).toInt by decide) (show (0 : Int32).toInt ≤ (36 : Int) by decide)) (fun x14 _ q => ?_)
        have h19 := q
        exact ⟨(y.1, x14), rfl, h19, (show (-2 : Int) ≤ y.1.toInt by omega), (show y.1.toInt ≤ (3 : Int) by omega)⟩
    · have c20 := c
      have d21 : ¬ x3.toInt = (0 : Int) := neqi.mp c20
      exact ⟨((-2 : Int32), M), rfl, hJ, (show (-2 : Int) ≤ (-2 : Int32).toInt by decide), (show (-2 : Int32).toInt ≤ (3 : Int) by decide)⟩
theorem sf_Top_planks (v1 : Int32) (v2 : Int32) (M : Mem) (hJ : J M) : ∃ r : Int32 × Mem, f_Top_planks v1 v2 M = some r ∧ (J r.2) := by
  unfold f_Top_planks
  refine bind_i (sf_Ground_holds (1 : Int32) v1 M hJ) (fun x1 _ q => ?_)
  obtain ⟨h1, h2, h3, h4⟩ := q
  clear h3
  refine if_i (fun c => ?_) (fun c => ?_)
  · have c5 := c
    have d6 : x1.toInt = (0 : Int) := eqi.mp c5
    exact ⟨((-1 : Int32), M), rfl, hJ⟩
  · have c7 := c
    have d8 : ¬ x1.toInt = (0 : Int) := neqi.mp c7
    refine bind_i (sf_Ground_holds (1 : Int32) v2 M hJ) (fun x2 _ q => ?_)
    obtain ⟨h9, h10, h11, h12⟩ := q
    clear h11
    refine if_i (fun c => ?_) (fun c => ?_)
    · have c13 := c
      have d14 : x2.toInt = (0 : Int) := eqi.mp c13
      exact ⟨((-1 : Int32), M), rfl, hJ⟩
    · have c15 := c
      have d16 : ¬ x2.toInt = (0 : Int) := neqi.mp c15
      refine bind_i (sf_Ways_bridged 32 v1 v2 M kd_32 (⟨show (0 : Int) ≤ v1.toInt by omega, show v1.toInt ≤ (35 : Int) by omega⟩) (⟨show (0 : Int) ≤ v2.toInt by omega, show v2.toInt ≤ (35 : Int) by omega⟩) hJ) (fun x3 _ q => ?_)
      have h17 := q
      refine if_i (fun c => ?_) (fun c => ?_)
      · have c18 := c
        have d19 : x3.1.toInt < (1000000 : Int) := lti.mp c18
        refine bind_i (sf_Top_emptyRow x3.2 h17) (fun x4 _ q => ?_)
        have h20 := q
        refine bind_i (sf_Top_note (x3.1 - ((x3.1 / (100 : Int32)) * (100 : Int32))) x4 h20) (fun x5 _ q => ?_)
        have h21 := q
        exact ⟨((x3.1 / (100 : Int32)), x5), rfl, h21⟩
      · have c22 := c
        have d23 : (1000000 : Int) ≤ x3.1.toInt := nlti.mp c22
        exact ⟨((-2 : Int32), x3.2), rfl, h17⟩
theorem sf_Top_fire (v1 : Int32) (M : Mem) (hJ : J M) : ∃ r : Int32 × Mem, f_Top_fire v1 M = some r ∧ (J r.2) := by
  unfold f_Top_fire
  refine if_i (fun c => ?_) (fun c => ?_)
  · have c1 := c
    have d2 : v1.toInt = (-1 : Int) := eqi.mp c1
    unfold j_Top_fire_19
    refine mem_i (fun M1 e4 => ?_)
    have hJ5 : J M1 := by rw [e4]; exact Jw_any ok_0 hJ 16 v1
    have f6 : (M1.1 0 16).toInt = v1.toInt := by rw [e4, si_eq]
    clear e4
    exact ⟨((M.1 0 16), M1), rfl, hJ5⟩
  · have c7 := c
    have d8 : ¬ v1.toInt = (-1 : Int) := neqi.mp c7
    refine bind_i (sf_Ground_has v1 M hJ) (fun x2 _ q => ?_)
    obtain ⟨h9, h10, h11⟩ := q
    refine if_i (fun c => ?_) (fun c => ?_)
    · have c12 := c
      have d13 : x2.toInt = (0 : Int) := eqi.mp c12
      exact ⟨((-2 : Int32), M), rfl, hJ⟩
    · have c14 := c
      have d15 : ¬ x2.toInt = (0 : Int) := neqi.mp c14
      unfold j_Top_fire_19
      refine mem_i (fun M1 e17 => ?_)
      have hJ18 : J M1 := by rw [e17]; exact Jw_any ok_0 hJ 16 v1
      have f19 : (M1.1 0 16).toInt = v1.toInt := by rw [e17, si_eq]
      clear e17
      exact ⟨((M.1 0 16), M1), rfl, hJ18⟩
theorem sl_Top_stepsToFire_38 (M : Mem) (a0_ : Int32) (a1_ : Int32) (hJ_M : J M) (i0_ : a0_.toInt ≤ (1000000 : Int)) (i1_ : (0 : Int) ≤ a1_.toInt) (i2_ : a1_.toInt ≤ (4 : Int)) : ∃ x, iter (lb_Top_stepsToFire_38 M) FU (a0_, a1_) = some x ∧ (fun r : Int32 => r.toInt ≤ (1000000 : Int)) x := by
  refine iter_r (fun s : Int32 × Int32 => s.1.toInt ≤ (1000000 : Int) ∧ (0 : Int) ≤ s.2.toInt ∧ s.2.toInt ≤ (4 : Int)) (fun s : Int32 × Int32 => (4 - s.2.toInt).toNat) (fun r : Int32 => r.toInt ≤ (1000000 : Int)) ?_ FU (a0_, a1_) ⟨i0_, i1_, i2_⟩ (by show (4 - a1_.toInt).toNat < FU; rw [FU_v]; omega)
  clear i2_ i1_ i0_
  rintro ⟨a0_', a1_'⟩ ⟨i0_, i1_, i2_⟩
  dsimp only at i0_ i1_ i2_
  unfold lb_Top_stepsToFire_38
  dsimp only
  refine if_i (fun c => ?_) (fun c => ?_)
  · have c1 := c
    have d2 : (4 : Int) ≤ a1_'.toInt := lei.mp c1
    exact ⟨_, rfl, (show a0_'.toInt ≤ (1000000 : Int) by omega)⟩
  · have c3 := c
    have d4 : a1_'.toInt < (4 : Int) := nlei.mp c3
    refine bind_i (sf_Ground_beside (M.1 0 16) a1_' M hJ_M) (fun x2 _ q => ?_)
    obtain ⟨h5, h6, h7⟩ := q
    refine if_i (fun c => ?_) (fun c => ?_)
    · have c8 := c
      have d9 : x2.toInt = (-1 : Int) := eqi.mp c8
      have q10 : (a1_' + (1 : Int32)).toInt = a1_'.toInt + (1 : Int) := add_ti rfl rfl (by omega) (by omega)
      exact ⟨_, rfl, ⟨(show a0_'.toInt ≤ (1000000 : Int) by omega), (show (0 : Int) ≤ (a1_' + (1 : Int32)).toInt by omega), (show (a1_' + (1 : Int32)).toInt ≤ (4 : Int) by omega)⟩, show (4 - (a1_' + (1 : Int32)).toInt).toNat < (4 - a1_'.toInt).toNat by omega⟩
    · have c11 := c
      have d12 : ¬ x2.toInt = (-1 : Int) := neqi.mp c11
      refine inb_i (by omega) (by omega) ?_
      have q13 : (if (M.1 155 x2.toNatClampNeg) < a0_' then (M.1 155 x2.toNatClampNeg) else a0_').toInt ≤ (1000000 : Int) := by
        by_cases cc : (M.1 155 x2.toNatClampNeg) < a0_'
        · rw [if_pos cc]
          have d14 : (M.1 155 x2.toNatClampNeg).toInt < a0_'.toInt := lti.mp cc
          omega
        · rw [if_neg cc]
          have d15 : a0_'.toInt ≤ (M.1 155 x2.toNatClampNeg).toInt := nlti.mp cc
          omega
      have q16 : (a1_' + (1 : Int32)).toInt = a1_'.toInt + (1 : Int) := add_ti rfl rfl (by omega) (by omega)
      exact ⟨_, rfl, ⟨(show (if (M.1 155 x2.toNatClampNeg) < a0_' then (M.1 155 x2.toNatClampNeg) else a0_').toInt ≤ (1000000 : Int) by omega), (show (0 : Int) ≤ (a1_' + (1 : Int32)).toInt by omega), (show (a1_' + (1 : Int32)).toInt ≤ (4 : Int) by omega)⟩, show (4 - (a1_' + (1 : Int32)).toInt).toNat < (4 - a1_'.toInt).toNat by omega⟩
