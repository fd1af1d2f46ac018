/-! p1: thieves for so long: the reference by rows (nobody is there, one stair), the class by its one course -/
def Zt (M : Mem) : Prop := M.1 162 4 = 0 ∧ M.1 162 2 = 1 ∧ M.1 162 3 = 1 ∧ M.1 164 0 = 3
theorem it_x {S X : Type} {f : S → Option (S ⊕ X)} {s : S} {x : X} (h : f s = some (.inr x)) : iter f FU s = some x := by
  rw [FU_v]; simp only [iter, h]
theorem it_s {S X : Type} {f : S → Option (S ⊕ X)} {s s' : S} {n : Nat} (h : f s = some (.inl s')) : iter f (n + 1) s = iter f n s' := by
  simp only [iter, h]
theorem rdn {M : Mem} {k i a b : Nat} {v : Int32} (h : ¬ (a = k ∧ b = i)) : (s_i M k i v).1 a b = M.1 a b := by simp only [s_i, if_neg h]
theorem rdk {M : Mem} {k i a b : Nat} {v : Int32} (h : a ≠ k) : (s_i M k i v).1 a b = M.1 a b := rdn fun e => h e.1
theorem rde {M : Mem} {k i : Nat} {v : Int32} : (s_i M k i v).1 k i = v := by simp [s_i]
theorem Zt.w {M : Mem} (h : Zt M) {k i : Nat} {v : Int32} (h1 : k ≠ 162 ∨ (i ≠ 4 ∧ i ≠ 2 ∧ i ≠ 3)) (h2 : k ≠ 164) : Zt (s_i M k i v) := by
  have hn : ∀ j : Nat, (j = 4 ∨ j = 2 ∨ j = 3) → ¬ (162 = k ∧ j = i) := by
    intro j hj e
    rcases h1 with h | h
    · exact h e.1.symm
    · omega
  refine ⟨?_, ?_, ?_, ?_⟩
  · rw [rdn (hn 4 (by omega))]; exact h.1
  · rw [rdn (hn 2 (by omega))]; exact h.2.1
  · rw [rdn (hn 3 (by omega))]; exact h.2.2.1
  · rw [rdk (fun e => h2 e.symm)]; exact h.2.2.2
theorem z_min {M : Mem} (h : Zt M) : ∃ M', f_Mod_goMinute 176 M = some M' ∧ Zt M' ∧ (∀ i, M'.1 186 i = M.1 186 i) ∧ (∀ i, M'.1 188 i = M.1 188 i) := by
  have e1 : iter (lb_Mod_goMinute_12 176) FU (0, s_i (s_i M 162 29 0) 162 31 0) = some (s_i (s_i M 162 29 0) 162 31 0) := it_x (by unfold lb_Mod_goMinute_12; dsimp only; rw [if_pos (by rw [rdn (by decide), rdn (by decide), h.1]; decide)])
  have e2 : iter (lb_Mod_goMinute_114 176) FU (0, s_i (s_i M 162 29 0) 162 31 0) = some (s_i (s_i M 162 29 0) 162 31 0) := it_x (by unfold lb_Mod_goMinute_114; dsimp only; rw [if_pos (by rw [rdn (by decide), rdn (by decide), h.1]; decide)])
  have e3 : ∀ v, iter (lb_Mod_goMinute_226 176 v) FU (0, s_i (s_i M 162 29 0) 162 31 0) = some (s_i (s_i M 162 29 0) 162 31 0) := fun v => it_x (by unfold lb_Mod_goMinute_226; dsimp only; rw [if_pos (by rw [rdn (by decide), rdn (by decide), h.1]; decide)])
  obtain ⟨A, hA⟩ : ∃ A, A = s_i (s_i M 162 29 0) 162 31 0 := ⟨_, rfl⟩
  have hZ : Zt A := by rw [hA]; exact (h.w (.inr (by decide)) (by decide)).w (.inr (by decide)) (by decide)
  have hr : ∀ k, k ≠ 162 → ∀ i, A.1 k i = M.1 k i := fun k hk i => by rw [hA, rdk hk, rdk hk]
  rw [← hA] at e1 e2
  have e3 : ∀ v, iter (lb_Mod_goMinute_226 176 v) FU (0, A) = some A := by rw [hA]; exact e3
  have e4 : f_Mod_goMinute 176 M = some (s_i (s_i A 162 30 ((A.1 176 (93 : Int32).toNatClampNeg) &&& ((A.1 176 (93 : Int32).toNatClampNeg) ^^^ (-1 : Int32)))) 176 (95 : Int32).toNatClampNeg (((s_i A 162 30 ((A.1 176 (93 : Int32).toNatClampNeg) &&& ((A.1 176 (93 : Int32).toNatClampNeg) ^^^ (-1 : Int32)))).1 176 (95 : Int32).toNatClampNeg) + (1 : Int32))) := by
    unfold f_Mod_goMinute
    simp only [mem_]
    rw [← hA, if_pos (by decide +kernel), e1, Option.bind_some, e2, Option.bind_some, if_pos (by decide +kernel), e3, Option.bind_some, if_pos (by decide +kernel), if_pos (by decide +kernel), if_pos (by decide +kernel)]
  refine ⟨_, e4, (hZ.w (.inr (by decide)) (by decide)).w (.inl (by decide)) (by decide), ?_, ?_⟩
  · intro i; rw [rdk (by decide), rdk (by decide), hr 186 (by decide)]
  · intro i; rw [rdk (by decide), rdk (by decide), hr 188 (by decide)]
theorem z_bes {M : Mem} (h : Zt M) {t : Int32} (ht : t = 0 ∨ t = 1 ∨ t = 2 ∨ t = 3) : f_Mod_beside 0 t M = some (-1) := by
  simp only [f_Mod_beside, j_Mod_beside_25, j_Mod_beside_51, f_Mod_in, h.2.1, h.2.2.1]
  rcases ht with rfl | rfl | rfl | rfl <;> decide +kernel
theorem z_cell {k : Int32} (hk : k = 0 ∨ k = 36) : f_Mod_cellOf k = some 0 := by rcases hk with rfl | rfl <;> decide +kernel
theorem z_go {M : Mem} (h : Zt M) {k t : Int32} (hk : k = 0 ∨ k = 36) (ht : t = 0 ∨ t = 1 ∨ t = 2 ∨ t = 3) : f_Mod_go 176 k t M = some (-1) := by
  unfold f_Mod_go
  rw [if_pos (by decide +kernel), if_neg (by rcases ht with rfl | rfl | rfl | rfl <;> decide)]
  simp only [f_Mod_levelOf, Option.bind_some]
  rw [z_cell hk, Option.bind_some, z_bes h ht, Option.bind_some, if_pos rfl]
theorem z_go4 {M : Mem} {k : Int32} : f_Mod_go 176 k 4 M = some k := by
  unfold f_Mod_go
  rw [if_pos (by decide +kernel), if_pos rfl]
theorem z_in {M : Mem} (h : Zt M) {k : Int32} (hk : k = 0 ∨ k = 36) : iter (lb_Mod_goThief_43 k) FU (0, M) = some (s_i M 187 k.toNatClampNeg 1) := by
  have hs : ∀ t : Int32, (t = 0 ∨ t = 1 ∨ t = 2 ∨ t = 3) → lb_Mod_goThief_43 k (t, M) = some (.inl (t + 1, M)) := by
    intro t ht
    unfold lb_Mod_goThief_43
    dsimp only
    rw [if_neg (by rcases ht with rfl | rfl | rfl | rfl <;> decide), z_go h hk ht, Option.bind_some, if_pos rfl]
  have h4 : lb_Mod_goThief_43 k (4, M) = some (.inl (5, s_i M 187 k.toNatClampNeg 1)) := by
    unfold lb_Mod_goThief_43
    dsimp only
    rw [if_neg (by decide), z_go4, Option.bind_some, if_neg (by rcases hk with rfl | rfl <;> decide), Option.bind_some, if_pos (by rcases hk with rfl | rfl <;> decide)]
    rfl
  have h5 : lb_Mod_goThief_43 k (5, s_i M 187 k.toNatClampNeg 1) = some (.inr (s_i M 187 k.toNatClampNeg 1)) := by
    unfold lb_Mod_goThief_43
    dsimp only
    rw [if_pos (by decide)]
  have e : FU = 999999994 + 1 + 1 + 1 + 1 + 1 + 1 := rfl
  rw [e, it_s (hs 0 (by decide)), it_s (show lb_Mod_goThief_43 k ((0 : Int32) + 1, M) = some (.inl (2, M)) from hs 1 (by decide)), it_s (show lb_Mod_goThief_43 k (2, M) = some (.inl (3, M)) from hs 2 (by decide)), it_s (show lb_Mod_goThief_43 k (3, M) = some (.inl (4, M)) from hs 3 (by decide)), it_s h4]
  simp only [iter, h5]
/-- where the thief may be: on the stair alone, and somewhere -/
def Mt (M : Mem) : Prop := (∀ i : Nat, i ≠ 0 → i ≠ 36 → i < 72 → M.1 186 i = 0) ∧ (M.1 186 0 ≠ 0 ∨ M.1 186 36 ≠ 0)
theorem tn {i : Int32} : i.toNatClampNeg = i.toInt.toNat := rfl
theorem z_l1 {M : Mem} (h : Zt M) : ∃ M', iter lb_Mod_goThief_2 FU (0, M) = some M' ∧ Zt M' ∧ (∀ i, M'.1 186 i = M.1 186 i) ∧ (∀ i, M'.1 188 i = M.1 188 i) ∧ (∀ i : Nat, i < 72 → M'.1 187 i = 0) := by
  refine iter_rule (f := lb_Mod_goThief_2) (fun s : Int32 × Mem => 0 ≤ s.1.toInt ∧ s.1.toInt ≤ 72 ∧ Zt s.2 ∧ (∀ i, s.2.1 186 i = M.1 186 i) ∧ (∀ i, s.2.1 188 i = M.1 188 i) ∧ (∀ i : Nat, (i : Int) < s.1.toInt → s.2.1 187 i = 0)) (fun s => (72 - s.1.toInt).toNat) _ ?_ FU (0, M) ⟨show (0 : Int) ≤ (0 : Int32).toInt by decide, show (0 : Int32).toInt ≤ 72 by decide, h, fun _ => rfl, fun _ => rfl, fun i hi => by exfalso; have : (0 : Int32).toInt = 0 := rfl; dsimp only at hi; omega⟩ (show (72 - (0 : Int32).toInt).toNat < FU by decide)
  rintro ⟨k, N⟩ ⟨a1, a2, a3, a4, a5, a6⟩
  dsimp only at a1 a2 a3 a4 a5 a6
  unfold lb_Mod_goThief_2
  dsimp only
  have h72 : (72 : Int32).toInt = 72 := rfl
  by_cases hc : (72 : Int32) ≤ k
  · right
    have := lei.mp hc
    exact ⟨N, by rw [if_pos hc], a3, a4, a5, fun i hi => a6 i (by omega)⟩
  · left
    have hk : k.toInt < 72 := by have := nlei.mp hc; omega
    rw [if_neg hc, if_pos (inb_of a1 (by omega))]
    refine ⟨_, rfl, ⟨?_, ?_, a3.w (.inl (by decide)) (by decide), ?_, ?_, ?_⟩, ?_⟩
    · dsimp only; rw [add1 (by omega)]; omega
    · dsimp only; rw [add1 (by omega)]; omega
    · intro i; dsimp only; rw [rdk (by decide)]; exact a4 i
    · intro i; dsimp only; rw [rdk (by decide)]; exact a5 i
    · intro i hi
      dsimp only at hi ⊢
      rw [add1 (by omega)] at hi
      by_cases e : i = k.toNatClampNeg
      · subst e; rw [rde]; rfl
      · rw [rdn (fun x => e x.2)]
        refine a6 i ?_
        rw [tn] at e
        omega
    · dsimp only; rw [add1 (by omega)]; omega
theorem z_l2 {M : Mem} (h : Zt M) (hm : Mt M) (h7 : ∀ i : Nat, i < 72 → M.1 187 i = 0) : ∃ M', iter lb_Mod_goThief_23 FU (0, M) = some M' ∧ Zt M' ∧ (∀ i, M'.1 188 i = M.1 188 i) ∧ M'.1 187 0 = 1 ∧ M'.1 187 36 = 1 ∧ (∀ i : Nat, i ≠ 0 → i ≠ 36 → i < 72 → M'.1 187 i = 0) := by
  refine iter_rule (f := lb_Mod_goThief_23) (fun s : Int32 × Mem => 0 ≤ s.1.toInt ∧ s.1.toInt ≤ 72 ∧ Zt s.2 ∧ (∀ i, s.2.1 186 i = M.1 186 i) ∧ (∀ i, s.2.1 188 i = M.1 188 i) ∧ (∀ i : Nat, i ≠ 0 → i ≠ 36 → i < 72 → s.2.1 187 i = 0) ∧ ((0 < s.1.toInt ∧ M.1 186 0 ≠ 0 ∨ 36 < s.1.toInt ∧ M.1 186 36 ≠ 0) → s.2.1 187 0 = 1 ∧ s.2.1 187 36 = 1)) (fun s => (72 - s.1.toInt).toNat) _ ?_ FU (0, M) ⟨show (0 : Int) ≤ (0 : Int32).toInt by decide, show (0 : Int32).toInt ≤ 72 by decide, h, fun _ => rfl, fun _ => rfl, fun i _ _ hi => h7 i hi, fun hh => by exfalso; have : (0 : Int32).toInt = 0 := rfl; dsimp only at hh; omega⟩ (show (72 - (0 : Int32).toInt).toNat < FU by decide)
  rintro ⟨k, N⟩ ⟨a1, a2, a3, a4, a5, a6, a7⟩
  dsimp only at a1 a2 a3 a4 a5 a6 a7
  unfold lb_Mod_goThief_23
  dsimp only
  have h72 : (72 : Int32).toInt = 72 := rfl
  by_cases hc : (72 : Int32) ≤ k
  · right
    have := lei.mp hc
    have h8 := a7 (hm.2.elim (fun q => .inl ⟨by omega, q⟩) (fun q => .inr ⟨by omega, q⟩))
    exact ⟨N, by rw [if_pos hc], a3, a5, h8.1, h8.2, a6⟩
  · left
    have hk : k.toInt < 72 := by have := nlei.mp hc; omega
    rw [if_neg hc, if_pos (inb_of a1 (by omega)), a4]
    have hadd : (k + 1).toInt = k.toInt + 1 := add1 (by omega)
    by_cases h0 : M.1 186 k.toNatClampNeg = 0
    · rw [if_pos h0]
      refine ⟨_, rfl, ⟨?_, ?_, a3, a4, a5, a6, ?_⟩, ?_⟩
      · dsimp only; omega
      · dsimp only; omega
      · intro hh
        dsimp only at hh ⊢
        refine a7 ?_
        rcases hh with ⟨q1, q2⟩ | ⟨q1, q2⟩
        · left
          refine ⟨?_, q2⟩
          by_cases e : k.toInt = 0
          · exfalso; apply q2; rw [tn, e] at h0; exact h0
          · omega
        · right
          refine ⟨?_, q2⟩
          by_cases e : k.toInt = 36
          · exfalso; apply q2; rw [tn, e] at h0; exact h0
          · omega
      · dsimp only; omega
    · rw [if_neg h0]
      have hk2 : k = 0 ∨ k = 36 := by
        have q1 : ¬ (k.toNatClampNeg ≠ 0 ∧ k.toNatClampNeg ≠ 36) := fun e => h0 (hm.1 _ e.1 e.2 (by rw [tn]; omega))
        rw [tn] at q1
        by_cases e : k.toInt = 0
        · exact .inl (Int32.toInt_inj.mp (e.trans rfl))
        · exact .inr (Int32.toInt_inj.mp ((show k.toInt = 36 by omega).trans rfl))
      rw [z_in a3 hk2, Option.bind_some]
      rcases hk2 with rfl | rfl
      · simp only [f_Mod_cellOf, f_Mod_levelOf, f_Mod_placeOf, Option.bind_some]
        rw [if_pos (by decide)]
        rw [if_pos (show (s_i N 187 (0 : Int32).toNatClampNeg 1).1 164 ((0 : Int32) - 0 / 36 * 36).toNatClampNeg = 3 from by rw [rdk (by decide)]; exact a3.2.2.2)]
        rw [if_pos (by decide), show ((36 : Int32) * ((1 : Int32) - 0 / 36) + ((0 : Int32) - 0 / 36 * 36)).toNatClampNeg = 36 from by decide]
        refine ⟨_, rfl, ⟨?_, ?_, (a3.w (.inl (by decide)) (by decide)).w (.inl (by decide)) (by decide), ?_, ?_, ?_, ?_⟩, ?_⟩
        · dsimp only; omega
        · dsimp only; omega
        · intro i; dsimp only; rw [rdk (by decide), rdk (by decide)]; exact a4 i
        · intro i; dsimp only; rw [rdk (by decide), rdk (by decide)]; exact a5 i
        · intro i i1 i2 i3; dsimp only; rw [rdn (fun e => i2 e.2), rdn (i := (0 : Int32).toNatClampNeg) (fun e => i1 e.2)]; exact a6 i i1 i2 i3
        · intro _
          dsimp only
          refine ⟨?_, ?_⟩
          · rw [rdn (by decide)]; exact rde
          · exact rde
        · dsimp only; omega
      · simp only [f_Mod_cellOf, f_Mod_levelOf, f_Mod_placeOf, Option.bind_some]
        rw [if_pos (by decide)]
        rw [if_pos (show (s_i N 187 (36 : Int32).toNatClampNeg 1).1 164 ((36 : Int32) - 36 / 36 * 36).toNatClampNeg = 3 from by rw [rdk (by decide)]; exact a3.2.2.2)]
        rw [if_pos (by decide), show ((36 : Int32) * ((1 : Int32) - 36 / 36) + ((36 : Int32) - 36 / 36 * 36)).toNatClampNeg = 0 from by decide]
        refine ⟨_, rfl, ⟨?_, ?_, (a3.w (.inl (by decide)) (by decide)).w (.inl (by decide)) (by decide), ?_, ?_, ?_, ?_⟩, ?_⟩
        · dsimp only; omega
        · dsimp only; omega
        · intro i; dsimp only; rw [rdk (by decide), rdk (by decide)]; exact a4 i
        · intro i; dsimp only; rw [rdk (by decide), rdk (by decide)]; exact a5 i
        · intro i i1 i2 i3; dsimp only; rw [rdn (fun e => i1 e.2), rdn (i := (36 : Int32).toNatClampNeg) (fun e => i2 e.2)]; exact a6 i i1 i2 i3
        · intro _
          dsimp only
          refine ⟨?_, ?_⟩
          · exact rde
          · rw [rdn (by decide)]; exact rde
        · dsimp only; omega
theorem z_on {M : Mem} (h : Zt M) (k : Int32) : f_Mod_onPlace 176 k M = some 0 := by
  unfold f_Mod_onPlace
  rw [if_pos (by decide +kernel), it_x (x := (0 : Int32)) (by unfold lb_Mod_onPlace_5; dsimp only; rw [if_pos (by rw [h.1]; decide)])]
  rfl
theorem z_l3 {M : Mem} (h : Zt M) (h0 : M.1 187 0 = 1) (h36 : M.1 187 36 = 1) (h7 : ∀ i : Nat, i ≠ 0 → i ≠ 36 → i < 72 → M.1 187 i = 0) : ∃ x, iter lb_Mod_goThief_126 FU (0, 0, M) = some x ∧ x.1 = 1 ∧ Zt x.2 ∧ Mt x.2 ∧ (∀ i, x.2.1 188 i = M.1 188 i) := by
  refine iter_rule (f := lb_Mod_goThief_126) (fun s : Int32 × Int32 × Mem => 0 ≤ s.2.1.toInt ∧ s.2.1.toInt ≤ 72 ∧ Zt s.2.2 ∧ (∀ i, s.2.2.1 187 i = M.1 187 i) ∧ (∀ i, s.2.2.1 188 i = M.1 188 i) ∧ (∀ i : Nat, (i : Int) < s.2.1.toInt → s.2.2.1 186 i = if i = 0 ∨ i = 36 then 1 else 0) ∧ s.1 = (if 0 < s.2.1.toInt then 1 else 0)) (fun s => (72 - s.2.1.toInt).toNat) _ ?_ FU (0, 0, M) ⟨show (0 : Int) ≤ (0 : Int32).toInt by decide, show (0 : Int32).toInt ≤ 72 by decide, h, fun _ => rfl, fun _ => rfl, fun i hi => by exfalso; have : (0 : Int32).toInt = 0 := rfl; dsimp only at hi; omega, rfl⟩ (show (72 - (0 : Int32).toInt).toNat < FU by decide)
  rintro ⟨v, k, N⟩ ⟨a1, a2, a3, a4, a5, a6, a7⟩
  dsimp only at a1 a2 a3 a4 a5 a6 a7
  unfold lb_Mod_goThief_126
  dsimp only
  have h72 : (72 : Int32).toInt = 72 := rfl
  by_cases hc : (72 : Int32) ≤ k
  · right
    have := lei.mp hc
    refine ⟨(v, N), by rw [if_pos hc], ?_, a3, ⟨fun i i1 i2 i3 => ?_, .inl ?_⟩, a5⟩
    · dsimp only; rw [a7, if_pos (by omega)]
    · dsimp only; rw [a6 i (by omega), if_neg (by omega)]
    · dsimp only; rw [a6 0 (by omega), if_pos (by omega)]; decide
  · left
    have hk : k.toInt < 72 := by have := nlei.mp hc; omega
    have hadd : (k + 1).toInt = k.toInt + 1 := add1 (by omega)
    rw [if_neg hc, if_pos (inb_of a1 (by omega)), a4]
    have key : ∀ w : Int32, w = (if k.toNatClampNeg = 0 ∨ k.toNatClampNeg = 36 then 1 else 0) → ∃ s' : Int32 × Int32 × Mem, j_Mod_goThief_163_126 v k w k N = some (.inl s') ∧ (0 ≤ s'.2.1.toInt ∧ s'.2.1.toInt ≤ 72 ∧ Zt s'.2.2 ∧ (∀ i, s'.2.2.1 187 i = M.1 187 i) ∧ (∀ i, s'.2.2.1 188 i = M.1 188 i) ∧ (∀ i : Nat, (i : Int) < s'.2.1.toInt → s'.2.2.1 186 i = if i = 0 ∨ i = 36 then 1 else 0) ∧ s'.1 = (if 0 < s'.2.1.toInt then 1 else 0)) ∧ (72 - s'.2.1.toInt).toNat < (72 - k.toInt).toNat := by
      intro w hw
      have hvp : vp_nar .boolean w = w := by rw [hw]; split <;> rfl
      unfold j_Mod_goThief_163_126
      simp only [mem_]
      rw [hvp, if_pos (inb_of a1 (by omega)), if_pos (inb_of a1 (by omega))]
      refine ⟨_, rfl, ⟨?_, ?_, a3.w (.inl (by decide)) (by decide), ?_, ?_, ?_, ?_⟩, ?_⟩
      · dsimp only; omega
      · dsimp only; omega
      · intro i; dsimp only; rw [rdk (by decide)]; exact a4 i
      · intro i; dsimp only; rw [rdk (by decide)]; exact a5 i
      · intro i hi
        dsimp only at hi ⊢
        by_cases e : i = k.toNatClampNeg
        · subst e; rw [rde]; exact hw
        · rw [rdn (fun x => e x.2)]
          refine a6 i ?_
          rw [tn] at e
          omega
      · dsimp only
        rw [rde, if_pos (by omega), a7, hw]
        by_cases e : 0 < k.toInt
        · rw [if_pos e]; split <;> decide
        · rw [if_neg e, if_pos (by rw [tn]; omega)]; decide
      · dsimp only; omega
    by_cases e0 : k.toNatClampNeg = 0 ∨ k.toNatClampNeg = 36
    · have e1 : M.1 187 k.toNatClampNeg = 1 := by
        rcases e0 with e | e <;> rw [e] <;> assumption
      rw [if_neg (by rw [e1]; decide), z_on a3, Option.bind_some, if_pos rfl]
      exact key 1 (by rw [if_pos e0])
    · have e1 : M.1 187 k.toNatClampNeg = 0 := h7 _ (fun e => e0 (.inl e)) (fun e => e0 (.inr e)) (by rw [tn]; omega)
      rw [if_pos e1]
      exact key 0 (by rw [if_neg e0])
theorem z_gt {M : Mem} (h : Zt M) (hm : Mt M) : ∃ M', f_Mod_goThief M = some (1, M') ∧ Zt M' ∧ Mt M' ∧ (∀ i, M'.1 188 i = M.1 188 i) := by
  obtain ⟨M1, e1, b1, b2, b3, b4⟩ := z_l1 h
  obtain ⟨M2, e2, c1, c2, c3, c4, c5⟩ := z_l2 b1 ⟨fun i i1 i2 i3 => by rw [b2]; exact hm.1 i i1 i2 i3, by rw [b2, b2]; exact hm.2⟩ b4
  obtain ⟨⟨r, M3⟩, e3, d1, d2, d3, d4⟩ := z_l3 c1 c3 c4 c5
  dsimp only at d1 d2 d3 d4
  subst d1
  refine ⟨M3, ?_, d2, d3, fun i => by rw [d4, c2, b3]⟩
  unfold f_Mod_goThief
  rw [e1, Option.bind_some, e2, Option.bind_some, e3, Option.bind_some, if_pos (.inr rfl)]
theorem z_run {M : Mem} (h : Zt M) (hm : Mt M) {n : Int32} (h1 : 1 ≤ n.toInt) (h2 : n.toInt ≤ 30) : ∃ M', iter (lb_Mod_thiefIn_44 n) FU (1, M) = some (.inl M') ∧ Zt M' ∧ (∀ i, M'.1 188 i = M.1 188 i) := by
  obtain ⟨x, e, q⟩ := iter_rule (f := lb_Mod_thiefIn_44 n) (fun s : Int32 × Mem => 1 ≤ s.1.toInt ∧ s.1.toInt ≤ 31 ∧ Zt s.2 ∧ Mt s.2 ∧ (∀ i, s.2.1 188 i = M.1 188 i)) (fun s => (31 - s.1.toInt).toNat) (fun x => ∃ M', x = .inl M' ∧ Zt M' ∧ (∀ i, M'.1 188 i = M.1 188 i)) (by
    rintro ⟨k, N⟩ ⟨a1, a2, a3, a4, a5⟩
    dsimp only at a1 a2 a3 a4 a5
    unfold lb_Mod_thiefIn_44
    dsimp only
    by_cases hc : n < k
    · right
      exact ⟨.inl N, by rw [if_pos hc], N, rfl, a3, a5⟩
    · left
      have hk : k.toInt ≤ n.toInt := by have := nlti.mp hc; omega
      obtain ⟨M1, e1, b1, b2, b3⟩ := z_min a3
      obtain ⟨M2, e2, c1, c2, c3⟩ := z_gt b1 ⟨fun i i1 i2 i3 => by rw [b2]; exact a4.1 i i1 i2 i3, by rw [b2, b2]; exact a4.2⟩
      rw [if_neg hc, e1, Option.bind_some, e2, Option.bind_some, if_neg (show ¬ (1 : Int32) = 0 by decide)]
      refine ⟨_, rfl, ⟨?_, ?_, c1, c2, fun i => by rw [c3, b3, a5]⟩, ?_⟩
      · dsimp only; rw [add1 (by omega)]; omega
      · dsimp only; rw [add1 (by omega)]; omega
      · dsimp only; rw [add1 (by omega)]; omega) FU (1, M) ⟨show (1 : Int) ≤ (1 : Int32).toInt by decide, show (1 : Int32).toInt ≤ 31 by decide, h, hm, fun _ => rfl⟩ (show (31 - (1 : Int32).toInt).toNat < FU by decide)
  obtain ⟨M', rfl, q1, q2⟩ := q
  exact ⟨M', e, q1, q2⟩
theorem z_lay {M : Mem} (h : Zt M) : ∃ M', f_Mod_lay 163 176 0 M = some M' ∧ Zt M' ∧ (∀ i, M'.1 188 i = M.1 188 i) := by
  obtain ⟨x, e, q1, q2⟩ := iter_rule (f := lb_Mod_lay_2 163 176 0) (fun s : Int32 × Mem => 0 ≤ s.1.toInt ∧ s.1.toInt ≤ 96 ∧ Zt s.2 ∧ (∀ i, s.2.1 188 i = M.1 188 i)) (fun s => (96 - s.1.toInt).toNat) (fun M' => Zt M' ∧ (∀ i, M'.1 188 i = M.1 188 i)) (by
    rintro ⟨k, N⟩ ⟨a1, a2, a3, a4⟩
    dsimp only at a1 a2 a3 a4
    unfold lb_Mod_lay_2
    dsimp only
    have h96 : (96 : Int32).toInt = 96 := rfl
    have l1 : ln 163 = 96 := by decide +kernel
    have l2 : ln 176 = 96 := by decide +kernel
    have z0 : (0 : Int32) + k = k := by simp
    by_cases hc : (96 : Int32) ≤ k
    · right
      exact ⟨N, by rw [if_pos hc], a3, a4⟩
    · left
      have hk : k.toInt < 96 := by have := nlei.mp hc; omega
      rw [if_neg hc, l1, l2, z0, if_pos (inb_of a1 (by omega)), if_pos (inb_of a1 (by omega))]
      refine ⟨_, rfl, ⟨?_, ?_, a3.w (.inl (by decide)) (by decide), ?_⟩, ?_⟩
      · dsimp only; rw [add1 (by omega)]; omega
      · dsimp only; rw [add1 (by omega)]; omega
      · intro i; dsimp only; rw [rdk (by decide)]; exact a4 i
      · dsimp only; rw [add1 (by omega)]; omega) FU (0, M) ⟨show (0 : Int) ≤ (0 : Int32).toInt by decide, show (0 : Int32).toInt ≤ 96 by decide, h, fun _ => rfl⟩ (show (96 - (0 : Int32).toInt).toNat < FU by decide)
  refine ⟨x, ?_, q1, q2⟩
  unfold f_Mod_lay
  rw [if_pos (by decide +kernel), if_pos (by decide +kernel), e]
  rfl
theorem z_may {M : Mem} (h : Zt M) {p n : Int32} (hp : p = 0 ∨ p = 36) : ∃ M', iter (lb_Mod_thiefIn_14 p n) FU (0, M) = some M' ∧ Zt M' ∧ Mt M' ∧ (∀ i, M'.1 188 i = M.1 188 i) := by
  refine iter_rule (f := lb_Mod_thiefIn_14 p n) (fun s : Int32 × Mem => 0 ≤ s.1.toInt ∧ s.1.toInt ≤ 72 ∧ Zt s.2 ∧ (∀ i, s.2.1 188 i = M.1 188 i) ∧ (∀ i : Nat, (i : Int) < s.1.toInt → s.2.1 186 i = if i = p.toNatClampNeg then 1 else 0)) (fun s => (72 - s.1.toInt).toNat) _ ?_ FU (0, M) ⟨show (0 : Int) ≤ (0 : Int32).toInt by decide, show (0 : Int32).toInt ≤ 72 by decide, h, fun _ => rfl, fun i hi => by exfalso; have : (0 : Int32).toInt = 0 := rfl; dsimp only at hi; omega⟩ (show (72 - (0 : Int32).toInt).toNat < FU by decide)
  rintro ⟨k, N⟩ ⟨a1, a2, a3, a4, a5⟩
  dsimp only at a1 a2 a3 a4 a5
  unfold lb_Mod_thiefIn_14
  dsimp only
  have h72 : (72 : Int32).toInt = 72 := rfl
  have p0 : p.toNatClampNeg = 0 ∨ p.toNatClampNeg = 36 := hp.elim (fun e => .inl (by rw [e]; rfl)) (fun e => .inr (by rw [e]; rfl))
  by_cases hc : (72 : Int32) ≤ k
  · right
    have := lei.mp hc
    refine ⟨N, by rw [if_pos hc], a3, ⟨fun i i1 i2 i3 => ?_, ?_⟩, a4⟩
    · rw [a5 i (by omega), if_neg (by omega)]
    · rcases p0 with e | e
      · left; rw [a5 0 (by omega), if_pos e.symm]; decide
      · right; rw [a5 36 (by omega), if_pos e.symm]; decide
  · left
    have hk : k.toInt < 72 := by have := nlei.mp hc; omega
    have hadd : (k + 1).toInt = k.toInt + 1 := add1 (by omega)
    have fin : ∀ w : Int32, w = (if k.toNatClampNeg = p.toNatClampNeg then 1 else 0) → ∃ s' : Int32 × Mem, (some (.inl (k + 1, s_i N 186 k.toNatClampNeg w)) : Option ((Int32 × Mem) ⊕ Mem)) = some (.inl s') ∧ (0 ≤ s'.1.toInt ∧ s'.1.toInt ≤ 72 ∧ Zt s'.2 ∧ (∀ i, s'.2.1 188 i = M.1 188 i) ∧ (∀ i : Nat, (i : Int) < s'.1.toInt → s'.2.1 186 i = if i = p.toNatClampNeg then 1 else 0)) ∧ (72 - s'.1.toInt).toNat < (72 - k.toInt).toNat := by
      intro w hw
      refine ⟨_, rfl, ⟨?_, ?_, a3.w (.inl (by decide)) (by decide), ?_, ?_⟩, ?_⟩
      · dsimp only; omega
      · dsimp only; omega
      · intro i; dsimp only; rw [rdk (by decide)]; exact a4 i
      · intro i hi
        dsimp only at hi ⊢
        by_cases e : i = k.toNatClampNeg
        · subst e; rw [rde]; exact hw
        · rw [rdn (fun x => e x.2)]
          refine a5 i ?_
          rw [tn] at e
          omega
      · dsimp only; omega
    rw [if_neg hc]
    by_cases e : k = p
    · rw [if_pos e, if_pos (inb_of a1 (by omega))]
      exact fin 1 (by rw [e, if_pos rfl])
    · rw [if_neg e, if_pos (inb_of a1 (by omega))]
      refine fin 0 ?_
      rw [if_neg]
      intro e2
      apply e
      rcases hp with rfl | rfl
      · have e3 : k.toInt.toNat = 0 := e2
        exact Int32.toInt_inj.mp ((show k.toInt = 0 by omega).trans rfl)
      · have e3 : k.toInt.toNat = 36 := e2
        exact Int32.toInt_inj.mp ((show k.toInt = 36 by omega).trans rfl)
theorem z_thief {M : Mem} (h : Zt M) {p n : Int32} (hp : p = 0 ∨ p = 36) (h1 : 1 ≤ n.toInt) (h2 : n.toInt ≤ 30) : ∃ M', f_Mod_thiefIn p n M = some (1000000, M') ∧ Zt M' ∧ (∀ i, M'.1 188 i = M.1 188 i) := by
  obtain ⟨M1, e1, a1, a2⟩ := z_lay h
  obtain ⟨M2, e2, b1, b2, b3⟩ := z_may a1 (n := n) hp
  obtain ⟨M3, e3, c1, c2⟩ := z_run b1 b2 h1 h2
  refine ⟨M3, ?_, c1, fun i => by rw [c2, b3, a2]⟩
  unfold f_Mod_thiefIn
  rw [e1, Option.bind_some, e2, Option.bind_some, e3]
  rfl
