/-! p1: calls whose arguments stay free -/
theorem iter_rule {S X : Type} {f : S → Option (S ⊕ X)} (I : S → Prop) (m : S → Nat) (Q : X → Prop) (hs : ∀ s, I s → (∃ s', f s = some (.inl s') ∧ I s' ∧ m s' < m s) ∨ (∃ x, f s = some (.inr x) ∧ Q x)) : ∀ (n : Nat) (s : S), I s → m s < n → ∃ x, iter f n s = some x ∧ Q x := by
  intro n
  induction n with
  | zero => intro s _ h; omega
  | succ n ih =>
    intro s hI hm
    rcases hs s hI with ⟨s', e, hI', h'⟩ | ⟨x, e, hQ⟩
    · obtain ⟨x, ex, hQ⟩ := ih s' hI' (by omega)
      exact ⟨x, by simp only [iter, e, ex], hQ⟩
    · exact ⟨x, by simp only [iter, e], hQ⟩
theorem FU_v : FU = 1000000000 := rfl
theorem ti {n : Nat} {v : Int32} {z : Int} (h : v.toInt = z) (hz : z = n) : v.toInt = n := h.trans hz
theorem lei {a b : Int32} : a ≤ b ↔ a.toInt ≤ b.toInt := Int32.le_iff_toInt_le
theorem lti {a b : Int32} : a < b ↔ a.toInt < b.toInt := Int32.lt_iff_toInt_lt
theorem nlei {a b : Int32} : ¬ a ≤ b ↔ b.toInt < a.toInt := by rw [lei]; omega
theorem nlti {a b : Int32} : ¬ a < b ↔ b.toInt ≤ a.toInt := by rw [lti]; omega
theorem inb_of {i : Int32} {n : Nat} (h1 : 0 ≤ i.toInt) (h2 : i.toInt < n) : inb i n = true := by
  have e : i.toNatClampNeg = i.toInt.toNat := rfl
  have h3 : ¬ i < 0 := fun h => by have := lti.mp h; have h0 : (0 : Int32).toInt = 0 := rfl; omega
  have h4 : ¬ n ≤ i.toNatClampNeg := by rw [e]; omega
  simp [inb, h3, h4]
theorem add1 {a : Int32} (h : a.toInt < 2147483647) : (a + 1).toInt = a.toInt + 1 := by
  have h1 := Int32.le_toInt a
  rw [Int32.toInt_add]
  have : (1 : Int32).toInt = 1 := rfl
  rw [this]
  have h2 : (-2147483648 : Int) ≤ a.toInt := by omega
  exact Int.bmod_eq_of_le (by omega) (by omega)
theorem sub1 {a : Int32} (h : -2147483648 < a.toInt) : (a + -1).toInt = a.toInt - 1 := by
  have h1 := Int32.toInt_lt a
  rw [Int32.toInt_add]
  have : (-1 : Int32).toInt = -1 := rfl
  rw [this]
  have h2 : a.toInt < 2147483648 := by omega
  exact Int.bmod_eq_of_le (by omega) (by omega)
theorem c_add (a : Int32) {M : Mem} (h0 : M.1 1 1 = 0) (h1 : M.1 162 10 = 0) : ∃ M', f_Signs_add a M = some (1, M') ∧ M'.1 1 1 = 4 ∧ M'.1 162 10 = 0 := by
  obtain ⟨x, hx, hq⟩ := iter_rule (f := lb_Signs_add_20 a) (fun s : Int32 × Mem => s.2.1 1 1 = s.1 ∧ 0 ≤ s.1.toInt ∧ s.1.toInt ≤ 4 ∧ s.2.1 162 10 = 0) (fun s => (4 - s.1.toInt).toNat) (fun M => M.1 1 1 = 4 ∧ M.1 162 10 = 0) (by
    rintro ⟨i, M⟩ ⟨e, a1, a2, e2⟩
    dsimp only at e a1 a2 e2
    unfold lb_Signs_add_20
    dsimp only
    have h4 : (4 : Int32).toInt = 4 := rfl
    by_cases hc : (4 : Int32) ≤ i
    · right
      refine ⟨M, by rw [if_pos hc], ?_, e2⟩
      have := lei.mp hc
      rw [e]
      exact Int32.toInt_inj.mp (by rw [h4]; omega)
    · left
      have hn : i.toInt < 4 := by
        have := nlei.mp hc
        omega
      rw [if_neg hc, e, if_pos (inb_of a1 (by omega))]
      refine ⟨_, rfl, ⟨?_, ?_, ?_, ?_⟩, ?_⟩
      · simp [s_i, e]
      · rw [add1 (by omega)]; omega
      · rw [add1 (by omega)]; omega
      · simp [s_i, e2]
      · dsimp only
        rw [add1 (by omega)]; omega) FU (0, M) ⟨h0, show (0 : Int) ≤ (0 : Int32).toInt by decide, show (0 : Int32).toInt ≤ 4 by decide, h1⟩ (show (4 - (0 : Int32).toInt).toNat < FU by decide)
  refine ⟨x, ?_, hq⟩
  unfold f_Signs_add
  rw [if_neg (by rw [h0]; decide), if_pos (by rw [h0]; decide), hx]
  rfl
theorem c_msign (a : Int32) {M : Mem} (h1 : M.1 162 10 = 0) : ∃ M', f_Mod_sign a M = some (4, M') := by
  obtain ⟨x, hx, hq⟩ := iter_rule (f := lb_Mod_sign_20 a) (fun s : Int32 × Mem => (s.2.1 162 10).toInt = 3 - s.1.toInt ∧ -1 ≤ s.1.toInt ∧ s.1.toInt ≤ 3) (fun s => (s.1.toInt + 1).toNat) (fun M => M.1 162 10 = 4) (by
    rintro ⟨i, M⟩ ⟨e, a1, a2⟩
    dsimp only at e a1 a2
    unfold lb_Mod_sign_20
    dsimp only
    have h4 : (4 : Int32).toInt = 4 := rfl
    have h0 : (0 : Int32).toInt = 0 := rfl
    by_cases hc : i < 0
    · right
      refine ⟨M, by rw [if_pos hc], ?_⟩
      have := lti.mp hc
      exact Int32.toInt_inj.mp (by rw [h4]; omega)
    · left
      have hn : 0 ≤ i.toInt := by
        have := nlti.mp hc
        omega
      rw [if_neg hc]
      simp only [mem_]
      rw [if_pos (inb_of (by omega) (by omega))]
      refine ⟨_, rfl, ⟨?_, ?_, ?_⟩, ?_⟩
      · have : (s_i (s_i M 162 10 (M.1 162 10 + 1)) 167 (M.1 162 10).toNatClampNeg (vp_nar .byte ((a >>> (((8 : Int32) * i) &&& 31)).toInt8.toInt32))).1 162 10 = M.1 162 10 + 1 := by simp [s_i]
        dsimp only
        rw [this, add1 (by omega), sub1 (by omega)]; omega
      · dsimp only; rw [sub1 (by omega)]; omega
      · dsimp only; rw [sub1 (by omega)]; omega
      · dsimp only; rw [sub1 (by omega)]; omega) FU (3, s_i M 162 13 0) ⟨by show ((s_i M 162 13 0).1 162 10).toInt = _; rw [show (s_i M 162 13 0).1 162 10 = M.1 162 10 by simp [s_i], h1]; rfl, show (-1 : Int) ≤ (3 : Int32).toInt by decide, show (3 : Int32).toInt ≤ 3 by decide⟩ (show ((3 : Int32).toInt + 1).toNat < FU by decide)
  refine ⟨x, ?_⟩
  unfold f_Mod_sign
  simp only [mem_]
  rw [if_pos (by rw [show (s_i M 162 13 0).1 162 10 = M.1 162 10 by simp [s_i], h1]; decide), hx, Option.bind_some, hq]
theorem r_sign (a : Int32) : agr (f_Top_sign a M0) (f_Mod_sign a) = true := by
  obtain ⟨M', e, e1, e2⟩ := c_add a M0_r.2.2.2.2.2.2.2.2.2.1 M0_r.2.2.2.2.2.2.2.2.2.2
  obtain ⟨M2, e3⟩ := c_msign a e2
  refine agr_some (4, M') (4, M2) ?_ e3 rfl
  unfold f_Top_sign
  rw [e, Option.bind_some, if_neg (show ¬ (1 : Int32) = 0 by decide), e1]
-- sheet: nobody is there
theorem c_sheet (k n f t : Int32) {M : Mem} (h0 : M.1 6 4 = 0) (h1 : M.1 162 4 = 0) : ∃ M', iter (lb_Top_sheet_35 k n f t) FU (0, 0, M) = some (0, M') ∧ M'.1 162 4 = 0 := by
  obtain ⟨x, hx, hq⟩ := iter_rule (f := lb_Top_sheet_35 k n f t) (fun s : Int32 × Int32 × Mem => s.1 = 0 ∧ 0 ≤ s.2.1.toInt ∧ s.2.1.toInt ≤ 8 ∧ s.2.2.1 6 4 = 0 ∧ s.2.2.1 162 4 = 0) (fun s => (8 - s.2.1.toInt).toNat) (fun x => x.1 = 0 ∧ x.2.1 162 4 = 0) (by
    rintro ⟨v, i, M⟩ ⟨e, a1, a2, e2, e3⟩
    dsimp only at e a1 a2 e2 e3
    subst e
    unfold lb_Top_sheet_35
    dsimp only
    have h4 : (8 : Int32).toInt = 8 := rfl
    by_cases hc : (8 : Int32) ≤ i
    · right
      exact ⟨(0, M), by rw [if_pos hc], rfl, e3⟩
    · left
      have hn : i.toInt < 8 := by
        have := nlei.mp hc
        omega
      have hj : ∃ s' : Int32 × Int32 × Mem, j_Top_sheet_78_35 k n f t 0 i 0 M = some (.inl s') ∧ (s'.1 = 0 ∧ 0 ≤ s'.2.1.toInt ∧ s'.2.1.toInt ≤ 8 ∧ s'.2.2.1 6 4 = 0 ∧ s'.2.2.1 162 4 = 0) ∧ (8 - s'.2.1.toInt).toNat < (8 - i.toInt).toNat := by
        unfold j_Top_sheet_78_35
        rw [if_pos (inb_of a1 (by omega))]
        refine ⟨_, rfl, ⟨rfl, ?_, ?_, ?_, ?_⟩, ?_⟩
        · rw [add1 (by omega)]; omega
        · rw [add1 (by omega)]; omega
        · simp [s_i, e2]
        · simp [s_i, e3]
        · dsimp only
          rw [add1 (by omega)]; omega
      rw [if_neg hc]
      by_cases h3 : k = 3
      · rw [if_pos h3]; exact hj
      rw [if_neg h3]
      by_cases h5 : n ≤ i
      · rw [if_pos h5]; exact hj
      rw [if_neg h5]
      have hw : ∀ z, f_Crowd_within i z M = some 0 := fun z => by unfold f_Crowd_within; rw [ch_no e2]; rfl
      have hn2 : ∃ z, f_Top_narrow k (f + i * t) = some z := by
        unfold f_Top_narrow
        split
        · exact ⟨_, rfl⟩
        · split
          · exact ⟨_, rfl⟩
          · exact ⟨_, rfl⟩
      obtain ⟨z, ez⟩ := hn2
      rw [ez, Option.bind_some, hw, Option.bind_some]
      exact hj) FU (0, 0, M) ⟨rfl, show (0 : Int) ≤ (0 : Int32).toInt by decide, show (0 : Int32).toInt ≤ 8 by decide, h0, h1⟩ (show (8 - (0 : Int32).toInt).toNat < FU by decide)
  obtain ⟨x1, x2⟩ := x
  obtain ⟨q1, q2⟩ := hq
  dsimp only at q1
  subst q1
  exact ⟨x2, hx, q2⟩
theorem c_msheet (k n f t : Int32) {M : Mem} (h1 : M.1 162 4 = 0) : iter (lb_Mod_sheet_43 k n t) FU (0, f, 0, M) = some (0, M) := by
  have : lb_Mod_sheet_43 k n t (0, f, 0, M) = some (.inr (0, M)) := by
    unfold lb_Mod_sheet_43
    dsimp only
    rw [if_pos (by rw [h1]; decide)]
  rw [FU_v]
  simp only [iter, this]
theorem r_sheet (k n f t : Int32) : agr (f_Top_sheet k n f t M0) (f_Mod_sheet k n f t) = true := by
  by_cases h : k < 0 ∨ (3 : Int32) < k
  · refine agr_some (-1, M0) (-1, s_i M0 162 13 0) ?_ (by unfold f_Mod_sheet; simp only [mem_]; rw [inno h, Option.bind_some, if_pos rfl]) rfl
    unfold f_Top_sheet
    by_cases h3 : k < 0
    · rw [if_pos h3]
    · rcases h with h | h
      · exact absurd h h3
      · rw [if_neg h3, if_pos h]
  have h1 : ¬ k < 0 := fun e => h (.inl e)
  have h2 : ¬ (3 : Int32) < k := fun e => h (.inr e)
  by_cases h3 : n ≤ 8
  · obtain ⟨M', e1, e2⟩ := c_sheet k n f t M0_r.2.1 M0_r.2.2.1
    have e3 : ∀ M : Mem, M.1 162 4 = 0 → iter (lb_Mod_sheet_43 k n t) FU (0, f, 0, s_i M 162 13 0) = some (0, s_i M 162 13 0) := fun M hM => c_msheet k n f t (by simp [s_i, hM])
    by_cases h4 : k = 3
    · subst h4
      refine agr_some (-3, M') (-3, s_i M' 162 13 0) ?_ ?_ rfl
      · unfold f_Top_sheet
        rw [if_neg h1, if_neg h2, if_pos h3, if_pos rfl, e1, Option.bind_some, if_pos rfl]
      · unfold f_Mod_sheet
        simp only [mem_]
        rw [inyes h1 h2, Option.bind_some, if_neg (by decide), if_pos h3, if_pos (by decide), e3 M' e2, Option.bind_some]
        simp only [if_true]
    · have h5 : ¬ (3 : Int32) ≤ k := fun e => h4 (Int32.le_antisymm (nl h2) e)
      by_cases h6 : 0 ≤ n
      · refine agr_some (0, M') (0, s_i M' 162 13 0) ?_ ?_ rfl
        · unfold f_Top_sheet
          rw [if_neg h1, if_neg h2, if_pos h3, if_neg h4, if_pos h6, e1, Option.bind_some, if_neg h4]
        · unfold f_Mod_sheet
          simp only [mem_]
          rw [inyes h1 h2, Option.bind_some, if_neg (by decide), if_pos h3, if_neg h5, if_pos h6, e3 M' e2, Option.bind_some, if_neg h4]
      · refine agr_some (-2, M0) (-2, s_i M0 162 13 0) ?_ ?_ rfl
        · unfold f_Top_sheet
          rw [if_neg h1, if_neg h2, if_pos h3, if_neg h4, if_neg h6]
        · unfold f_Mod_sheet
          simp only [mem_]
          rw [inyes h1 h2, Option.bind_some, if_neg (by decide), if_pos h3, if_neg h5, if_neg h6]
  · refine agr_some (-1, M0) (-1, s_i M0 162 13 0) ?_ ?_ rfl
    · unfold f_Top_sheet
      rw [if_neg h1, if_neg h2, if_neg h3]
    · unfold f_Mod_sheet
      simp only [mem_]
      rw [inyes h1 h2, Option.bind_some, if_neg (by decide), if_neg h3]
-- calls that may throw
def agx (t : Option (Int32 × Mem)) (m : Mem → Option (Int32 × Mem)) : Bool := ok5 (Option.bind t fun x25 => Option.bind (m x25.2) fun x26 => Option.bind (f_Mod_thrown x26.2) fun x27 =>
  if x27 = x25.1 then
  if x25.1 = 0 then
  if (lg_cmp (x26.2.2.1 192 (0 : Int32).toNatClampNeg) x26.1.toInt64) = 0 then
  some (.inl (((0 : Int32) + (5 : Int32)), x26.2))
  else
  some (.inr (Sum.inr ((0 : Int32), x26.2)))
  else
  some (.inl (((0 : Int32) + (5 : Int32)), x26.2))
  else
  some (.inr (Sum.inr ((0 : Int32), x26.2))))
theorem agx_thrown {t : Option (Int32 × Mem)} {m : Mem → Option (Int32 × Mem)} (M q : Mem) (v : Int32) (ht : t = some (1, M)) (hm : m M = some (v, q)) (e : q.1 162 13 = 1) : agx t m = true := by
  unfold agx
  rw [ht, Option.bind_some]
  dsimp only
  rw [hm, Option.bind_some]
  simp only [f_Mod_thrown, e, Option.bind_some, ↓reduceIte]
  rfl
theorem thr {M : Mem} : (s_i (s_i M 162 13 0) 162 13 1).1 162 13 = 1 := by simp [s_i]
theorem r_person (a w : Int32) : agx (f_Lw_person a w M0) (f_Mod_person a w) = true := by
  refine agx_thrown M0 (s_i (s_i M0 162 13 0) 162 13 1) 0 ?_ ?_ thr
  · unfold f_Lw_person f_Top_person
    rw [ch_no M0_r.2.1, Option.bind_some, if_pos rfl]
    rfl
  · unfold f_Mod_person
    simp only [mem_]
    rw [mi_no sz.2.2.1, Option.bind_some, if_pos rfl]
    rfl
theorem r_row (a : Int32) : agx (f_Lw_row a M0) (f_Mod_row a) = true := by
  refine agx_thrown M0 (s_i (s_i M0 162 13 0) 162 13 1) 0 ?_ ?_ thr
  · unfold f_Lw_row f_Top_row
    by_cases h : a < 0
    · rw [if_pos h]; rfl
    · rw [if_neg h, if_pos (by rw [M0_r.2.2.2.2.2.2.2.1]; exact nl h)]; rfl
  · unfold f_Mod_row
    simp only [mem_]
    have h2 : f_Mod_in a 0 ((s_i M0 162 13 0).1 162 12 - 1) = some 0 := by
      rw [sz.2.2.2.2.2.2.1]
      by_cases h : a < 0
      · exact inno (.inl h)
      · refine inno (.inr ?_)
        have h2 : ¬ a.toInt < 0 := fun e => h (lti.mpr e)
        exact lti.mpr (by show (-1 : Int) < a.toInt; omega)
    rw [h2, Option.bind_some, if_pos rfl]
    rfl
theorem g_cell : ∀ i : Fin 6, agx (f_Lw_cell 0 (Int32.ofInt (0 + i.val)) M0) (f_Mod_cell 0 (Int32.ofInt (0 + i.val))) = true := by decide +kernel
theorem r_cell (a w : Int32) : agx (f_Lw_cell a w M0) (f_Mod_cell a w) = true := by
  by_cases h1 : a ≠ 0
  · refine agx_thrown M0 (s_i (s_i M0 162 13 0) 162 13 1) 0 ?_ ?_ thr
    · unfold f_Lw_cell f_Top_cell
      rw [gh_no M0_r.1 h1, Option.bind_some, if_pos rfl]
      rfl
    · unfold f_Mod_cell
      simp only [mem_]
      rw [mc_no sz.2.2.2.1 sz.2.2.2.2.1 h1, Option.bind_some, if_pos rfl]
      rfl
  rw [d0 h1]
  by_cases h : w < 0 ∨ (5 : Int32) < w
  · have hh : ∀ k : Int32, 0 ≤ k → k ≤ 5 → ¬ w = k := fun k h1 h2 e => by
      subst e
      rcases h with h | h
      · exact absurd h (Int32.not_lt.mpr h1)
      · exact absurd h (Int32.not_lt.mpr h2)
    refine agx_thrown M0 (s_i (s_i M0 162 13 0) 162 13 1) 0 ?_ ?_ thr
    · unfold f_Lw_cell f_Top_cell
      rw [gh_yes, Option.bind_some, if_neg (by decide), if_neg (hh 0 (by decide) (by decide)), if_neg (hh 1 (by decide) (by decide)), if_neg (hh 2 (by decide) (by decide)), if_neg (hh 3 (by decide) (by decide)), if_neg (hh 4 (by decide) (by decide)), if_neg (hh 5 (by decide) (by decide))]
      rfl
    · unfold f_Mod_cell
      simp only [mem_]
      rw [mc_yes, Option.bind_some, if_neg (by decide), inno h, Option.bind_some, if_pos rfl]
      rfl
  · exact fin_all (P := fun w => agx (f_Lw_cell 0 w M0) (f_Mod_cell 0 w) = true) 0 5 6 (by decide) (in_span h).1 (in_span h).2 g_cell
