/-! p1: one call on a fresh object. What is refused, by rows; what is not, by computation -/
def ok5 (o : Option ((Int32 × Mem) ⊕ ((Mem) ⊕ (Int32 × Mem)))) : Bool := match o with
  | some (.inl s) => decide (s.1 = 5)
  | _ => false
theorem ok5_end {xs : Nat → Int32} (h : ok5 (lb_law 5 xs (0, M0)) = true) : ∃ (n : Nat) (x : Mem), n ≤ 90000 ∧ iter (lb_law 5 xs) n (0, M0) = some (.inl x) := by
  cases ho : lb_law 5 xs (0, M0) with
  | none => rw [ho] at h; cases h
  | some o =>
    rw [ho] at h
    cases o with
    | inr y => cases h
    | inl s =>
      have hs : s.1 = 5 := of_decide_eq_true h
      refine ⟨2, s.2, by decide, ?_⟩
      have h2 : lb_law 5 xs s = some (.inr (Sum.inl s.2)) := by
        unfold lb_law
        rw [if_pos (by rw [hs]; decide)]
      simp only [iter, ho, h2]
def agr (t : Option (Int32 × Mem)) (m : Mem → Option (Int32 × Mem)) : Bool := match t with
  | none => false
  | some p => match m p.2 with
    | none => false
    | some q => decide (p.1 = q.1)
theorem agr_ok {t : Option (Int32 × Mem)} {m : Mem → Option (Int32 × Mem)} (h : agr t m = true) :
    ok5 (Option.bind t fun x1 => Option.bind (m x1.2) fun x2 => if x1.1 = x2.1 then some (.inl (((0 : Int32) + (5 : Int32)), x2.2)) else some (.inr (Sum.inr ((0 : Int32), x2.2)))) = true := by
  cases t with
  | none => cases h
  | some p =>
    show ok5 (Option.bind (m p.2) fun x2 => if p.1 = x2.1 then some (.inl (((0 : Int32) + (5 : Int32)), x2.2)) else some (.inr (Sum.inr ((0 : Int32), x2.2)))) = true
    simp only [agr] at h
    cases hm : m p.2 with
    | none => rw [hm] at h; cases h
    | some q =>
      rw [hm] at h
      show ok5 (if p.1 = q.1 then some (.inl (((0 : Int32) + (5 : Int32)), q.2)) else some (.inr (Sum.inr ((0 : Int32), q.2)))) = true
      rw [if_pos (of_decide_eq_true h)]
      rfl
def agq (t : Option Int32) (m : Option (Int32 × Mem)) : Bool := match t with
  | none => false
  | some p => match m with
    | none => false
    | some q => decide (p = q.1)
theorem agq_ok {t : Option Int32} {m : Option (Int32 × Mem)} (h : agq t m = true) :
    ok5 (Option.bind t fun x1 => Option.bind m fun x2 => if x1 = x2.1 then some (.inl (((0 : Int32) + (5 : Int32)), x2.2)) else some (.inr (Sum.inr ((0 : Int32), x2.2)))) = true := by
  cases t with
  | none => cases h
  | some p =>
    cases m with
    | none => cases h
    | some q =>
      show ok5 (if p = q.1 then some (.inl (((0 : Int32) + (5 : Int32)), q.2)) else some (.inr (Sum.inr ((0 : Int32), q.2)))) = true
      rw [if_pos (of_decide_eq_true h)]
      rfl
theorem i51 : (inb ((0 : Int32) + (1 : Int32)) 5 = true) = True := by decide
theorem i52 : (inb ((0 : Int32) + (2 : Int32)) 5 = true) = True := by decide
theorem i53 : (inb ((0 : Int32) + (3 : Int32)) 5 = true) = True := by decide
theorem i54 : (inb ((0 : Int32) + (4 : Int32)) 5 = true) = True := by decide
/-- a number of a span is one of these -/
theorem fin_of {a : Int32} {lo hi : Int} (h1 : lo ≤ a.toInt) (h2 : a.toInt ≤ hi) (n : Nat) (hn : hi - lo < n) : ∃ i : Fin n, a = Int32.ofInt (lo + i.val) := by
  refine ⟨⟨(a.toInt - lo).toNat, by omega⟩, ?_⟩
  have : lo + ((a.toInt - lo).toNat : Int) = a.toInt := by omega
  show a = Int32.ofInt (lo + ((a.toInt - lo).toNat : Int))
  rw [this, Int32.ofInt_toInt]
theorem fin_all {P : Int32 → Prop} {a : Int32} (lo hi : Int) (n : Nat) (hn : hi - lo < n) (h1 : lo ≤ a.toInt) (h2 : a.toInt ≤ hi) (h : ∀ i : Fin n, P (Int32.ofInt (lo + i.val))) : P a := by
  obtain ⟨i, rfl⟩ := fin_of h1 h2 n hn
  exact h i
theorem ge1 {c : Int32} (h : ¬ c < 0) (hc : c ≠ 0) : (1 : Int32) ≤ c := by
  have h1 : c.toInt ≠ 0 := fun e => hc (Int32.toInt_inj.mp (e.trans rfl))
  have h2 : ¬ c.toInt < 0 := fun e => h (Int32.lt_iff_toInt_lt.mpr e)
  exact Int32.le_iff_toInt_le.mpr (by show (1 : Int) ≤ c.toInt; omega)
theorem nl {a b : Int32} (h : ¬ a < b) : b ≤ a := Int32.not_lt.mp h
theorem inno {v lo hi : Int32} (h : v < lo ∨ hi < v) : f_Mod_in v lo hi = some 0 := by
  unfold f_Mod_in
  by_cases h1 : v < lo
  · rw [if_pos h1]
  · rw [if_neg h1]
    rcases h with h | h
    · exact absurd h h1
    · rw [if_pos h]
theorem inyes {v lo hi : Int32} (h1 : ¬ v < lo) (h2 : ¬ hi < v) : f_Mod_in v lo hi = some 1 := by
  unfold f_Mod_in
  rw [if_neg h1, if_neg h2]
section R
variable {M : Mem}
theorem gh_no {c : Int32} (h : M.1 3 3 = 1) (hc : c ≠ 0) : f_Ground_has c M = some 0 := by
  unfold f_Ground_has
  by_cases h1 : c < 0
  · rw [if_pos h1]
  · rw [if_neg h1, if_pos (by rw [h]; exact ge1 h1 hc)]
theorem gl_no {l c : Int32} (h : M.1 3 3 = 1) (hc : c ≠ 0 ∨ l < 0 ∨ 1 < l) : f_Ground_holds l c M = some 0 := by
  unfold f_Ground_holds
  by_cases h1 : l < 0
  · rw [if_pos h1]
  rw [if_neg h1]
  by_cases h2 : (1 : Int32) < l
  · rw [if_pos h2]
  rw [if_neg h2]
  have hc : c ≠ 0 := by
    rcases hc with h | h | h
    · exact h
    · exact absurd h h1
    · exact absurd h h2
  by_cases h3 : c < 0
  · rw [if_pos h3]
  · rw [if_neg h3, if_pos (by rw [h]; exact ge1 h3 hc)]
theorem gs_no {c : Int32} (h : M.1 3 3 = 1) (hc : c ≠ 0) : f_Ground_isStair c M = some 0 := by
  unfold f_Ground_isStair
  by_cases h1 : c < 0
  · rw [if_pos h1]
  · rw [if_neg h1, if_pos (by rw [h]; exact ge1 h1 hc)]
theorem ch_no {p : Int32} (h : M.1 6 4 = 0) : f_Crowd_has p M = some 0 := by
  unfold f_Crowd_has
  by_cases h1 : p < 0
  · rw [if_pos h1]
  · rw [if_neg h1, if_pos (by rw [h]; exact nl h1)]
theorem mi_no {p : Int32} (h : M.1 162 4 = 0) : f_Mod_isOne p M = some 0 := by
  unfold f_Mod_isOne
  have h1 : f_Mod_in p (0 : Int32) ((M.1 162 4) - (1 : Int32)) = some 0 := by
    rw [h]
    by_cases h1 : p < 0
    · exact inno (.inl h1)
    · refine inno (.inr ?_)
      have h2 : ¬ p.toInt < 0 := fun e => h1 (Int32.lt_iff_toInt_lt.mpr e)
      exact Int32.lt_iff_toInt_lt.mpr (by show (-1 : Int) < p.toInt; omega)
  rw [h1]
  rfl
theorem mc_no {c : Int32} (h2 : M.1 162 2 = 1) (h3 : M.1 162 3 = 1) (hc : c ≠ 0) : f_Mod_isCell c M = some 0 := by
  unfold f_Mod_isCell f_Mod_cells
  rw [h2, h3]
  have h1 : f_Mod_in c (0 : Int32) (((1 : Int32) * 1) - (1 : Int32)) = some 0 := by
    by_cases h1 : c < 0
    · exact inno (.inl h1)
    · refine inno (.inr ?_)
      have h2 : ¬ c.toInt < 0 := fun e => h1 (Int32.lt_iff_toInt_lt.mpr e)
      have h1 : c.toInt ≠ 0 := fun e => hc (Int32.toInt_inj.mp (e.trans rfl))
      exact Int32.lt_iff_toInt_lt.mpr (by show (0 : Int) < c.toInt; omega)
  show Option.bind (f_Mod_in c (0 : Int32) (((1 : Int32) * 1) - (1 : Int32))) _ = _
  rw [h1]
  rfl
theorem mo_no {l c : Int32} (h2 : M.1 162 2 = 1) (h3 : M.1 162 3 = 1) (hc : c ≠ 0) : f_Mod_isOf l c M = some 0 := by
  unfold f_Mod_isOf
  rw [mc_no h2 h3 hc]
  rfl
theorem mp_no {l c : Int32} (h2 : M.1 162 2 = 1) (h3 : M.1 162 3 = 1) (hc : c ≠ 0 ∨ l < 0 ∨ 1 < l) : f_Mod_isPlaceOf l c M = some 0 := by
  unfold f_Mod_isPlaceOf
  by_cases h1 : l < 0 ∨ 1 < l
  · rw [inno h1]; rfl
  · have hn : ¬ l < 0 ∧ ¬ 1 < l := ⟨fun e => h1 (.inl e), fun e => h1 (.inr e)⟩
    have hc : c ≠ 0 := by
      rcases hc with h | h | h
      · exact h
      · exact absurd h hn.1
      · exact absurd h hn.2
    rw [inyes hn.1 hn.2]
    show (if (1 : Int32) = 0 then some (0 : Int32) else Option.bind (f_Mod_isOf l c M) _) = _
    rw [if_neg (by decide), mo_no h2 h3 hc]
    rfl
end R
/-- the memory behind the copy that some calls begin with -/
def Xc : Mem := (f_Scene_copy 18 11 M0).getD M0
theorem Xc_eq : f_Scene_copy 18 11 M0 = some Xc := rfl
theorem M0_r : M0.1 3 3 = 1 ∧ M0.1 6 4 = 0 ∧ M0.1 162 4 = 0 ∧ M0.1 162 2 = 1 ∧ M0.1 162 3 = 1 ∧ M0.1 0 16 = -1 ∧ M0.1 162 8 = -1 ∧ M0.1 0 15 = 0 ∧ M0.1 162 12 = 0 ∧ M0.1 1 1 = 0 ∧ M0.1 162 10 = 0 := by decide +kernel
theorem Xc_r : Xc.1 3 3 = 1 ∧ Xc.1 6 4 = 0 ∧ Xc.1 162 4 = 0 ∧ Xc.1 162 2 = 1 ∧ Xc.1 162 3 = 1 := by decide +kernel
theorem valid2 {l : Int32} (h : ¬ (l < 0 ∨ 1 < l)) : l = 0 ∨ l = 1 := by
  have h1 : ¬ l.toInt < 0 := fun e => h (.inl (Int32.lt_iff_toInt_lt.mpr e))
  have h2 : ¬ 1 < l.toInt := fun e => h (.inr (Int32.lt_iff_toInt_lt.mpr e))
  by_cases h0 : l.toInt = 0
  · exact .inl (Int32.toInt_inj.mp (h0.trans rfl))
  · exact .inr (Int32.toInt_inj.mp ((show l.toInt = 1 by omega).trans rfl))
