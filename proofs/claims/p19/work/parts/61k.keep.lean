/-! keep -/
theorem vt_keep {v : Int32} {M : Mem} {x : Int32 × Mem} (e : f_Top_keep v M = some x) : x.1 = if 0 ≤ v.toInt ∧ v.toInt ≤ 1 then 1 else 0 := by
  unfold f_Top_keep at e
  obtain ⟨y, e1, e2⟩ := Option.bind_eq_some_iff.mp e
  have ey : y.1 = x.1 := by
    by_cases c : y.1 = 0 ∨ y.1 = 1
    · rw [if_pos c] at e2; exact congrArg (fun z => z.1) (Option.some.inj e2)
    · rw [if_neg c] at e2; cases e2
  rw [← ey]
  unfold f_History_store at e1
  by_cases c0 : kd 11 = 10 + 7
  · rw [if_pos c0] at e1
    by_cases c1 : v < 0
    · rw [if_pos c1] at e1
      have c1' := Int32.lt_iff_toInt_lt.mp c1; have z0 : (0 : Int32).toInt = 0 := rfl
      rw [if_neg (by omega), ← Option.some.inj e1]
    · rw [if_neg c1] at e1
      have c1' := mt Int32.lt_iff_toInt_lt.mpr c1; have z0 : (0 : Int32).toInt = 0 := rfl
      by_cases c2 : v < (2 : Int32)
      · rw [if_pos c2] at e1
        have c2' := Int32.lt_iff_toInt_lt.mp c2; have z2 : (2 : Int32).toInt = 2 := rfl
        rw [if_pos (by omega)]
        by_cases c3 : inb v 2 = true
        · rw [if_pos c3] at e1
          obtain ⟨z, _, e3⟩ := Option.bind_eq_some_iff.mp e1
          by_cases c4 : kd z = 10 + 7
          · rw [if_pos c4] at e3
            obtain ⟨w, _, e4⟩ := Option.bind_eq_some_iff.mp e3
            exact (congrArg (fun z => z.1) (Option.some.inj e4)).symm
          · rw [if_neg c4] at e3; cases e3
        · rw [if_neg c3] at e1; cases e1
      · rw [if_neg c2] at e1
        have c2' := mt Int32.lt_iff_toInt_lt.mpr c2; have z2 : (2 : Int32).toInt = 2 := rfl
        rw [if_neg (by omega), ← Option.some.inj e1]
  · rw [if_neg c0] at e1; cases e1
theorem vm_in (a b c : Int32) : f_Mod_in a b c = some (if b.toInt ≤ a.toInt ∧ a.toInt ≤ c.toInt then 1 else 0) := by
  unfold f_Mod_in
  by_cases c1 : a < b
  · rw [if_pos c1]; have := Int32.lt_iff_toInt_lt.mp c1; rw [if_neg (by omega)]
  · rw [if_neg c1]; have := mt Int32.lt_iff_toInt_lt.mpr c1
    by_cases c2 : c < a
    · rw [if_pos c2]; have := Int32.lt_iff_toInt_lt.mp c2; rw [if_neg (by omega)]
    · rw [if_neg c2]; have := mt Int32.lt_iff_toInt_lt.mpr c2; rw [if_pos (by omega)]
theorem vm_keep {v : Int32} {M : Mem} {x : Int32 × Mem} (e : f_Mod_keep v M = some x) : x.1 = if 0 ≤ v.toInt ∧ v.toInt ≤ 1 then 1 else 0 := by
  unfold f_Mod_keep mem_ at e
  rw [vm_in] at e
  replace e : (if (if 0 ≤ v.toInt ∧ v.toInt ≤ 1 then (1 : Int32) else 0) = 0 then _ else _) = some x := e
  by_cases c : 0 ≤ v.toInt ∧ v.toInt ≤ 1
  · rw [if_pos c, if_neg (by decide)] at e
    rw [if_pos c]
    by_cases c3 : inb v 2 = true
    · rw [if_pos c3] at e
      replace e : (if inb v 2 = true then _ else _) = some x := e
      rw [if_pos c3] at e
      obtain ⟨w, _, e4⟩ := Option.bind_eq_some_iff.mp e
      exact (congrArg (fun z : Int32 × Mem => z.1) (Option.some.inj e4)).symm
    · rw [if_neg c3] at e; cases e
  · rw [if_neg c, if_pos rfl] at e
    rw [if_neg c, ← Option.some.inj e]
theorem tw_keep {n : Int} {M : Mem} (h : IV n M) (v : Int32) : ∃ x, f_Top_keep v M = some x ∧ ∃ r, f_Mod_keep v x.2 = some r ∧ x.1 = r.1 ∧ IV (n + 1) r.2 := by
  obtain ⟨x, ex, q⟩ := sf_Top_keep v M h.1.1.1
  obtain ⟨r, er, o⟩ := mr_keep (RI_Gc h.1.1 q.1 q.2.1) v
  refine ⟨x, ex, r, er, (vt_keep ex).trans (vm_keep er).symm, fin0 h.1 q.2.1 o, RL_keep h.2 (wf_Top_keep v M (by decide +kernel) Fx_r ex) (wf_Mod_keep v x.2 (by decide +kernel) Fx_r er) ?_⟩
  rw [o.2.2, q.2.1 162 10 (.inl (by decide))]; exact Int.le_refl _
