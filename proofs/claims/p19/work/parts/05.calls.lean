/-! calls, answers, Math, arraycopy -/
theorem gw_good {w : Cond} (h : w ∈ gw) : (w.onTables && w.keeps) = true ∨ ∃ ty, w = .arrayClass ty := good_of_word (List.mem_filter.mp h).2
def yV (C : String) (y : MethodName) (cc : ByteArray) (maxL : Nat) (ret : Option FieldType) (n : Nat) : Prop :=
  Cond.instanceMethod y ∈ gw ∧ Cond.selects C y y ∈ gw ∧ Cond.initialized C ∈ gw ∧ Cond.code y cc maxL ret ∈ gw ∧ (y.cls = C ∧ y.cls ≠ "java/lang/invoke/MethodHandle" ∧ y.cls ≠ "java/lang/invoke/VarHandle" ∧ (parseMethodDescriptor y.desc).map (fun d => d.parameters.length) = some n) ∧ maxL ≤ 21
def yS (y : MethodName) (cc : ByteArray) (maxL : Nat) (ret : Option FieldType) (n : Nat) : Prop :=
  Cond.static y ∈ gw ∧ Cond.initialized y.cls ∈ gw ∧ Cond.code y cc maxL ret ∈ gw ∧ (y.cls ≠ "java/lang/invoke/MethodHandle" ∧ y.cls ≠ "java/lang/invoke/VarHandle" ∧ (parseMethodDescriptor y.desc).map (fun d => d.parameters.length) = some n) ∧ maxL ≤ 21
theorem goodV {own C : String} {idx maxL n : Nat} {y : MethodName} {cc : ByteArray} {ret : Option FieldType} (hl : Cond.methodLink own idx y ∈ gw) (hy : yV C y cc maxL ret n) : GoodIn gw (wsV own idx C y (wsY y cc maxL ret)) := by
  obtain ⟨h1, h2, h3, h4, -⟩ := hy
  intro w hw
  have : w ∈ gw := by
    simp only [wsV, List.mem_append, List.mem_cons, List.not_mem_nil, or_false] at hw
    rcases hw with (rfl | rfl | rfl | rfl) | rfl | hw
    · exact hl
    · exact h1
    · exact h2
    · exact h3
    · exact h4
    · exact hw
  exact ⟨this, gw_good this⟩
theorem goodS {own : String} {idx maxL n : Nat} {y : MethodName} {cc : ByteArray} {ret : Option FieldType} (hl : Cond.methodLink own idx y ∈ gw) (hy : yS y cc maxL ret n) : GoodIn gw (va_wsS own idx y (wsY y cc maxL ret)) := by
  obtain ⟨h1, h2, h3, -⟩ := hy
  intro w hw
  have : w ∈ gw := by
    simp only [va_wsS, List.mem_append, List.mem_cons, List.not_mem_nil, or_false] at hw
    rcases hw with (rfl | rfl | rfl) | rfl | hw
    · exact hl
    · exact h1
    · exact h2
    · exact h3
    · exact hw
  exact ⟨this, gw_good this⟩
theorem PcM_blind (G : Gw) (M : Mem) (av : List Value) : FrameBlind (PcM G M av) := fun a U g mk q => by
  obtain ⟨q0, qP, qK⟩ := q
  exact ⟨q0, qP, va_K.moved (u := U) (U := U.calling g mk a) (Vm.Alike.refl U.vm) qK⟩
section VCALL
variable {E : Ev} {cs : Nat × Nat} {G : Gw} {cc : ByteArray} {own : String} {nL d : Nat} {ret : Option FieldType} {Q : State → Prop} {M : Mem} {pc pc' : Nat} {lv lv' : List (Nat × Value)} {st rest : List Value}
abbrev Zc (E : Ev) (cs : Nat × Nat) : Prop := cs.1 ≤ E.2.2.2.1.cells ∧ cs.2 ≤ E.2.2.2.1.slots
theorem V_ci {k idx c n d2 maxL : Nat} {C : String} {y : MethodName} {b2 : ByteArray} {ret2 : Option FieldType} {As : List Value} {post : Int32 → Mem → Prop} (X : Cx E G cc own nL d ret) (hz : Zc E cs) (hl : Cond.methodLink own idx y ∈ gw) (hy : yV C y b2 maxL ret2 n) (hM : Ci E.2.1 G y b2 maxL ret2 d2 (.ref (G.2.2 + k) :: As) M post) (hk : kd k = 10 + c) (hc : (clsL[c]?).map (fun q => q.1) = some C) (hn : As.length = n) (hd2 : d2 + 1 ≤ d) (hs : st = As.reverse ++ .ref (G.2.2 + k) :: rest) (hw : (rest.map fun v => v.category).sum ≤ 8) (hd : decode cc pc = .ok (.invokevirtual idx, 3)) (hp : pc + 3 = pc')
    (kk : ∀ (r : Int32) (M' : Mem), post r M' → V E cs G nL Q M' pc' lv (.int r :: rest)) : V E cs G nL Q M pc lv st := by
  subst hp; subst hs
  intro H locs ls hP hS hl9
  have hkn : k < NT := kd_lt (by omega)
  have hgood := goodV hl hy
  obtain ⟨-, -, -, -, h5, h6⟩ := hy
  obtain ⟨q, hq, hqC⟩ := Option.map_eq_some_iff.mp hc
  refine va_calli (A0 := fun q => G.2.2 ≤ q) (va_runV (As := As) (rest := rest) ⟨X.1, X.2.1, X.2.2.1, X.2.2.2.1, X.2.2.2.2.1⟩ hM (cwV (C := C) n X.2.2.2.2.1 hgood rfl rfl rfl h5 ⟨by have := X.2.2.2.2.2.2.2.1.1; show d2 + 1 ≤ _; omega, by have := X.2.2.2.2.2.2.2.1.2; show 8 + (maxL + 11) + 40 * d2 ≤ _; omega⟩) ⟨PcM_blind G M _, by rw [← hqC]; exact va_recv X.2.2.2.2.2.1 hP hq (by rw [wsM_get G M hkn, dsc_o hk]), fun U hU hW => ⟨rfl, by rw [hU]; exact hP, va_K.moved hW.alike X.2.2.2.2.2.1⟩⟩ rfl hn hl9.1 rfl (lv_room hw) hd ⟨hz.1, hz.2⟩) hS (fun q _ h => h) (fun q h => h) (fun r u t H1 locs1 ht hvm hpost hB hz1 hk1 hS1 => ?_)
  exact kk r u hpost H1 locs1 ls (by rw [← ht]; exact hB) hS1 hl9
theorem V_si {idx n d2 maxL : Nat} {y : MethodName} {b2 : ByteArray} {ret2 : Option FieldType} {As : List Value} {post : Int32 → Mem → Prop} (X : Cx E G cc own nL d ret) (hz : Zc E cs) (hl : Cond.methodLink own idx y ∈ gw) (hy : yS y b2 maxL ret2 n) (hM : Ci E.2.1 G y b2 maxL ret2 d2 As M post) (hn : As.length = n) (hd2 : d2 + 1 ≤ d) (hs : st = As.reverse ++ rest) (hw : (rest.map fun v => v.category).sum ≤ 8) (hd : decode cc pc = .ok (.invokestatic idx, 3)) (hp : pc + 3 = pc')
    (kk : ∀ (r : Int32) (M' : Mem), post r M' → V E cs G nL Q M' pc' lv (.int r :: rest)) : V E cs G nL Q M pc lv st := by
  subst hp; subst hs
  intro H locs ls hP hS hl9
  have hgood := goodS hl hy
  obtain ⟨-, -, -, h5, h6⟩ := hy
  refine va_calli (A0 := fun q => G.2.2 ≤ q) (va_runS (As := As) (rest := rest) ⟨X.1, X.2.1, X.2.2.1, X.2.2.2.1, X.2.2.2.2.1⟩ hM (va_cwS n X.2.2.2.2.1 hgood rfl rfl rfl h5 ⟨by have := X.2.2.2.2.2.2.2.1.1; show d2 + 1 ≤ _; omega, by have := X.2.2.2.2.2.2.2.1.2; show 8 + (maxL + 11) + 40 * d2 ≤ _; omega⟩) ⟨PcM_blind G M _, fun U hU hW => ⟨rfl, by rw [hU]; exact hP, va_K.moved hW.alike X.2.2.2.2.2.1⟩⟩ rfl hn hl9.1 rfl (lv_room hw) hd ⟨hz.1, hz.2⟩) hS (fun q _ h => h) (fun q h => h) (fun r u t H1 locs1 ht hvm hpost hB hz1 hk1 hS1 => ?_)
  exact kk r u hpost H1 locs1 ls (by rw [← ht]; exact hB) hS1 hl9
theorem V_cl {k idx c n d2 maxL : Nat} {C : String} {y : MethodName} {b2 : ByteArray} {ret2 : Option FieldType} {As : List Value} {post : Int64 → Mem → Prop} (X : Cx E G cc own nL d ret) (hz : Zc E cs) (hl : Cond.methodLink own idx y ∈ gw) (hy : yV C y b2 maxL ret2 n) (hM : Cl E.2.1 G y b2 maxL ret2 d2 (.ref (G.2.2 + k) :: As) M post) (hk : kd k = 10 + c) (hc : (clsL[c]?).map (fun q => q.1) = some C) (hn : As.length = n) (hd2 : d2 + 1 ≤ d) (hs : st = As.reverse ++ .ref (G.2.2 + k) :: rest) (hw : (rest.map fun v => v.category).sum ≤ 8) (hd : decode cc pc = .ok (.invokevirtual idx, 3)) (hp : pc + 3 = pc')
    (kk : ∀ (r : Int64) (M' : Mem), post r M' → V E cs G nL Q M' pc' lv (.long r :: rest)) : V E cs G nL Q M pc lv st := by
  subst hp; subst hs
  intro H locs ls hP hS hl9
  have hkn : k < NT := kd_lt (by omega)
  have hgood := goodV hl hy
  obtain ⟨-, -, -, -, h5, h6⟩ := hy
  obtain ⟨q, hq, hqC⟩ := Option.map_eq_some_iff.mp hc
  refine va_calll (A0 := fun q => G.2.2 ≤ q) (va_runV (As := As) (rest := rest) ⟨X.1, X.2.1, X.2.2.1, X.2.2.2.1, X.2.2.2.2.1⟩ hM (cwV (C := C) n X.2.2.2.2.1 hgood rfl rfl rfl h5 ⟨by have := X.2.2.2.2.2.2.2.1.1; show d2 + 1 ≤ _; omega, by have := X.2.2.2.2.2.2.2.1.2; show 8 + (maxL + 11) + 40 * d2 ≤ _; omega⟩) ⟨PcM_blind G M _, by rw [← hqC]; exact va_recv X.2.2.2.2.2.1 hP hq (by rw [wsM_get G M hkn, dsc_o hk]), fun U hU hW => ⟨rfl, by rw [hU]; exact hP, va_K.moved hW.alike X.2.2.2.2.2.1⟩⟩ rfl hn hl9.1 rfl (lv_room hw) hd ⟨hz.1, hz.2⟩) hS (fun q _ h => h) (fun q h => h) (fun r u t H1 locs1 ht hvm hpost hB hz1 hk1 hS1 => ?_)
  exact kk r u hpost H1 locs1 ls (by rw [← ht]; exact hB) hS1 hl9
theorem V_sl {idx n d2 maxL : Nat} {y : MethodName} {b2 : ByteArray} {ret2 : Option FieldType} {As : List Value} {post : Int64 → Mem → Prop} (X : Cx E G cc own nL d ret) (hz : Zc E cs) (hl : Cond.methodLink own idx y ∈ gw) (hy : yS y b2 maxL ret2 n) (hM : Cl E.2.1 G y b2 maxL ret2 d2 As M post) (hn : As.length = n) (hd2 : d2 + 1 ≤ d) (hs : st = As.reverse ++ rest) (hw : (rest.map fun v => v.category).sum ≤ 8) (hd : decode cc pc = .ok (.invokestatic idx, 3)) (hp : pc + 3 = pc')
    (kk : ∀ (r : Int64) (M' : Mem), post r M' → V E cs G nL Q M' pc' lv (.long r :: rest)) : V E cs G nL Q M pc lv st := by
  subst hp; subst hs
  intro H locs ls hP hS hl9
  have hgood := goodS hl hy
  obtain ⟨-, -, -, h5, h6⟩ := hy
  refine va_calll (A0 := fun q => G.2.2 ≤ q) (va_runS (As := As) (rest := rest) ⟨X.1, X.2.1, X.2.2.1, X.2.2.2.1, X.2.2.2.2.1⟩ hM (va_cwS n X.2.2.2.2.1 hgood rfl rfl rfl h5 ⟨by have := X.2.2.2.2.2.2.2.1.1; show d2 + 1 ≤ _; omega, by have := X.2.2.2.2.2.2.2.1.2; show 8 + (maxL + 11) + 40 * d2 ≤ _; omega⟩) ⟨PcM_blind G M _, fun U hU hW => ⟨rfl, by rw [hU]; exact hP, va_K.moved hW.alike X.2.2.2.2.2.1⟩⟩ rfl hn hl9.1 rfl (lv_room hw) hd ⟨hz.1, hz.2⟩) hS (fun q _ h => h) (fun q h => h) (fun r u t H1 locs1 ht hvm hpost hB hz1 hk1 hS1 => ?_)
  exact kk r u hpost H1 locs1 ls (by rw [← ht]; exact hB) hS1 hl9
theorem V_cv {k idx c n d2 maxL : Nat} {C : String} {y : MethodName} {b2 : ByteArray} {ret2 : Option FieldType} {As : List Value} {post : Mem → Prop} (X : Cx E G cc own nL d ret) (hz : Zc E cs) (hl : Cond.methodLink own idx y ∈ gw) (hy : yV C y b2 maxL ret2 n) (hM : Cv E.2.1 G y b2 maxL ret2 d2 (.ref (G.2.2 + k) :: As) M post) (hk : kd k = 10 + c) (hc : (clsL[c]?).map (fun q => q.1) = some C) (hn : As.length = n) (hd2 : d2 + 1 ≤ d) (hs : st = As.reverse ++ .ref (G.2.2 + k) :: rest) (hw : (rest.map fun v => v.category).sum ≤ 8) (hd : decode cc pc = .ok (.invokevirtual idx, 3)) (hp : pc + 3 = pc')
    (kk : ∀ (M' : Mem), post M' → V E cs G nL Q M' pc' lv (rest)) : V E cs G nL Q M pc lv st := by
  subst hp; subst hs
  intro H locs ls hP hS hl9
  have hkn : k < NT := kd_lt (by omega)
  have hgood := goodV hl hy
  obtain ⟨-, -, -, -, h5, h6⟩ := hy
  obtain ⟨q, hq, hqC⟩ := Option.map_eq_some_iff.mp hc
  refine va_callv (A0 := fun q => G.2.2 ≤ q) (va_runV (As := As) (rest := rest) ⟨X.1, X.2.1, X.2.2.1, X.2.2.2.1, X.2.2.2.2.1⟩ hM (cwV (C := C) n X.2.2.2.2.1 hgood rfl rfl rfl h5 ⟨by have := X.2.2.2.2.2.2.2.1.1; show d2 + 1 ≤ _; omega, by have := X.2.2.2.2.2.2.2.1.2; show 8 + (maxL + 11) + 40 * d2 ≤ _; omega⟩) ⟨PcM_blind G M _, by rw [← hqC]; exact va_recv X.2.2.2.2.2.1 hP hq (by rw [wsM_get G M hkn, dsc_o hk]), fun U hU hW => ⟨rfl, by rw [hU]; exact hP, va_K.moved hW.alike X.2.2.2.2.2.1⟩⟩ rfl hn hl9.1 rfl (lv_room hw) hd ⟨hz.1, hz.2⟩) hS (fun q _ h => h) (fun q h => h) (fun u t H1 locs1 ht hvm hpost hB hz1 hk1 hS1 => ?_)
  exact kk u hpost H1 locs1 ls (by rw [← ht]; exact hB) hS1 hl9
theorem V_sv {idx n d2 maxL : Nat} {y : MethodName} {b2 : ByteArray} {ret2 : Option FieldType} {As : List Value} {post : Mem → Prop} (X : Cx E G cc own nL d ret) (hz : Zc E cs) (hl : Cond.methodLink own idx y ∈ gw) (hy : yS y b2 maxL ret2 n) (hM : Cv E.2.1 G y b2 maxL ret2 d2 As M post) (hn : As.length = n) (hd2 : d2 + 1 ≤ d) (hs : st = As.reverse ++ rest) (hw : (rest.map fun v => v.category).sum ≤ 8) (hd : decode cc pc = .ok (.invokestatic idx, 3)) (hp : pc + 3 = pc')
    (kk : ∀ (M' : Mem), post M' → V E cs G nL Q M' pc' lv (rest)) : V E cs G nL Q M pc lv st := by
  subst hp; subst hs
  intro H locs ls hP hS hl9
  have hgood := goodS hl hy
  obtain ⟨-, -, -, h5, h6⟩ := hy
  refine va_callv (A0 := fun q => G.2.2 ≤ q) (va_runS (As := As) (rest := rest) ⟨X.1, X.2.1, X.2.2.1, X.2.2.2.1, X.2.2.2.2.1⟩ hM (va_cwS n X.2.2.2.2.1 hgood rfl rfl rfl h5 ⟨by have := X.2.2.2.2.2.2.2.1.1; show d2 + 1 ≤ _; omega, by have := X.2.2.2.2.2.2.2.1.2; show 8 + (maxL + 11) + 40 * d2 ≤ _; omega⟩) ⟨PcM_blind G M _, fun U hU hW => ⟨rfl, by rw [hU]; exact hP, va_K.moved hW.alike X.2.2.2.2.2.1⟩⟩ rfl hn hl9.1 rfl (lv_room hw) hd ⟨hz.1, hz.2⟩) hS (fun q _ h => h) (fun q h => h) (fun u t H1 locs1 ht hvm hpost hB hz1 hk1 hS1 => ?_)
  exact kk u hpost H1 locs1 ls (by rw [← ht]; exact hB) hS1 hl9
theorem V_iret {post : Int32 → Mem → Prop} {v : Int32} (X : Cx E G cc own nL d (some .int)) (h : post v M) (hd : decode cc pc = .ok (.ireturn, 1)) : V E (0, 0) G nL (QI E G post) M pc lv [.int v] := by
  intro H locs ls hP hS hl
  exact W.iret X.1 X.2.1 X.2.2.2.2.2.2.2.2 (fun t ht hW => ⟨⟨v, M, rfl, h, by show va_P _ _ _ t.heap; rw [ht]; exact hP⟩, hS.F ht⟩) hS.2.2 hd X.2.2.2.2.2.2.1
theorem V_zret {post : Int32 → Mem → Prop} {v : Int32} (X : Cx E G cc own nL d (some .boolean)) (h : post v M) (hv : v = 0 ∨ v = 1) (hd : decode cc pc = .ok (.ireturn, 1)) : V E (0, 0) G nL (QI E G post) M pc lv [.int v] := by
  intro H locs ls hP hS hl
  exact W.zret X.1 X.2.1 X.2.2.2.2.2.2.2.2 (by rcases hv with rfl | rfl <;> decide) (fun t ht hW => ⟨⟨v, M, rfl, h, by show va_P _ _ _ t.heap; rw [ht]; exact hP⟩, hS.F ht⟩) hS.2.2 hd X.2.2.2.2.2.2.1
theorem V_lret {post : Int64 → Mem → Prop} {v : Int64} (X : Cx E G cc own nL d (some .long)) (h : post v M) (hd : decode cc pc = .ok (.lreturn, 1)) : V E (0, 0) G nL (QL E G post) M pc lv [.long v] := by
  intro H locs ls hP hS hl
  exact W.lret X.1 X.2.1 X.2.2.2.2.2.2.2.2 (fun t ht hW => ⟨⟨v, M, rfl, h, by show va_P _ _ _ t.heap; rw [ht]; exact hP⟩, hS.F ht⟩) hS.2.2 hd X.2.2.2.2.2.2.1
theorem V_vret {post : Mem → Prop} (X : Cx E G cc own nL d none) (h : post M) (hd : decode cc pc = .ok (.return_, 1)) : V E (0, 0) G nL (QV E G post) M pc lv [] := by
  intro H locs ls hP hS hl
  exact W.vret X.1 X.2.1 X.2.2.2.2.2.2.2.2 (fun t ht hW => ⟨⟨M, rfl, h, by show va_P _ _ _ t.heap; rw [ht]; exact hP⟩, hS.F ht⟩) hS.2.2 hd X.2.2.2.2.2.2.1
theorem Ci_of {l : Launch} {y : MethodName} {maxL : Nat} {av : List Value} {post : Int32 → Mem → Prop} (hy : plainName y.cls = true) (hl : (lg_sl av).length ≤ maxL) (body : ∀ E : Ev, E.2.1 = l → Cx E G cc y.cls maxL d ret → V E (0, 0) G maxL (QI E G post) M 0 (lv_args 0 av) []) : Ci l G y cc maxL ret d av M post := Met_of hy hl body
theorem Cl_of {l : Launch} {y : MethodName} {maxL : Nat} {av : List Value} {post : Int64 → Mem → Prop} (hy : plainName y.cls = true) (hl : (lg_sl av).length ≤ maxL) (body : ∀ E : Ev, E.2.1 = l → Cx E G cc y.cls maxL d ret → V E (0, 0) G maxL (QL E G post) M 0 (lv_args 0 av) []) : Cl l G y cc maxL ret d av M post := Met_of hy hl body
theorem Cv_of {l : Launch} {y : MethodName} {maxL : Nat} {av : List Value} {post : Mem → Prop} (hy : plainName y.cls = true) (hl : (lg_sl av).length ≤ maxL) (body : ∀ E : Ev, E.2.1 = l → Cx E G cc y.cls maxL d ret → V E (0, 0) G maxL (QV E G post) M 0 (lv_args 0 av) []) : Cv l G y cc maxL ret d av M post := Met_of hy hl body
theorem Z0 (E : Ev) : Zc E (0, 0) := ⟨Nat.zero_le _, Nat.zero_le _⟩
theorem V_mmax {idx : Nat} {x y : Int32} (X : Cx E G cc own nL d ret) (hz : Zc E cs) (hw : Cond.methodLink own idx Lib.Math.max.name ∈ gw ∧ Cond.static Lib.Math.max.name ∈ gw ∧ Cond.initialized "java/lang/Math" ∈ gw ∧ Cond.code Lib.Math.max.name Lib.Math.max.code 2 (some .int) ∈ gw) (h1 : 1 ≤ d) (hr : (st.map fun v => v.category).sum ≤ 8) (hd : decode cc pc = .ok (.invokestatic idx, 3)) (hp : pc + 3 = pc') (kk : V E cs G nL Q M pc' lv (.int (if x < y then y else x) :: st)) : V E cs G nL Q M pc lv (.int y :: .int x :: st) := by
  subst hp
  intro H locs ls hP hS hl
  have h2 := X.2.2.2.2.2.2.2.1
  exact va_mmax X.1 X.2.1 (X.2.2.1.trans hl.1.symm) X.2.2.2.1 (X.2.2.2.2.1 _ hw.1) (X.2.2.2.2.1 _ hw.2.1) (X.2.2.2.2.1 _ hw.2.2.1) (X.2.2.2.2.1 _ hw.2.2.2) (by omega) (by omega) hz.1 hz.2 hd (kk H locs ls hP hS hl)
theorem V_mmin {idx : Nat} {x y : Int32} (X : Cx E G cc own nL d ret) (hz : Zc E cs) (hw : Cond.methodLink own idx Lib.Math.min.name ∈ gw ∧ Cond.static Lib.Math.min.name ∈ gw ∧ Cond.initialized "java/lang/Math" ∈ gw ∧ Cond.code Lib.Math.min.name Lib.Math.min.code 2 (some .int) ∈ gw) (h1 : 1 ≤ d) (hr : (st.map fun v => v.category).sum ≤ 8) (hd : decode cc pc = .ok (.invokestatic idx, 3)) (hp : pc + 3 = pc') (kk : V E cs G nL Q M pc' lv (.int (if y < x then y else x) :: st)) : V E cs G nL Q M pc lv (.int y :: .int x :: st) := by
  subst hp
  intro H locs ls hP hS hl
  have h2 := X.2.2.2.2.2.2.2.1
  exact va_mmin X.1 X.2.1 (X.2.2.1.trans hl.1.symm) X.2.2.2.1 (X.2.2.2.2.1 _ hw.1) (X.2.2.2.2.1 _ hw.2.1) (X.2.2.2.2.1 _ hw.2.2.1) (X.2.2.2.2.1 _ hw.2.2.2) (by omega) (by omega) hz.1 hz.2 hd (kk H locs ls hP hS hl)
theorem V_mabs {idx : Nat} {x : Int32} (X : Cx E G cc own nL d ret) (hz : Zc E cs) (hw : Cond.methodLink own idx Lib.Math.abs.name ∈ gw ∧ Cond.static Lib.Math.abs.name ∈ gw ∧ Cond.initialized "java/lang/Math" ∈ gw ∧ Cond.code Lib.Math.abs.name Lib.Math.abs.code 1 (some .int) ∈ gw) (h1 : 1 ≤ d) (hr : (st.map fun v => v.category).sum ≤ 8) (hd : decode cc pc = .ok (.invokestatic idx, 3)) (hp : pc + 3 = pc') (kk : V E cs G nL Q M pc' lv (.int (if 0 ≤ x then x else 0 - x) :: st)) : V E cs G nL Q M pc lv (.int x :: st) := by
  subst hp
  intro H locs ls hP hS hl
  have h2 := X.2.2.2.2.2.2.2.1
  exact va_mabs X.1 X.2.1 (X.2.2.1.trans hl.1.symm) X.2.2.2.1 (X.2.2.2.2.1 _ hw.1) (X.2.2.2.2.1 _ hw.2.1) (X.2.2.2.2.1 _ hw.2.2.1) (X.2.2.2.2.1 _ hw.2.2.2) (by omega) (by omega) hz.1 hz.2 hd (kk H locs ls hP hS hl)
theorem V_copy {idx k0 k1 : Nat} {sp dp n : Int32} (X : Cx E G cc own nL d ret) (hw : Cond.methodLink own idx arraycopyName ∈ gw ∧ Cond.native arraycopyName ∈ gw ∧ Cond.static arraycopyName ∈ gw ∧ Cond.initialized "java/lang/System" ∈ gw) (h1 : 2 ≤ d) (hr : (st.map fun v => v.category).sum ≤ 8) (hk0 : kd k0 = 1) (hk1 : kd k1 = 1) (h3 : ¬ sp < 0) (h4 : ¬ dp < 0) (h5 : ¬ n < 0) (h6 : sp.toNatClampNeg + n.toNatClampNeg ≤ ln k0) (h7 : dp.toNatClampNeg + n.toNatClampNeg ≤ ln k1) (hd : decode cc pc = .ok (.invokestatic idx, 3)) (hp : pc + 3 = pc')
    (kk : V E cs G nL Q (s_c M k0 k1 sp.toNatClampNeg dp.toNatClampNeg n.toNatClampNeg) pc' lv st) : V E cs G nL Q M pc lv (.int n :: .int dp :: .ref (G.2.2 + k1) :: .int sp :: .ref (G.2.2 + k0) :: st) := by
  subst hp
  intro H locs ls hP hS hl
  have h2 := X.2.2.2.2.2.2.2.1
  have hnw : nativeFrameWords "java/lang/System" "arraycopy" 5 ≤ 60 := by decide +kernel
  refine va_copyi X.1 X.2.1 (X.2.2.1.trans hl.1.symm) X.2.2.2.1 (X.2.2.2.2.1 _ hw.1) (X.2.2.2.2.1 _ hw.2.1) (X.2.2.2.2.1 _ hw.2.2.1) (X.2.2.2.2.1 _ hw.2.2.2) X.2.2.2.2.2.1 hP (wsM_D G M) hS k0 k1 0 0 (by rw [wsM_get G M (kd_lt (by omega)), dsc_i hk0 (by decide)]) (by rw [wsM_get G M (kd_lt (by omega)), dsc_i hk1 (by decide)]) rfl rfl rfl h3 h4 h5 h6 h7 (fun i _ => rfl) (by omega) (by omega) hd (fun H1 locs1 hP1 _ hS1 => ?_)
  rw [wsM_set (M' := s_c M k0 k1 sp.toNatClampNeg dp.toNatClampNeg n.toNatClampNeg) (fun a h => dsc_sc h) (by rw [dsc_i hk1 (by decide)]; congr 4; funext b; simp [s_c])] at hP1
  exact kk H1 locs1 ls hP1 hS1 hl
end VCALL
