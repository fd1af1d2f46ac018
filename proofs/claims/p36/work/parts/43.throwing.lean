/-! methods that throw NoSuchElementException, and those that catch it -/
def nse : String := "java/util/NoSuchElementException"
def thN : List String := ["java/lang/RuntimeException", "java/lang/Exception"]
def Tw (G : Gw) (U : State) (H : Heap) : Prop := vx_Zq Bundle.tN "UNASSIGNED_STACK" Bundle.steD (fun q => G.2.2 ≤ q) U H ∧ vx_Zq Bundle.tN "SUPPRESSED_SENTINEL" Bundle.listD (fun q => G.2.2 ≤ q) U H ∧ va_Nw (.castable nse nse) U ∧ va_Nw (.declares ⟨"java/lang/RuntimeException", "<init>", "()V"⟩) U ∧ va_Nw (.declares ⟨"java/lang/Exception", "<init>", "()V"⟩) U ∧ va_Nw (.declares ⟨"java/lang/Throwable", "<init>", "()V"⟩) U
theorem Tw.warm {G : Gw} {s U : State} {H : Heap} {locs : List Loc} (h : Tw G s s.heap) (hS : va_S (fun q => G.2.2 ≤ q) s.heap H locs) (hU : U.heap = H) (hW : s.WarmedH U.vm) : Tw G U U.heap := by
  obtain ⟨h1, h2, h3, h4, h5, h6⟩ := h
  rw [hU]
  exact ⟨vx_Zq.moved hW.alike (h1.kept hS.2.1), vx_Zq.moved hW.alike (h2.kept hS.2.1), va_Nw.warmC hW h3, va_Nw.warmD hW h4, va_Nw.warmD hW h5, va_Nw.warmD hW h6⟩
def PcT (G : Gw) (M : Mem) (av : List Value) : Array Value → State → Prop := va_Pc av (fun U => va_P G.1 clsL (wsM G M) U.heap ∧ va_K G.1 clsL (tysM G) U ∧ Tw G U U.heap)
theorem PcT_blind (G : Gw) (M : Mem) (av : List Value) : FrameBlind (PcT G M av) := fun a U g mk q => by
  obtain ⟨q0, qP, qK, q1, q2, q3, q4, q5, q6⟩ := q
  exact ⟨q0, qP, va_K.moved (u := U) (U := U.calling g mk a) (Vm.Alike.refl U.vm) qK, vx_Zq.moved (u := U) (U := U.calling g mk a) (Vm.Alike.refl U.vm) q1, vx_Zq.moved (u := U) (U := U.calling g mk a) (Vm.Alike.refl U.vm) q2, va_Nw.same (u := U) (U := U.calling g mk a) rfl rfl q3, va_Nw.same (u := U) (U := U.calling g mk a) rfl rfl q4, va_Nw.same (u := U) (U := U.calling g mk a) rfl rfl q5, va_Nw.same (u := U) (U := U.calling g mk a) rfl rfl q6⟩
abbrev XCj (G : Gw) (post : Option Int32 → Mem → Prop) : String → State → State → Prop := vx_X (S := Mem) (fun u => post none u) (fun E u t => E = nse ∧ va_P G.1 clsL (wsM G u) t.heap) (fun q => G.2.2 ≤ q)
abbrev QCj (G : Gw) (post : Option Int32 → Mem → Prop) : Array Value → State → Outcome → State → Prop := va_Qi (S := Mem) (fun r u => post (some r) u) (BM G) (fun q => G.2.2 ≤ q)
/-- a contract of a method that returns or throws; one cell of six slots may be new -/
def Cj (l : Launch) (G : Gw) (y : MethodName) (cc : ByteArray) (maxL : Nat) (ret : Option FieldType) (d : Nat) (av : List Value) (M : Mem) (post : Option Int32 → Mem → Prop) : Prop :=
  vx_Met l y (wsY y cc maxL ret) (rmN d 1 6) (PcT G M av) (QCj G post) (XCj G post) 1 6 (fun q => G.2.2 ≤ q)
abbrev QX (E : Ev) (G : Gw) (post : Option Int32 → Mem → Prop) : State → Prop := vx_MQ E.2.2.2.2.2.2.2.1 (QCj G post) (XCj G post) E.2.2.2.2.2.2.1 E.2.2.2.2.1 1 6 (fun q => G.2.2 ≤ q)
abbrev NoT (E : Ev) : Prop := ∀ x ∈ E.2.2.2.2.2.2.2.2.2.exceptionTable.toList, False
theorem Cj_of {l : Launch} {G : Gw} {y : MethodName} {cc : ByteArray} {maxL : Nat} {ret : Option FieldType} {d : Nat} {av : List Value} {M : Mem} {post : Option Int32 → Mem → Prop} (hy : plainName y.cls = true) (hl : (lg_sl av).length ≤ maxL)
    (body : ∀ E : Ev, E.2.1 = l → Cx E G cc y.cls maxL d ret → Tw G E.2.2.2.2.1 E.2.2.2.2.1.heap → NoT E → E.2.2.2.1 = rmN d 1 6 → V E (0, 0) G maxL (QX E G post) M 0 (lv_args 0 av) []) : Cj l G y cc maxL ret d av M post := by
  refine vx_ofW (cc := cc) (maxL := maxL) (ret := ret) hy rfl ?_
  intro p e s m args below meth c s₁ B hml ht hv
  obtain ⟨rfl, hP, hK, hT⟩ := hv
  have hts := atoms_spec (ws := wsY y cc maxL ret) B.pre
  rw [lg_entry_eq]
  have h := body (p, l, e, rmN d 1 6, s, m, av.toArray, below, meth, c) rfl ⟨B.exec, B.bytes, hml, findClass_of_methodNamed B.named, fun w hw => hts w (List.mem_cons_of_mem _ hw), hK, B.notSynchronized, ⟨Nat.le_refl _, Nat.le_refl _⟩, B.returns⟩ hT ht rfl
  exact h s.heap [] _ hP va_S.rf (lv_entry av hl)
def th_c : List Cond := tables_1_5.drop 180 ++ (tables_1_6.take 20 ++ (tables_1_1.drop 12).take 10)
theorem th_cm : ∀ w ∈ th_c, w ∈ lw_tbl := by
  intro w hw
  rcases List.mem_append.mp hw with h | h
  · exact List.mem_append_right _ (List.mem_append_right _ (List.mem_append_right _ (List.mem_append_right _ (List.mem_append_right _ (List.mem_append_left _ (List.mem_of_mem_drop h))))))
  · rcases List.mem_append.mp h with h | h
    · exact List.mem_append_right _ (List.mem_append_right _ (List.mem_append_right _ (List.mem_append_right _ (List.mem_append_right _ (List.mem_append_right _ (List.mem_append_left _ (List.mem_of_mem_take h)))))))
    · exact List.mem_append_right _ (List.mem_append_left _ (List.mem_of_mem_drop (List.mem_of_mem_take h)))
theorem th_1 : (vx_at0 "WomenByTheRoofs" 166 nse thN).all (fun w => th_c.contains w || lw_tbl.contains w) = true := by decide +kernel
theorem th_2 : ∀ w ∈ (vx_at0 "WomenByTheRoofs" 166 nse thN).filter (fun w => !goodWord w), w ∈ [Cond.castable nse nse, .declares ⟨"java/lang/RuntimeException", "<init>", "()V"⟩, .declares ⟨"java/lang/Exception", "<init>", "()V"⟩, .declares ⟨"java/lang/Throwable", "<init>", "()V"⟩] := by decide +kernel
theorem th_3 : ∀ w ∈ Cond.classLink "WomenByTheRoofs" 164 nse :: Cond.initialized nse :: vx_at0 "WomenByTheRoofs" 166 nse thN, vx_ot w = true := by decide +kernel
theorem th_4 : ∀ w ∈ (vx_at0 "WomenByTheRoofs" 166 nse thN).filter goodWord, w ∈ gw := by
  intro w hw
  obtain ⟨h1, h2⟩ := List.mem_filter.mp hw
  refine List.mem_filter.mpr ⟨?_, h2⟩
  have h3 := List.all_eq_true.mp th_1 w h1
  rw [Bool.or_eq_true] at h3
  rcases h3 with h3 | h3
  · exact th_cm w (List.contains_iff_mem.mp h3)
  · exact List.contains_iff_mem.mp h3
section VTH
variable {E : Ev} {cs : Nat × Nat} {G : Gw} {cc : ByteArray} {own : String} {nL d : Nat} {ret : Option FieldType} {Q : State → Prop} {M : Mem} {pc pc' : Nat} {lv lv' : List (Nat × Value)} {st rest : List Value} {post : Option Int32 → Mem → Prop}
theorem V_iretX {v : Int32} (X : Cx E G cc own nL d (some .int)) (h : post (some v) M) (hd : decode cc pc = .ok (.ireturn, 1)) : V E (0, 0) G nL (QX E G post) M pc lv [.int v] := by
  intro H locs ls hP hS hl
  refine vx_ret (W.widen (k := 1) (n := 6) (Nat.zero_le _) (Nat.zero_le _) ?_)
  exact W.iret X.1 X.2.1 X.2.2.2.2.2.2.2.2 (fun t ht hW => ⟨⟨v, M, rfl, h, by show va_P _ _ _ t.heap; rw [ht]; exact hP⟩, hS.F ht⟩) hS.2.2 hd X.2.2.2.2.2.2.1
theorem V_throw (X : Cx E G cc "WomenByTheRoofs" nL d ret) (hT : Tw G E.2.2.2.2.1 E.2.2.2.2.1.heap) (hx9 : NoT E) (hR : E.2.2.2.1 = rmN d 1 6) (hs9 : E.2.1.stackTraces = false) (h10 : 10 ≤ d) (hw : Cond.classLink "WomenByTheRoofs" 164 nse ∈ gw ∧ Cond.initialized nse ∈ gw) (h : post none M) (hr : (st.map fun v => v.category).sum ≤ 8)
    (d0 : decode cc pc = .ok (.new 164, 3)) (d3 : decode cc (pc + 3) = .ok (.dup, 1)) (d4 : decode cc (pc + 4) = .ok (.invokespecial 166, 3)) (d7 : decode cc (pc + 7) = .ok (.athrow, 1)) : V E (0, 0) G nL (QX E G post) M pc lv st := by
  intro H locs ls hP hS hl
  have h2 := X.2.2.2.2.2.2.2.1
  refine vx_throw0 X.1 X.2.1 hs9 (own := "WomenByTheRoofs") (cls := nse) (names := thN) (ik := 164) (ic := 166) (mc := 1) (ms := 6) (A := fun q => G.2.2 ≤ q) X.2.2.2.1 (by decide) (by decide) (X.2.2.2.2.1 _ hw.1) (X.2.2.2.2.1 _ hw.2) (vx_hat (fun w h => X.2.2.2.2.1 _ (th_4 w h)) th_2 (vx_c (va_Nw.use rfl hT.2.2.1) (vx_c (va_Nw.use rfl hT.2.2.2.1) (vx_c (va_Nw.use rfl hT.2.2.2.2.1) (vx_c (va_Nw.use rfl hT.2.2.2.2.2) vx_n))))) th_3 hT.1 hT.2.1 hS (hl.1.trans X.2.2.1.symm) d0 d3 d4 d7 (fun x hx => (hx9 x hx).elim) (by show 2 + 3 < _; omega) (by show _ + (13 * (2 + 1) + 42) ≤ _; omega) (by rw [hR]; exact Nat.le_refl _) (by rw [hR]; exact Nat.le_refl _) X.2.2.2.2.2.2.1 (fun t hvm hz hk => ⟨M, h, ⟨rfl, ?_⟩, ?_⟩) hS.2.2 (Nat.le_refl _) (Nat.le_refl _)
  · exact hP.kept (fun k q hq => hk q.1 ((hP k q hq).lt))
  · exact ⟨Nat.le_trans hS.1 hz, fun q h1 h3 => by rw [hk q (Nat.lt_of_lt_of_le h1 hS.1)]; exact hS.2.1 q h1 h3⟩
theorem V_cj {k idx c n d2 maxL hpc : Nat} {C : String} {y : MethodName} {b2 : ByteArray} {ret2 : Option FieldType} {As : List Value} {cs' : Nat × Nat} (X : Cx E G cc own nL d ret) (hT : Tw G E.2.2.2.2.1 E.2.2.2.2.1.heap) (hcs : cs.1 + 1 ≤ E.2.2.2.1.cells ∧ cs.2 + 6 ≤ E.2.2.2.1.slots) (hc9 : (cs.1 + 1, cs.2 + 6) = cs') (hl : Cond.methodLink own idx y ∈ gw) (hy : yV C y b2 maxL ret2 n) (hM : Cj E.2.1 G y b2 maxL ret2 d2 (.ref (G.2.2 + k) :: As) M post) (hk : kd k = 10 + c) (hc : (clsL[c]?).map (fun q => q.1) = some C) (hn : As.length = n) (hd2 : d2 + 1 ≤ d) (hs : st = As.reverse ++ .ref (G.2.2 + k) :: rest) (hw : (rest.map fun v => v.category).sum ≤ 8)
    {x9 : ExceptionTableEntry} (hx1 : E.2.2.2.2.2.2.2.2.2.exceptionTable.toList = [x9]) (hx2 : covers x9 pc = true) (hx3 : x9.catchType ≠ 0) (hx4 : Cond.classLink own x9.catchType nse ∈ gw) (hx5 : x9.handlerPc = hpc) (hd : decode cc pc = .ok (.invokevirtual idx, 3)) (hp : pc + 3 = pc')
    (kk : ∀ (r : Int32) (M' : Mem), post (some r) M' → V E cs' G nL Q M' pc' lv (.int r :: rest)) (kx : ∀ (M' : Mem) (q : Nat), post none M' → V E cs' G nL Q M' hpc lv [.ref q]) : V E cs G nL Q M pc lv st := by
  subst hp; subst hs; subst hc9; subst hx5
  intro H locs ls hP hS hl9
  have hkn : k < NT := kd_lt (by omega)
  have hgood := goodV hl hy
  obtain ⟨-, -, -, -, h5, h6⟩ := hy
  obtain ⟨q, hq, hqC⟩ := Option.map_eq_some_iff.mp hc
  refine vx_calli (A0 := fun q => G.2.2 ≤ q) (vx_runV (As := As) (rest := rest) ⟨X.1, X.2.1, X.2.2.1, X.2.2.2.1, X.2.2.2.2.1⟩ hM (cwV (C := C) n X.2.2.2.2.1 hgood rfl rfl rfl h5 ⟨by have := X.2.2.2.2.2.2.2.1.1; show d2 + 1 ≤ _; omega, by have := X.2.2.2.2.2.2.2.1.2; show 8 + (maxL + 11) + 40 * d2 ≤ _; omega⟩) ⟨PcT_blind G M _, by rw [← hqC]; exact va_recv X.2.2.2.2.2.1 hP hq (by rw [wsM_get G M hkn, dsc_o hk]), fun U hU hW => ⟨rfl, by rw [hU]; exact hP, va_K.moved hW.alike X.2.2.2.2.2.1, hT.warm hS hU hW⟩⟩ rfl hn hl9.1 rfl (lv_room hw) hd ⟨hcs.1, hcs.2⟩) hS (fun q _ h => h) (fun q h => h) (fun q _ h => h) (fun E9 ce q9 u t H1 locs1 ht hvm hpx hB hz1 hk1 hS1 hce hcv hcl => ?_) (fun r u t H1 locs1 ht hvm hpost hB hz1 hk1 hS1 => ?_)
  · obtain ⟨rfl, hB⟩ := hB
    refine vx_catch (own := own) (name := nse) (E := nse) X.2.2.2.1 [] x9 [] hx1 (fun z hz => nomatch hz) hx2 hx3 (X.2.2.2.2.1 _ hx4) (va_Nw.use rfl hT.2.2.1) hce hcv hcl ?_
    exact kx u q9 hpx H1 locs1 ls (by rw [← ht]; exact hB) hS1 hl9
  · exact kk r u hpost H1 locs1 ls (by rw [← ht]; exact hB) hS1 hl9
end VTH
