/-! the law's own three: an answer laid into the row of one long, or 1 where it was thrown -/
def hv (y : Option Int32) (M : Mem) : Int32 × Mem := match y with
  | some r => (0, s_l M 192 0 r.toInt64)
  | none => (1, M)
def Ch (l : Launch) (G : Gw) (y : MethodName) (cc : ByteArray) (maxL : Nat) (ret : Option FieldType) (hh : List (Nat × Nat × Nat × Nat)) (d : Nat) (av : List Value) (M : Mem) (post : Int32 → Mem → Prop) : Prop :=
  Met l y (Cond.codeWith y cc maxL ret hh :: gw) (rmN d 1 6) (PcT G M av) (va_Qi (S := Mem) post (BM G) (fun q => G.2.2 ≤ q)) 1 6 (fun q => G.2.2 ≤ q)
abbrev QH (E : Ev) (G : Gw) (post : Int32 → Mem → Prop) : State → Prop := MQ E.2.2.2.2.2.2.2.1 (va_Qi (S := Mem) post (BM G) (fun q => G.2.2 ≤ q)) E.2.2.2.2.2.2.1 E.2.2.2.2.1 1 6 (fun q => G.2.2 ≤ q)
theorem Ch_of {l : Launch} {G : Gw} {y : MethodName} {cc : ByteArray} {maxL : Nat} {ret : Option FieldType} {hh : List (Nat × Nat × Nat × Nat)} {d : Nat} {av : List Value} {M : Mem} {post : Int32 → Mem → Prop} (hy : plainName y.cls = true) (hl : (lg_sl av).length ≤ maxL)
    (body : ∀ E : Ev, E.2.1 = l → Cx E G cc y.cls maxL d ret → Tw G E.2.2.2.2.1 E.2.2.2.2.1.heap → E.2.2.2.2.2.2.2.2.2.exceptionTable.toList = tableOf hh → E.2.2.2.1 = rmN d 1 6 → V E (0, 0) G maxL (QH E G post) M 0 (lv_args 0 av) []) : Ch l G y cc maxL ret hh d av M post := by
  refine va_MetW (cc := cc) (maxL := maxL) (ret := ret) (hh := hh) hy rfl ?_
  intro p e s m args below meth c s₁ B hml hv
  obtain ⟨rfl, hP, hK, hT⟩ := hv
  have hts := atoms_spec (ws := Cond.codeWith y cc maxL ret hh :: gw) B.pre
  have htb := vx_table (x := y) B (hts _ List.mem_cons_self)
  rw [lg_entry_eq]
  have h := body (p, l, e, rmN d 1 6, s, m, av.toArray, below, meth, c) rfl ⟨B.exec, B.bytes, hml, findClass_of_methodNamed B.named, fun w hw => hts w (List.mem_cons_of_mem _ hw), hK, B.notSynchronized, ⟨Nat.le_refl _, Nat.le_refl _⟩, B.returns⟩ hT htb rfl
  exact h s.heap [] _ hP va_S.rf (lv_entry av hl)
theorem V_iretH {E : Ev} {G : Gw} {cc : ByteArray} {own : String} {nL d : Nat} {M : Mem} {pc : Nat} {lv : List (Nat × Value)} {post : Int32 → Mem → Prop} {v : Int32} (X : Cx E G cc own nL d (some .int)) (h : post v M) (hd : decode cc pc = .ok (.ireturn, 1)) : V E (1, 6) G nL (QH E G post) M pc lv [.int v] := by
  intro H locs ls hP hS hl
  exact W.iret X.1 X.2.1 X.2.2.2.2.2.2.2.2 (fun t ht hW => ⟨⟨v, M, rfl, h, by show va_P _ _ _ t.heap; rw [ht]; exact hP⟩, hS.F ht⟩) hS.2.2 hd X.2.2.2.2.2.2.1
theorem nsl_w : Cond.classLink "WomenByTheRoofsLaw" 13 nse ∈ gw := gt_5 187 rfl rfl
def y_Lw_cell : MethodName := ⟨"WomenByTheRoofsLaw", "cell", "(LWomenByTheRoofs;II[J)I"⟩
abbrev b_Lw_cell : ByteArray := method_3_code
theorem d_Lw_cell_0 : decode b_Lw_cell 0 = .ok (.aload_n 3, 1) := kq_45 byq_r (by decide +kernel)
theorem d_Lw_cell_1 : decode b_Lw_cell 1 = .ok (.iconst 0, 1) := kq_3 byq_r (by decide +kernel)
theorem d_Lw_cell_2 : decode b_Lw_cell 2 = .ok (.aload_n 0, 1) := kq_42 byq_r (by decide +kernel)
theorem d_Lw_cell_3 : decode b_Lw_cell 3 = .ok (.iload_n 1, 1) := kq_27 byq_r (by decide +kernel)
theorem d_Lw_cell_4 : decode b_Lw_cell 4 = .ok (.iload_n 2, 1) := kq_28 byq_r (by decide +kernel)
theorem d_Lw_cell_5 : decode b_Lw_cell 5 = .ok (.invokevirtual 7, 3) := kq_182 byq_r (a := 0) (b := 7) (by decide +kernel)
theorem d_Lw_cell_8 : decode b_Lw_cell 8 = .ok (.i2l, 1) := kq_133 byq_r (by decide +kernel)
theorem d_Lw_cell_9 : decode b_Lw_cell 9 = .ok (.lastore, 1) := kq_80 byq_r (by decide +kernel)
theorem d_Lw_cell_10 : decode b_Lw_cell 10 = .ok (.goto 7, 3) := kq_167 byq_r (a := 0) (b := 7) (by decide +kernel)
theorem d_Lw_cell_13 : decode b_Lw_cell 13 = .ok (.astore 4, 2) := kq_58 byq_r (by decide +kernel)
theorem d_Lw_cell_15 : decode b_Lw_cell 15 = .ok (.iconst 1, 1) := kq_4 byq_r (by decide +kernel)
theorem d_Lw_cell_16 : decode b_Lw_cell 16 = .ok (.ireturn, 1) := kq_172 byq_r (by decide +kernel)
theorem d_Lw_cell_17 : decode b_Lw_cell 17 = .ok (.iconst 0, 1) := kq_3 byq_r (by decide +kernel)
theorem d_Lw_cell_18 : decode b_Lw_cell 18 = .ok (.ireturn, 1) := kq_172 byq_r (by decide +kernel)
theorem yh_Lw_cell : Cond.static y_Lw_cell ∈ gw ∧ Cond.initialized y_Lw_cell.cls ∈ gw ∧ Cond.codeWith y_Lw_cell b_Lw_cell 5 (some .int) [(0, 10, 13, 13)] ∈ gw ∧ (y_Lw_cell.cls ≠ "java/lang/invoke/MethodHandle" ∧ y_Lw_cell.cls ≠ "java/lang/invoke/VarHandle" ∧ (parseMethodDescriptor y_Lw_cell.desc).map (fun d => d.parameters.length) = some 4) := ⟨gt_5 185 rfl rfl, gt_1 0 rfl rfl, gt_5 186 rfl rfl, by decide +kernel⟩
def f_Lw_cell (v1 : Int32) (v2 : Int32) (M : Mem) : Option (Int32 × Mem) := Option.bind (f_Top_cell v1 v2 M) fun y => some (hv y M)
theorem c_Lw_cell (l : Launch) (hl9 : l.stackTraces = false) (G : Gw) (v1 : Int32) (v2 : Int32) (M : Mem) (x : Int32 × Mem) (h : f_Lw_cell v1 v2 M = some x) (d : Nat) (hD : 12 ≤ d) : Ch l G y_Lw_cell b_Lw_cell 5 (some .int) [(0, 10, 13, 13)] d [.ref (G.2.2 + 0), .int v1, .int v2, .ref (G.2.2 + 192)] M (fun r9 M9 => r9 = x.1 ∧ M9 = x.2) := by
  refine Ch_of (by decide) (Nat.le_of_ble_eq_true rfl) (fun E hE X hT htb hR => ?_)
  subst hE
  unfold f_Lw_cell at h
  obtain ⟨y, hy, h⟩ := ob_s h
  refine V_aload_n (n := 3) X d_Lw_cell_0 rfl rfl rfl ?_
  refine V_iconst (v := 0) X d_Lw_cell_1 (by decide) rfl ?_
  refine V_aload_n (n := 0) X d_Lw_cell_2 rfl rfl rfl ?_
  refine V_iload_n (n := 1) X d_Lw_cell_3 rfl rfl rfl ?_
  refine V_iload_n (n := 2) X d_Lw_cell_4 rfl rfl rfl ?_
  refine V_cj (As := [.int v1, .int v2]) (k := 0) (c := 11) (cs' := (1, 6)) (hpc := 13) X hT (by rw [hR]; exact ⟨Nat.le_refl _, Nat.le_refl _⟩) rfl ml_Lw_7 yq_Top_cell (c_Top_cell E.2.1 hl9 G v1 v2 M y hy _ (Nat.le_refl _)) kd_0 rfl rfl (by omega) rfl (Nat.le_of_ble_eq_true rfl) (x9 := ⟨0, 10, 13, 13⟩) htb (by decide) (by decide) nsl_w rfl d_Lw_cell_5 rfl (fun r M9 hp => ?_) (fun M9 q hp => ?_)
  · have e1 : hv y M = (0, s_l M9 192 0 r.toInt64) := by rw [← hp.1, ← hp.2]; rfl
    refine V_i2l X d_Lw_cell_8 rfl ?_
    refine V_last X kd_192 (inb_in ln_192 (by decide)) d_Lw_cell_9 rfl ?_
    refine V_goto (pc' := 17) X d_Lw_cell_10 (by decide) ?_
    refine V_iconst (v := 0) X d_Lw_cell_17 (by decide) rfl ?_
    exact V_iretH X (by rw [← Option.some.inj h, e1]; exact ⟨rfl, rfl⟩) d_Lw_cell_18
  · have e1 : hv y M = (1, M9) := by rw [← hp.1, ← hp.2]; rfl
    refine V_astore (lv' := [(4, .ref q), (0, .ref (G.2.2 + 0)), (1, .int v1), (2, .int v2), (3, .ref (G.2.2 + 192))]) X d_Lw_cell_13 (by decide) rfl rfl ?_
    refine V_iconst (v := 1) X d_Lw_cell_15 (by decide) rfl ?_
    exact V_iretH X (by rw [← Option.some.inj h, e1]; exact ⟨rfl, rfl⟩) d_Lw_cell_16
def y_Lw_person : MethodName := ⟨"WomenByTheRoofsLaw", "person", "(LWomenByTheRoofs;II[J)I"⟩
abbrev b_Lw_person : ByteArray := method_4_code
theorem d_Lw_person_0 : decode b_Lw_person 0 = .ok (.aload_n 3, 1) := kq_45 byq_r (by decide +kernel)
theorem d_Lw_person_1 : decode b_Lw_person 1 = .ok (.iconst 0, 1) := kq_3 byq_r (by decide +kernel)
theorem d_Lw_person_2 : decode b_Lw_person 2 = .ok (.aload_n 0, 1) := kq_42 byq_r (by decide +kernel)
theorem d_Lw_person_3 : decode b_Lw_person 3 = .ok (.iload_n 1, 1) := kq_27 byq_r (by decide +kernel)
theorem d_Lw_person_4 : decode b_Lw_person 4 = .ok (.iload_n 2, 1) := kq_28 byq_r (by decide +kernel)
theorem d_Lw_person_5 : decode b_Lw_person 5 = .ok (.invokevirtual 15, 3) := kq_182 byq_r (a := 0) (b := 15) (by decide +kernel)
theorem d_Lw_person_8 : decode b_Lw_person 8 = .ok (.i2l, 1) := kq_133 byq_r (by decide +kernel)
theorem d_Lw_person_9 : decode b_Lw_person 9 = .ok (.lastore, 1) := kq_80 byq_r (by decide +kernel)
theorem d_Lw_person_10 : decode b_Lw_person 10 = .ok (.goto 7, 3) := kq_167 byq_r (a := 0) (b := 7) (by decide +kernel)
theorem d_Lw_person_13 : decode b_Lw_person 13 = .ok (.astore 4, 2) := kq_58 byq_r (by decide +kernel)
theorem d_Lw_person_15 : decode b_Lw_person 15 = .ok (.iconst 1, 1) := kq_4 byq_r (by decide +kernel)
theorem d_Lw_person_16 : decode b_Lw_person 16 = .ok (.ireturn, 1) := kq_172 byq_r (by decide +kernel)
theorem d_Lw_person_17 : decode b_Lw_person 17 = .ok (.iconst 0, 1) := kq_3 byq_r (by decide +kernel)
theorem d_Lw_person_18 : decode b_Lw_person 18 = .ok (.ireturn, 1) := kq_172 byq_r (by decide +kernel)
theorem yh_Lw_person : Cond.static y_Lw_person ∈ gw ∧ Cond.initialized y_Lw_person.cls ∈ gw ∧ Cond.codeWith y_Lw_person b_Lw_person 5 (some .int) [(0, 10, 13, 13)] ∈ gw ∧ (y_Lw_person.cls ≠ "java/lang/invoke/MethodHandle" ∧ y_Lw_person.cls ≠ "java/lang/invoke/VarHandle" ∧ (parseMethodDescriptor y_Lw_person.desc).map (fun d => d.parameters.length) = some 4) := ⟨gt_6 14 rfl rfl, gt_1 0 rfl rfl, gt_6 15 rfl rfl, by decide +kernel⟩
def f_Lw_person (v1 : Int32) (v2 : Int32) (M : Mem) : Option (Int32 × Mem) := Option.bind (f_Top_person v1 v2 M) fun y => some (hv y.1 y.2)
theorem c_Lw_person (l : Launch) (hl9 : l.stackTraces = false) (G : Gw) (v1 : Int32) (v2 : Int32) (M : Mem) (x : Int32 × Mem) (h : f_Lw_person v1 v2 M = some x) (d : Nat) (hD : 12 ≤ d) : Ch l G y_Lw_person b_Lw_person 5 (some .int) [(0, 10, 13, 13)] d [.ref (G.2.2 + 0), .int v1, .int v2, .ref (G.2.2 + 192)] M (fun r9 M9 => r9 = x.1 ∧ M9 = x.2) := by
  refine Ch_of (by decide) (Nat.le_of_ble_eq_true rfl) (fun E hE X hT htb hR => ?_)
  subst hE
  unfold f_Lw_person at h
  obtain ⟨y, hy, h⟩ := ob_s h
  refine V_aload_n (n := 3) X d_Lw_person_0 rfl rfl rfl ?_
  refine V_iconst (v := 0) X d_Lw_person_1 (by decide) rfl ?_
  refine V_aload_n (n := 0) X d_Lw_person_2 rfl rfl rfl ?_
  refine V_iload_n (n := 1) X d_Lw_person_3 rfl rfl rfl ?_
  refine V_iload_n (n := 2) X d_Lw_person_4 rfl rfl rfl ?_
  refine V_cj (As := [.int v1, .int v2]) (k := 0) (c := 11) (cs' := (1, 6)) (hpc := 13) X hT (by rw [hR]; exact ⟨Nat.le_refl _, Nat.le_refl _⟩) rfl ml_Lw_15 yq_Top_person (c_Top_person E.2.1 hl9 G v1 v2 M y hy _ (Nat.le_refl _)) kd_0 rfl rfl (by omega) rfl (Nat.le_of_ble_eq_true rfl) (x9 := ⟨0, 10, 13, 13⟩) htb (by decide) (by decide) nsl_w rfl d_Lw_person_5 rfl (fun r M9 hp => ?_) (fun M9 q hp => ?_)
  · have e1 : hv y.1 y.2 = (0, s_l M9 192 0 r.toInt64) := by rw [← hp.1, ← hp.2]; rfl
    refine V_i2l X d_Lw_person_8 rfl ?_
    refine V_last X kd_192 (inb_in ln_192 (by decide)) d_Lw_person_9 rfl ?_
    refine V_goto (pc' := 17) X d_Lw_person_10 (by decide) ?_
    refine V_iconst (v := 0) X d_Lw_person_17 (by decide) rfl ?_
    exact V_iretH X (by rw [← Option.some.inj h, e1]; exact ⟨rfl, rfl⟩) d_Lw_person_18
  · have e1 : hv y.1 y.2 = (1, M9) := by rw [← hp.1, ← hp.2]; rfl
    refine V_astore (lv' := [(4, .ref q), (0, .ref (G.2.2 + 0)), (1, .int v1), (2, .int v2), (3, .ref (G.2.2 + 192))]) X d_Lw_person_13 (by decide) rfl rfl ?_
    refine V_iconst (v := 1) X d_Lw_person_15 (by decide) rfl ?_
    exact V_iretH X (by rw [← Option.some.inj h, e1]; exact ⟨rfl, rfl⟩) d_Lw_person_16
def y_Lw_row : MethodName := ⟨"WomenByTheRoofsLaw", "row", "(LWomenByTheRoofs;I[J)I"⟩
abbrev b_Lw_row : ByteArray := method_5_code
theorem d_Lw_row_0 : decode b_Lw_row 0 = .ok (.aload_n 2, 1) := kq_44 byq_r (by decide +kernel)
theorem d_Lw_row_1 : decode b_Lw_row 1 = .ok (.iconst 0, 1) := kq_3 byq_r (by decide +kernel)
theorem d_Lw_row_2 : decode b_Lw_row 2 = .ok (.aload_n 0, 1) := kq_42 byq_r (by decide +kernel)
theorem d_Lw_row_3 : decode b_Lw_row 3 = .ok (.iload_n 1, 1) := kq_27 byq_r (by decide +kernel)
theorem d_Lw_row_4 : decode b_Lw_row 4 = .ok (.invokevirtual 18, 3) := kq_182 byq_r (a := 0) (b := 18) (by decide +kernel)
theorem d_Lw_row_7 : decode b_Lw_row 7 = .ok (.i2l, 1) := kq_133 byq_r (by decide +kernel)
theorem d_Lw_row_8 : decode b_Lw_row 8 = .ok (.lastore, 1) := kq_80 byq_r (by decide +kernel)
theorem d_Lw_row_9 : decode b_Lw_row 9 = .ok (.goto 6, 3) := kq_167 byq_r (a := 0) (b := 6) (by decide +kernel)
theorem d_Lw_row_12 : decode b_Lw_row 12 = .ok (.astore_n 3, 1) := kq_78 byq_r (by decide +kernel)
theorem d_Lw_row_13 : decode b_Lw_row 13 = .ok (.iconst 1, 1) := kq_4 byq_r (by decide +kernel)
theorem d_Lw_row_14 : decode b_Lw_row 14 = .ok (.ireturn, 1) := kq_172 byq_r (by decide +kernel)
theorem d_Lw_row_15 : decode b_Lw_row 15 = .ok (.iconst 0, 1) := kq_3 byq_r (by decide +kernel)
theorem d_Lw_row_16 : decode b_Lw_row 16 = .ok (.ireturn, 1) := kq_172 byq_r (by decide +kernel)
theorem yh_Lw_row : Cond.static y_Lw_row ∈ gw ∧ Cond.initialized y_Lw_row.cls ∈ gw ∧ Cond.codeWith y_Lw_row b_Lw_row 4 (some .int) [(0, 9, 12, 13)] ∈ gw ∧ (y_Lw_row.cls ≠ "java/lang/invoke/MethodHandle" ∧ y_Lw_row.cls ≠ "java/lang/invoke/VarHandle" ∧ (parseMethodDescriptor y_Lw_row.desc).map (fun d => d.parameters.length) = some 3) := ⟨gt_6 27 rfl rfl, gt_1 0 rfl rfl, gt_6 28 rfl rfl, by decide +kernel⟩
def f_Lw_row (v1 : Int32) (M : Mem) : Option (Int32 × Mem) := Option.bind (f_Top_row v1 M) fun y => some (hv y M)
theorem c_Lw_row (l : Launch) (hl9 : l.stackTraces = false) (G : Gw) (v1 : Int32) (M : Mem) (x : Int32 × Mem) (h : f_Lw_row v1 M = some x) (d : Nat) (hD : 12 ≤ d) : Ch l G y_Lw_row b_Lw_row 4 (some .int) [(0, 9, 12, 13)] d [.ref (G.2.2 + 0), .int v1, .ref (G.2.2 + 192)] M (fun r9 M9 => r9 = x.1 ∧ M9 = x.2) := by
  refine Ch_of (by decide) (Nat.le_of_ble_eq_true rfl) (fun E hE X hT htb hR => ?_)
  subst hE
  unfold f_Lw_row at h
  obtain ⟨y, hy, h⟩ := ob_s h
  refine V_aload_n (n := 2) X d_Lw_row_0 rfl rfl rfl ?_
  refine V_iconst (v := 0) X d_Lw_row_1 (by decide) rfl ?_
  refine V_aload_n (n := 0) X d_Lw_row_2 rfl rfl rfl ?_
  refine V_iload_n (n := 1) X d_Lw_row_3 rfl rfl rfl ?_
  refine V_cj (As := [.int v1]) (k := 0) (c := 11) (cs' := (1, 6)) (hpc := 12) X hT (by rw [hR]; exact ⟨Nat.le_refl _, Nat.le_refl _⟩) rfl ml_Lw_18 yq_Top_row (c_Top_row E.2.1 hl9 G v1 M y hy _ (Nat.le_refl _)) kd_0 rfl rfl (by omega) rfl (Nat.le_of_ble_eq_true rfl) (x9 := ⟨0, 9, 12, 13⟩) htb (by decide) (by decide) nsl_w rfl d_Lw_row_4 rfl (fun r M9 hp => ?_) (fun M9 q hp => ?_)
  · have e1 : hv y M = (0, s_l M9 192 0 r.toInt64) := by rw [← hp.1, ← hp.2]; rfl
    refine V_i2l X d_Lw_row_7 rfl ?_
    refine V_last X kd_192 (inb_in ln_192 (by decide)) d_Lw_row_8 rfl ?_
    refine V_goto (pc' := 15) X d_Lw_row_9 (by decide) ?_
    refine V_iconst (v := 0) X d_Lw_row_15 (by decide) rfl ?_
    exact V_iretH X (by rw [← Option.some.inj h, e1]; exact ⟨rfl, rfl⟩) d_Lw_row_16
  · have e1 : hv y M = (1, M9) := by rw [← hp.1, ← hp.2]; rfl
    refine V_astore_n (lv' := [(3, .ref q), (0, .ref (G.2.2 + 0)), (1, .int v1), (2, .ref (G.2.2 + 192))]) X d_Lw_row_12 rfl (by decide) rfl rfl ?_
    refine V_iconst (v := 1) X d_Lw_row_13 (by decide) rfl ?_
    exact V_iretH X (by rw [← Option.some.inj h, e1]; exact ⟨rfl, rfl⟩) d_Lw_row_14
