/-! the law from its entry to its loop; the claim out of a pure word on the loop -/
def R_law : String := "WomenByTheRoofsLaw"
def lw_P (b : Addr) (xs : List Int32) (args : Array Value) (s : State) : Prop := args = #[.ref b] ∧ s.IntsAt b xs ∧ xs.length ≤ 2560 ∧ (Jvm.Cond.and given_1 narrow_1).before args s = true
def lw_Q (_ : Array Value) (s : State) (o : Outcome) (t : State) : Prop := o = .returned (some (.int 1)) ∧ Framed s o t [] 601024 7293034
def lw_Z (below : List Frame) (a : Array Value) (s : State) : State → Prop := fun t => ∃ o, t.status = .running ∧ Ended t below o ∧ lw_Q a s o t
/-- the law's own end, with 1 on the stack, nothing written that was there before, its room as the claim has it -/
theorem lw_ret {p : Program} {l : Launch} {e : Env} {s : State} {m : MethodId} {below : List Frame} {meth : Method} {c : Code} {b : Nat} (hx : p.tables.exec = Jvm.exec) (hb : c.code = code) (hr : meth.sig.returnType = ret) (hlocks : meth.locks = false) {pc : Nat} {H : Heap} {ls : Array Slot} (hdg : decode code pc = .ok (.ireturn, 1)) : W p l e room_1 s m #[Value.ref b] below meth c H [] 601024 7293034 (lw_Z below #[Value.ref b] s) (F0 m pc ls [.int 1]) := by
  intro T hT X
  obtain ⟨fs, hret, hrun, hended, hW, hframe⟩ := X.leave (v := some (.int 1)) (hlocks := hlocks) (fun h => by rw [hr] at h; cases h)
  have hmeth' : T.vm.method? m = some meth := X.method'
  refine ⟨T.setFrames fs, ?_, .returned (some (.int 1)), hrun, hended, rfl, ⟨_, rfl⟩, hW, hframe⟩
  jvm_step X.here [X.here.top, hx, hb, hdg, hmeth', hr, ret, narrow_b1]
  (try refine ⟨rfl, ?_⟩); (try refine ⟨rfl, ?_⟩)
  first | (intro acts; rw [hret _ acts rfl rfl rfl]) | rw [hret _ _ rfl rfl rfl]
  exact Steps.refl _
/-- what holds at the law's entry: the machine, the code, the tables' words (any of lw_tbl by 'hts w (by decide +kernel)'), the script of L ints xs at the cell b, what the Statement gives of the start (any of its parts by flat_of_before) -/
def lw_At (p : Program) (s : State) (m : MethodId) (meth : Method) (c : Code) (b L : Nat) (xs : Nat → Int32) : Prop :=
  p.tables.exec = Jvm.exec ∧ c.code = code ∧ meth.sig.returnType = ret ∧ c.maxLocals = 7 ∧ s.vm.findClass R_law = some m.cls ∧ (∀ w ∈ lw_tbl, w.before #[Value.ref b] s = true) ∧ va_X b L xs s s.heap ∧ b < s.heap.size ∧ meth.locks = false ∧ (Jvm.Cond.and given_1 narrow_1).before #[Value.ref b] s = true
theorem mt_1 {w : Cond} (i : Nat) (h : tables_1_1[i]? = some w) : w ∈ lw_tbl := List.mem_append_right _ (List.mem_append_left _ (List.mem_of_getElem? h))
theorem mt_2 {w : Cond} (i : Nat) (h : tables_1_2[i]? = some w) : w ∈ lw_tbl := List.mem_append_right _ (List.mem_append_right _ (List.mem_append_left _ (List.mem_of_getElem? h)))
theorem mt_3 {w : Cond} (i : Nat) (h : tables_1_3[i]? = some w) : w ∈ lw_tbl := List.mem_append_right _ (List.mem_append_right _ (List.mem_append_right _ (List.mem_append_left _ (List.mem_of_getElem? h))))
theorem mt_4 {w : Cond} (i : Nat) (h : tables_1_4[i]? = some w) : w ∈ lw_tbl := List.mem_append_right _ (List.mem_append_right _ (List.mem_append_right _ (List.mem_append_right _ (List.mem_append_left _ (List.mem_of_getElem? h)))))
theorem mt_5 {w : Cond} (i : Nat) (h : tables_1_5[i]? = some w) : w ∈ lw_tbl := List.mem_append_right _ (List.mem_append_right _ (List.mem_append_right _ (List.mem_append_right _ (List.mem_append_right _ (List.mem_append_left _ (List.mem_of_getElem? h))))))
theorem mt_6 {w : Cond} (i : Nat) (h : tables_1_6[i]? = some w) : w ∈ lw_tbl := List.mem_append_right _ (List.mem_append_right _ (List.mem_append_right _ (List.mem_append_right _ (List.mem_append_right _ (List.mem_append_right _ (List.mem_append_left _ (List.mem_of_getElem? h)))))))
theorem mt_7 {w : Cond} (i : Nat) (h : tables_1_7[i]? = some w) : w ∈ lw_tbl := List.mem_append_right _ (List.mem_append_right _ (List.mem_append_right _ (List.mem_append_right _ (List.mem_append_right _ (List.mem_append_right _ (List.mem_append_right _ (List.mem_append_left _ (List.mem_of_getElem? h))))))))
theorem mt_8 {w : Cond} (i : Nat) (h : tables_1_8[i]? = some w) : w ∈ lw_tbl := List.mem_append_right _ (List.mem_append_right _ (List.mem_append_right _ (List.mem_append_right _ (List.mem_append_right _ (List.mem_append_right _ (List.mem_append_right _ (List.mem_append_right _ (List.mem_of_getElem? h))))))))
theorem gw_tbl : ∀ w ∈ gw, w ∈ lw_tbl := fun w h => (List.mem_filter.mp h).1
theorem ins_Acts : Cond.instantiable "WomenByTheRoofs$Acts" 4 ∈ gw := gt_2 38 rfl rfl
theorem ins_Clock : Cond.instantiable "WomenByTheRoofs$Clock" 5 ∈ gw := gt_1 228 rfl rfl
theorem ins_Crowd : Cond.instantiable "WomenByTheRoofs$Crowd" 7 ∈ gw := gt_1 78 rfl rfl
theorem ins_Ground : Cond.instantiable "WomenByTheRoofs$Ground" 4 ∈ gw := gt_1 56 rfl rfl
theorem ins_History : Cond.instantiable "WomenByTheRoofs$History" 4 ∈ gw := gt_2 15 rfl rfl
theorem ins_Law : Cond.instantiable "WomenByTheRoofs$Law" 11 ∈ gw := gt_1 188 rfl rfl
theorem ins_Nets : Cond.instantiable "WomenByTheRoofs$Nets" 3 ∈ gw := gt_1 169 rfl rfl
theorem ins_Scene : Cond.instantiable "WomenByTheRoofs$Scene" 10 ∈ gw := gt_1 112 rfl rfl
theorem ins_Signs : Cond.instantiable "WomenByTheRoofs$Signs" 3 ∈ gw := gt_1 32 rfl rfl
theorem ins_Thief : Cond.instantiable "WomenByTheRoofs$Thief" 4 ∈ gw := gt_2 60 rfl rfl
theorem ins_Ways : Cond.instantiable "WomenByTheRoofs$Ways" 6 ∈ gw := gt_2 81 rfl rfl
theorem ins_Top : Cond.instantiable "WomenByTheRoofs" 17 ∈ gw := gt_1 24 rfl rfl
theorem ins_Mod : Cond.instantiable "WomenByTheRoofsModel" 52 ∈ gw := gt_6 34 rfl rfl
theorem tw_c : Cond.castable nse nse ∈ lw_tbl := mt_5 194 rfl
theorem tw_r : Cond.declares ⟨"java/lang/RuntimeException", "<init>", "()V"⟩ ∈ lw_tbl := mt_5 195 rfl
theorem tw_e : Cond.declares ⟨"java/lang/Exception", "<init>", "()V"⟩ ∈ lw_tbl := mt_5 197 rfl
theorem tw_t : Cond.declares ⟨"java/lang/Throwable", "<init>", "()V"⟩ ∈ lw_tbl := mt_5 199 rfl
theorem tw_lu : Cond.laysStatic "java/lang/Throwable" "UNASSIGNED_STACK" "[Ljava/lang/StackTraceElement;" ∈ lw_tbl := mt_5 219 rfl
theorem tw_ls : Cond.laysStatic "java/lang/Throwable" "SUPPRESSED_SENTINEL" "Ljava/util/List;" ∈ lw_tbl := mt_5 221 rfl
theorem tw_i : Cond.initialized "java/lang/Throwable" ∈ lw_tbl := mt_1 15 rfl
theorem tw_a : Cond.arrayOver (.object "WomenByTheRoofs$Scene") ∈ lw_tbl := mt_2 21 rfl
theorem tw_n : nlC ∈ lw_tbl := mt_1 229 rfl
theorem cl_Lw_8 : Cond.classLink "WomenByTheRoofsLaw" 8 "WomenByTheRoofs" ∈ gw ∧ Cond.instantiable "WomenByTheRoofs" 17 ∈ gw ∧ Cond.initialized "WomenByTheRoofs" ∈ gw := ⟨gt_1 23 rfl rfl, gt_1 24 rfl rfl, gt_1 1 rfl rfl⟩
theorem cl_Lw_23 : Cond.classLink "WomenByTheRoofsLaw" 23 "WomenByTheRoofsModel" ∈ gw ∧ Cond.instantiable "WomenByTheRoofsModel" 52 ∈ gw ∧ Cond.initialized "WomenByTheRoofsModel" ∈ gw := ⟨gt_6 33 rfl rfl, gt_6 34 rfl rfl, gt_1 13 rfl rfl⟩
theorem G_ex {s : State} {args : Array Value} (hts : ∀ w ∈ gw, w.before args s = true) (hao : va_AO "WomenByTheRoofs$Scene" s) : ∃ (D : va_G) (aC : Nat → ClassId), ∀ a0 : Nat, va_K D clsL (tysM (D, aC, a0)) s := by
  have k_Acts := u_known (ws := gw) (C := R_Acts) (T := F_Acts) (N := 4) (n := 4) hts iw_Acts (hts _ ins_Acts)
  have k_Clock := u_known (ws := gw) (C := R_Clock) (T := F_Clock) (N := 5) (n := 5) hts iw_Clock (hts _ ins_Clock)
  have k_Crowd := u_known (ws := gw) (C := R_Crowd) (T := F_Crowd) (N := 7) (n := 7) hts iw_Crowd (hts _ ins_Crowd)
  have k_Ground := u_known (ws := gw) (C := R_Ground) (T := F_Ground) (N := 4) (n := 4) hts iw_Ground (hts _ ins_Ground)
  have k_History := u_known (ws := gw) (C := R_History) (T := F_History) (N := 4) (n := 4) hts iw_History (hts _ ins_History)
  have k_Law := u_known (ws := gw) (C := R_Law) (T := F_Law) (N := 11) (n := 11) hts iw_Law (hts _ ins_Law)
  have k_Nets := u_known (ws := gw) (C := R_Nets) (T := F_Nets) (N := 3) (n := 3) hts iw_Nets (hts _ ins_Nets)
  have k_Scene := u_known (ws := gw) (C := R_Scene) (T := F_Scene) (N := 10) (n := 10) hts iw_Scene (hts _ ins_Scene)
  have k_Signs := u_known (ws := gw) (C := R_Signs) (T := F_Signs) (N := 3) (n := 3) hts iw_Signs (hts _ ins_Signs)
  have k_Thief := u_known (ws := gw) (C := R_Thief) (T := F_Thief) (N := 4) (n := 4) hts iw_Thief (hts _ ins_Thief)
  have k_Ways := u_known (ws := gw) (C := R_Ways) (T := F_Ways) (N := 6) (n := 6) hts iw_Ways (hts _ ins_Ways)
  have k_Top := u_known (ws := gw) (C := R_Top) (T := F_Top) (N := 17) (n := 17) hts iw_Top (hts _ ins_Top)
  have k_Mod := u_known (ws := gw) (C := R_Mod) (T := F_Mod) (N := 52) (n := 52) hts iw_Mod (hts _ ins_Mod)
  have h1 : ∀ c : Nat, ∃ q : ClassId × (Nat → Nat), ∀ r, clsL[c]? = some r → u_Kn s r.1 r.2.1 r.2.2 q.1 q.2 := by
    intro c
    match c with
    | 0 => exact ⟨((k_Acts).choose, (k_Acts).choose_spec.choose), fun r hr => by cases hr; exact (k_Acts).choose_spec.choose_spec⟩
    | 1 => exact ⟨((k_Clock).choose, (k_Clock).choose_spec.choose), fun r hr => by cases hr; exact (k_Clock).choose_spec.choose_spec⟩
    | 2 => exact ⟨((k_Crowd).choose, (k_Crowd).choose_spec.choose), fun r hr => by cases hr; exact (k_Crowd).choose_spec.choose_spec⟩
    | 3 => exact ⟨((k_Ground).choose, (k_Ground).choose_spec.choose), fun r hr => by cases hr; exact (k_Ground).choose_spec.choose_spec⟩
    | 4 => exact ⟨((k_History).choose, (k_History).choose_spec.choose), fun r hr => by cases hr; exact (k_History).choose_spec.choose_spec⟩
    | 5 => exact ⟨((k_Law).choose, (k_Law).choose_spec.choose), fun r hr => by cases hr; exact (k_Law).choose_spec.choose_spec⟩
    | 6 => exact ⟨((k_Nets).choose, (k_Nets).choose_spec.choose), fun r hr => by cases hr; exact (k_Nets).choose_spec.choose_spec⟩
    | 7 => exact ⟨((k_Scene).choose, (k_Scene).choose_spec.choose), fun r hr => by cases hr; exact (k_Scene).choose_spec.choose_spec⟩
    | 8 => exact ⟨((k_Signs).choose, (k_Signs).choose_spec.choose), fun r hr => by cases hr; exact (k_Signs).choose_spec.choose_spec⟩
    | 9 => exact ⟨((k_Thief).choose, (k_Thief).choose_spec.choose), fun r hr => by cases hr; exact (k_Thief).choose_spec.choose_spec⟩
    | 10 => exact ⟨((k_Ways).choose, (k_Ways).choose_spec.choose), fun r hr => by cases hr; exact (k_Ways).choose_spec.choose_spec⟩
    | 11 => exact ⟨((k_Top).choose, (k_Top).choose_spec.choose), fun r hr => by cases hr; exact (k_Top).choose_spec.choose_spec⟩
    | 12 => exact ⟨((k_Mod).choose, (k_Mod).choose_spec.choose), fun r hr => by cases hr; exact (k_Mod).choose_spec.choose_spec⟩
    | n + 13 => exact ⟨(0, fun _ => 0), fun r hr => by simp [clsL] at hr⟩
  obtain ⟨f, hf⟩ := Classical.axiomOfChoice h1
  obtain ⟨c1, k1, p1, a1, a2, a3⟩ := Cond.arrayClass_spec (hts _ aw_int)
  obtain ⟨c2, k2, p2, b1, b2, b3⟩ := Cond.arrayClass_spec (hts _ aw_byte)
  obtain ⟨c3, k3, p3, d1, d2, d3⟩ := Cond.arrayClass_spec (hts _ aw_boolean)
  obtain ⟨c4, k4, p4, e1, e2, e3⟩ := Cond.arrayClass_spec (hts _ aw_long)
  obtain ⟨p5, c5, k5, f1, -, f3, f4, f5⟩ := Cond.arrayOver_spec (va_AO.use (A := args) hao)
  refine ⟨(fun c => (f c).1, fun c => (f c).2), fun t => match t with | 1 => c1 | 2 => c2 | 3 => c3 | 4 => c4 | _ => c5, fun a0 => ⟨fun c q hq => hf c q hq, fun k q hq => ?_⟩⟩
  match k, hq with
  | 0, hq => cases hq; exact ⟨fun n z => ⟨(fun k h => by cases h), k1, a2, p1, a3⟩, a1⟩
  | 1, hq => cases hq; exact ⟨fun n z => ⟨(fun k h => by cases h), k2, b2, p2, b3⟩, b1⟩
  | 2, hq => cases hq; exact ⟨fun n z => ⟨(fun k h => by cases h), k3, d2, p3, d3⟩, d1⟩
  | 3, hq => cases hq; exact ⟨fun n z => ⟨(fun k h => by cases h), k4, e2, p4, e3⟩, e1⟩
  | 4, hq => cases hq; exact ⟨fun n z => ⟨(fun k h => by cases h), k5, f3, p5, f4⟩, k5, p5, f3, f4, f1, f5⟩
  | n + 5, hq => simp [tysM] at hq
def Mz : Mem := (fun _ _ => 0, fun _ _ => 0, fun _ _ => none)
def mT (M : Mem) : Mem := s_i (s_i (mH (mN 36 (mN 32 (mG M)))) 0 15 0) 0 16 (-1)
def mM (M : Mem) : Mem := s_i (s_i (s_i (s_i M 162 2 1) 162 3 1) 162 8 (-1)) 164 0 3
/-- the memory behind the constructors -/
def M0 : Mem := mM (mT Mz)
theorem zr_z : Zr Mz 0 := fun _ _ => ⟨rfl, rfl, rfl⟩
theorem zr_T {M : Mem} (h : Zr M 0) : Zr (mT M) 162 := ((zr_H (zr_N (zr_N (zr_G (fun i hi => h i (by omega)) (by omega)) (by omega)) (by omega)) (by omega)).i (by omega)).i (by omega)
theorem zr_M {M : Mem} (h : Zr M 162) : Zr (mM M) 192 := (((Zr.i (fun i hi => h i (by omega)) (by omega)).i (by omega)).i (by omega)).i (by omega)
section NS
variable {E : Ev} {cs : Nat × Nat} {G : Gw} {cc : ByteArray} {own : String} {nL d : Nat} {ret9 : Option FieldType} {Q : State → Prop} {M : Mem} {o : Nat → Option va_E} {n : Nat} {pc pc' : Nat} {lv lv' : List (Nat × Value)} {st : List Value}
theorem N_astore_n {k0 : Fin 4} {i x : Nat} (X : Cx E G cc own nL d ret9) (hd : decode cc pc = .ok (.astore_n k0, 1)) (hi : (k0 : Nat) = i) (hn : i < nL) (hv : (i, Value.ref x) :: lv.filter (fun q => !(q.1 == i) && !(q.1 + 1 == i && q.2.category == 2)) = lv') (hp : pc + 1 = pc') (k : Nj E cs G nL Q M o n pc' lv' st) : Nj E cs G nL Q M o n pc lv (.ref x :: st) := by subst hp; exact fun H locs ls hP hS hl => lv_astore_n X.1 X.2.1 hd hi hl hn hv (fun ls hl => k H locs ls hP hS hl)
theorem N_V (k : V E cs G nL Q M pc lv st) : Nj E cs G nL Q M (fun _ => none) NT pc lv st := k
end NS
/-- the loop, by its pure word -/
theorem law_loop {E : Ev} {G : Gw} {d : Nat} {Q : State → Prop} {b L : Nat} {xs : Nat → Int32} (X : Cx E G code "WomenByTheRoofsLaw" 7 d ret) (hT : Tw G E.2.2.2.2.1 E.2.2.2.2.1.heap) (hl9 : E.2.1.stackTraces = false) (hX : va_X b L xs E.2.2.2.2.1 E.2.2.2.2.1.heap) (hbl : b < E.2.2.2.2.1.heap.size) (hbA : ¬ G.2.2 ≤ b) (hD : 450 ≤ d) (x : Mem)
    (kx : ∀ (cs : Nat × Nat) (M : Mem), Zc E cs → V E cs G 7 Q M 1559 [] []) : ∀ (n : Nat) (s : Int32 × Mem) (cs : Nat × Nat), iter (lb_law L xs) n s = some (.inl x) → Zc E (cs.1 + n, cs.2 + 6 * n) → V E cs G 7 Q s.2 23 [(0, .ref b), (1, .ref (G.2.2 + 0)), (2, .ref (G.2.2 + 162)), (3, .ref (G.2.2 + 192)), (4, .int s.1)] [] := by
  intro n
  induction n with
  | zero => intro s cs h; cases h
  | succ n ih =>
    intro s cs h hz
    unfold iter at h
    have z1 : Zc E (cs.1 + 1, cs.2 + 6) := ⟨Nat.le_trans (by dsimp only; omega) hz.1, Nat.le_trans (by dsimp only; omega) hz.2⟩
    have z0 : Zc E cs := ⟨Nat.le_trans (by omega) z1.1, Nat.le_trans (by omega) z1.2⟩
    have z2 : Zc E ((cs.1 + 1, cs.2 + 6).1 + n, (cs.1 + 1, cs.2 + 6).2 + 6 * n) := ⟨Nat.le_trans (by dsimp only; omega) hz.1, Nat.le_trans (by dsimp only; omega) hz.2⟩
    cases ho : lb_law L xs s with
    | none => rw [ho] at h; cases h
    | some o =>
      rw [ho] at h
      cases o with
      | inl s' => exact lb_law_ok X z0 z1 hT hl9 hX hbl hbA hD s _ ho (fun s9 e => by cases e; exact ih s' _ h z2) (fun x9 e => by cases e) (fun x9 e => by cases e)
      | inr y => exact lb_law_ok X z0 z1 hT hl9 hX hbl hbA hD s _ ho (fun s9 e => by cases e) (fun x9 e => kx _ _ z1) (fun x9 e => by cases e; cases h)
theorem whole_start {p : Program} {e : Env} {s : State} {m : MethodId} {below : List Frame} {meth : Method} {c : Code} (l : Launch) (hl9 : l.stackTraces = false) {b L : Nat} {xs : Nat → Int32} (hpure : ∃ (n : Nat) (x : Mem), n ≤ 90000 ∧ iter (lb_law L xs) n (0, M0) = some (.inl x)) (C0 : lw_At p s m meth c b L xs) : W p l e room_1 s m #[Value.ref b] below meth c s.heap [] 0 0 (lw_Z below #[Value.ref b] s) (entryFrame m ([Value.ref b] : List Value).toArray 7) := by
  obtain ⟨hx, hb, hr, hml, hown, hts, hX, hbl, hlocks, hgv⟩ := C0
  obtain ⟨n9, x9, hn9, hit⟩ := hpure
  have hgw : ∀ w ∈ gw, w.before #[Value.ref b] s = true := fun w h => hts w (gw_tbl w h)
  have hao : va_AO "WomenByTheRoofs$Scene" s := va_AO.of (hts _ tw_a)
  have haw : Aw s := ⟨hao, va_Nw.of rfl (hts _ tw_n)⟩
  have hflat := flat_of_before _ hgv
  have hA : ∀ a : Nat, a < s.heap.size → ¬ s.heap.size ≤ a := fun a h => Nat.not_le.mpr h
  have hU : vx_Zq Bundle.tN "UNASSIGNED_STACK" Bundle.steD (fun q => s.heap.size ≤ q) s s.heap := vx_Zqof (hts _ tw_lu) (hts _ tw_i) (hflat _ (by decide +kernel)) hA
  have hN : vx_Zq Bundle.tN "SUPPRESSED_SENTINEL" Bundle.listD (fun q => s.heap.size ≤ q) s s.heap := vx_Zqof (hts _ tw_ls) (hts _ tw_i) (hflat _ (by decide +kernel)) hA
  obtain ⟨D, aC, hK⟩ := G_ex hgw hao
  obtain ⟨G, hG⟩ : ∃ G : Gw, G = (D, aC, s.heap.size) := ⟨_, rfl⟩
  have hG2 : G.2.2 = s.heap.size := by rw [hG]
  have hK : va_K G.1 clsL (tysM G) s := by rw [hG]; exact hK _
  have hT : Tw G s s.heap := by rw [hG]; exact ⟨hU, hN, va_Nw.of rfl (hts _ tw_c), va_Nw.of rfl (hts _ tw_r), va_Nw.of rfl (hts _ tw_e), va_Nw.of rfl (hts _ tw_t)⟩
  have hbA : ¬ G.2.2 ≤ b := by rw [hG2]; exact Nat.not_le.mpr hbl
  rw [lg_entry_eq]
  obtain ⟨E, hE⟩ : ∃ E : Ev, E = (p, l, e, room_1, s, m, #[Value.ref b], below, meth, c) := ⟨_, rfl⟩
  have X : Cx E G code "WomenByTheRoofsLaw" 7 2000 ret := by rw [hE]; exact ⟨hx, hb, hml, hown, hgw, hK, hlocks, ⟨by show 2000 ≤ room_1.frames; decide, by show 40 * 2000 ≤ room_1.locals; decide⟩, hr⟩
  have hEs : E.2.2.2.2.1 = s := by rw [hE]
  have hER : E.2.2.2.1 = room_1 := by rw [hE]
  have hrc : E.2.2.2.1.cells = 601024 := by rw [hER]; rfl
  have hrs : E.2.2.2.1.slots = 7293034 := by rw [hER]; rfl
  have hz : E.2.2.2.2.1.heap.size = G.2.2 + 0 := by rw [hEs, hG2]; rfl
  have h0 : G.2.2 ≤ E.2.2.2.2.1.heap.size := by rw [hEs, hG2]; exact Nat.le_refl _
  have ha : Aw E.2.2.2.2.1 := by rw [hEs]; exact haw
  have key : Nj E (0, 0) G 7 (lw_Z below #[Value.ref b] s) Mz (fun _ => none) 0 0 [(0, .ref b)] [] := by
    refine N_new (cs' := (1, 17)) (fs := [.null, .null, .null, .null, .null, .null, .null, .null, .null, .null, .null, .null, .null, .null, .null, .int 0, .int 0]) X (by dsimp only; omega) h0 ⟨by rw [hrc]; decide, by rw [hrs]; decide⟩ cl_Lw_8 (c := 11) rfl iw_Top t_Top t_Top_ok (by decide) d_law_0 rfl rfl ?_
    refine N_dup X d_law_3 rfl rfl ?_
    refine N_init (k := 0) (M' := mT Mz) (n' := 162) (cs' := (162, 3794)) X (by dsimp only; omega) h0 ⟨by rw [hrc]; decide, by rw [hrs]; decide⟩ ha ml_Lw_22 yi_Top.1 yi_Top.2 (n_Top_init E.2.1 G Mz _ zr_z (fun _ _ => rfl) 3 (Nat.le_refl _)) (by omega) (Nat.le_of_ble_eq_true rfl) d_law_4 rfl rfl rfl ?_
    refine N_astore_n (lv' := [(1, .ref (G.2.2 + 0)), (0, .ref b)]) X d_law_7 rfl (by decide) rfl rfl ?_
    refine N_new (n := 162) (cs' := (163, 3846)) (fs := [.null, .null, .int 0, .int 0, .int 0, .int 0, .null, .null, .int 0, .null, .int 0, .null, .int 0, .int 0, .null, .int 0, .int 0, .int 0, .int 0, .null, .null, .null, .null, .int 0, .null, .int 0, .null, .int 0, .null, .int 0, .int 0, .int 0, .null, .int 0, .null, .null, .null, .null, .null, .null, .null, .null, .int 0, .null, .null, .null, .null, .null, .int 0, .null, .null, .null]) X (by dsimp only; omega) h0 ⟨by rw [hrc]; decide, by rw [hrs]; decide⟩ cl_Lw_23 (c := 12) rfl iw_Mod t_Mod t_Mod_ok (by decide) d_law_8 rfl rfl ?_
    refine N_dup X d_law_11 rfl rfl ?_
    refine N_init (k := 162) (M' := M0) (n' := 192) (cs' := (192, 8028)) X (by dsimp only; omega) h0 ⟨by rw [hrc]; decide, by rw [hrs]; decide⟩ ha ml_Lw_25 yi_Mod.1 yi_Mod.2 (n_Mod_init E.2.1 G (mT Mz) _ (zr_T zr_z) (fun _ _ => rfl) 1 (Nat.le_refl _)) (by omega) (Nat.le_of_ble_eq_true rfl) d_law_12 rfl rfl rfl ?_
    refine N_astore_n (lv' := [(2, .ref (G.2.2 + 162)), (1, .ref (G.2.2 + 0)), (0, .ref b)]) X d_law_15 rfl (by decide) rfl rfl ?_
    refine N_iconst (v := 1) X d_law_16 (by decide) rfl ?_
    refine N_newa (n := 192) (cs' := (193, 8029)) (t := 4) (N := 1) (ty := .long) (a0 := (1, .inr (.inl (fun _ => 0)))) X (by dsimp only; omega) h0 ⟨by rw [hrc]; decide, by rw [hrs]; decide⟩ aw_long rfl rfl (fun _ => nofun) (fun _ => rfl) (by decide) (by decide) (by decide) rfl (new_l (zr_M (zr_T zr_z)) (Nat.le_refl _) kd_192 ln_192) d_law_17 rfl rfl ?_
    refine N_astore_n (lv' := [(3, .ref (G.2.2 + 192)), (2, .ref (G.2.2 + 162)), (1, .ref (G.2.2 + 0)), (0, .ref b)]) X d_law_19 rfl (by decide) rfl rfl ?_
    refine N_iconst (v := 0) X d_law_20 (by decide) rfl ?_
    refine N_V ?_
    refine V_istore (lv' := [(4, .int 0), (3, .ref (G.2.2 + 192)), (2, .ref (G.2.2 + 162)), (1, .ref (G.2.2 + 0)), (0, .ref b)]) X d_law_21 (by decide) rfl rfl ?_
    refine V_sub (lv' := [(0, .ref b), (1, .ref (G.2.2 + 0)), (2, .ref (G.2.2 + 162)), (3, .ref (G.2.2 + 192)), (4, .int 0)]) [4, 3, 2, 1, 0] rfl ?_
    refine law_loop (d := 2000) X (by rw [hEs]; exact hT) (by rw [hE]; exact hl9) (by rw [hEs]; exact hX) (by rw [hEs]; exact hbl) hbA (by decide) x9 (fun cs M hzc => ?_) n9 (0, M0) (193, 8029) hit ⟨by rw [hrc]; dsimp only; omega, by rw [hrs]; dsimp only; omega⟩
    refine V_iconst (v := 1) X d_law_1559 (by decide) rfl ?_
    intro H locs ls hP hS hl
    have hz1 : cs.1 ≤ 601024 := by rw [← hrc]; exact hzc.1
    have hz2 : cs.2 ≤ 7293034 := by rw [← hrs]; exact hzc.2
    subst hE
    refine va_forget (fun q hq => by have := hS.2.2 q hq; rw [hG2] at this; exact this) ?_
    refine W.widen (k := 601024) (n := 7293034) hz1 hz2 ?_
    exact lw_ret hx hb hr hlocks d_law_1560
  subst hE
  exact key s.heap [] _ (fun k q hq => by simp [wsN] at hq) va_S.rf (lv_entry _ (Nat.le_of_ble_eq_true rfl))
set_option maxHeartbeats 4000000 in
theorem lw_walk (hpure : ∀ (L : Nat) (xs : Nat → Int32), L ≤ 2560 → ∃ (n : Nat) (x : Mem), n ≤ 90000 ∧ iter (lb_law L xs) n (0, M0) = some (.inl x)) (l : Launch) (hl9 : l.stackTraces = false) (b : Addr) (xs : List Int32) : MetFree l x (headSpec (Jvm.Cond.code x code maxLocals ret :: tables_1) room_1) (lw_P b xs) (fun _ _ _ _ _ => True) lw_Q := by
  refine MetFree.of_bodyS (code := code) (maxLocals := maxLocals) (ret := ret) (by decide) ?_ ?_
  · intro args s m h hn
    obtain ⟨meth, c, h1, h2, h3, h4, h5, h6, -, -⟩ := Cond.code_spec hn (atoms_spec (ws := Jvm.Cond.code x code maxLocals ret :: tables_1) h _ List.mem_cons_self)
    exact ⟨meth, c, h1, h2, h3, h4, h5, h6⟩
  · intro p e s m args below meth c s₁ B hml0 hP _
    obtain ⟨rfl, hx, hbd, hgv⟩ := hP
    obtain ⟨scr, harrAt, hlist, hof, hsmall⟩ := hx
    obtain ⟨hcb, hkn, -, -⟩ := State.arrayAt?_spec harrAt
    have hown : s.vm.findClass R_law = some m.cls := findClass_of_methodNamed B.named
    have hts0 : ∀ c ∈ (Jvm.Cond.code x code maxLocals ret :: tables_1), c.before #[Value.ref b] s = true := atoms_spec (ws := Jvm.Cond.code x code maxLocals ret :: tables_1) B.pre
    have hts : ∀ w ∈ lw_tbl, w.before #[Value.ref b] s = true := k2_hts_sels lw_privs (fun w hw => hts0 w (List.mem_cons_of_mem _ hw)) lw_privs_ok
    have hml : c.maxLocals = 7 := B.maxLocals_eq (hts0 _ List.mem_cons_self)
    have X₀ : Stand p l e room_1 s m #[Value.ref b] below meth c s₁ [] 0 0 := Stand.of_body B
    have hh0 : s₁.heap = s.heap := by rw [B.state]; rfl
    have hsz : scr.slots.size = xs.length := by rw [← Array.length_toList, hlist, List.length_map]
    have hval : ∀ j : Nat, j < xs.length → scr.slots[j]? = some (.int (xs.getD j 0)) := fun j hj => by
      rw [← Array.getElem?_toList, hlist]
      simp [hj]
    have hbl : b < s.heap.size := (Array.getElem?_eq_some_iff.mp hcb).1
    have hX : va_X b xs.length (fun j => xs.getD j 0) s s.heap := ⟨scr, hcb, hof, hkn, hsz, hval⟩
    have K : W p l e room_1 s m #[Value.ref b] below meth c s₁.heap [] 0 0 (lw_Z below #[Value.ref b] s) (entryFrame m ([Value.ref b] : List Value).toArray 7) := by
      rw [hh0]
      exact whole_start l hl9 (hpure _ _ hbd) ⟨B.exec, B.bytes, B.returns, hml, hown, hts, hX, hbl, B.notSynchronized, hgv⟩
    obtain ⟨t, a1, o, b1, b2, b3⟩ := K s₁ rfl X₀
    exact ⟨t, o, a1, b1, b2, b3⟩
theorem lw_pre_spec {args : Array Value} {s : State} (h : (Jvm.Cond.and given_1 narrow_1).before args s = true) (hr : rest_1_c.before args s = true) : ∃ (b : Addr) (xs : List Int32), lw_P b xs args s := by
  have hs := flat_of_before _ h
  have hq := flat_of_before _ hr
  have hc : (Cond.count 1).before args s = true := hs _ (by decide +kernel)
  have harr : (Cond.arrayOf (.arg 0) .int).before args s = true := hs _ (by decide +kernel)
  have hle : (Cond.le (.length (.arg 0)) (.int 2560)).before args s = true := hs _ (by decide +kernel)
  have hlen : (Cond.isInt (.length (.arg 0))).before args s = true := hq _ (by decide +kernel)
  have hall : (Cond.all (.arg 0) (.isInt (.elem (.arg 0) (.index 0)))).before args s = true := hq _ (by decide +kernel)
  obtain ⟨b, xs, hb, hx⟩ := State.ints_of_pre rfl harr hlen hall
  have hsm : xs.length < 2 ^ 31 := hx.choose_spec.2.2.2
  have hev : (Term.length (.arg 0)).eval args s none [] s = some (.int xs.length.toInt32) := hx.length_eval hb
  have hv := Cond.le_ints hev (show (Term.int 2560).eval args s none [] s = some (.int 2560) from rfl)
  have hd : xs.length.toInt32 ≤ 2560 := by
    simpa [Cond.before, Cond.holds, hv] using hle
  have hN : xs.length ≤ 2560 := (Int32.ofNat_le_ofNat hsm (by decide)).mp (show Int32.ofNat xs.length ≤ Int32.ofNat 2560 from hd)
  exact ⟨b, xs, Cond.one_arg hc (show args[0]? = some (.ref b) from hb), hx, hN, h⟩
theorem lw_comes (hpure : ∀ (L : Nat) (xs : Nat → Int32), L ≤ 2560 → ∃ (n : Nat) (x : Mem), n ≤ 90000 ∧ iter (lb_law L xs) n (0, M0) = some (.inl x)) (l : Launch) (hl9 : l.stackTraces = false) : Comes l x (Jvm.Cond.code x code maxLocals ret :: tables_1) room_1 (fun tb e args s => Calls_1 tb e args s ∧ rest_1 tb e args s ∧ Pre_1 tb e args s)
    (fun _ _ args s o t => lw_Q args s o t) := by
  intro p e ha hc hk s m args below hf hfit hheap happ hpre
  obtain ⟨b, xs, hP⟩ := lw_pre_spec hpre.2.2 hpre.2.1
  obtain ⟨k, o, h1, h2, h3, hQ⟩ := lw_walk hpure l hl9 b xs p e ha hc hk s m args below hf ((Spec.applies_iff_loose hf).mp happ).1 hP trivial
  exact ⟨k, o, h1, h2, h3, hQ⟩
theorem lw_frame {s t : State} {o : Outcome} {args : Array Value} (h : Framed s o t [] 601024 7293034) :
    Framed s o t (fieldLocs frame_1_writes args s ++ arrayLocs frame_1_arrays args s ++ staticLocs frame_1_statics s) 601024 7293034 := h
theorem lw_limb (hpure : ∀ (L : Nat) (xs : Nat → Int32), L ≤ 2560 → ∃ (n : Nat) (x : Mem), n ≤ 90000 ∧ iter (lb_law L xs) n (0, M0) = some (.inl x)) (L : Cond) (hL : ∀ (args : Array Value) (s t : State), L.after args s (.returned (some (.int 1))) t = true) :
    ArmFor flags0 classFile x code maxLocals ret World_1 tables_1 room_1 Calls_1 rest_1 Pre_1
      (fun tb e a s o t => postC L tb e a s o t ∧ Framed s o t (fieldLocs frame_1_writes a s ++ arrayLocs frame_1_arrays a s ++ staticLocs frame_1_statics s) 601024 7293034) := by
  intro l hfl _ _ p e ha hc hk s m args below hf hfit hheap happ hpre
  obtain ⟨k, o, h1, h2, h3, rfl, hF⟩ := lw_comes hpure l (by show (!l.flags.contains noTraceFlag) = false; rw [hfl]; decide +kernel) p e ha hc hk s m args below hf hfit hheap happ hpre
  exact ⟨k, _, h1, h2, h3, hL args s _, lw_frame hF⟩
theorem vc_of (hpure : ∀ (L : Nat) (xs : Nat → Int32), L ≤ 2560 → ∃ (n : Nat) (x : Mem), n ≤ 90000 ∧ iter (lb_law L xs) n (0, M0) = some (.inl x)) : Claimed_1_1 ∧ Claimed_1_2 := ⟨lw_limb hpure limb_1_1 (fun args s t => by simp [limb_1_1, Cond.after, Cond.holds, Cond.value]), lw_limb hpure limb_1_2 (fun args s t => Cond.after_iff.mpr (by
  first | (rw [show limb_1_2 = Cond.eq .result (.int 1) from rfl, Cond.eq_ints (x := 1) (y := 1) rfl rfl]; simp; done) | (simp [limb_1_2, Cond.value, Term.eval]; done)))⟩
