section
/-! THE WORLD: 193 cells behind the constructors, at a0, a0 + 1 ..; what they hold is a pure memory M: ints, longs, cells. V: the machine, now at pc with these locals and operands, memory M, comes to Q -/
abbrev Mem : Type := (Nat → Nat → Int32) × (Nat → Nat → Int64) × (Nat → Nat → Option Nat)
abbrev Gw : Type := va_G × (Nat → ClassId) × Nat
def kd (k : Nat) : Nat := (tb.getD k (0, 0, [])).1
def ln (k : Nat) : Nat := (tb.getD k (0, 0, [])).2.1
def rf (k j : Nat) : Nat := (tb.getD k (0, 0, [])).2.2.getD j 0
def nf (c : Nat) : Nat := (ftab.getD c []).length
def fc (c j : Nat) : Nat := (ftab.getD c []).getD j 0
def s_i (M : Mem) (k i : Nat) (v : Int32) : Mem := (fun a b => if a = k ∧ b = i then v else M.1 a b, M.2)
def s_l (M : Mem) (k i : Nat) (v : Int64) : Mem := (M.1, fun a b => if a = k ∧ b = i then v else M.2.1 a b, M.2.2)
def s_q (M : Mem) (k i : Nat) (v : Option Nat) : Mem := (M.1, M.2.1, fun a b => if a = k ∧ b = i then v else M.2.2 a b)
/-- a run of ints laid from one row into another (arraycopy) -/
def s_c (M : Mem) (k0 k1 sp dp n : Nat) : Mem := (fun a b => if a = k1 then va_cpy (M.1 k0) (M.1 k1) sp dp n b else M.1 a b, M.2)
def fv (G : Gw) (M : Mem) (k c j : Nat) : Value :=
  if fc c j = 0 then .int (M.1 k j) else if fc c j = 1 then .long (M.2.1 k j) else if fc c j = 2 then .ref (G.2.2 + rf k j) else va_rf ((M.2.2 k j).map (G.2.2 + ·))
def dsc (G : Gw) (M : Mem) (k : Nat) : va_E :=
  if kd k < 4 then .inl (G.2.1 (kd k), ln k, .inl (M.1 k))
  else if kd k = 4 then .inl (G.2.1 4, ln k, .inr (.inl (M.2.1 k)))
  else if kd k = 5 then .inl (G.2.1 5, ln k, .inr (.inr (.inr (.inr (fun i => (M.2.2 k i).map (G.2.2 + ·))))))
  else .inr (kd k - 10, (List.range (nf (kd k - 10))).map (fv G M k (kd k - 10)))
def wsM (G : Gw) (M : Mem) : va_W := (List.range NT).map (fun k => (G.2.2 + k, dsc G M k))
def tysM (G : Gw) : List (ClassId × FieldType) := [(G.2.1 1, .int), (G.2.1 2, .byte), (G.2.1 3, .boolean), (G.2.1 4, .long), (G.2.1 5, .object "WomenByTheRoofs$Scene")]
theorem tb_len : tb.length = NT := by decide +kernel
theorem kd_lt {k : Nat} (h : 0 < kd k) : k < NT := by
  rcases Nat.lt_or_ge k NT with h1 | h1
  · exact h1
  · exfalso
    have : tb.length ≤ k := by rw [tb_len]; exact h1
    simp [kd, List.getD_eq_getElem?_getD, List.getElem?_eq_none this] at h
theorem wsM_get (G : Gw) (M : Mem) {k : Nat} (h : k < NT) : (wsM G M)[k]? = some (G.2.2 + k, dsc G M k) := by
  simp [wsM, List.getElem?_map, List.getElem?_range h]
theorem wsM_at {G : Gw} {M : Mem} {k : Nat} {q : Nat × va_E} (h : (wsM G M)[k]? = some q) : k < NT ∧ q = (G.2.2 + k, dsc G M k) := by
  have hk : k < NT := by
    have := (List.getElem?_eq_some_iff.mp h).1
    simpa [wsM] using this
  rw [wsM_get G M hk] at h
  exact ⟨hk, (Option.some.inj h).symm⟩
theorem wsM_D (G : Gw) (M : Mem) : va_D (fun q => G.2.2 ≤ q) (wsM G M) := by
  refine ⟨fun i j p q hp hq e => ?_, fun k q hq => ?_⟩
  · obtain ⟨-, rfl⟩ := wsM_at hp
    obtain ⟨-, rfl⟩ := wsM_at hq
    exact Nat.add_left_cancel e
  · obtain ⟨-, rfl⟩ := wsM_at hq
    exact Nat.le_add_right _ _
theorem wsM_set {G : Gw} {M M' : Mem} {k : Nat} {e : va_E} (h : ∀ a, a ≠ k → dsc G M' a = dsc G M a) (he : dsc G M' k = e) : (wsM G M).set k (G.2.2 + k, e) = wsM G M' := by
  apply List.ext_getElem?
  intro i
  rw [List.getElem?_set]
  by_cases hi : k = i
  · subst hi
    rw [if_pos rfl]
    by_cases hk : k < NT
    · rw [if_pos (by simpa [wsM] using hk), wsM_get G M' hk, he]
    · rw [if_neg (by simpa [wsM] using hk)]
      exact (List.getElem?_eq_none (by simpa [wsM] using hk)).symm
  · rw [if_neg hi]
    by_cases hk : i < NT
    · rw [wsM_get G M hk, wsM_get G M' hk, h i (fun x => hi x.symm)]
    · rw [List.getElem?_eq_none (by simpa [wsM] using hk), List.getElem?_eq_none (by simpa [wsM] using hk)]
theorem wsM_size {G : Gw} {M : Mem} {H : Heap} (h : va_P G.1 clsL (wsM G M) H) : G.2.2 + NT ≤ H.size := by
  have h1 := (h 192 _ (wsM_get G M (k := 192) (by decide))).lt
  exact h1
-- what a cell is, by its kind
theorem dsc_i {G : Gw} {M : Mem} {k t : Nat} (h : kd k = t) (ht : t < 4) : dsc G M k = .inl (G.2.1 t, ln k, .inl (M.1 k)) := by
  subst h; simp [dsc, ht]
theorem dsc_l {G : Gw} {M : Mem} {k : Nat} (h : kd k = 4) : dsc G M k = .inl (G.2.1 4, ln k, .inr (.inl (M.2.1 k))) := by simp [dsc, h]
theorem dsc_q {G : Gw} {M : Mem} {k : Nat} (h : kd k = 5) : dsc G M k = .inl (G.2.1 5, ln k, .inr (.inr (.inr (.inr (fun i => (M.2.2 k i).map (G.2.2 + ·)))))) := by simp [dsc, h]
theorem dsc_o {G : Gw} {M : Mem} {k c : Nat} (h : kd k = 10 + c) : dsc G M k = .inr (c, (List.range (nf c)).map (fv G M k c)) := by
  have h1 : ¬ (10 + c < 4) := by omega
  have h2 : ¬ (10 + c = 4) := by omega
  have h3 : ¬ (10 + c = 5) := by omega
  have h4 : 10 + c - 10 = c := by omega
  simp [dsc, h, h1, h2, h3, h4]
theorem dsc_si {G : Gw} {M : Mem} {k i a : Nat} {v : Int32} (h : a ≠ k) : dsc G (s_i M k i v) a = dsc G M a := by
  have e1 : (s_i M k i v).1 a = M.1 a := by funext b; simp [s_i, h]
  have e2 : fv G (s_i M k i v) a (kd a - 10) = fv G M a (kd a - 10) := by funext j; simp [fv, e1]; simp [s_i]
  unfold dsc; rw [e1, e2]; rfl
theorem dsc_sl {G : Gw} {M : Mem} {k i a : Nat} {v : Int64} (h : a ≠ k) : dsc G (s_l M k i v) a = dsc G M a := by
  have e1 : (s_l M k i v).2.1 a = M.2.1 a := by funext b; simp [s_l, h]
  have e2 : fv G (s_l M k i v) a (kd a - 10) = fv G M a (kd a - 10) := by funext j; simp [fv, e1]; simp [s_l]
  unfold dsc; rw [e1, e2]; rfl
theorem dsc_sq {G : Gw} {M : Mem} {k i a : Nat} {v : Option Nat} (h : a ≠ k) : dsc G (s_q M k i v) a = dsc G M a := by
  have e1 : (s_q M k i v).2.2 a = M.2.2 a := by funext b; simp [s_q, h]
  have e2 : fv G (s_q M k i v) a (kd a - 10) = fv G M a (kd a - 10) := by funext j; simp [fv, e1]; simp [s_q]
  unfold dsc; rw [e1, e2]; rfl
theorem dsc_sc {G : Gw} {M : Mem} {k0 k1 sp dp n a : Nat} (h : a ≠ k1) : dsc G (s_c M k0 k1 sp dp n) a = dsc G M a := by
  have e1 : (s_c M k0 k1 sp dp n).1 a = M.1 a := by funext b; simp [s_c, h]
  have e2 : fv G (s_c M k0 k1 sp dp n) a (kd a - 10) = fv G M a (kd a - 10) := by funext j; simp [fv, e1]; simp [s_c]
  unfold dsc; rw [e1, e2]; rfl
theorem fs_get {G : Gw} {M : Mem} {k c j : Nat} (h : j < nf c) : ((List.range (nf c)).map (fv G M k c))[j]? = some (fv G M k c j) := by simp [List.getElem?_map, List.getElem?_range h]
theorem fs_set {G : Gw} {M M' : Mem} {k c j : Nat} {v : Value} (hv : fv G M' k c j = v) (ho : ∀ b, b ≠ j → fv G M' k c b = fv G M k c b) : ((List.range (nf c)).map (fv G M k c)).set j v = (List.range (nf c)).map (fv G M' k c) := by
  apply List.ext_getElem?
  intro i
  rw [List.getElem?_set]
  by_cases hi : j = i
  · subst hi
    rw [if_pos rfl]
    by_cases hk : j < nf c
    · rw [if_pos (by simpa using hk), fs_get hk, hv]
    · rw [if_neg (by simpa using hk)]
      exact (List.getElem?_eq_none (by simpa using hk)).symm
  · rw [if_neg hi]
    by_cases hk : i < nf c
    · rw [fs_get hk, fs_get hk, ho i (fun x => hi x.symm)]
    · rw [List.getElem?_eq_none (by simpa using hk), List.getElem?_eq_none (by simpa using hk)]
/-! the frame that a walk stands in: program, launch, environment, room, start, method, arguments, frames below, method, code -/
abbrev Ev : Type := Program × Launch × Env × Room × State × MethodId × Array Value × List Frame × Method × Code
def V (E : Ev) (cs : Nat × Nat) (G : Gw) (nL : Nat) (Q : State → Prop) (M : Mem) (pc : Nat) (lv : List (Nat × Value)) (st : List Value) : Prop :=
  ∀ (H : Heap) (locs : List Loc) (ls : Array Slot), va_P G.1 clsL (wsM G M) H → va_S (fun q => G.2.2 ≤ q) E.2.2.2.2.1.heap H locs → lv_has ls nL lv →
    W E.1 E.2.1 E.2.2.1 E.2.2.2.1 E.2.2.2.2.1 E.2.2.2.2.2.1 E.2.2.2.2.2.2.1 E.2.2.2.2.2.2.2.1 E.2.2.2.2.2.2.2.2.1 E.2.2.2.2.2.2.2.2.2 H locs cs.1 cs.2 Q (F0 E.2.2.2.2.2.1 pc ls st)
/-- what holds of the frame throughout -/
def Cx (E : Ev) (G : Gw) (cc : ByteArray) (own : String) (nL d : Nat) (ret : Option FieldType) : Prop :=
  E.1.tables.exec = Jvm.exec ∧ E.2.2.2.2.2.2.2.2.2.code = cc ∧ E.2.2.2.2.2.2.2.2.2.maxLocals = nL ∧ E.2.2.2.2.1.vm.findClass own = some E.2.2.2.2.2.1.cls ∧ (∀ w ∈ gw, w.before E.2.2.2.2.2.2.1 E.2.2.2.2.1 = true) ∧
  va_K G.1 clsL (tysM G) E.2.2.2.2.1 ∧ E.2.2.2.2.2.2.2.2.1.locks = false ∧ (d ≤ E.2.2.2.1.frames ∧ 40 * d ≤ E.2.2.2.1.locals) ∧ E.2.2.2.2.2.2.2.2.1.sig.returnType = ret
def rmD (d : Nat) : Room := { frames := d, cells := 0, slots := 0, locals := 40 * d }
abbrev wsY (y : MethodName) (cc : ByteArray) (maxL : Nat) (ret : Option FieldType) : List Cond := Cond.code y cc maxL ret :: gw
def PcM (G : Gw) (M : Mem) (av : List Value) : Array Value → State → Prop := va_Pc av (fun U => va_P G.1 clsL (wsM G M) U.heap ∧ va_K G.1 clsL (tysM G) U)
abbrev BM (G : Gw) (u : Mem) (t : State) : Prop := va_P G.1 clsL (wsM G u) t.heap
/-- a contract: with memory M and these arguments the method returns, 'post' of the answer and the new memory; it makes nothing -/
def Ci (l : Launch) (G : Gw) (y : MethodName) (cc : ByteArray) (maxL : Nat) (ret : Option FieldType) (d : Nat) (av : List Value) (M : Mem) (post : Int32 → Mem → Prop) : Prop :=
  Met l y (wsY y cc maxL ret) (rmD d) (PcM G M av) (va_Qi (S := Mem) post (BM G) (fun q => G.2.2 ≤ q)) 0 0 (fun q => G.2.2 ≤ q)
def Cl (l : Launch) (G : Gw) (y : MethodName) (cc : ByteArray) (maxL : Nat) (ret : Option FieldType) (d : Nat) (av : List Value) (M : Mem) (post : Int64 → Mem → Prop) : Prop :=
  Met l y (wsY y cc maxL ret) (rmD d) (PcM G M av) (va_Ql (S := Mem) post (BM G) (fun q => G.2.2 ≤ q)) 0 0 (fun q => G.2.2 ≤ q)
def Cv (l : Launch) (G : Gw) (y : MethodName) (cc : ByteArray) (maxL : Nat) (ret : Option FieldType) (d : Nat) (av : List Value) (M : Mem) (post : Mem → Prop) : Prop :=
  Met l y (wsY y cc maxL ret) (rmD d) (PcM G M av) (va_Qv (S := Mem) post (BM G) (fun q => G.2.2 ≤ q)) 0 0 (fun q => G.2.2 ≤ q)
abbrev QI (E : Ev) (G : Gw) (post : Int32 → Mem → Prop) : State → Prop := MQ E.2.2.2.2.2.2.2.1 (va_Qi (S := Mem) post (BM G) (fun q => G.2.2 ≤ q)) E.2.2.2.2.2.2.1 E.2.2.2.2.1 0 0 (fun q => G.2.2 ≤ q)
abbrev QL (E : Ev) (G : Gw) (post : Int64 → Mem → Prop) : State → Prop := MQ E.2.2.2.2.2.2.2.1 (va_Ql (S := Mem) post (BM G) (fun q => G.2.2 ≤ q)) E.2.2.2.2.2.2.1 E.2.2.2.2.1 0 0 (fun q => G.2.2 ≤ q)
abbrev QV (E : Ev) (G : Gw) (post : Mem → Prop) : State → Prop := MQ E.2.2.2.2.2.2.2.1 (va_Qv (S := Mem) post (BM G) (fun q => G.2.2 ≤ q)) E.2.2.2.2.2.2.1 E.2.2.2.2.1 0 0 (fun q => G.2.2 ≤ q)
theorem Met_of {l : Launch} {G : Gw} {y : MethodName} {cc : ByteArray} {maxL : Nat} {ret : Option FieldType} {d : Nat} {av : List Value} {M : Mem} {Qc : Array Value → State → Outcome → State → Prop} (hy : plainName y.cls = true) (hl : (lg_sl av).length ≤ maxL)
    (body : ∀ E : Ev, E.2.1 = l → Cx E G cc y.cls maxL d ret → V E (0, 0) G maxL (MQ E.2.2.2.2.2.2.2.1 Qc E.2.2.2.2.2.2.1 E.2.2.2.2.1 0 0 (fun q => G.2.2 ≤ q)) M 0 (lv_args 0 av) []) :
    Met l y (wsY y cc maxL ret) (rmD d) (PcM G M av) Qc 0 0 (fun q => G.2.2 ≤ q) := by
  refine Met.ofW (cc := cc) (maxL := maxL) (ret := ret) hy rfl ?_
  intro p e s m args below meth c s₁ B hml hv
  obtain ⟨rfl, hP, hK⟩ := hv
  have hts := atoms_spec (ws := wsY y cc maxL ret) B.pre
  rw [lg_entry_eq]
  have h := body (p, l, e, rmD d, s, m, av.toArray, below, meth, c) rfl ⟨B.exec, B.bytes, hml, findClass_of_methodNamed B.named, fun w hw => hts w (List.mem_cons_of_mem _ hw), hK, B.notSynchronized, ⟨Nat.le_refl _, Nat.le_refl _⟩, B.returns⟩
  exact h s.heap [] _ hP va_S.rf (lv_entry av hl)
end
section
/-! the rows of V: an instruction each -/
section VR
variable {E : Ev} {cs : Nat × Nat} {G : Gw} {cc : ByteArray} {own : String} {nL d : Nat} {ret : Option FieldType} {Q : State → Prop} {M : Mem} {pc pc' : Nat} {lv lv' : List (Nat × Value)} {st : List Value}
theorem V_sub (ks : List Nat) (h : lv_pick lv ks = lv') (k : V E cs G nL Q M pc lv' st) : V E cs G nL Q M pc lv st := fun H locs ls hP hS hl => k H locs ls hP hS (lv_sub hl ks h)
theorem V_eq {st' : List Value} (h : st = st') (k : V E cs G nL Q M pc lv st') : V E cs G nL Q M pc lv st := h ▸ k
theorem V_iadd {x y : Int32} (X : Cx E G cc own nL d ret) (hd : decode cc pc = .ok (.iadd, 1)) (hp : pc + 1 = pc') (k : V E cs G nL Q M pc' lv (.int (x + y) :: st)) : V E cs G nL Q M pc lv (.int y :: .int x :: st) := by subst hp; exact fun H locs ls hP hS hl => lv_iadd X.1 X.2.1 hd (k H locs ls hP hS hl)
theorem V_isub {x y : Int32} (X : Cx E G cc own nL d ret) (hd : decode cc pc = .ok (.isub, 1)) (hp : pc + 1 = pc') (k : V E cs G nL Q M pc' lv (.int (x - y) :: st)) : V E cs G nL Q M pc lv (.int y :: .int x :: st) := by subst hp; exact fun H locs ls hP hS hl => lv_isub X.1 X.2.1 hd (k H locs ls hP hS hl)
theorem V_imul {x y : Int32} (X : Cx E G cc own nL d ret) (hd : decode cc pc = .ok (.imul, 1)) (hp : pc + 1 = pc') (k : V E cs G nL Q M pc' lv (.int (x * y) :: st)) : V E cs G nL Q M pc lv (.int y :: .int x :: st) := by subst hp; exact fun H locs ls hP hS hl => lv_imul X.1 X.2.1 hd (k H locs ls hP hS hl)
theorem V_iand {x y : Int32} (X : Cx E G cc own nL d ret) (hd : decode cc pc = .ok (.iand, 1)) (hp : pc + 1 = pc') (k : V E cs G nL Q M pc' lv (.int (x &&& y) :: st)) : V E cs G nL Q M pc lv (.int y :: .int x :: st) := by subst hp; exact fun H locs ls hP hS hl => lv_iand X.1 X.2.1 hd (k H locs ls hP hS hl)
theorem V_ior {x y : Int32} (X : Cx E G cc own nL d ret) (hd : decode cc pc = .ok (.ior, 1)) (hp : pc + 1 = pc') (k : V E cs G nL Q M pc' lv (.int (x ||| y) :: st)) : V E cs G nL Q M pc lv (.int y :: .int x :: st) := by subst hp; exact fun H locs ls hP hS hl => lv_ior X.1 X.2.1 hd (k H locs ls hP hS hl)
theorem V_ixor {x y : Int32} (X : Cx E G cc own nL d ret) (hd : decode cc pc = .ok (.ixor, 1)) (hp : pc + 1 = pc') (k : V E cs G nL Q M pc' lv (.int (x ^^^ y) :: st)) : V E cs G nL Q M pc lv (.int y :: .int x :: st) := by subst hp; exact fun H locs ls hP hS hl => lv_ixor X.1 X.2.1 hd (k H locs ls hP hS hl)
theorem V_ishl {x y : Int32} (X : Cx E G cc own nL d ret) (hd : decode cc pc = .ok (.ishl, 1)) (hp : pc + 1 = pc') (k : V E cs G nL Q M pc' lv (.int (x <<< (y &&& 31)) :: st)) : V E cs G nL Q M pc lv (.int y :: .int x :: st) := by subst hp; exact fun H locs ls hP hS hl => lv_ishl X.1 X.2.1 hd (k H locs ls hP hS hl)
theorem V_ishr {x y : Int32} (X : Cx E G cc own nL d ret) (hd : decode cc pc = .ok (.ishr, 1)) (hp : pc + 1 = pc') (k : V E cs G nL Q M pc' lv (.int (x >>> (y &&& 31)) :: st)) : V E cs G nL Q M pc lv (.int y :: .int x :: st) := by subst hp; exact fun H locs ls hP hS hl => lv_ishr X.1 X.2.1 hd (k H locs ls hP hS hl)
theorem V_ladd {x y : Int64} (X : Cx E G cc own nL d ret) (hd : decode cc pc = .ok (.ladd, 1)) (hp : pc + 1 = pc') (k : V E cs G nL Q M pc' lv (.long (x + y) :: st)) : V E cs G nL Q M pc lv (.long y :: .long x :: st) := by subst hp; exact fun H locs ls hP hS hl => lv_ladd X.1 X.2.1 hd (k H locs ls hP hS hl)
theorem V_lsub {x y : Int64} (X : Cx E G cc own nL d ret) (hd : decode cc pc = .ok (.lsub, 1)) (hp : pc + 1 = pc') (k : V E cs G nL Q M pc' lv (.long (x - y) :: st)) : V E cs G nL Q M pc lv (.long y :: .long x :: st) := by subst hp; exact fun H locs ls hP hS hl => lv_lsub X.1 X.2.1 hd (k H locs ls hP hS hl)
theorem V_land {x y : Int64} (X : Cx E G cc own nL d ret) (hd : decode cc pc = .ok (.land, 1)) (hp : pc + 1 = pc') (k : V E cs G nL Q M pc' lv (.long (x &&& y) :: st)) : V E cs G nL Q M pc lv (.long y :: .long x :: st) := by subst hp; exact fun H locs ls hP hS hl => lv_land X.1 X.2.1 hd (k H locs ls hP hS hl)
theorem V_lor {x y : Int64} (X : Cx E G cc own nL d ret) (hd : decode cc pc = .ok (.lor, 1)) (hp : pc + 1 = pc') (k : V E cs G nL Q M pc' lv (.long (x ||| y) :: st)) : V E cs G nL Q M pc lv (.long y :: .long x :: st) := by subst hp; exact fun H locs ls hP hS hl => lv_lor X.1 X.2.1 hd (k H locs ls hP hS hl)
theorem V_lxor {x y : Int64} (X : Cx E G cc own nL d ret) (hd : decode cc pc = .ok (.lxor, 1)) (hp : pc + 1 = pc') (k : V E cs G nL Q M pc' lv (.long (x ^^^ y) :: st)) : V E cs G nL Q M pc lv (.long y :: .long x :: st) := by subst hp; exact fun H locs ls hP hS hl => lv_lxor X.1 X.2.1 hd (k H locs ls hP hS hl)
theorem V_iushr {x y : Int32} (X : Cx E G cc own nL d ret) (hd : decode cc pc = .ok (.iushr, 1)) (hp : pc + 1 = pc') (k : V E cs G nL Q M pc' lv (.int ((x.toUInt32 >>> (y.toUInt32 &&& Int32.toUInt32 31)).toInt32) :: st)) : V E cs G nL Q M pc lv (.int y :: .int x :: st) := by subst hp; exact fun H locs ls hP hS hl => lv_iushr X.1 X.2.1 hd rfl (k H locs ls hP hS hl)
theorem V_lshl {x : Int64} {y : Int32} (X : Cx E G cc own nL d ret) (hd : decode cc pc = .ok (.lshl, 1)) (hp : pc + 1 = pc') (k : V E cs G nL Q M pc' lv (.long (x <<< (y.toInt64 &&& 63)) :: st)) : V E cs G nL Q M pc lv (.int y :: .long x :: st) := by subst hp; exact fun H locs ls hP hS hl => lv_lshl X.1 X.2.1 hd rfl (k H locs ls hP hS hl)
theorem V_lshr {x : Int64} {y : Int32} (X : Cx E G cc own nL d ret) (hd : decode cc pc = .ok (.lshr, 1)) (hp : pc + 1 = pc') (k : V E cs G nL Q M pc' lv (.long (x >>> (y.toInt64 &&& 63)) :: st)) : V E cs G nL Q M pc lv (.int y :: .long x :: st) := by subst hp; exact fun H locs ls hP hS hl => lv_lshr X.1 X.2.1 hd rfl (k H locs ls hP hS hl)
theorem V_lushr {x : Int64} {y : Int32} (X : Cx E G cc own nL d ret) (hd : decode cc pc = .ok (.lushr, 1)) (hp : pc + 1 = pc') (k : V E cs G nL Q M pc' lv (.long ((x.toUInt64 >>> (y.toInt64.toUInt64 &&& Int64.toUInt64 63)).toInt64) :: st)) : V E cs G nL Q M pc lv (.int y :: .long x :: st) := by subst hp; exact fun H locs ls hP hS hl => lv_lushr X.1 X.2.1 hd rfl (k H locs ls hP hS hl)
theorem V_idiv {x y : Int32} (X : Cx E G cc own nL d ret) (hd : decode cc pc = .ok (.idiv, 1)) (hy : ¬ y = 0) (hp : pc + 1 = pc') (k : V E cs G nL Q M pc' lv (.int (x / y) :: st)) : V E cs G nL Q M pc lv (.int y :: .int x :: st) := by subst hp; exact fun H locs ls hP hS hl => lv_idiv X.1 X.2.1 hd hy (k H locs ls hP hS hl)
theorem V_irem {x y : Int32} (X : Cx E G cc own nL d ret) (hd : decode cc pc = .ok (.irem, 1)) (hy : ¬ y = 0) (hp : pc + 1 = pc') (k : V E cs G nL Q M pc' lv (.int (x - x / y * y) :: st)) : V E cs G nL Q M pc lv (.int y :: .int x :: st) := by subst hp; exact fun H locs ls hP hS hl => lv_irem X.1 X.2.1 hd hy (k H locs ls hP hS hl)
theorem V_ineg {x : Int32} (X : Cx E G cc own nL d ret) (hd : decode cc pc = .ok (.ineg, 1)) (hp : pc + 1 = pc') (k : V E cs G nL Q M pc' lv (.int (-x) :: st)) : V E cs G nL Q M pc lv (.int x :: st) := by subst hp; exact fun H locs ls hP hS hl => lv_ineg X.1 X.2.1 hd (k H locs ls hP hS hl)
theorem V_i2l {x : Int32} (X : Cx E G cc own nL d ret) (hd : decode cc pc = .ok (.i2l, 1)) (hp : pc + 1 = pc') (k : V E cs G nL Q M pc' lv (.long x.toInt64 :: st)) : V E cs G nL Q M pc lv (.int x :: st) := by subst hp; exact fun H locs ls hP hS hl => lv_i2l X.1 X.2.1 hd rfl (k H locs ls hP hS hl)
theorem V_l2i {x : Int64} (X : Cx E G cc own nL d ret) (hd : decode cc pc = .ok (.l2i, 1)) (hp : pc + 1 = pc') (k : V E cs G nL Q M pc' lv (.int x.toInt32 :: st)) : V E cs G nL Q M pc lv (.long x :: st) := by subst hp; exact fun H locs ls hP hS hl => lv_l2i X.1 X.2.1 hd rfl (k H locs ls hP hS hl)
theorem V_i2b {x : Int32} (X : Cx E G cc own nL d ret) (hd : decode cc pc = .ok (.i2b, 1)) (hp : pc + 1 = pc') (k : V E cs G nL Q M pc' lv (.int x.toInt8.toInt32 :: st)) : V E cs G nL Q M pc lv (.int x :: st) := by subst hp; exact fun H locs ls hP hS hl => lv_i2b X.1 X.2.1 hd rfl (k H locs ls hP hS hl)
theorem V_i2s {x : Int32} (X : Cx E G cc own nL d ret) (hd : decode cc pc = .ok (.i2s, 1)) (hp : pc + 1 = pc') (k : V E cs G nL Q M pc' lv (.int x.toInt16.toInt32 :: st)) : V E cs G nL Q M pc lv (.int x :: st) := by subst hp; exact fun H locs ls hP hS hl => lv_i2s X.1 X.2.1 hd rfl (k H locs ls hP hS hl)
theorem V_lcmp {x y : Int64} (X : Cx E G cc own nL d ret) (hd : decode cc pc = .ok (.lcmp, 1)) (hp : pc + 1 = pc') (k : V E cs G nL Q M pc' lv (.int (lg_cmp x y) :: st)) : V E cs G nL Q M pc lv (.long y :: .long x :: st) := by subst hp; exact fun H locs ls hP hS hl => W.lcmp X.1 X.2.1 hd (k H locs ls hP hS hl)
theorem V_iconst {n : Int} {v : Int32} (X : Cx E G cc own nL d ret) (hd : decode cc pc = .ok (.iconst n, 1)) (hv : Int32.ofInt n = v) (hp : pc + 1 = pc') (k : V E cs G nL Q M pc' lv (.int v :: st)) : V E cs G nL Q M pc lv (st) := by subst hp; exact fun H locs ls hP hS hl => lv_iconst X.1 X.2.1 hd hv (k H locs ls hP hS hl)
theorem V_bipush {n : Int} {v : Int32} (X : Cx E G cc own nL d ret) (hd : decode cc pc = .ok (.bipush n, 2)) (hv : (Int8.ofInt n).toInt32 = v) (hp : pc + 2 = pc') (k : V E cs G nL Q M pc' lv (.int v :: st)) : V E cs G nL Q M pc lv (st) := by subst hp; exact fun H locs ls hP hS hl => lv_bipush X.1 X.2.1 hd hv (k H locs ls hP hS hl)
theorem V_sipush {n : Int} {v : Int32} (X : Cx E G cc own nL d ret) (hd : decode cc pc = .ok (.sipush n, 3)) (hv : (Int16.ofInt n).toInt32 = v) (hp : pc + 3 = pc') (k : V E cs G nL Q M pc' lv (.int v :: st)) : V E cs G nL Q M pc lv (st) := by subst hp; exact fun H locs ls hP hS hl => lv_sipush X.1 X.2.1 hd hv (k H locs ls hP hS hl)
theorem V_lconst {n : Fin 2} {v : Int64} (X : Cx E G cc own nL d ret) (hd : decode cc pc = .ok (.lconst n, 1)) (hv : Int64.ofNat (n : Nat) = v) (hp : pc + 1 = pc') (k : V E cs G nL Q M pc' lv (.long v :: st)) : V E cs G nL Q M pc lv (st) := by subst hp; exact fun H locs ls hP hS hl => lv_lconst X.1 X.2.1 hd hv (k H locs ls hP hS hl)
theorem V_ldc {i : Nat} {v : Int32} (X : Cx E G cc own nL d ret) (hd : decode cc pc = .ok (.ldc i, 2)) (hw : Cond.constant own i v ∈ gw) (hp : pc + 2 = pc') (k : V E cs G nL Q M pc' lv (.int v :: st)) : V E cs G nL Q M pc lv (st) := by subst hp; exact fun H locs ls hP hS hl => lv_ldc X.1 X.2.1 X.2.2.2.1 (X.2.2.2.2.1 _ hw) hd (k H locs ls hP hS hl)
theorem V_ldc_w {i : Nat} {v : Int32} (X : Cx E G cc own nL d ret) (hd : decode cc pc = .ok (.ldc_w i, 3)) (hw : Cond.constant own i v ∈ gw) (hp : pc + 3 = pc') (k : V E cs G nL Q M pc' lv (.int v :: st)) : V E cs G nL Q M pc lv (st) := by subst hp; exact fun H locs ls hP hS hl => lv_ldcw X.1 X.2.1 X.2.2.2.1 (X.2.2.2.2.1 _ hw) hd (k H locs ls hP hS hl)
theorem V_ldc2_w {i : Nat} {v : Int64} (X : Cx E G cc own nL d ret) (hd : decode cc pc = .ok (.ldc2_w i, 3)) (hw : Cond.constantLong own i v ∈ gw) (hp : pc + 3 = pc') (k : V E cs G nL Q M pc' lv (.long v :: st)) : V E cs G nL Q M pc lv (st) := by subst hp; exact fun H locs ls hP hS hl => lv_ldc2 X.1 X.2.1 X.2.2.2.1 (X.2.2.2.2.1 _ hw) hd (k H locs ls hP hS hl)
theorem V_null  (X : Cx E G cc own nL d ret) (hd : decode cc pc = .ok (.aconst_null, 1)) (hp : pc + 1 = pc') (k : V E cs G nL Q M pc' lv (.null :: st)) : V E cs G nL Q M pc lv (st) := by subst hp; exact fun H locs ls hP hS hl => lv_null X.1 X.2.1 hd (k H locs ls hP hS hl)
theorem V_dup {v : Value} (X : Cx E G cc own nL d ret) (hd : decode cc pc = .ok (.dup, 1)) (h1 : v.category = 1) (hp : pc + 1 = pc') (k : V E cs G nL Q M pc' lv (v :: v :: st)) : V E cs G nL Q M pc lv (v :: st) := by subst hp; exact fun H locs ls hP hS hl => lv_dup X.1 X.2.1 hd h1 (k H locs ls hP hS hl)
theorem V_pop {v : Value} (X : Cx E G cc own nL d ret) (hd : decode cc pc = .ok (.pop, 1)) (h1 : v.category = 1) (hp : pc + 1 = pc') (k : V E cs G nL Q M pc' lv (st)) : V E cs G nL Q M pc lv (v :: st) := by subst hp; exact fun H locs ls hP hS hl => lv_pop X.1 X.2.1 hd h1 (k H locs ls hP hS hl)
theorem V_dup_x1 {v w : Value} (X : Cx E G cc own nL d ret) (hd : decode cc pc = .ok (.dup_x1, 1)) (h1 : v.category = 1) (h2 : w.category = 1) (hp : pc + 1 = pc') (k : V E cs G nL Q M pc' lv (v :: w :: v :: st)) : V E cs G nL Q M pc lv (v :: w :: st) := by subst hp; exact fun H locs ls hP hS hl => lv_dup_x1 X.1 X.2.1 hd h1 h2 (k H locs ls hP hS hl)
theorem V_dup2 {v w : Value} (X : Cx E G cc own nL d ret) (hd : decode cc pc = .ok (.dup2, 1)) (h1 : v.category = 1) (h2 : w.category = 1) (hp : pc + 1 = pc') (k : V E cs G nL Q M pc' lv (v :: w :: v :: w :: st)) : V E cs G nL Q M pc lv (v :: w :: st) := by subst hp; exact fun H locs ls hP hS hl => lv_dup2_11 X.1 X.2.1 hd h1 h2 (k H locs ls hP hS hl)
theorem V_iload_n {k0 : Fin 4} {i n : Nat} {x : Int32} (X : Cx E G cc own nL d ret) (hd : decode cc pc = .ok (.iload_n k0, 1)) (hi : (k0 : Nat) = i) (hn : lv[n]? = some (i, .int x)) (hp : pc + 1 = pc') (k : V E cs G nL Q M pc' lv (.int x :: st)) : V E cs G nL Q M pc lv (st) := by subst hp; exact fun H locs ls hP hS hl => lv_iload_n X.1 X.2.1 hd hi (lv_at hl n hn) (k H locs ls hP hS hl)
theorem V_iload {i n : Nat} {x : Int32} (X : Cx E G cc own nL d ret) (hd : decode cc pc = .ok (.iload i, 2)) (hn : lv[n]? = some (i, .int x)) (hp : pc + 2 = pc') (k : V E cs G nL Q M pc' lv (.int x :: st)) : V E cs G nL Q M pc lv (st) := by subst hp; exact fun H locs ls hP hS hl => lv_iload X.1 X.2.1 hd (lv_at hl n hn) (k H locs ls hP hS hl)
theorem V_istore_n {k0 : Fin 4} {i : Nat} {x : Int32} (X : Cx E G cc own nL d ret) (hd : decode cc pc = .ok (.istore_n k0, 1)) (hi : (k0 : Nat) = i) (hn : i < nL) (hv : (i, Value.int x) :: lv.filter (fun q => !(q.1 == i) && !(q.1 + 1 == i && q.2.category == 2)) = lv') (hp : pc + 1 = pc') (k : V E cs G nL Q M pc' lv' st) : V E cs G nL Q M pc lv (.int x :: st) := by subst hp; exact fun H locs ls hP hS hl => lv_istore_n X.1 X.2.1 hd hi hl hn hv (fun ls hl => k H locs ls hP hS hl)
theorem V_istore {i : Nat} {x : Int32} (X : Cx E G cc own nL d ret) (hd : decode cc pc = .ok (.istore i, 2)) (hn : i < nL) (hv : (i, Value.int x) :: lv.filter (fun q => !(q.1 == i) && !(q.1 + 1 == i && q.2.category == 2)) = lv') (hp : pc + 2 = pc') (k : V E cs G nL Q M pc' lv' st) : V E cs G nL Q M pc lv (.int x :: st) := by subst hp; exact fun H locs ls hP hS hl => lv_istore X.1 X.2.1 hd hl hn hv (fun ls hl => k H locs ls hP hS hl)
theorem V_lload_n {k0 : Fin 4} {i n : Nat} {x : Int64} (X : Cx E G cc own nL d ret) (hd : decode cc pc = .ok (.lload_n k0, 1)) (hi : (k0 : Nat) = i) (hn : lv[n]? = some (i, .long x)) (hp : pc + 1 = pc') (k : V E cs G nL Q M pc' lv (.long x :: st)) : V E cs G nL Q M pc lv (st) := by subst hp; exact fun H locs ls hP hS hl => lv_lload_n X.1 X.2.1 hd hi (lv_at hl n hn) (k H locs ls hP hS hl)
theorem V_lload {i n : Nat} {x : Int64} (X : Cx E G cc own nL d ret) (hd : decode cc pc = .ok (.lload i, 2)) (hn : lv[n]? = some (i, .long x)) (hp : pc + 2 = pc') (k : V E cs G nL Q M pc' lv (.long x :: st)) : V E cs G nL Q M pc lv (st) := by subst hp; exact fun H locs ls hP hS hl => lv_lload X.1 X.2.1 hd (lv_at hl n hn) (k H locs ls hP hS hl)
theorem V_lstore_n {k0 : Fin 4} {i : Nat} {x : Int64} (X : Cx E G cc own nL d ret) (hd : decode cc pc = .ok (.lstore_n k0, 1)) (hi : (k0 : Nat) = i) (hn : i + 1 < nL) (hv : (i, Value.long x) :: lv.filter (fun q => !(q.1 == i) && (!(q.1 == i + 1) && !(q.1 + 1 == i && q.2.category == 2))) = lv') (hp : pc + 1 = pc') (k : V E cs G nL Q M pc' lv' st) : V E cs G nL Q M pc lv (.long x :: st) := by subst hp; exact fun H locs ls hP hS hl => lv_lstore_n X.1 X.2.1 hd hi hl hn hv (fun ls hl => k H locs ls hP hS hl)
theorem V_lstore {i : Nat} {x : Int64} (X : Cx E G cc own nL d ret) (hd : decode cc pc = .ok (.lstore i, 2)) (hn : i + 1 < nL) (hv : (i, Value.long x) :: lv.filter (fun q => !(q.1 == i) && (!(q.1 == i + 1) && !(q.1 + 1 == i && q.2.category == 2))) = lv') (hp : pc + 2 = pc') (k : V E cs G nL Q M pc' lv' st) : V E cs G nL Q M pc lv (.long x :: st) := by subst hp; exact fun H locs ls hP hS hl => lv_lstore X.1 X.2.1 hd hl hn hv (fun ls hl => k H locs ls hP hS hl)
theorem V_aload_n {k0 : Fin 4} {i n : Nat} {x : Nat} (X : Cx E G cc own nL d ret) (hd : decode cc pc = .ok (.aload_n k0, 1)) (hi : (k0 : Nat) = i) (hn : lv[n]? = some (i, .ref x)) (hp : pc + 1 = pc') (k : V E cs G nL Q M pc' lv (.ref x :: st)) : V E cs G nL Q M pc lv (st) := by subst hp; exact fun H locs ls hP hS hl => lv_aload_n X.1 X.2.1 hd hi (lv_at hl n hn) (k H locs ls hP hS hl)
theorem V_aload {i n : Nat} {x : Nat} (X : Cx E G cc own nL d ret) (hd : decode cc pc = .ok (.aload i, 2)) (hn : lv[n]? = some (i, .ref x)) (hp : pc + 2 = pc') (k : V E cs G nL Q M pc' lv (.ref x :: st)) : V E cs G nL Q M pc lv (st) := by subst hp; exact fun H locs ls hP hS hl => lv_aload X.1 X.2.1 hd (lv_at hl n hn) (k H locs ls hP hS hl)
theorem V_astore_n {k0 : Fin 4} {i : Nat} {x : Nat} (X : Cx E G cc own nL d ret) (hd : decode cc pc = .ok (.astore_n k0, 1)) (hi : (k0 : Nat) = i) (hn : i < nL) (hv : (i, Value.ref x) :: lv.filter (fun q => !(q.1 == i) && !(q.1 + 1 == i && q.2.category == 2)) = lv') (hp : pc + 1 = pc') (k : V E cs G nL Q M pc' lv' st) : V E cs G nL Q M pc lv (.ref x :: st) := by subst hp; exact fun H locs ls hP hS hl => lv_astore_n X.1 X.2.1 hd hi hl hn hv (fun ls hl => k H locs ls hP hS hl)
theorem V_astore {i : Nat} {x : Nat} (X : Cx E G cc own nL d ret) (hd : decode cc pc = .ok (.astore i, 2)) (hn : i < nL) (hv : (i, Value.ref x) :: lv.filter (fun q => !(q.1 == i) && !(q.1 + 1 == i && q.2.category == 2)) = lv') (hp : pc + 2 = pc') (k : V E cs G nL Q M pc' lv' st) : V E cs G nL Q M pc lv (.ref x :: st) := by subst hp; exact fun H locs ls hP hS hl => lv_astore X.1 X.2.1 hd hl hn hv (fun ls hl => k H locs ls hP hS hl)
theorem V_iinc {i n : Nat} {a : Int} {x v : Int32} (X : Cx E G cc own nL d ret) (hd : decode cc pc = .ok (.iinc i a, 3)) (hn : lv[n]? = some (i, .int x)) (hv : x + Int32.ofInt a = v) (hi : i < nL) (hl9 : (i, Value.int v) :: lv.filter (fun q => !(q.1 == i) && !(q.1 + 1 == i && q.2.category == 2)) = lv') (hp : pc + 3 = pc') (k : V E cs G nL Q M pc' lv' st) : V E cs G nL Q M pc lv st := by subst hp; exact fun H locs ls hP hS hl => lv_iinc X.1 X.2.1 hd hl hn hv hi hl9 (fun ls hl => k H locs ls hP hS hl)
theorem V_goto {off : Int} (X : Cx E G cc own nL d ret) (hd : decode cc pc = .ok (.goto off, 3)) (ht : (pc : Int) + off = (pc' : Int)) (k : V E cs G nL Q M pc' lv st) : V E cs G nL Q M pc lv st := fun H locs ls hP hS hl => lv_goto X.1 X.2.1 hd ht (k H locs ls hP hS hl)
theorem V_if_eq {x : Int32} {off : Int} {tgt : Nat} (X : Cx E G cc own nL d ret) (hd : decode cc pc = .ok (.ifCond .eq off, 3)) (ht : (pc : Int) + off = (tgt : Int)) (hp : pc + 3 = pc') (kt : x = 0 → V E cs G nL Q M tgt lv st) (kf : ¬ x = 0 → V E cs G nL Q M pc' lv st) : V E cs G nL Q M pc lv (.int x :: st) := by subst hp; exact fun H locs ls hP hS hl => lv_if_eq X.1 X.2.1 hd ht (fun h => kt h H locs ls hP hS hl) (fun h => kf h H locs ls hP hS hl)
theorem V_icmp_eq {x y : Int32} {off : Int} {tgt : Nat} (X : Cx E G cc own nL d ret) (hd : decode cc pc = .ok (.if_icmp .eq off, 3)) (ht : (pc : Int) + off = (tgt : Int)) (hp : pc + 3 = pc') (kt : x = y → V E cs G nL Q M tgt lv st) (kf : ¬ x = y → V E cs G nL Q M pc' lv st) : V E cs G nL Q M pc lv (.int y :: .int x :: st) := by subst hp; exact fun H locs ls hP hS hl => lv_icmp_eq X.1 X.2.1 hd ht (fun h => kt h H locs ls hP hS hl) (fun h => kf h H locs ls hP hS hl)
theorem V_if_ne {x : Int32} {off : Int} {tgt : Nat} (X : Cx E G cc own nL d ret) (hd : decode cc pc = .ok (.ifCond .ne off, 3)) (ht : (pc : Int) + off = (tgt : Int)) (hp : pc + 3 = pc') (kt : ¬ x = 0 → V E cs G nL Q M tgt lv st) (kf : x = 0 → V E cs G nL Q M pc' lv st) : V E cs G nL Q M pc lv (.int x :: st) := by subst hp; exact fun H locs ls hP hS hl => lv_if_ne X.1 X.2.1 hd ht (fun h => kt h H locs ls hP hS hl) (fun h => kf h H locs ls hP hS hl)
theorem V_icmp_ne {x y : Int32} {off : Int} {tgt : Nat} (X : Cx E G cc own nL d ret) (hd : decode cc pc = .ok (.if_icmp .ne off, 3)) (ht : (pc : Int) + off = (tgt : Int)) (hp : pc + 3 = pc') (kt : ¬ x = y → V E cs G nL Q M tgt lv st) (kf : x = y → V E cs G nL Q M pc' lv st) : V E cs G nL Q M pc lv (.int y :: .int x :: st) := by subst hp; exact fun H locs ls hP hS hl => lv_icmp_ne X.1 X.2.1 hd ht (fun h => kt h H locs ls hP hS hl) (fun h => kf h H locs ls hP hS hl)
theorem V_if_lt {x : Int32} {off : Int} {tgt : Nat} (X : Cx E G cc own nL d ret) (hd : decode cc pc = .ok (.ifCond .lt off, 3)) (ht : (pc : Int) + off = (tgt : Int)) (hp : pc + 3 = pc') (kt : x < 0 → V E cs G nL Q M tgt lv st) (kf : ¬ x < 0 → V E cs G nL Q M pc' lv st) : V E cs G nL Q M pc lv (.int x :: st) := by subst hp; exact fun H locs ls hP hS hl => lv_if_lt X.1 X.2.1 hd ht (fun h => kt h H locs ls hP hS hl) (fun h => kf h H locs ls hP hS hl)
theorem V_icmp_lt {x y : Int32} {off : Int} {tgt : Nat} (X : Cx E G cc own nL d ret) (hd : decode cc pc = .ok (.if_icmp .lt off, 3)) (ht : (pc : Int) + off = (tgt : Int)) (hp : pc + 3 = pc') (kt : x < y → V E cs G nL Q M tgt lv st) (kf : ¬ x < y → V E cs G nL Q M pc' lv st) : V E cs G nL Q M pc lv (.int y :: .int x :: st) := by subst hp; exact fun H locs ls hP hS hl => lv_icmp_lt X.1 X.2.1 hd ht (fun h => kt h H locs ls hP hS hl) (fun h => kf h H locs ls hP hS hl)
theorem V_if_ge {x : Int32} {off : Int} {tgt : Nat} (X : Cx E G cc own nL d ret) (hd : decode cc pc = .ok (.ifCond .ge off, 3)) (ht : (pc : Int) + off = (tgt : Int)) (hp : pc + 3 = pc') (kt : 0 ≤ x → V E cs G nL Q M tgt lv st) (kf : ¬ 0 ≤ x → V E cs G nL Q M pc' lv st) : V E cs G nL Q M pc lv (.int x :: st) := by subst hp; exact fun H locs ls hP hS hl => lv_if_ge X.1 X.2.1 hd ht (fun h => kt h H locs ls hP hS hl) (fun h => kf h H locs ls hP hS hl)
theorem V_icmp_ge {x y : Int32} {off : Int} {tgt : Nat} (X : Cx E G cc own nL d ret) (hd : decode cc pc = .ok (.if_icmp .ge off, 3)) (ht : (pc : Int) + off = (tgt : Int)) (hp : pc + 3 = pc') (kt : y ≤ x → V E cs G nL Q M tgt lv st) (kf : ¬ y ≤ x → V E cs G nL Q M pc' lv st) : V E cs G nL Q M pc lv (.int y :: .int x :: st) := by subst hp; exact fun H locs ls hP hS hl => lv_icmp_ge X.1 X.2.1 hd ht (fun h => kt h H locs ls hP hS hl) (fun h => kf h H locs ls hP hS hl)
theorem V_if_gt {x : Int32} {off : Int} {tgt : Nat} (X : Cx E G cc own nL d ret) (hd : decode cc pc = .ok (.ifCond .gt off, 3)) (ht : (pc : Int) + off = (tgt : Int)) (hp : pc + 3 = pc') (kt : 0 < x → V E cs G nL Q M tgt lv st) (kf : ¬ 0 < x → V E cs G nL Q M pc' lv st) : V E cs G nL Q M pc lv (.int x :: st) := by subst hp; exact fun H locs ls hP hS hl => lv_if_gt X.1 X.2.1 hd ht (fun h => kt h H locs ls hP hS hl) (fun h => kf h H locs ls hP hS hl)
theorem V_icmp_gt {x y : Int32} {off : Int} {tgt : Nat} (X : Cx E G cc own nL d ret) (hd : decode cc pc = .ok (.if_icmp .gt off, 3)) (ht : (pc : Int) + off = (tgt : Int)) (hp : pc + 3 = pc') (kt : y < x → V E cs G nL Q M tgt lv st) (kf : ¬ y < x → V E cs G nL Q M pc' lv st) : V E cs G nL Q M pc lv (.int y :: .int x :: st) := by subst hp; exact fun H locs ls hP hS hl => lv_icmp_gt X.1 X.2.1 hd ht (fun h => kt h H locs ls hP hS hl) (fun h => kf h H locs ls hP hS hl)
theorem V_if_le {x : Int32} {off : Int} {tgt : Nat} (X : Cx E G cc own nL d ret) (hd : decode cc pc = .ok (.ifCond .le off, 3)) (ht : (pc : Int) + off = (tgt : Int)) (hp : pc + 3 = pc') (kt : x ≤ 0 → V E cs G nL Q M tgt lv st) (kf : ¬ x ≤ 0 → V E cs G nL Q M pc' lv st) : V E cs G nL Q M pc lv (.int x :: st) := by subst hp; exact fun H locs ls hP hS hl => lv_if_le X.1 X.2.1 hd ht (fun h => kt h H locs ls hP hS hl) (fun h => kf h H locs ls hP hS hl)
theorem V_icmp_le {x y : Int32} {off : Int} {tgt : Nat} (X : Cx E G cc own nL d ret) (hd : decode cc pc = .ok (.if_icmp .le off, 3)) (ht : (pc : Int) + off = (tgt : Int)) (hp : pc + 3 = pc') (kt : x ≤ y → V E cs G nL Q M tgt lv st) (kf : ¬ x ≤ y → V E cs G nL Q M pc' lv st) : V E cs G nL Q M pc lv (.int y :: .int x :: st) := by subst hp; exact fun H locs ls hP hS hl => lv_icmp_le X.1 X.2.1 hd ht (fun h => kt h H locs ls hP hS hl) (fun h => kf h H locs ls hP hS hl)
theorem V_nonnull {x : Nat} {off : Int} (X : Cx E G cc own nL d ret) (hd : decode cc pc = .ok (.ifnonnull off, 3)) (ht : (pc : Int) + off = (pc' : Int)) (k : V E cs G nL Q M pc' lv st) : V E cs G nL Q M pc lv (.ref x :: st) := fun H locs ls hP hS hl => lv_ifnonnull X.1 X.2.1 hd ht (k H locs ls hP hS hl)
theorem V_nonnullN {off : Int} (X : Cx E G cc own nL d ret) (hd : decode cc pc = .ok (.ifnonnull off, 3)) (hp : pc + 3 = pc') (k : V E cs G nL Q M pc' lv st) : V E cs G nL Q M pc lv (.null :: st) := by subst hp; exact fun H locs ls hP hS hl => lv_ifnonnullN X.1 X.2.1 hd (k H locs ls hP hS hl)
theorem V_tableIn {dflt lo hi : Int} {offs : Array Int} {len : Nat} {x : Int32} {off : Int} (X : Cx E G cc own nL d ret) (hd : decode cc pc = .ok (.tableswitch dflt lo hi offs, len)) (h1 : ¬ x.toInt < lo) (h2 : ¬ hi < x.toInt) (ho : offs[(x.toInt - lo).toNat]? = some off) (ht : (pc : Int) + off = (pc' : Int)) (k : V E cs G nL Q M pc' lv st) : V E cs G nL Q M pc lv (.int x :: st) := fun H locs ls hP hS hl => lv_tableIn X.1 X.2.1 hd h1 h2 ho ht (k H locs ls hP hS hl)
theorem V_tableOut {dflt lo hi : Int} {offs : Array Int} {len : Nat} {x : Int32} (X : Cx E G cc own nL d ret) (hd : decode cc pc = .ok (.tableswitch dflt lo hi offs, len)) (h : x.toInt < lo ∨ hi < x.toInt) (ht : (pc : Int) + dflt = (pc' : Int)) (k : V E cs G nL Q M pc' lv st) : V E cs G nL Q M pc lv (.int x :: st) := fun H locs ls hP hS hl => lv_tableOut X.1 X.2.1 hd h ht (k H locs ls hP hS hl)
theorem V_lookup {dflt : Int} {ps : Array (Int × Int)} {len : Nat} {x : Int32} {off : Int} (X : Cx E G cc own nL d ret) (hd : decode cc pc = .ok (.lookupswitch dflt ps, len)) (hq : (ps.toList.zip (ps.toList.drop 1)).all (fun (a, next) => a.1 < next.1) = true) (ho : Op.lookupswitch.offset ps.toList dflt x.toInt = off) (ht : (pc : Int) + off = (pc' : Int)) (k : V E cs G nL Q M pc' lv st) : V E cs G nL Q M pc lv (.int x :: st) := fun H locs ls hP hS hl => lv_lookup X.1 X.2.1 hd hq ho ht (k H locs ls hP hS hl)
/-- a field's link: its class's number, its own number -/
def fOk (own : String) (idx c j : Nat) : Prop := ∃ (C : String) (T : u_T) (N : Nat), clsL[c]? = some (C, T, N) ∧ (∀ w ∈ u_ws C T N, w ∈ gw) ∧ j < N ∧ nf c = N ∧ Cond.fieldLink own idx (T j).1 (T j).2.1 (T j).2.2.1 ∈ gw
def fPut (own : String) (idx c j : Nat) (ty : FieldType) : Prop := ∃ (C : String) (T : u_T) (N : Nat) (ty0 : Nat → FieldType), clsL[c]? = some (C, T, N) ∧ (∀ w ∈ u_ws C T N, w ∈ gw) ∧ j < N ∧ nf c = N ∧ Cond.fieldLink own idx (T j).1 (T j).2.1 (T j).2.2.1 ∈ gw ∧ (T j).2.2.2 = false ∧ (∀ k, k < N → parseFieldDescriptor (T k).2.2.1 = some (ty0 k)) ∧ (∀ a, a < N → ∀ b, b < N → a ≠ b → (T a).2.1 ≠ (T b).2.1) ∧ parseFieldDescriptor (T j).2.2.1 = some ty
theorem V_get {k c j idx : Nat} {v : Value} (X : Cx E G cc own nL d ret) (hF : fOk own idx c j) (hk : kd k = 10 + c) (hv : fv G M k c j = v) (hd : decode cc pc = .ok (.getfield idx, 3)) (hp : pc + 3 = pc') (kk : V E cs G nL Q M pc' lv (v :: st)) : V E cs G nL Q M pc lv (.ref (G.2.2 + k) :: st) := by
  subst hp
  obtain ⟨C, T, N, h1, h2, h3, h4, h5⟩ := hF
  have hkn : k < NT := kd_lt (by omega)
  intro H locs ls hP hS hl
  exact va_get (C := C) (T := T) (N := N) (ci := c) (v := v) X.1 X.2.1 X.2.2.2.2.1 h2 X.2.2.2.1 X.2.2.2.2.2.1 hP k (by rw [wsM_get G M hkn, dsc_o hk]) h1 j h3 (X.2.2.2.2.1 _ h5) (fun _ h9 => h9) (by rw [fs_get (by omega), hv]) hd (kk H locs ls hP hS hl)
theorem V_geti {k c j idx : Nat} (X : Cx E G cc own nL d ret) (hF : fOk own idx c j) (hk : kd k = 10 + c) (hf : fc c j = 0) (hd : decode cc pc = .ok (.getfield idx, 3)) (hp : pc + 3 = pc') (kk : V E cs G nL Q M pc' lv (.int (M.1 k j) :: st)) : V E cs G nL Q M pc lv (.ref (G.2.2 + k) :: st) := V_get X hF hk (by simp [fv, hf]) hd hp kk
theorem V_getl {k c j idx : Nat} (X : Cx E G cc own nL d ret) (hF : fOk own idx c j) (hk : kd k = 10 + c) (hf : fc c j = 1) (hd : decode cc pc = .ok (.getfield idx, 3)) (hp : pc + 3 = pc') (kk : V E cs G nL Q M pc' lv (.long (M.2.1 k j) :: st)) : V E cs G nL Q M pc lv (.ref (G.2.2 + k) :: st) := V_get X hF hk (by simp [fv, hf]) hd hp kk
theorem V_getr {k c j idx k2 : Nat} (X : Cx E G cc own nL d ret) (hF : fOk own idx c j) (hk : kd k = 10 + c) (hf : fc c j = 2) (hr : rf k j = k2) (hd : decode cc pc = .ok (.getfield idx, 3)) (hp : pc + 3 = pc') (kk : V E cs G nL Q M pc' lv (.ref (G.2.2 + k2) :: st)) : V E cs G nL Q M pc lv (.ref (G.2.2 + k) :: st) := V_get X hF hk (by simp [fv, hf, hr]) hd hp kk
theorem V_getq {k c j idx : Nat} (X : Cx E G cc own nL d ret) (hF : fOk own idx c j) (hk : kd k = 10 + c) (hf : fc c j = 3) (hd : decode cc pc = .ok (.getfield idx, 3)) (hp : pc + 3 = pc') (kk : V E cs G nL Q M pc' lv (va_rf ((M.2.2 k j).map (G.2.2 + ·)) :: st)) : V E cs G nL Q M pc lv (.ref (G.2.2 + k) :: st) := V_get X hF hk (by simp [fv, hf]) hd hp kk
theorem V_put {k c j idx : Nat} {ty : FieldType} {v : Value} {M' : Mem} (X : Cx E G cc own nL d ret) (hF : fPut own idx c j ty) (hk : kd k = 10 + c) (hv : fv G M' k c j = v) (ho : ∀ b, b ≠ j → fv G M' k c b = fv G M k c b) (ha : ∀ a, a ≠ k → dsc G M' a = dsc G M a) (hn : narrow ty v = v) (hfit : fits ty v = true) (hd : decode cc pc = .ok (.putfield idx, 3)) (hp : pc + 3 = pc') (kk : V E cs G nL Q M' pc' lv st) : V E cs G nL Q M pc lv (v :: .ref (G.2.2 + k) :: st) := by
  subst hp
  obtain ⟨C, T, N, ty0, h1, h2, h3, h4, h5, h6, h7, h8, h9⟩ := hF
  have hkn : k < NT := kd_lt (by omega)
  intro H locs ls hP hS hl
  refine va_put (C := C) (T := T) (N := N) (ci := c) (v := v) (ty := ty) X.1 X.2.1 X.2.2.2.2.1 h2 ty0 h7 h8 X.2.2.2.1 X.2.2.2.2.2.1 hP (wsM_D G M) hS k (by rw [wsM_get G M hkn, dsc_o hk]) h1 j h3 (X.2.2.2.2.1 _ h5) (fun _ h9 => h9) h6 h9 hn hfit (by simp; omega) hd (fun H1 locs1 hP1 hD1 hS1 => ?_)
  rw [fs_set hv ho, wsM_set (M' := M') ha (dsc_o hk)] at hP1
  exact kk H1 locs1 ls hP1 hS1 hl
theorem V_puti {k c j idx : Nat} {ty : FieldType} {v : Int32} (X : Cx E G cc own nL d ret) (hF : fPut own idx c j ty) (hk : kd k = 10 + c) (hf : fc c j = 0) (hn : narrow ty (.int v) = .int v) (hfit : fits ty (.int v) = true) (hd : decode cc pc = .ok (.putfield idx, 3)) (hp : pc + 3 = pc') (kk : V E cs G nL Q (s_i M k j v) pc' lv st) : V E cs G nL Q M pc lv (.int v :: .ref (G.2.2 + k) :: st) :=
  V_put X hF hk (by simp [fv, hf, s_i]) (fun b hb => by simp [fv, s_i, hb]) (fun a h => dsc_si h) hn hfit hd hp kk
theorem V_putI {k c j idx : Nat} {v : Int32} (X : Cx E G cc own nL d ret) (hF : fPut own idx c j .int) (hk : kd k = 10 + c) (hf : fc c j = 0) (hd : decode cc pc = .ok (.putfield idx, 3)) (hp : pc + 3 = pc') (kk : V E cs G nL Q (s_i M k j v) pc' lv st) : V E cs G nL Q M pc lv (.int v :: .ref (G.2.2 + k) :: st) := V_puti X hF hk hf rfl rfl hd hp kk
theorem V_putZ {k c j idx : Nat} {v : Int32} (X : Cx E G cc own nL d ret) (hF : fPut own idx c j .boolean) (hk : kd k = 10 + c) (hf : fc c j = 0) (hz : v = 0 ∨ v = 1) (hd : decode cc pc = .ok (.putfield idx, 3)) (hp : pc + 3 = pc') (kk : V E cs G nL Q (s_i M k j v) pc' lv st) : V E cs G nL Q M pc lv (.int v :: .ref (G.2.2 + k) :: st) := V_puti X hF hk hf (by rcases hz with rfl | rfl <;> decide) (by rcases hz with rfl | rfl <;> decide) hd hp kk
theorem V_putl {k c j idx : Nat} {v : Int64} (X : Cx E G cc own nL d ret) (hF : fPut own idx c j .long) (hk : kd k = 10 + c) (hf : fc c j = 1) (hd : decode cc pc = .ok (.putfield idx, 3)) (hp : pc + 3 = pc') (kk : V E cs G nL Q (s_l M k j v) pc' lv st) : V E cs G nL Q M pc lv (.long v :: .ref (G.2.2 + k) :: st) :=
  V_put X hF hk (by simp [fv, hf, s_l]) (fun b hb => by simp [fv, s_l, hb]) (fun a h => dsc_sl h) rfl rfl hd hp kk
theorem V_putr {k c j idx k2 : Nat} {ty : FieldType} (X : Cx E G cc own nL d ret) (hF : fPut own idx c j (.array ty)) (hk : kd k = 10 + c) (hf : fc c j = 3) (hd : decode cc pc = .ok (.putfield idx, 3)) (hp : pc + 3 = pc') (kk : V E cs G nL Q (s_q M k j (some k2)) pc' lv st) : V E cs G nL Q M pc lv (.ref (G.2.2 + k2) :: .ref (G.2.2 + k) :: st) :=
  V_put X hF hk (by simp [fv, hf, s_q, va_rf]) (fun b hb => by simp [fv, s_q, hb]) (fun a h => dsc_sq h) rfl rfl hd hp kk
theorem V_putn {k c j idx : Nat} {ty : FieldType} (X : Cx E G cc own nL d ret) (hF : fPut own idx c j (.array ty)) (hk : kd k = 10 + c) (hf : fc c j = 3) (hd : decode cc pc = .ok (.putfield idx, 3)) (hp : pc + 3 = pc') (kk : V E cs G nL Q (s_q M k j none) pc' lv st) : V E cs G nL Q M pc lv (.null :: .ref (G.2.2 + k) :: st) :=
  V_put X hF hk (by simp [fv, hf, s_q, va_rf]) (fun b hb => by simp [fv, s_q, hb]) (fun a h => dsc_sq h) rfl rfl hd hp kk
theorem V_iald {k : Nat} {i : Int32} (X : Cx E G cc own nL d ret) (hk : kd k = 1) (hi : vp_in i (ln k)) (hd : decode cc pc = .ok (.iaload, 1)) (hp : pc + 1 = pc') (kk : V E cs G nL Q M pc' lv (.int (M.1 k i.toNatClampNeg) :: st)) : V E cs G nL Q M pc lv (.int i :: .ref (G.2.2 + k) :: st) := by
  subst hp
  exact fun H locs ls hP hS hl => va_iald X.1 X.2.1 X.2.2.2.2.2.1 hP k 0 (by rw [wsM_get G M (kd_lt (by omega)), dsc_i hk (by decide)]) rfl hi hd (kk H locs ls hP hS hl)
theorem V_bald {k : Nat} {i : Int32} (X : Cx E G cc own nL d ret) (hk : kd k = 2) (hi : vp_in i (ln k)) (hd : decode cc pc = .ok (.baload, 1)) (hp : pc + 1 = pc') (kk : V E cs G nL Q M pc' lv (.int (M.1 k i.toNatClampNeg) :: st)) : V E cs G nL Q M pc lv (.int i :: .ref (G.2.2 + k) :: st) := by
  subst hp
  exact fun H locs ls hP hS hl => va_bald X.1 X.2.1 X.2.2.2.2.2.1 hP k 1 (by rw [wsM_get G M (kd_lt (by omega)), dsc_i hk (by decide)]) rfl hi hd (kk H locs ls hP hS hl)
theorem V_zald {k : Nat} {i : Int32} (X : Cx E G cc own nL d ret) (hk : kd k = 3) (hi : vp_in i (ln k)) (hd : decode cc pc = .ok (.baload, 1)) (hp : pc + 1 = pc') (kk : V E cs G nL Q M pc' lv (.int (M.1 k i.toNatClampNeg) :: st)) : V E cs G nL Q M pc lv (.int i :: .ref (G.2.2 + k) :: st) := by
  subst hp
  exact fun H locs ls hP hS hl => va_zald X.1 X.2.1 X.2.2.2.2.2.1 hP k 2 (by rw [wsM_get G M (kd_lt (by omega)), dsc_i hk (by decide)]) rfl hi hd (kk H locs ls hP hS hl)
theorem V_lald {k : Nat} {i : Int32} (X : Cx E G cc own nL d ret) (hk : kd k = 4) (hi : vp_in i (ln k)) (hd : decode cc pc = .ok (.laload, 1)) (hp : pc + 1 = pc') (kk : V E cs G nL Q M pc' lv (.long (M.2.1 k i.toNatClampNeg) :: st)) : V E cs G nL Q M pc lv (.int i :: .ref (G.2.2 + k) :: st) := by
  subst hp
  exact fun H locs ls hP hS hl => va_lald X.1 X.2.1 X.2.2.2.2.2.1 hP k 3 (by rw [wsM_get G M (kd_lt (by omega)), dsc_l hk]) rfl hi hd (kk H locs ls hP hS hl)
theorem V_aald {k : Nat} {i : Int32} (X : Cx E G cc own nL d ret) (hk : kd k = 5) (hi : vp_in i (ln k)) (hd : decode cc pc = .ok (.aaload, 1)) (hp : pc + 1 = pc') (kk : V E cs G nL Q M pc' lv (va_rf ((M.2.2 k i.toNatClampNeg).map (G.2.2 + ·)) :: st)) : V E cs G nL Q M pc lv (.int i :: .ref (G.2.2 + k) :: st) := by
  subst hp
  exact fun H locs ls hP hS hl => va_aldq X.1 X.2.1 X.2.2.2.2.2.1 hP k 4 (by rw [wsM_get G M (kd_lt (by omega)), dsc_q hk]) rfl hi hd (kk H locs ls hP hS hl)
theorem V_iast {k : Nat} {i x : Int32} (X : Cx E G cc own nL d ret) (hk : kd k = 1) (hi : vp_in i (ln k)) (hd : decode cc pc = .ok (.iastore, 1)) (hp : pc + 1 = pc') (kk : V E cs G nL Q (s_i M k i.toNatClampNeg x) pc' lv st) : V E cs G nL Q M pc lv (.int x :: .int i :: .ref (G.2.2 + k) :: st) := by
  subst hp
  intro H locs ls hP hS hl
  refine va_iast X.1 X.2.1 X.2.2.2.2.2.1 hP (wsM_D G M) hS k 0 (by rw [wsM_get G M (kd_lt (by omega)), dsc_i hk (by decide)]) rfl hi hd (fun H1 locs1 hP1 _ hS1 => ?_)
  rw [wsM_set (M' := s_i M k i.toNatClampNeg x) (fun a h => dsc_si h) (by rw [dsc_i hk (by decide)]; congr 4; funext b; simp [s_i, upd])] at hP1
  exact kk H1 locs1 ls hP1 hS1 hl
theorem V_bast {k : Nat} {i x : Int32} (X : Cx E G cc own nL d ret) (hk : kd k = 2) (hi : vp_in i (ln k)) (hd : decode cc pc = .ok (.bastore, 1)) (hp : pc + 1 = pc') (kk : V E cs G nL Q (s_i M k i.toNatClampNeg (vp_nar .byte x)) pc' lv st) : V E cs G nL Q M pc lv (.int x :: .int i :: .ref (G.2.2 + k) :: st) := by
  subst hp
  intro H locs ls hP hS hl
  refine va_bast X.1 X.2.1 X.2.2.2.2.2.1 hP (wsM_D G M) hS k 1 (by rw [wsM_get G M (kd_lt (by omega)), dsc_i hk (by decide)]) rfl hi hd (fun H1 locs1 hP1 _ hS1 => ?_)
  rw [wsM_set (M' := s_i M k i.toNatClampNeg (vp_nar .byte x)) (fun a h => dsc_si h) (by rw [dsc_i hk (by decide)]; congr 4; funext b; simp [s_i, upd])] at hP1
  exact kk H1 locs1 ls hP1 hS1 hl
theorem V_zast {k : Nat} {i x : Int32} (X : Cx E G cc own nL d ret) (hk : kd k = 3) (hi : vp_in i (ln k)) (hd : decode cc pc = .ok (.bastore, 1)) (hp : pc + 1 = pc') (kk : V E cs G nL Q (s_i M k i.toNatClampNeg (vp_nar .boolean x)) pc' lv st) : V E cs G nL Q M pc lv (.int x :: .int i :: .ref (G.2.2 + k) :: st) := by
  subst hp
  intro H locs ls hP hS hl
  refine va_zast X.1 X.2.1 X.2.2.2.2.2.1 hP (wsM_D G M) hS k 2 (by rw [wsM_get G M (kd_lt (by omega)), dsc_i hk (by decide)]) rfl hi hd (fun H1 locs1 hP1 _ hS1 => ?_)
  rw [wsM_set (M' := s_i M k i.toNatClampNeg (vp_nar .boolean x)) (fun a h => dsc_si h) (by rw [dsc_i hk (by decide)]; congr 4; funext b; simp [s_i, upd])] at hP1
  exact kk H1 locs1 ls hP1 hS1 hl
theorem V_last {k : Nat} {i : Int32} {x : Int64} (X : Cx E G cc own nL d ret) (hk : kd k = 4) (hi : vp_in i (ln k)) (hd : decode cc pc = .ok (.lastore, 1)) (hp : pc + 1 = pc') (kk : V E cs G nL Q (s_l M k i.toNatClampNeg x) pc' lv st) : V E cs G nL Q M pc lv (.long x :: .int i :: .ref (G.2.2 + k) :: st) := by
  subst hp
  intro H locs ls hP hS hl
  refine va_last X.1 X.2.1 X.2.2.2.2.2.1 hP (wsM_D G M) hS k 3 (by rw [wsM_get G M (kd_lt (by omega)), dsc_l hk]) rfl hi hd (fun H1 locs1 hP1 _ hS1 => ?_)
  rw [wsM_set (M' := s_l M k i.toNatClampNeg x) (fun a h => dsc_sl h) (by rw [dsc_l hk]; congr 5; funext b; simp [s_l, vp_updL])] at hP1
  exact kk H1 locs1 ls hP1 hS1 hl
theorem V_aast {k k2 : Nat} {i : Int32} (X : Cx E G cc own nL d ret) (hk : kd k = 5) (h2 : kd k2 = 17) (hi : vp_in i (ln k)) (hd : decode cc pc = .ok (.aastore, 1)) (hp : pc + 1 = pc') (kk : V E cs G nL Q (s_q M k i.toNatClampNeg (some k2)) pc' lv st) : V E cs G nL Q M pc lv (.ref (G.2.2 + k2) :: .int i :: .ref (G.2.2 + k) :: st) := by
  subst hp
  intro H locs ls hP hS hl
  refine va_astq (r := (R_Scene, F_Scene, 10)) X.1 X.2.1 X.2.2.2.2.2.1 hP (wsM_D G M) hS k 4 k2 7 (by rw [wsM_get G M (kd_lt (by omega)), dsc_q hk]) rfl (by rw [wsM_get G M (kd_lt (by omega)), dsc_o (c := 7) h2]) rfl hi hd (fun H1 locs1 hP1 _ hS1 => ?_)
  rw [wsM_set (M' := s_q M k i.toNatClampNeg (some k2)) (fun a h => dsc_sq h) (by rw [dsc_q hk]; congr 8; funext b; by_cases hb : b = i.toNatClampNeg <;> simp [s_q, hb, va_up, vf_upd])] at hP1
  exact kk H1 locs1 ls hP1 hS1 hl
theorem V_alen {k t : Nat} {v : Int32} (X : Cx E G cc own nL d ret) (hk : kd k = t) (ht : 1 ≤ t ∧ t < 6) (hv : Int32.ofNat (ln k) = v) (hd : decode cc pc = .ok (.arraylength, 1)) (hp : pc + 1 = pc') (kk : V E cs G nL Q M pc' lv (.int v :: st)) : V E cs G nL Q M pc lv (.ref (G.2.2 + k) :: st) := by
  subst hp
  intro H locs ls hP hS hl
  have hkn : k < NT := kd_lt (by omega)
  rcases Nat.lt_or_ge t 4 with h | h
  · have hty : ∃ ty, (tysM G)[t - 1]? = some (G.2.1 t, ty) := by
      obtain ⟨h1, -⟩ := ht
      match t, h1, h with
      | 1, _, _ => exact ⟨_, rfl⟩
      | 2, _, _ => exact ⟨_, rfl⟩
      | 3, _, _ => exact ⟨_, rfl⟩
    obtain ⟨ty, hty⟩ := hty
    exact va_alen X.1 X.2.1 X.2.2.2.2.2.1 hP k (t - 1) (by rw [wsM_get G M hkn, dsc_i hk h]) hty hv hd (kk H locs ls hP hS hl)
  · rcases Nat.lt_or_ge t 5 with h5 | h5
    · have : t = 4 := by omega
      subst this
      exact va_alen X.1 X.2.1 X.2.2.2.2.2.1 hP k 3 (by rw [wsM_get G M hkn, dsc_l hk]) rfl hv hd (kk H locs ls hP hS hl)
    · have : t = 5 := by omega
      subst this
      exact va_alen X.1 X.2.1 X.2.2.2.2.2.1 hP k 4 (by rw [wsM_get G M hkn, dsc_q hk]) rfl hv hd (kk H locs ls hP hS hl)
end VR
end
section
/-! calls, answers, Math, arraycopy -/
theorem gw_good {w : Cond} (h : w ∈ gw) : (w.onTables && w.keeps) = true ∨ ∃ ty, w = .arrayClass ty := good_of_word (List.mem_filter.mp h).2
def yV (C : String) (y : MethodName) (cc : ByteArray) (maxL : Nat) (ret : Option FieldType) (n : Nat) : Prop :=
  Cond.instanceMethod y ∈ gw ∧ Cond.selects C y y ∈ gw ∧ Cond.initialized C ∈ gw ∧ Cond.code y cc maxL ret ∈ gw ∧ (y.cls = C ∧ y.cls ≠ "java/lang/invoke/MethodHandle" ∧ y.cls ≠ "java/lang/invoke/VarHandle" ∧ (parseMethodDescriptor y.desc).map (fun d => d.parameters.length) = some n) ∧ maxL ≤ 21
def yS (y : MethodName) (cc : ByteArray) (maxL : Nat) (ret : Option FieldType) (n : Nat) : Prop :=
  Cond.static y ∈ gw ∧ Cond.initialized y.cls ∈ gw ∧ Cond.code y cc maxL ret ∈ gw ∧ (y.cls ≠ "java/lang/invoke/MethodHandle" ∧ y.cls ≠ "java/lang/invoke/VarHandle" ∧ (parseMethodDescriptor y.desc).map (fun d => d.parameters.length) = some n) ∧ maxL ≤ 21
theorem goodV {own C : String} {idx maxL n : Nat} {y : MethodName} {cc : ByteArray} {ret : Option FieldType} (hl : Cond.methodLink own idx y ∈ gw) (hy : yV C y cc maxL ret n) : GoodIn gw (wsV own idx C y (wsY y cc maxL ret)) := by
  obtain ⟨h1, h2, h3, h4, -⟩ := hy
  intro w hw
  have : w ∈ gw := by
    simp only [wsV, List.mem_append, List.mem_cons, List.not_mem_nil, or_false] at hw
    rcases hw with (rfl | rfl | rfl | rfl) | rfl | hw
    · exact hl
    · exact h1
    · exact h2
    · exact h3
    · exact h4
    · exact hw
  exact ⟨this, gw_good this⟩
theorem goodS {own : String} {idx maxL n : Nat} {y : MethodName} {cc : ByteArray} {ret : Option FieldType} (hl : Cond.methodLink own idx y ∈ gw) (hy : yS y cc maxL ret n) : GoodIn gw (va_wsS own idx y (wsY y cc maxL ret)) := by
  obtain ⟨h1, h2, h3, -⟩ := hy
  intro w hw
  have : w ∈ gw := by
    simp only [va_wsS, List.mem_append, List.mem_cons, List.not_mem_nil, or_false] at hw
    rcases hw with (rfl | rfl | rfl) | rfl | hw
    · exact hl
    · exact h1
    · exact h2
    · exact h3
    · exact hw
  exact ⟨this, gw_good this⟩
theorem PcM_blind (G : Gw) (M : Mem) (av : List Value) : FrameBlind (PcM G M av) := fun a U g mk q => by
  obtain ⟨q0, qP, qK⟩ := q
  exact ⟨q0, qP, va_K.moved (u := U) (U := U.calling g mk a) (Vm.Alike.refl U.vm) qK⟩
section VCALL
variable {E : Ev} {cs : Nat × Nat} {G : Gw} {cc : ByteArray} {own : String} {nL d : Nat} {ret : Option FieldType} {Q : State → Prop} {M : Mem} {pc pc' : Nat} {lv lv' : List (Nat × Value)} {st rest : List Value}
abbrev Zc (E : Ev) (cs : Nat × Nat) : Prop := cs.1 ≤ E.2.2.2.1.cells ∧ cs.2 ≤ E.2.2.2.1.slots
theorem V_ci {k idx c n d2 maxL : Nat} {C : String} {y : MethodName} {b2 : ByteArray} {ret2 : Option FieldType} {As : List Value} {post : Int32 → Mem → Prop} (X : Cx E G cc own nL d ret) (hz : Zc E cs) (hl : Cond.methodLink own idx y ∈ gw) (hy : yV C y b2 maxL ret2 n) (hM : Ci E.2.1 G y b2 maxL ret2 d2 (.ref (G.2.2 + k) :: As) M post) (hk : kd k = 10 + c) (hc : (clsL[c]?).map (fun q => q.1) = some C) (hn : As.length = n) (hd2 : d2 + 1 ≤ d) (hs : st = As.reverse ++ .ref (G.2.2 + k) :: rest) (hw : (rest.map fun v => v.category).sum ≤ 8) (hd : decode cc pc = .ok (.invokevirtual idx, 3)) (hp : pc + 3 = pc')
    (kk : ∀ (r : Int32) (M' : Mem), post r M' → V E cs G nL Q M' pc' lv (.int r :: rest)) : V E cs G nL Q M pc lv st := by
  subst hp; subst hs
  intro H locs ls hP hS hl9
  have hkn : k < NT := kd_lt (by omega)
  have hgood := goodV hl hy
  obtain ⟨-, -, -, -, h5, h6⟩ := hy
  obtain ⟨q, hq, hqC⟩ := Option.map_eq_some_iff.mp hc
  refine va_calli (A0 := fun q => G.2.2 ≤ q) (va_runV (As := As) (rest := rest) ⟨X.1, X.2.1, X.2.2.1, X.2.2.2.1, X.2.2.2.2.1⟩ hM (cwV (C := C) n X.2.2.2.2.1 hgood rfl rfl rfl h5 ⟨by have := X.2.2.2.2.2.2.2.1.1; show d2 + 1 ≤ _; omega, by have := X.2.2.2.2.2.2.2.1.2; show 8 + (maxL + 11) + 40 * d2 ≤ _; omega⟩) ⟨PcM_blind G M _, by rw [← hqC]; exact va_recv X.2.2.2.2.2.1 hP hq (by rw [wsM_get G M hkn, dsc_o hk]), fun U hU hW => ⟨rfl, by rw [hU]; exact hP, va_K.moved hW.alike X.2.2.2.2.2.1⟩⟩ rfl hn hl9.1 rfl (lv_room hw) hd ⟨hz.1, hz.2⟩) hS (fun q _ h => h) (fun q h => h) (fun r u t H1 locs1 ht hvm hpost hB hz1 hk1 hS1 => ?_)
  exact kk r u hpost H1 locs1 ls (by rw [← ht]; exact hB) hS1 hl9
theorem V_si {idx n d2 maxL : Nat} {y : MethodName} {b2 : ByteArray} {ret2 : Option FieldType} {As : List Value} {post : Int32 → Mem → Prop} (X : Cx E G cc own nL d ret) (hz : Zc E cs) (hl : Cond.methodLink own idx y ∈ gw) (hy : yS y b2 maxL ret2 n) (hM : Ci E.2.1 G y b2 maxL ret2 d2 As M post) (hn : As.length = n) (hd2 : d2 + 1 ≤ d) (hs : st = As.reverse ++ rest) (hw : (rest.map fun v => v.category).sum ≤ 8) (hd : decode cc pc = .ok (.invokestatic idx, 3)) (hp : pc + 3 = pc')
    (kk : ∀ (r : Int32) (M' : Mem), post r M' → V E cs G nL Q M' pc' lv (.int r :: rest)) : V E cs G nL Q M pc lv st := by
  subst hp; subst hs
  intro H locs ls hP hS hl9
  have hgood := goodS hl hy
  obtain ⟨-, -, -, h5, h6⟩ := hy
  refine va_calli (A0 := fun q => G.2.2 ≤ q) (va_runS (As := As) (rest := rest) ⟨X.1, X.2.1, X.2.2.1, X.2.2.2.1, X.2.2.2.2.1⟩ hM (va_cwS n X.2.2.2.2.1 hgood rfl rfl rfl h5 ⟨by have := X.2.2.2.2.2.2.2.1.1; show d2 + 1 ≤ _; omega, by have := X.2.2.2.2.2.2.2.1.2; show 8 + (maxL + 11) + 40 * d2 ≤ _; omega⟩) ⟨PcM_blind G M _, fun U hU hW => ⟨rfl, by rw [hU]; exact hP, va_K.moved hW.alike X.2.2.2.2.2.1⟩⟩ rfl hn hl9.1 rfl (lv_room hw) hd ⟨hz.1, hz.2⟩) hS (fun q _ h => h) (fun q h => h) (fun r u t H1 locs1 ht hvm hpost hB hz1 hk1 hS1 => ?_)
  exact kk r u hpost H1 locs1 ls (by rw [← ht]; exact hB) hS1 hl9
theorem V_cl {k idx c n d2 maxL : Nat} {C : String} {y : MethodName} {b2 : ByteArray} {ret2 : Option FieldType} {As : List Value} {post : Int64 → Mem → Prop} (X : Cx E G cc own nL d ret) (hz : Zc E cs) (hl : Cond.methodLink own idx y ∈ gw) (hy : yV C y b2 maxL ret2 n) (hM : Cl E.2.1 G y b2 maxL ret2 d2 (.ref (G.2.2 + k) :: As) M post) (hk : kd k = 10 + c) (hc : (clsL[c]?).map (fun q => q.1) = some C) (hn : As.length = n) (hd2 : d2 + 1 ≤ d) (hs : st = As.reverse ++ .ref (G.2.2 + k) :: rest) (hw : (rest.map fun v => v.category).sum ≤ 8) (hd : decode cc pc = .ok (.invokevirtual idx, 3)) (hp : pc + 3 = pc')
    (kk : ∀ (r : Int64) (M' : Mem), post r M' → V E cs G nL Q M' pc' lv (.long r :: rest)) : V E cs G nL Q M pc lv st := by
  subst hp; subst hs
  intro H locs ls hP hS hl9
  have hkn : k < NT := kd_lt (by omega)
  have hgood := goodV hl hy
  obtain ⟨-, -, -, -, h5, h6⟩ := hy
  obtain ⟨q, hq, hqC⟩ := Option.map_eq_some_iff.mp hc
  refine va_calll (A0 := fun q => G.2.2 ≤ q) (va_runV (As := As) (rest := rest) ⟨X.1, X.2.1, X.2.2.1, X.2.2.2.1, X.2.2.2.2.1⟩ hM (cwV (C := C) n X.2.2.2.2.1 hgood rfl rfl rfl h5 ⟨by have := X.2.2.2.2.2.2.2.1.1; show d2 + 1 ≤ _; omega, by have := X.2.2.2.2.2.2.2.1.2; show 8 + (maxL + 11) + 40 * d2 ≤ _; omega⟩) ⟨PcM_blind G M _, by rw [← hqC]; exact va_recv X.2.2.2.2.2.1 hP hq (by rw [wsM_get G M hkn, dsc_o hk]), fun U hU hW => ⟨rfl, by rw [hU]; exact hP, va_K.moved hW.alike X.2.2.2.2.2.1⟩⟩ rfl hn hl9.1 rfl (lv_room hw) hd ⟨hz.1, hz.2⟩) hS (fun q _ h => h) (fun q h => h) (fun r u t H1 locs1 ht hvm hpost hB hz1 hk1 hS1 => ?_)
  exact kk r u hpost H1 locs1 ls (by rw [← ht]; exact hB) hS1 hl9
theorem V_sl {idx n d2 maxL : Nat} {y : MethodName} {b2 : ByteArray} {ret2 : Option FieldType} {As : List Value} {post : Int64 → Mem → Prop} (X : Cx E G cc own nL d ret) (hz : Zc E cs) (hl : Cond.methodLink own idx y ∈ gw) (hy : yS y b2 maxL ret2 n) (hM : Cl E.2.1 G y b2 maxL ret2 d2 As M post) (hn : As.length = n) (hd2 : d2 + 1 ≤ d) (hs : st = As.reverse ++ rest) (hw : (rest.map fun v => v.category).sum ≤ 8) (hd : decode cc pc = .ok (.invokestatic idx, 3)) (hp : pc + 3 = pc')
    (kk : ∀ (r : Int64) (M' : Mem), post r M' → V E cs G nL Q M' pc' lv (.long r :: rest)) : V E cs G nL Q M pc lv st := by
  subst hp; subst hs
  intro H locs ls hP hS hl9
  have hgood := goodS hl hy
  obtain ⟨-, -, -, h5, h6⟩ := hy
  refine va_calll (A0 := fun q => G.2.2 ≤ q) (va_runS (As := As) (rest := rest) ⟨X.1, X.2.1, X.2.2.1, X.2.2.2.1, X.2.2.2.2.1⟩ hM (va_cwS n X.2.2.2.2.1 hgood rfl rfl rfl h5 ⟨by have := X.2.2.2.2.2.2.2.1.1; show d2 + 1 ≤ _; omega, by have := X.2.2.2.2.2.2.2.1.2; show 8 + (maxL + 11) + 40 * d2 ≤ _; omega⟩) ⟨PcM_blind G M _, fun U hU hW => ⟨rfl, by rw [hU]; exact hP, va_K.moved hW.alike X.2.2.2.2.2.1⟩⟩ rfl hn hl9.1 rfl (lv_room hw) hd ⟨hz.1, hz.2⟩) hS (fun q _ h => h) (fun q h => h) (fun r u t H1 locs1 ht hvm hpost hB hz1 hk1 hS1 => ?_)
  exact kk r u hpost H1 locs1 ls (by rw [← ht]; exact hB) hS1 hl9
theorem V_cv {k idx c n d2 maxL : Nat} {C : String} {y : MethodName} {b2 : ByteArray} {ret2 : Option FieldType} {As : List Value} {post : Mem → Prop} (X : Cx E G cc own nL d ret) (hz : Zc E cs) (hl : Cond.methodLink own idx y ∈ gw) (hy : yV C y b2 maxL ret2 n) (hM : Cv E.2.1 G y b2 maxL ret2 d2 (.ref (G.2.2 + k) :: As) M post) (hk : kd k = 10 + c) (hc : (clsL[c]?).map (fun q => q.1) = some C) (hn : As.length = n) (hd2 : d2 + 1 ≤ d) (hs : st = As.reverse ++ .ref (G.2.2 + k) :: rest) (hw : (rest.map fun v => v.category).sum ≤ 8) (hd : decode cc pc = .ok (.invokevirtual idx, 3)) (hp : pc + 3 = pc')
    (kk : ∀ (M' : Mem), post M' → V E cs G nL Q M' pc' lv (rest)) : V E cs G nL Q M pc lv st := by
  subst hp; subst hs
  intro H locs ls hP hS hl9
  have hkn : k < NT := kd_lt (by omega)
  have hgood := goodV hl hy
  obtain ⟨-, -, -, -, h5, h6⟩ := hy
  obtain ⟨q, hq, hqC⟩ := Option.map_eq_some_iff.mp hc
  refine va_callv (A0 := fun q => G.2.2 ≤ q) (va_runV (As := As) (rest := rest) ⟨X.1, X.2.1, X.2.2.1, X.2.2.2.1, X.2.2.2.2.1⟩ hM (cwV (C := C) n X.2.2.2.2.1 hgood rfl rfl rfl h5 ⟨by have := X.2.2.2.2.2.2.2.1.1; show d2 + 1 ≤ _; omega, by have := X.2.2.2.2.2.2.2.1.2; show 8 + (maxL + 11) + 40 * d2 ≤ _; omega⟩) ⟨PcM_blind G M _, by rw [← hqC]; exact va_recv X.2.2.2.2.2.1 hP hq (by rw [wsM_get G M hkn, dsc_o hk]), fun U hU hW => ⟨rfl, by rw [hU]; exact hP, va_K.moved hW.alike X.2.2.2.2.2.1⟩⟩ rfl hn hl9.1 rfl (lv_room hw) hd ⟨hz.1, hz.2⟩) hS (fun q _ h => h) (fun q h => h) (fun u t H1 locs1 ht hvm hpost hB hz1 hk1 hS1 => ?_)
  exact kk u hpost H1 locs1 ls (by rw [← ht]; exact hB) hS1 hl9
theorem V_sv {idx n d2 maxL : Nat} {y : MethodName} {b2 : ByteArray} {ret2 : Option FieldType} {As : List Value} {post : Mem → Prop} (X : Cx E G cc own nL d ret) (hz : Zc E cs) (hl : Cond.methodLink own idx y ∈ gw) (hy : yS y b2 maxL ret2 n) (hM : Cv E.2.1 G y b2 maxL ret2 d2 As M post) (hn : As.length = n) (hd2 : d2 + 1 ≤ d) (hs : st = As.reverse ++ rest) (hw : (rest.map fun v => v.category).sum ≤ 8) (hd : decode cc pc = .ok (.invokestatic idx, 3)) (hp : pc + 3 = pc')
    (kk : ∀ (M' : Mem), post M' → V E cs G nL Q M' pc' lv (rest)) : V E cs G nL Q M pc lv st := by
  subst hp; subst hs
  intro H locs ls hP hS hl9
  have hgood := goodS hl hy
  obtain ⟨-, -, -, h5, h6⟩ := hy
  refine va_callv (A0 := fun q => G.2.2 ≤ q) (va_runS (As := As) (rest := rest) ⟨X.1, X.2.1, X.2.2.1, X.2.2.2.1, X.2.2.2.2.1⟩ hM (va_cwS n X.2.2.2.2.1 hgood rfl rfl rfl h5 ⟨by have := X.2.2.2.2.2.2.2.1.1; show d2 + 1 ≤ _; omega, by have := X.2.2.2.2.2.2.2.1.2; show 8 + (maxL + 11) + 40 * d2 ≤ _; omega⟩) ⟨PcM_blind G M _, fun U hU hW => ⟨rfl, by rw [hU]; exact hP, va_K.moved hW.alike X.2.2.2.2.2.1⟩⟩ rfl hn hl9.1 rfl (lv_room hw) hd ⟨hz.1, hz.2⟩) hS (fun q _ h => h) (fun q h => h) (fun u t H1 locs1 ht hvm hpost hB hz1 hk1 hS1 => ?_)
  exact kk u hpost H1 locs1 ls (by rw [← ht]; exact hB) hS1 hl9
theorem V_iret {post : Int32 → Mem → Prop} {v : Int32} (X : Cx E G cc own nL d (some .int)) (h : post v M) (hd : decode cc pc = .ok (.ireturn, 1)) : V E (0, 0) G nL (QI E G post) M pc lv [.int v] := by
  intro H locs ls hP hS hl
  exact W.iret X.1 X.2.1 X.2.2.2.2.2.2.2.2 (fun t ht hW => ⟨⟨v, M, rfl, h, by show va_P _ _ _ t.heap; rw [ht]; exact hP⟩, hS.F ht⟩) hS.2.2 hd X.2.2.2.2.2.2.1
theorem V_zret {post : Int32 → Mem → Prop} {v : Int32} (X : Cx E G cc own nL d (some .boolean)) (h : post v M) (hv : v = 0 ∨ v = 1) (hd : decode cc pc = .ok (.ireturn, 1)) : V E (0, 0) G nL (QI E G post) M pc lv [.int v] := by
  intro H locs ls hP hS hl
  exact W.zret X.1 X.2.1 X.2.2.2.2.2.2.2.2 (by rcases hv with rfl | rfl <;> decide) (fun t ht hW => ⟨⟨v, M, rfl, h, by show va_P _ _ _ t.heap; rw [ht]; exact hP⟩, hS.F ht⟩) hS.2.2 hd X.2.2.2.2.2.2.1
theorem V_lret {post : Int64 → Mem → Prop} {v : Int64} (X : Cx E G cc own nL d (some .long)) (h : post v M) (hd : decode cc pc = .ok (.lreturn, 1)) : V E (0, 0) G nL (QL E G post) M pc lv [.long v] := by
  intro H locs ls hP hS hl
  exact W.lret X.1 X.2.1 X.2.2.2.2.2.2.2.2 (fun t ht hW => ⟨⟨v, M, rfl, h, by show va_P _ _ _ t.heap; rw [ht]; exact hP⟩, hS.F ht⟩) hS.2.2 hd X.2.2.2.2.2.2.1
theorem V_vret {post : Mem → Prop} (X : Cx E G cc own nL d none) (h : post M) (hd : decode cc pc = .ok (.return_, 1)) : V E (0, 0) G nL (QV E G post) M pc lv [] := by
  intro H locs ls hP hS hl
  exact W.vret X.1 X.2.1 X.2.2.2.2.2.2.2.2 (fun t ht hW => ⟨⟨M, rfl, h, by show va_P _ _ _ t.heap; rw [ht]; exact hP⟩, hS.F ht⟩) hS.2.2 hd X.2.2.2.2.2.2.1
theorem Ci_of {l : Launch} {y : MethodName} {maxL : Nat} {av : List Value} {post : Int32 → Mem → Prop} (hy : plainName y.cls = true) (hl : (lg_sl av).length ≤ maxL) (body : ∀ E : Ev, E.2.1 = l → Cx E G cc y.cls maxL d ret → V E (0, 0) G maxL (QI E G post) M 0 (lv_args 0 av) []) : Ci l G y cc maxL ret d av M post := Met_of hy hl body
theorem Cl_of {l : Launch} {y : MethodName} {maxL : Nat} {av : List Value} {post : Int64 → Mem → Prop} (hy : plainName y.cls = true) (hl : (lg_sl av).length ≤ maxL) (body : ∀ E : Ev, E.2.1 = l → Cx E G cc y.cls maxL d ret → V E (0, 0) G maxL (QL E G post) M 0 (lv_args 0 av) []) : Cl l G y cc maxL ret d av M post := Met_of hy hl body
theorem Cv_of {l : Launch} {y : MethodName} {maxL : Nat} {av : List Value} {post : Mem → Prop} (hy : plainName y.cls = true) (hl : (lg_sl av).length ≤ maxL) (body : ∀ E : Ev, E.2.1 = l → Cx E G cc y.cls maxL d ret → V E (0, 0) G maxL (QV E G post) M 0 (lv_args 0 av) []) : Cv l G y cc maxL ret d av M post := Met_of hy hl body
theorem Z0 (E : Ev) : Zc E (0, 0) := ⟨Nat.zero_le _, Nat.zero_le _⟩
theorem V_mmax {idx : Nat} {x y : Int32} (X : Cx E G cc own nL d ret) (hz : Zc E cs) (hw : Cond.methodLink own idx Lib.Math.max.name ∈ gw ∧ Cond.static Lib.Math.max.name ∈ gw ∧ Cond.initialized "java/lang/Math" ∈ gw ∧ Cond.code Lib.Math.max.name Lib.Math.max.code 2 (some .int) ∈ gw) (h1 : 1 ≤ d) (hr : (st.map fun v => v.category).sum ≤ 8) (hd : decode cc pc = .ok (.invokestatic idx, 3)) (hp : pc + 3 = pc') (kk : V E cs G nL Q M pc' lv (.int (if x < y then y else x) :: st)) : V E cs G nL Q M pc lv (.int y :: .int x :: st) := by
  subst hp
  intro H locs ls hP hS hl
  have h2 := X.2.2.2.2.2.2.2.1
  exact va_mmax X.1 X.2.1 (X.2.2.1.trans hl.1.symm) X.2.2.2.1 (X.2.2.2.2.1 _ hw.1) (X.2.2.2.2.1 _ hw.2.1) (X.2.2.2.2.1 _ hw.2.2.1) (X.2.2.2.2.1 _ hw.2.2.2) (by omega) (by omega) hz.1 hz.2 hd (kk H locs ls hP hS hl)
theorem V_mmin {idx : Nat} {x y : Int32} (X : Cx E G cc own nL d ret) (hz : Zc E cs) (hw : Cond.methodLink own idx Lib.Math.min.name ∈ gw ∧ Cond.static Lib.Math.min.name ∈ gw ∧ Cond.initialized "java/lang/Math" ∈ gw ∧ Cond.code Lib.Math.min.name Lib.Math.min.code 2 (some .int) ∈ gw) (h1 : 1 ≤ d) (hr : (st.map fun v => v.category).sum ≤ 8) (hd : decode cc pc = .ok (.invokestatic idx, 3)) (hp : pc + 3 = pc') (kk : V E cs G nL Q M pc' lv (.int (if y < x then y else x) :: st)) : V E cs G nL Q M pc lv (.int y :: .int x :: st) := by
  subst hp
  intro H locs ls hP hS hl
  have h2 := X.2.2.2.2.2.2.2.1
  exact va_mmin X.1 X.2.1 (X.2.2.1.trans hl.1.symm) X.2.2.2.1 (X.2.2.2.2.1 _ hw.1) (X.2.2.2.2.1 _ hw.2.1) (X.2.2.2.2.1 _ hw.2.2.1) (X.2.2.2.2.1 _ hw.2.2.2) (by omega) (by omega) hz.1 hz.2 hd (kk H locs ls hP hS hl)
theorem V_mabs {idx : Nat} {x : Int32} (X : Cx E G cc own nL d ret) (hz : Zc E cs) (hw : Cond.methodLink own idx Lib.Math.abs.name ∈ gw ∧ Cond.static Lib.Math.abs.name ∈ gw ∧ Cond.initialized "java/lang/Math" ∈ gw ∧ Cond.code Lib.Math.abs.name Lib.Math.abs.code 1 (some .int) ∈ gw) (h1 : 1 ≤ d) (hr : (st.map fun v => v.category).sum ≤ 8) (hd : decode cc pc = .ok (.invokestatic idx, 3)) (hp : pc + 3 = pc') (kk : V E cs G nL Q M pc' lv (.int (if 0 ≤ x then x else 0 - x) :: st)) : V E cs G nL Q M pc lv (.int x :: st) := by
  subst hp
  intro H locs ls hP hS hl
  have h2 := X.2.2.2.2.2.2.2.1
  exact va_mabs X.1 X.2.1 (X.2.2.1.trans hl.1.symm) X.2.2.2.1 (X.2.2.2.2.1 _ hw.1) (X.2.2.2.2.1 _ hw.2.1) (X.2.2.2.2.1 _ hw.2.2.1) (X.2.2.2.2.1 _ hw.2.2.2) (by omega) (by omega) hz.1 hz.2 hd (kk H locs ls hP hS hl)
theorem V_copy {idx k0 k1 : Nat} {sp dp n : Int32} (X : Cx E G cc own nL d ret) (hw : Cond.methodLink own idx arraycopyName ∈ gw ∧ Cond.native arraycopyName ∈ gw ∧ Cond.static arraycopyName ∈ gw ∧ Cond.initialized "java/lang/System" ∈ gw) (h1 : 2 ≤ d) (hr : (st.map fun v => v.category).sum ≤ 8) (hk0 : kd k0 = 1) (hk1 : kd k1 = 1) (h3 : ¬ sp < 0) (h4 : ¬ dp < 0) (h5 : ¬ n < 0) (h6 : sp.toNatClampNeg + n.toNatClampNeg ≤ ln k0) (h7 : dp.toNatClampNeg + n.toNatClampNeg ≤ ln k1) (hd : decode cc pc = .ok (.invokestatic idx, 3)) (hp : pc + 3 = pc')
    (kk : V E cs G nL Q (s_c M k0 k1 sp.toNatClampNeg dp.toNatClampNeg n.toNatClampNeg) pc' lv st) : V E cs G nL Q M pc lv (.int n :: .int dp :: .ref (G.2.2 + k1) :: .int sp :: .ref (G.2.2 + k0) :: st) := by
  subst hp
  intro H locs ls hP hS hl
  have h2 := X.2.2.2.2.2.2.2.1
  have hnw : nativeFrameWords "java/lang/System" "arraycopy" 5 ≤ 60 := by decide +kernel
  refine va_copyi X.1 X.2.1 (X.2.2.1.trans hl.1.symm) X.2.2.2.1 (X.2.2.2.2.1 _ hw.1) (X.2.2.2.2.1 _ hw.2.1) (X.2.2.2.2.1 _ hw.2.2.1) (X.2.2.2.2.1 _ hw.2.2.2) X.2.2.2.2.2.1 hP (wsM_D G M) hS k0 k1 0 0 (by rw [wsM_get G M (kd_lt (by omega)), dsc_i hk0 (by decide)]) (by rw [wsM_get G M (kd_lt (by omega)), dsc_i hk1 (by decide)]) rfl rfl rfl h3 h4 h5 h6 h7 (fun i _ => rfl) (by omega) (by omega) hd (fun H1 locs1 hP1 _ hS1 => ?_)
  rw [wsM_set (M' := s_c M k0 k1 sp.toNatClampNeg dp.toNatClampNeg n.toNatClampNeg) (fun a h => dsc_sc h) (by rw [dsc_i hk1 (by decide)]; congr 4; funext b; simp [s_c])] at hP1
  exact kk H1 locs1 ls hP1 hS1 hl
end VCALL
end
