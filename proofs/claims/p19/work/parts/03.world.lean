/-! THE WORLD: 193 cells behind the constructors, at a0, a0 + 1 ..; what they hold is a pure memory M: ints, longs, cells. V: the machine, now at pc with these locals and operands, memory M, comes to Q -/
abbrev Mem : Type := (Nat → Nat → Int32) × (Nat → Nat → Int64) × (Nat → Nat → Option Nat)
abbrev Gw : Type := va_G × (Nat → ClassId) × Nat
def kd (k : Nat) : Nat := (tb.getD k (0, 0, [])).1
def ln (k : Nat) : Nat := (tb.getD k (0, 0, [])).2.1
def rf (k j : Nat) : Nat := (tb.getD k (0, 0, [])).2.2.getD j 0
def nf (c : Nat) : Nat := (ftab.getD c []).length
def fc (c j : Nat) : Nat := (ftab.getD c []).getD j 0
def s_i (M : Mem) (k i : Nat) (v : Int32) : Mem := (fun a b => if a = k ∧ b = i then v else M.1 a b, M.2)
def s_l (M : Mem) (k i : Nat) (v : Int64) : Mem := (M.1, fun a b => if a = k ∧ b = i then v else M.2.1 a b, M.2.2)
def s_q (M : Mem) (k i : Nat) (v : Option Nat) : Mem := (M.1, M.2.1, fun a b => if a = k ∧ b = i then v else M.2.2 a b)
/-- a run of ints laid from one row into another (arraycopy) -/
def s_c (M : Mem) (k0 k1 sp dp n : Nat) : Mem := (fun a b => if a = k1 then va_cpy (M.1 k0) (M.1 k1) sp dp n b else M.1 a b, M.2)
def fv (G : Gw) (M : Mem) (k c j : Nat) : Value :=
  if fc c j = 0 then .int (M.1 k j) else if fc c j = 1 then .long (M.2.1 k j) else if fc c j = 2 then .ref (G.2.2 + rf k j) else va_rf ((M.2.2 k j).map (G.2.2 + ·))
def dsc (G : Gw) (M : Mem) (k : Nat) : va_E :=
  if kd k < 4 then .inl (G.2.1 (kd k), ln k, .inl (M.1 k))
  else if kd k = 4 then .inl (G.2.1 4, ln k, .inr (.inl (M.2.1 k)))
  else if kd k = 5 then .inl (G.2.1 5, ln k, .inr (.inr (.inr (.inr (fun i => (M.2.2 k i).map (G.2.2 + ·))))))
  else .inr (kd k - 10, (List.range (nf (kd k - 10))).map (fv G M k (kd k - 10)))
def wsM (G : Gw) (M : Mem) : va_W := (List.range NT).map (fun k => (G.2.2 + k, dsc G M k))
def tysM (G : Gw) : List (ClassId × FieldType) := [(G.2.1 1, .int), (G.2.1 2, .byte), (G.2.1 3, .boolean), (G.2.1 4, .long), (G.2.1 5, .object "WomenByTheRoofs$Scene")]
theorem tb_len : tb.length = NT := by decide +kernel
theorem kd_lt {k : Nat} (h : 0 < kd k) : k < NT := by
  rcases Nat.lt_or_ge k NT with h1 | h1
  · exact h1
  · exfalso
    have : tb.length ≤ k := by rw [tb_len]; exact h1
    simp [kd, List.getD_eq_getElem?_getD, List.getElem?_eq_none this] at h
theorem wsM_get (G : Gw) (M : Mem) {k : Nat} (h : k < NT) : (wsM G M)[k]? = some (G.2.2 + k, dsc G M k) := by
  simp [wsM, List.getElem?_map, List.getElem?_range h]
theorem wsM_at {G : Gw} {M : Mem} {k : Nat} {q : Nat × va_E} (h : (wsM G M)[k]? = some q) : k < NT ∧ q = (G.2.2 + k, dsc G M k) := by
  have hk : k < NT := by
    have := (List.getElem?_eq_some_iff.mp h).1
    simpa [wsM] using this
  rw [wsM_get G M hk] at h
  exact ⟨hk, (Option.some.inj h).symm⟩
theorem wsM_D (G : Gw) (M : Mem) : va_D (fun q => G.2.2 ≤ q) (wsM G M) := by
  refine ⟨fun i j p q hp hq e => ?_, fun k q hq => ?_⟩
  · obtain ⟨-, rfl⟩ := wsM_at hp
    obtain ⟨-, rfl⟩ := wsM_at hq
    exact Nat.add_left_cancel e
  · obtain ⟨-, rfl⟩ := wsM_at hq
    exact Nat.le_add_right _ _
theorem wsM_set {G : Gw} {M M' : Mem} {k : Nat} {e : va_E} (h : ∀ a, a ≠ k → dsc G M' a = dsc G M a) (he : dsc G M' k = e) : (wsM G M).set k (G.2.2 + k, e) = wsM G M' := by
  apply List.ext_getElem?
  intro i
  rw [List.getElem?_set]
  by_cases hi : k = i
  · subst hi
    rw [if_pos rfl]
    by_cases hk : k < NT
    · rw [if_pos (by simpa [wsM] using hk), wsM_get G M' hk, he]
    · rw [if_neg (by simpa [wsM] using hk)]
      exact (List.getElem?_eq_none (by simpa [wsM] using hk)).symm
  · rw [if_neg hi]
    by_cases hk : i < NT
    · rw [wsM_get G M hk, wsM_get G M' hk, h i (fun x => hi x.symm)]
    · rw [List.getElem?_eq_none (by simpa [wsM] using hk), List.getElem?_eq_none (by simpa [wsM] using hk)]
theorem wsM_size {G : Gw} {M : Mem} {H : Heap} (h : va_P G.1 clsL (wsM G M) H) : G.2.2 + NT ≤ H.size := by
  have h1 := (h 192 _ (wsM_get G M (k := 192) (by decide))).lt
  exact h1
-- what a cell is, by its kind
theorem dsc_i {G : Gw} {M : Mem} {k t : Nat} (h : kd k = t) (ht : t < 4) : dsc G M k = .inl (G.2.1 t, ln k, .inl (M.1 k)) := by
  subst h; simp [dsc, ht]
theorem dsc_l {G : Gw} {M : Mem} {k : Nat} (h : kd k = 4) : dsc G M k = .inl (G.2.1 4, ln k, .inr (.inl (M.2.1 k))) := by simp [dsc, h]
theorem dsc_q {G : Gw} {M : Mem} {k : Nat} (h : kd k = 5) : dsc G M k = .inl (G.2.1 5, ln k, .inr (.inr (.inr (.inr (fun i => (M.2.2 k i).map (G.2.2 + ·)))))) := by simp [dsc, h]
theorem dsc_o {G : Gw} {M : Mem} {k c : Nat} (h : kd k = 10 + c) : dsc G M k = .inr (c, (List.range (nf c)).map (fv G M k c)) := by
  have h1 : ¬ (10 + c < 4) := by omega
  have h2 : ¬ (10 + c = 4) := by omega
  have h3 : ¬ (10 + c = 5) := by omega
  have h4 : 10 + c - 10 = c := by omega
  simp [dsc, h, h1, h2, h3, h4]
theorem dsc_si {G : Gw} {M : Mem} {k i a : Nat} {v : Int32} (h : a ≠ k) : dsc G (s_i M k i v) a = dsc G M a := by
  have e1 : (s_i M k i v).1 a = M.1 a := by funext b; simp [s_i, h]
  have e2 : fv G (s_i M k i v) a (kd a - 10) = fv G M a (kd a - 10) := by funext j; simp [fv, e1]; simp [s_i]
  unfold dsc; rw [e1, e2]; rfl
theorem dsc_sl {G : Gw} {M : Mem} {k i a : Nat} {v : Int64} (h : a ≠ k) : dsc G (s_l M k i v) a = dsc G M a := by
  have e1 : (s_l M k i v).2.1 a = M.2.1 a := by funext b; simp [s_l, h]
  have e2 : fv G (s_l M k i v) a (kd a - 10) = fv G M a (kd a - 10) := by funext j; simp [fv, e1]; simp [s_l]
  unfold dsc; rw [e1, e2]; rfl
theorem dsc_sq {G : Gw} {M : Mem} {k i a : Nat} {v : Option Nat} (h : a ≠ k) : dsc G (s_q M k i v) a = dsc G M a := by
  have e1 : (s_q M k i v).2.2 a = M.2.2 a := by funext b; simp [s_q, h]
  have e2 : fv G (s_q M k i v) a (kd a - 10) = fv G M a (kd a - 10) := by funext j; simp [fv, e1]; simp [s_q]
  unfold dsc; rw [e1, e2]; rfl
theorem dsc_sc {G : Gw} {M : Mem} {k0 k1 sp dp n a : Nat} (h : a ≠ k1) : dsc G (s_c M k0 k1 sp dp n) a = dsc G M a := by
  have e1 : (s_c M k0 k1 sp dp n).1 a = M.1 a := by funext b; simp [s_c, h]
  have e2 : fv G (s_c M k0 k1 sp dp n) a (kd a - 10) = fv G M a (kd a - 10) := by funext j; simp [fv, e1]; simp [s_c]
  unfold dsc; rw [e1, e2]; rfl
theorem fs_get {G : Gw} {M : Mem} {k c j : Nat} (h : j < nf c) : ((List.range (nf c)).map (fv G M k c))[j]? = some (fv G M k c j) := by simp [List.getElem?_map, List.getElem?_range h]
theorem fs_set {G : Gw} {M M' : Mem} {k c j : Nat} {v : Value} (hv : fv G M' k c j = v) (ho : ∀ b, b ≠ j → fv G M' k c b = fv G M k c b) : ((List.range (nf c)).map (fv G M k c)).set j v = (List.range (nf c)).map (fv G M' k c) := by
  apply List.ext_getElem?
  intro i
  rw [List.getElem?_set]
  by_cases hi : j = i
  · subst hi
    rw [if_pos rfl]
    by_cases hk : j < nf c
    · rw [if_pos (by simpa using hk), fs_get hk, hv]
    · rw [if_neg (by simpa using hk)]
      exact (List.getElem?_eq_none (by simpa using hk)).symm
  · rw [if_neg hi]
    by_cases hk : i < nf c
    · rw [fs_get hk, fs_get hk, ho i (fun x => hi x.symm)]
    · rw [List.getElem?_eq_none (by simpa using hk), List.getElem?_eq_none (by simpa using hk)]
/-! the frame that a walk stands in: program, launch, environment, room, start, method, arguments, frames below, method, code -/
abbrev Ev : Type := Program × Launch × Env × Room × State × MethodId × Array Value × List Frame × Method × Code
def V (E : Ev) (cs : Nat × Nat) (G : Gw) (nL : Nat) (Q : State → Prop) (M : Mem) (pc : Nat) (lv : List (Nat × Value)) (st : List Value) : Prop :=
  ∀ (H : Heap) (locs : List Loc) (ls : Array Slot), va_P G.1 clsL (wsM G M) H → va_S (fun q => G.2.2 ≤ q) E.2.2.2.2.1.heap H locs → lv_has ls nL lv →
    W E.1 E.2.1 E.2.2.1 E.2.2.2.1 E.2.2.2.2.1 E.2.2.2.2.2.1 E.2.2.2.2.2.2.1 E.2.2.2.2.2.2.2.1 E.2.2.2.2.2.2.2.2.1 E.2.2.2.2.2.2.2.2.2 H locs cs.1 cs.2 Q (F0 E.2.2.2.2.2.1 pc ls st)
/-- what holds of the frame throughout -/
def Cx (E : Ev) (G : Gw) (cc : ByteArray) (own : String) (nL d : Nat) (ret : Option FieldType) : Prop :=
  E.1.tables.exec = Jvm.exec ∧ E.2.2.2.2.2.2.2.2.2.code = cc ∧ E.2.2.2.2.2.2.2.2.2.maxLocals = nL ∧ E.2.2.2.2.1.vm.findClass own = some E.2.2.2.2.2.1.cls ∧ (∀ w ∈ gw, w.before E.2.2.2.2.2.2.1 E.2.2.2.2.1 = true) ∧
  va_K G.1 clsL (tysM G) E.2.2.2.2.1 ∧ E.2.2.2.2.2.2.2.2.1.locks = false ∧ (d ≤ E.2.2.2.1.frames ∧ 40 * d ≤ E.2.2.2.1.locals) ∧ E.2.2.2.2.2.2.2.2.1.sig.returnType = ret
def rmD (d : Nat) : Room := { frames := d, cells := 0, slots := 0, locals := 40 * d }
abbrev wsY (y : MethodName) (cc : ByteArray) (maxL : Nat) (ret : Option FieldType) : List Cond := Cond.code y cc maxL ret :: gw
def PcM (G : Gw) (M : Mem) (av : List Value) : Array Value → State → Prop := va_Pc av (fun U => va_P G.1 clsL (wsM G M) U.heap ∧ va_K G.1 clsL (tysM G) U)
abbrev BM (G : Gw) (u : Mem) (t : State) : Prop := va_P G.1 clsL (wsM G u) t.heap
/-- a contract: with memory M and these arguments the method returns, 'post' of the answer and the new memory; it makes nothing -/
def Ci (l : Launch) (G : Gw) (y : MethodName) (cc : ByteArray) (maxL : Nat) (ret : Option FieldType) (d : Nat) (av : List Value) (M : Mem) (post : Int32 → Mem → Prop) : Prop :=
  Met l y (wsY y cc maxL ret) (rmD d) (PcM G M av) (va_Qi (S := Mem) post (BM G) (fun q => G.2.2 ≤ q)) 0 0 (fun q => G.2.2 ≤ q)
def Cl (l : Launch) (G : Gw) (y : MethodName) (cc : ByteArray) (maxL : Nat) (ret : Option FieldType) (d : Nat) (av : List Value) (M : Mem) (post : Int64 → Mem → Prop) : Prop :=
  Met l y (wsY y cc maxL ret) (rmD d) (PcM G M av) (va_Ql (S := Mem) post (BM G) (fun q => G.2.2 ≤ q)) 0 0 (fun q => G.2.2 ≤ q)
def Cv (l : Launch) (G : Gw) (y : MethodName) (cc : ByteArray) (maxL : Nat) (ret : Option FieldType) (d : Nat) (av : List Value) (M : Mem) (post : Mem → Prop) : Prop :=
  Met l y (wsY y cc maxL ret) (rmD d) (PcM G M av) (va_Qv (S := Mem) post (BM G) (fun q => G.2.2 ≤ q)) 0 0 (fun q => G.2.2 ≤ q)
abbrev QI (E : Ev) (G : Gw) (post : Int32 → Mem → Prop) : State → Prop := MQ E.2.2.2.2.2.2.2.1 (va_Qi (S := Mem) post (BM G) (fun q => G.2.2 ≤ q)) E.2.2.2.2.2.2.1 E.2.2.2.2.1 0 0 (fun q => G.2.2 ≤ q)
abbrev QL (E : Ev) (G : Gw) (post : Int64 → Mem → Prop) : State → Prop := MQ E.2.2.2.2.2.2.2.1 (va_Ql (S := Mem) post (BM G) (fun q => G.2.2 ≤ q)) E.2.2.2.2.2.2.1 E.2.2.2.2.1 0 0 (fun q => G.2.2 ≤ q)
abbrev QV (E : Ev) (G : Gw) (post : Mem → Prop) : State → Prop := MQ E.2.2.2.2.2.2.2.1 (va_Qv (S := Mem) post (BM G) (fun q => G.2.2 ≤ q)) E.2.2.2.2.2.2.1 E.2.2.2.2.1 0 0 (fun q => G.2.2 ≤ q)
theorem Met_of {l : Launch} {G : Gw} {y : MethodName} {cc : ByteArray} {maxL : Nat} {ret : Option FieldType} {d : Nat} {av : List Value} {M : Mem} {Qc : Array Value → State → Outcome → State → Prop} (hy : plainName y.cls = true) (hl : (lg_sl av).length ≤ maxL)
    (body : ∀ E : Ev, E.2.1 = l → Cx E G cc y.cls maxL d ret → V E (0, 0) G maxL (MQ E.2.2.2.2.2.2.2.1 Qc E.2.2.2.2.2.2.1 E.2.2.2.2.1 0 0 (fun q => G.2.2 ≤ q)) M 0 (lv_args 0 av) []) :
    Met l y (wsY y cc maxL ret) (rmD d) (PcM G M av) Qc 0 0 (fun q => G.2.2 ≤ q) := by
  refine Met.ofW (cc := cc) (maxL := maxL) (ret := ret) hy rfl ?_
  intro p e s m args below meth c s₁ B hml hv
  obtain ⟨rfl, hP, hK⟩ := hv
  have hts := atoms_spec (ws := wsY y cc maxL ret) B.pre
  rw [lg_entry_eq]
  have h := body (p, l, e, rmD d, s, m, av.toArray, below, meth, c) rfl ⟨B.exec, B.bytes, hml, findClass_of_methodNamed B.named, fun w hw => hts w (List.mem_cons_of_mem _ hw), hK, B.notSynchronized, ⟨Nat.le_refl _, Nat.le_refl _⟩, B.returns⟩
  exact h s.heap [] _ hP va_S.rf (lv_entry av hl)
