/-! THE CONSTRUCTORS: n cells are made; cell k is 'o k', where that is said (an object whose fields aren't all set), else as the memory M has it -/
def wsN (G : Gw) (M : Mem) (o : Nat → Option va_E) (n : Nat) : va_W := (List.range n).map (fun k => (G.2.2 + k, (o k).getD (dsc G M k)))
def o_s (o : Nat → Option va_E) (k : Nat) (e : Option va_E) : Nat → Option va_E := fun i => if i = k then e else o i
theorem wsN_get (G : Gw) (M : Mem) (o : Nat → Option va_E) {n k : Nat} (h : k < n) : (wsN G M o n)[k]? = some (G.2.2 + k, (o k).getD (dsc G M k)) := by
  simp [wsN, List.getElem?_map, List.getElem?_range h]
theorem wsN_at {G : Gw} {M : Mem} {o : Nat → Option va_E} {n k : Nat} {q : Nat × va_E} (h : (wsN G M o n)[k]? = some q) : k < n ∧ q = (G.2.2 + k, (o k).getD (dsc G M k)) := by
  have hk : k < n := by
    have := (List.getElem?_eq_some_iff.mp h).1
    simpa [wsN] using this
  rw [wsN_get G M o hk] at h
  exact ⟨hk, (Option.some.inj h).symm⟩
theorem wsN_D (G : Gw) (M : Mem) (o : Nat → Option va_E) (n : Nat) : va_D (fun q => G.2.2 ≤ q) (wsN G M o n) := by
  refine ⟨fun i j p q hp hq e => ?_, fun k q hq => ?_⟩
  · obtain ⟨-, rfl⟩ := wsN_at hp
    obtain ⟨-, rfl⟩ := wsN_at hq
    exact Nat.add_left_cancel e
  · obtain ⟨-, rfl⟩ := wsN_at hq
    exact Nat.le_add_right _ _
theorem wsN_ext {G : Gw} {M M' : Mem} {o o' : Nat → Option va_E} {n : Nat} (h : ∀ k, k < n → (o k).getD (dsc G M k) = (o' k).getD (dsc G M' k)) : wsN G M o n = wsN G M' o' n := by
  apply List.map_congr_left
  intro k hk
  rw [h k (List.mem_range.mp hk)]
theorem wsN_set {G : Gw} {M M' : Mem} {o o' : Nat → Option va_E} {n k : Nat} {e : va_E} (h : ∀ a, a < n → a ≠ k → (o' a).getD (dsc G M' a) = (o a).getD (dsc G M a)) (he : (o' k).getD (dsc G M' k) = e) : (wsN G M o n).set k (G.2.2 + k, e) = wsN G M' o' n := by
  apply List.ext_getElem?
  intro i
  rw [List.getElem?_set]
  by_cases hi : k = i
  · subst hi
    rw [if_pos rfl]
    by_cases hk : k < n
    · rw [if_pos (by simpa [wsN] using hk), wsN_get G M' o' hk, he]
    · rw [if_neg (by simpa [wsN] using hk)]
      exact (List.getElem?_eq_none (by simpa [wsN] using hk)).symm
  · rw [if_neg hi]
    by_cases hk : i < n
    · rw [wsN_get G M o hk, wsN_get G M' o' hk, h i hk (fun x => hi x.symm)]
    · rw [List.getElem?_eq_none (by simpa [wsN] using hk), List.getElem?_eq_none (by simpa [wsN] using hk)]
theorem wsN_app {G : Gw} {M : Mem} {o o' : Nat → Option va_E} {n : Nat} {e : va_E} (h : ∀ a, a < n → o' a = o a) (he : (o' n).getD (dsc G M n) = e) : wsN G M o n ++ [(G.2.2 + n, e)] = wsN G M o' (n + 1) := by
  unfold wsN
  rw [List.range_succ, List.map_append]
  congr 1
  · apply List.map_congr_left
    intro k hk
    rw [h k (List.mem_range.mp hk)]
  · simp [he]
theorem wsN_all (G : Gw) (M : Mem) : wsN G M (fun _ => none) NT = wsM G M := rfl
theorem wsN_size {G : Gw} {M : Mem} {o : Nat → Option va_E} {n : Nat} {H : Heap} (h : va_P G.1 clsL (wsN G M o n) H) (h0 : G.2.2 ≤ H.size) : G.2.2 + n ≤ H.size := by
  cases n with
  | zero => exact h0
  | succ n => exact (h n _ (wsN_get G M o (Nat.lt_succ_self n))).lt
def Nj (E : Ev) (cs : Nat × Nat) (G : Gw) (nL : Nat) (Q : State → Prop) (M : Mem) (o : Nat → Option va_E) (n : Nat) (pc : Nat) (lv : List (Nat × Value)) (st : List Value) : Prop :=
  ∀ (H : Heap) (locs : List Loc) (ls : Array Slot), va_P G.1 clsL (wsN G M o n) H → va_S (fun q => G.2.2 ≤ q) E.2.2.2.2.1.heap H locs → lv_has ls nL lv →
    W E.1 E.2.1 E.2.2.1 E.2.2.2.1 E.2.2.2.2.1 E.2.2.2.2.2.1 E.2.2.2.2.2.2.1 E.2.2.2.2.2.2.2.1 E.2.2.2.2.2.2.2.2.1 E.2.2.2.2.2.2.2.2.2 H locs cs.1 cs.2 Q (F0 E.2.2.2.2.2.1 pc ls st)
section NR
variable {E : Ev} {cs : Nat × Nat} {G : Gw} {cc : ByteArray} {own : String} {nL d : Nat} {ret : Option FieldType} {Q : State → Prop} {M : Mem} {o : Nat → Option va_E} {n : Nat} {pc pc' : Nat} {lv lv' : List (Nat × Value)} {st : List Value}
theorem N_sub (ks : List Nat) (h : lv_pick lv ks = lv') (k : Nj E cs G nL Q M o n pc lv' st) : Nj E cs G nL Q M o n pc lv st := fun H locs ls hP hS hl => k H locs ls hP hS (lv_sub hl ks h)
/-- the memory told otherwise -/
theorem N_as {M' : Mem} {o' : Nat → Option va_E} (h : ∀ k, k < n → (o k).getD (dsc G M k) = (o' k).getD (dsc G M' k)) (k : Nj E cs G nL Q M' o' n pc lv st) : Nj E cs G nL Q M o n pc lv st := fun H locs ls hP hS hl => k H locs ls (wsN_ext h ▸ hP) hS hl
theorem N_done {k : Nat} {e : va_E} {M' : Mem} (ho : o k = some e) (he : dsc G M' k = e) (ha : ∀ a, a ≠ k → dsc G M' a = dsc G M a) (kk : Nj E cs G nL Q M' (o_s o k none) n pc lv st) : Nj E cs G nL Q M o n pc lv st := by
  refine N_as (fun a _ => ?_) kk
  by_cases h : a = k
  · subst h; simp [o_s, ho, he]
  · simp [o_s, h, ha a h]
theorem N_iconst {a : Int} {v : Int32} (X : Cx E G cc own nL d ret) (hd : decode cc pc = .ok (.iconst a, 1)) (hv : Int32.ofInt a = v) (hp : pc + 1 = pc') (k : Nj E cs G nL Q M o n pc' lv (.int v :: st)) : Nj E cs G nL Q M o n pc lv (st) := by subst hp; exact fun H locs ls hP hS hl => lv_iconst X.1 X.2.1 hd hv (k H locs ls hP hS hl)
theorem N_bipush {a : Int} {v : Int32} (X : Cx E G cc own nL d ret) (hd : decode cc pc = .ok (.bipush a, 2)) (hv : (Int8.ofInt a).toInt32 = v) (hp : pc + 2 = pc') (k : Nj E cs G nL Q M o n pc' lv (.int v :: st)) : Nj E cs G nL Q M o n pc lv (st) := by subst hp; exact fun H locs ls hP hS hl => lv_bipush X.1 X.2.1 hd hv (k H locs ls hP hS hl)
theorem N_sipush {a : Int} {v : Int32} (X : Cx E G cc own nL d ret) (hd : decode cc pc = .ok (.sipush a, 3)) (hv : (Int16.ofInt a).toInt32 = v) (hp : pc + 3 = pc') (k : Nj E cs G nL Q M o n pc' lv (.int v :: st)) : Nj E cs G nL Q M o n pc lv (st) := by subst hp; exact fun H locs ls hP hS hl => lv_sipush X.1 X.2.1 hd hv (k H locs ls hP hS hl)
theorem N_lconst {a : Fin 2} {v : Int64} (X : Cx E G cc own nL d ret) (hd : decode cc pc = .ok (.lconst a, 1)) (hv : Int64.ofNat (a : Nat) = v) (hp : pc + 1 = pc') (k : Nj E cs G nL Q M o n pc' lv (.long v :: st)) : Nj E cs G nL Q M o n pc lv (st) := by subst hp; exact fun H locs ls hP hS hl => lv_lconst X.1 X.2.1 hd hv (k H locs ls hP hS hl)
theorem N_dup {v : Value} (X : Cx E G cc own nL d ret) (hd : decode cc pc = .ok (.dup, 1)) (h1 : v.category = 1) (hp : pc + 1 = pc') (k : Nj E cs G nL Q M o n pc' lv (v :: v :: st)) : Nj E cs G nL Q M o n pc lv (v :: st) := by subst hp; exact fun H locs ls hP hS hl => lv_dup X.1 X.2.1 hd h1 (k H locs ls hP hS hl)
theorem N_aload_n {k0 : Fin 4} {i j : Nat} {x : Nat} (X : Cx E G cc own nL d ret) (hd : decode cc pc = .ok (.aload_n k0, 1)) (hi : (k0 : Nat) = i) (hn : lv[j]? = some (i, .ref x)) (hp : pc + 1 = pc') (k : Nj E cs G nL Q M o n pc' lv (.ref x :: st)) : Nj E cs G nL Q M o n pc lv (st) := by subst hp; exact fun H locs ls hP hS hl => lv_aload_n X.1 X.2.1 hd hi (lv_at hl j hn) (k H locs ls hP hS hl)
theorem N_iload_n {k0 : Fin 4} {i j : Nat} {x : Int32} (X : Cx E G cc own nL d ret) (hd : decode cc pc = .ok (.iload_n k0, 1)) (hi : (k0 : Nat) = i) (hn : lv[j]? = some (i, .int x)) (hp : pc + 1 = pc') (k : Nj E cs G nL Q M o n pc' lv (.int x :: st)) : Nj E cs G nL Q M o n pc lv (st) := by subst hp; exact fun H locs ls hP hS hl => lv_iload_n X.1 X.2.1 hd hi (lv_at hl j hn) (k H locs ls hP hS hl)
theorem N_istore_n {k0 : Fin 4} {i : Nat} {x : Int32} (X : Cx E G cc own nL d ret) (hd : decode cc pc = .ok (.istore_n k0, 1)) (hi : (k0 : Nat) = i) (hn : i < nL) (hv : (i, Value.int x) :: lv.filter (fun q => !(q.1 == i) && !(q.1 + 1 == i && q.2.category == 2)) = lv') (hp : pc + 1 = pc') (k : Nj E cs G nL Q M o n pc' lv' st) : Nj E cs G nL Q M o n pc lv (.int x :: st) := by subst hp; exact fun H locs ls hP hS hl => lv_istore_n X.1 X.2.1 hd hi hl hn hv (fun ls hl => k H locs ls hP hS hl)
theorem N_iinc {i j : Nat} {a : Int} {x v : Int32} (X : Cx E G cc own nL d ret) (hd : decode cc pc = .ok (.iinc i a, 3)) (hn : lv[j]? = some (i, .int x)) (hv : x + Int32.ofInt a = v) (hi : i < nL) (hl9 : (i, Value.int v) :: lv.filter (fun q => !(q.1 == i) && !(q.1 + 1 == i && q.2.category == 2)) = lv') (hp : pc + 3 = pc') (k : Nj E cs G nL Q M o n pc' lv' st) : Nj E cs G nL Q M o n pc lv st := by subst hp; exact fun H locs ls hP hS hl => lv_iinc X.1 X.2.1 hd hl hn hv hi hl9 (fun ls hl => k H locs ls hP hS hl)
theorem N_goto {off : Int} (X : Cx E G cc own nL d ret) (hd : decode cc pc = .ok (.goto off, 3)) (ht : (pc : Int) + off = (pc' : Int)) (k : Nj E cs G nL Q M o n pc' lv st) : Nj E cs G nL Q M o n pc lv st := fun H locs ls hP hS hl => lv_goto X.1 X.2.1 hd ht (k H locs ls hP hS hl)
theorem N_icmp_ge {x y : Int32} {off : Int} {tgt : Nat} (X : Cx E G cc own nL d ret) (hd : decode cc pc = .ok (.if_icmp .ge off, 3)) (ht : (pc : Int) + off = (tgt : Int)) (hp : pc + 3 = pc') (kt : y ≤ x → Nj E cs G nL Q M o n tgt lv st) (kf : ¬ y ≤ x → Nj E cs G nL Q M o n pc' lv st) : Nj E cs G nL Q M o n pc lv (.int y :: .int x :: st) := by subst hp; exact fun H locs ls hP hS hl => lv_icmp_ge X.1 X.2.1 hd ht (fun h => kt h H locs ls hP hS hl) (fun h => kf h H locs ls hP hS hl)
theorem N_obj {idx a : Nat} (X : Cx E G cc own nL d ret) (hl9 : Cond.methodLink own idx Lib.objectInit ∈ gw) (hi9 : Cond.instanceMethod Lib.objectInit ∈ gw ∧ Cond.code Lib.objectInit ⟨#[0xb1]⟩ 1 none ∈ gw) (h1 : 1 ≤ d) (hr : (st.map fun v => v.category).sum ≤ 8) (hd : decode cc pc = .ok (.invokespecial idx, 3)) (hp : pc + 3 = pc') (k : Nj E cs G nL Q M o n pc' lv st) : Nj E cs G nL Q M o n pc lv (.ref a :: st) := by
  subst hp
  intro H locs ls hP hS hl
  have h2 := X.2.2.2.2.2.2.2.1
  exact W.objInit X.1 X.2.1 X.2.2.2.1 (X.2.2.2.2.1 _ hl9) (X.2.2.2.2.1 _ hi9.1) (X.2.2.2.2.1 _ hi9.2) rfl (by rw [X.2.2.1]; exact hl.1) rfl hd (by omega) (by show 2 * 0 + _ + 12 ≤ _; omega) (k H locs ls hP hS hl)
theorem N_new {cs' : Nat × Nat} {idx c N : Nat} {C : String} {T : u_T} {fs : List Value} (X : Cx E G cc own nL d ret) (hz : E.2.2.2.2.1.heap.size + cs.1 = G.2.2 + n) (h0 : G.2.2 ≤ E.2.2.2.2.1.heap.size) (hcs : cs.1 + 1 ≤ E.2.2.2.1.cells ∧ cs.2 + N ≤ E.2.2.2.1.slots) (hw : Cond.classLink own idx C ∈ gw ∧ Cond.instantiable C N ∈ gw ∧ Cond.initialized C ∈ gw) (hc : clsL[c]? = some (C, T, N)) (hin : ∀ w ∈ u_ws C T N, w ∈ gw) (ty : Nat → FieldType) (hty : ∀ k, k < N → parseFieldDescriptor (T k).2.2.1 = some (ty k)) (hfs : ∀ j, j < N → defaultValue (ty j) = vp_V fs j) (hd : decode cc pc = .ok (.new idx, 3)) (hp : pc + 3 = pc') (hc9 : (cs.1 + 1, cs.2 + N) = cs')
    (k : Nj E cs' G nL Q M (o_s o n (some (.inr (c, fs)))) (n + 1) pc' lv (.ref (G.2.2 + n) :: st)) : Nj E cs G nL Q M o n pc lv st := by
  subst hp; subst hc9
  intro H locs ls hP hS hl
  refine va_new (T := T) (N := N) (ci := c) (fs := fs) X.1 X.2.1 X.2.2.2.2.1 hin ty hty X.2.2.2.1 (X.2.2.2.2.1 _ hw.1) (X.2.2.2.2.1 _ hw.2.1) (X.2.2.2.2.1 _ hw.2.2) X.2.2.2.2.2.1 hP (wsN_D G M o n) hS (fun q h => Nat.le_trans h0 h) hc hfs hcs.1 hcs.2 hd (fun q H1 hP1 hD1 hS1 => ?_)
  intro T hT X9
  have hsz := X9.heapSize
  rw [hT] at hsz
  have hq1 : q < H1.size := (hP1 n (q, .inr (c, fs)) (by rw [List.getElem?_append_right (by simp [wsN])]; simp [wsN])).lt
  have hq2 : G.2.2 ≤ q := hD1.2 n (q, .inr (c, fs)) (by rw [List.getElem?_append_right (by simp [wsN])]; simp [wsN])
  have hq3 : q = G.2.2 + n := by
    rcases Nat.lt_or_ge q (G.2.2 + n) with h | h
    · exfalso
      have e := hD1.1 (q - G.2.2) n _ (q, .inr (c, fs)) (by rw [List.getElem?_append_left (by simp [wsN]; omega)]; exact wsN_get G M o (by omega)) (by rw [List.getElem?_append_right (by simp [wsN])]; simp [wsN]) (by show G.2.2 + (q - G.2.2) = q; omega)
      omega
    · omega
  subst hq3
  rw [wsN_app (o' := o_s o n (some (.inr (c, fs)))) (fun a h => by simp [o_s, Nat.ne_of_lt h]) (by simp [o_s])] at hP1
  exact k H1 locs ls hP1 hS1 hl T hT X9
theorem N_newa {cs' : Nat × Nat} {atype : ArrayType} {ty : FieldType} {t N : Nat} {a0 : vp_A} {v : Int32} (X : Cx E G cc own nL d ret) (hz : E.2.2.2.2.1.heap.size + cs.1 = G.2.2 + n) (h0 : G.2.2 ≤ E.2.2.2.2.1.heap.size) (hcs : cs.1 + 1 ≤ E.2.2.2.1.cells ∧ cs.2 + N ≤ E.2.2.2.1.slots) (hw : Cond.arrayClass (newarray.typeOf atype) ∈ gw) (hty : newarray.typeOf atype = ty) (ht : (tysM G)[t - 1]? = some (G.2.1 t, ty)) (hnr : ∀ C, ty ≠ .object C) (hc : ∀ cA : ClassId, vp_cell cA a0 = arrV cA N (fun _ => defaultValue ty)) (hn : ¬ v < 0) (hN : v.toNatClampNeg = N) (hb9 : N * componentBytes ty ≤ 536870912) (ho : o n = none) (he : dsc G M n = .inl (G.2.1 t, a0)) (hd : decode cc pc = .ok (.newarray atype, 2)) (hp : pc + 2 = pc') (hc9 : (cs.1 + 1, cs.2 + N) = cs')
    (k : Nj E cs' G nL Q M o (n + 1) pc' lv (.ref (G.2.2 + n) :: st)) : Nj E cs G nL Q M o n pc lv (.int v :: st) := by
  subst hp; subst hc9
  intro H locs ls hP hS hl
  refine va_newa X.1 X.2.1 (X.2.2.2.2.1 _ hw) hty X.2.2.2.2.2.1 hP (wsN_D G M o n) hS (fun q h => Nat.le_trans h0 h) hc hn hN hb9 hcs.1 hcs.2 hd (fun q cA H1 hK1 hP1 hD1 hS1 => ?_)
  have hcA : cA = G.2.1 t := by
    have h1 := (hK1.2 (tysM G).length (cA, ty) (by simp)).2
    have h2 := (X.2.2.2.2.2.1.2 (t - 1) _ ht).2
    have e1 : va_RA E.2.2.2.2.1 cA ty = (E.2.2.2.2.1.vm.findClass ("[" ++ ty.toString) = some cA) := by cases ty <;> first | rfl | exact absurd rfl (hnr _)
    have e2 : va_RA E.2.2.2.2.1 (G.2.1 t) ty = (E.2.2.2.2.1.vm.findClass ("[" ++ ty.toString) = some (G.2.1 t)) := by cases ty <;> first | rfl | exact absurd rfl (hnr _)
    rw [e1] at h1
    rw [e2] at h2
    exact Option.some.inj (h1.symm.trans h2)
  subst hcA
  intro T hT X9
  have hsz := X9.heapSize
  rw [hT] at hsz
  have hq1 : q < H1.size := (hP1 n (q, .inl (G.2.1 t, a0)) (by rw [List.getElem?_append_right (by simp [wsN])]; simp [wsN])).lt
  have hq2 : G.2.2 ≤ q := hD1.2 n (q, .inl (G.2.1 t, a0)) (by rw [List.getElem?_append_right (by simp [wsN])]; simp [wsN])
  have hq3 : q = G.2.2 + n := by
    rcases Nat.lt_or_ge q (G.2.2 + n) with h | h
    · exfalso
      have e := hD1.1 (q - G.2.2) n _ (q, .inl (G.2.1 t, a0)) (by rw [List.getElem?_append_left (by simp [wsN]; omega)]; exact wsN_get G M o (by omega)) (by rw [List.getElem?_append_right (by simp [wsN])]; simp [wsN]) (by show G.2.2 + (q - G.2.2) = q; omega)
      omega
    · omega
  subst hq3
  rw [wsN_app (o' := o) (fun a h => rfl) (by simp [ho, he])] at hP1
  exact k H1 locs ls hP1 hS1 hl T hT X9
theorem N_newq {cs' : Nat × Nat} {idx N : Nat} {v : Int32} (X : Cx E G cc own nL d ret) (hz : E.2.2.2.2.1.heap.size + cs.1 = G.2.2 + n) (h0 : G.2.2 ≤ E.2.2.2.2.1.heap.size) (hcs : cs.1 + 1 ≤ E.2.2.2.1.cells ∧ cs.2 + N ≤ E.2.2.2.1.slots) (hw : Cond.classLink own idx "WomenByTheRoofs$Scene" ∈ gw) (hao : va_AO "WomenByTheRoofs$Scene" E.2.2.2.2.1) (hn : ¬ v < 0) (hN : v.toNatClampNeg = N) (hb9 : N * 4 ≤ 536870912) (ho : o n = none) (he : dsc G M n = .inl (G.2.1 5, N, .inr (.inr (.inr (.inr (fun _ => none)))))) (hd : decode cc pc = .ok (.anewarray idx, 3)) (hp : pc + 3 = pc') (hc9 : (cs.1 + 1, cs.2 + N) = cs')
    (k : Nj E cs' G nL Q M o (n + 1) pc' lv (.ref (G.2.2 + n) :: st)) : Nj E cs G nL Q M o n pc lv (.int v :: st) := by
  subst hp; subst hc9
  intro H locs ls hP hS hl
  refine va_newq X.1 X.2.1 X.2.2.2.1 (X.2.2.2.2.1 _ hw) hao X.2.2.2.2.2.1 hP (wsN_D G M o n) hS (fun q h => Nat.le_trans h0 h) hn hN hb9 hcs.1 hcs.2 hd (fun q cA H1 hK1 hP1 hD1 hS1 => ?_)
  have hcA : cA = G.2.1 5 := by
    obtain ⟨_, _, -, -, -, h1⟩ := (hK1.2 (tysM G).length (cA, .object "WomenByTheRoofs$Scene") (by simp)).2
    obtain ⟨_, _, -, -, -, h2⟩ := (X.2.2.2.2.2.1.2 4 (G.2.1 5, .object "WomenByTheRoofs$Scene") rfl).2
    exact Option.some.inj (h1.symm.trans h2)
  subst hcA
  intro T hT X9
  have hsz := X9.heapSize
  rw [hT] at hsz
  have hq1 : q < H1.size := (hP1 n _ (by rw [List.getElem?_append_right (by simp [wsN])]; simp [wsN]; rfl)).lt
  have hq2 : G.2.2 ≤ q := hD1.2 n _ (by rw [List.getElem?_append_right (by simp [wsN])]; simp [wsN]; rfl)
  have hq3 : q = G.2.2 + n := by
    rcases Nat.lt_or_ge q (G.2.2 + n) with h | h
    · exfalso
      have e := hD1.1 (q - G.2.2) n _ _ (by rw [List.getElem?_append_left (by simp [wsN]; omega)]; exact wsN_get G M o (by omega)) (by rw [List.getElem?_append_right (by simp [wsN])]; simp [wsN]; rfl) (by show G.2.2 + (q - G.2.2) = q; omega)
      omega
    · omega
  subst hq3
  rw [wsN_app (o' := o) (fun a h => rfl) (by simp [ho, he])] at hP1
  exact k H1 locs ls hP1 hS1 hl T hT X9
/-- a field of an object that isn't done -/
def fFin (own : String) (idx c j : Nat) (ty : FieldType) : Prop := ∃ (C : String) (T : u_T) (N : Nat) (ty0 : Nat → FieldType), clsL[c]? = some (C, T, N) ∧ (∀ w ∈ u_ws C T N, w ∈ gw) ∧ j < N ∧ nf c = N ∧ Cond.fieldLink own idx (T j).1 (T j).2.1 (T j).2.2.1 ∈ gw ∧ (T j).2.2.2 = true ∧ (∀ k, k < N → parseFieldDescriptor (T k).2.2.1 = some (ty0 k)) ∧ (∀ a, a < N → ∀ b, b < N → a ≠ b → (T a).2.1 ≠ (T b).2.1) ∧ parseFieldDescriptor (T j).2.2.1 = some ty ∧ (T j).1 = own
theorem N_fin {k c j idx : Nat} {ty : FieldType} {v : Value} {fs : List Value} (X : Cx E G cc own nL d ret) (hin2 : E.2.2.2.2.2.2.2.2.1.name = "<init>") (hF : fFin own idx c j ty) (hk : k < n) (ho : o k = some (.inr (c, fs))) (hlen : j < fs.length) (hn : narrow ty v = v) (hfit : fits ty v = true) (hd : decode cc pc = .ok (.putfield idx, 3)) (hp : pc + 3 = pc') (kk : Nj E cs G nL Q M (o_s o k (some (.inr (c, fs.set j v)))) n pc' lv st) : Nj E cs G nL Q M o n pc lv (v :: .ref (G.2.2 + k) :: st) := by
  subst hp
  obtain ⟨C, T, N, ty0, h1, h2, h3, h4, h5, h6, h7, h8, h9, h10⟩ := hF
  intro H locs ls hP hS hl
  refine va_putF (C := C) (T := T) (N := N) (ci := c) (v := v) (ty := ty) X.1 X.2.1 X.2.2.2.2.1 h2 ty0 h7 h8 X.2.2.2.1 X.2.2.2.2.2.1 hP (wsN_D G M o n) hS k (by rw [wsN_get G M o hk, ho]; rfl) h1 j h3 (X.2.2.2.2.1 _ h5) (fun _ h9 => h9) h6 hin2 h10 h9 hn hfit hlen hd (fun H1 locs1 hP1 hD1 hS1 => ?_)
  rw [wsN_set (M' := M) (o' := o_s o k (some (.inr (c, fs.set j v)))) (fun a _ ha => by simp [o_s, ha]) (by simp [o_s])] at hP1
  exact kk H1 locs1 ls hP1 hS1 hl
theorem N_putu {k c j idx : Nat} {ty : FieldType} {v : Value} {fs : List Value} (X : Cx E G cc own nL d ret) (hF : fPut own idx c j ty) (hk : k < n) (ho : o k = some (.inr (c, fs))) (hlen : j < fs.length) (hn : narrow ty v = v) (hfit : fits ty v = true) (hd : decode cc pc = .ok (.putfield idx, 3)) (hp : pc + 3 = pc') (kk : Nj E cs G nL Q M (o_s o k (some (.inr (c, fs.set j v)))) n pc' lv st) : Nj E cs G nL Q M o n pc lv (v :: .ref (G.2.2 + k) :: st) := by
  subst hp
  obtain ⟨C, T, N, ty0, h1, h2, h3, h4, h5, h6, h7, h8, h9⟩ := hF
  intro H locs ls hP hS hl
  refine va_put (C := C) (T := T) (N := N) (ci := c) (v := v) (ty := ty) X.1 X.2.1 X.2.2.2.2.1 h2 ty0 h7 h8 X.2.2.2.1 X.2.2.2.2.2.1 hP (wsN_D G M o n) hS k (by rw [wsN_get G M o hk, ho]; rfl) h1 j h3 (X.2.2.2.2.1 _ h5) (fun _ h9 => h9) h6 h9 hn hfit hlen hd (fun H1 locs1 hP1 hD1 hS1 => ?_)
  rw [wsN_set (M' := M) (o' := o_s o k (some (.inr (c, fs.set j v)))) (fun a _ ha => by simp [o_s, ha]) (by simp [o_s])] at hP1
  exact kk H1 locs1 ls hP1 hS1 hl
theorem N_getr {k c j idx k2 : Nat} (X : Cx E G cc own nL d ret) (hF : fOk own idx c j) (hk : k < n) (ho : o k = none) (hkd : kd k = 10 + c) (hf : fc c j = 2) (hr : rf k j = k2) (hd : decode cc pc = .ok (.getfield idx, 3)) (hp : pc + 3 = pc') (kk : Nj E cs G nL Q M o n pc' lv (.ref (G.2.2 + k2) :: st)) : Nj E cs G nL Q M o n pc lv (.ref (G.2.2 + k) :: st) := by
  subst hp
  obtain ⟨C, T, N, h1, h2, h3, h4, h5⟩ := hF
  intro H locs ls hP hS hl
  exact va_get (C := C) (T := T) (N := N) (ci := c) (v := .ref (G.2.2 + k2)) X.1 X.2.1 X.2.2.2.2.1 h2 X.2.2.2.1 X.2.2.2.2.2.1 hP k (by rw [wsN_get G M o hk, ho, Option.getD_none, dsc_o hkd]) h1 j h3 (X.2.2.2.2.1 _ h5) (fun _ h9 => h9) (by rw [fs_get (by omega)]; simp [fv, hf, hr]) hd (kk H locs ls hP hS hl)
theorem N_puti {k c j idx : Nat} {v : Int32} (X : Cx E G cc own nL d ret) (hF : fPut own idx c j .int) (hk : k < n) (ho : o k = none) (hkd : kd k = 10 + c) (hf : fc c j = 0) (hd : decode cc pc = .ok (.putfield idx, 3)) (hp : pc + 3 = pc') (kk : Nj E cs G nL Q (s_i M k j v) o n pc' lv st) : Nj E cs G nL Q M o n pc lv (.int v :: .ref (G.2.2 + k) :: st) := by
  subst hp
  obtain ⟨C, T, N, ty0, h1, h2, h3, h4, h5, h6, h7, h8, h9⟩ := hF
  intro H locs ls hP hS hl
  refine va_put (C := C) (T := T) (N := N) (ci := c) (v := .int v) (ty := .int) X.1 X.2.1 X.2.2.2.2.1 h2 ty0 h7 h8 X.2.2.2.1 X.2.2.2.2.2.1 hP (wsN_D G M o n) hS k (by rw [wsN_get G M o hk, ho, Option.getD_none, dsc_o hkd]) h1 j h3 (X.2.2.2.2.1 _ h5) (fun _ h9 => h9) h6 h9 rfl rfl (by simp; omega) hd (fun H1 locs1 hP1 hD1 hS1 => ?_)
  rw [fs_set (M' := s_i M k j v) (by simp [fv, hf, s_i]) (fun b hb => by simp [fv, s_i, hb]), wsN_set (M' := s_i M k j v) (o' := o) (fun a _ ha => by rw [dsc_si ha]) (by rw [ho, Option.getD_none, dsc_o hkd])] at hP1
  exact kk H1 locs1 ls hP1 hS1 hl
theorem N_iast {k : Nat} {i x : Int32} (X : Cx E G cc own nL d ret) (hkn : k < n) (ho : o k = none) (hk : kd k = 1) (hi : vp_in i (ln k)) (hd : decode cc pc = .ok (.iastore, 1)) (hp : pc + 1 = pc') (kk : Nj E cs G nL Q (s_i M k i.toNatClampNeg x) o n pc' lv st) : Nj E cs G nL Q M o n pc lv (.int x :: .int i :: .ref (G.2.2 + k) :: st) := by
  subst hp
  intro H locs ls hP hS hl
  refine va_iast X.1 X.2.1 X.2.2.2.2.2.1 hP (wsN_D G M o n) hS k 0 (by rw [wsN_get G M o hkn, ho, Option.getD_none, dsc_i hk (by decide)]) rfl hi hd (fun H1 locs1 hP1 _ hS1 => ?_)
  rw [wsN_set (M' := s_i M k i.toNatClampNeg x) (o' := o) (fun a _ h => by rw [dsc_si h]) (by rw [ho, Option.getD_none, dsc_i hk (by decide)]; congr 4; funext b; simp [s_i, upd])] at hP1
  exact kk H1 locs1 ls hP1 hS1 hl
theorem N_last {k : Nat} {i : Int32} {x : Int64} (X : Cx E G cc own nL d ret) (hkn : k < n) (ho : o k = none) (hk : kd k = 4) (hi : vp_in i (ln k)) (hd : decode cc pc = .ok (.lastore, 1)) (hp : pc + 1 = pc') (kk : Nj E cs G nL Q (s_l M k i.toNatClampNeg x) o n pc' lv st) : Nj E cs G nL Q M o n pc lv (.long x :: .int i :: .ref (G.2.2 + k) :: st) := by
  subst hp
  intro H locs ls hP hS hl
  refine va_last X.1 X.2.1 X.2.2.2.2.2.1 hP (wsN_D G M o n) hS k 3 (by rw [wsN_get G M o hkn, ho, Option.getD_none, dsc_l hk]) rfl hi hd (fun H1 locs1 hP1 _ hS1 => ?_)
  rw [wsN_set (M' := s_l M k i.toNatClampNeg x) (o' := o) (fun a _ h => by rw [dsc_sl h]) (by rw [ho, Option.getD_none, dsc_l hk]; congr 5; funext b; simp [s_l, vp_updL])] at hP1
  exact kk H1 locs1 ls hP1 hS1 hl
theorem N_aast {k k2 : Nat} {i : Int32} (X : Cx E G cc own nL d ret) (hkn : k < n) (h2n : k2 < n) (ho : o k = none) (ho2 : o k2 = none) (hk : kd k = 5) (h2 : kd k2 = 17) (hi : vp_in i (ln k)) (hd : decode cc pc = .ok (.aastore, 1)) (hp : pc + 1 = pc') (kk : Nj E cs G nL Q (s_q M k i.toNatClampNeg (some k2)) o n pc' lv st) : Nj E cs G nL Q M o n pc lv (.ref (G.2.2 + k2) :: .int i :: .ref (G.2.2 + k) :: st) := by
  subst hp
  intro H locs ls hP hS hl
  refine va_astq (r := (R_Scene, F_Scene, 10)) X.1 X.2.1 X.2.2.2.2.2.1 hP (wsN_D G M o n) hS k 4 k2 7 (by rw [wsN_get G M o hkn, ho, Option.getD_none, dsc_q hk]) rfl (by rw [wsN_get G M o h2n, ho2, Option.getD_none, dsc_o (c := 7) h2]) rfl hi hd (fun H1 locs1 hP1 _ hS1 => ?_)
  rw [wsN_set (M' := s_q M k i.toNatClampNeg (some k2)) (o' := o) (fun a _ h => by rw [dsc_sq h]) (by rw [ho, Option.getD_none, dsc_q hk]; congr 8; funext b; by_cases hb : b = i.toNatClampNeg <;> simp [s_q, hb, va_up, vf_upd])] at hP1
  exact kk H1 locs1 ls hP1 hS1 hl
end NR
/-- words that aren't kept by themselves: rows of Scenes; the nest mate's constructor -/
def nlC : Cond := .methodLinkNest "WomenByTheRoofs" 62 y_Clock_init "WomenByTheRoofs"
def Aw (U : State) : Prop := va_AO "WomenByTheRoofs$Scene" U ∧ va_Nw nlC U
theorem Aw.warm {s U : State} (h : Aw s) (hW : s.WarmedH U.vm) : Aw U := ⟨va_AO.moved hW.alike h.1, va_Nw.warmM hW h.2⟩
/-- a constructor's contract: the object at k isn't done before it, and is behind it; mc cells of ms slots are new -/
def PcN (G : Gw) (M : Mem) (o : Nat → Option va_E) (n : Nat) (av : List Value) : Array Value → State → Prop := va_Pc av (fun U => va_P G.1 clsL (wsN G M o n) U.heap ∧ va_K G.1 clsL (tysM G) U ∧ U.heap.size = G.2.2 + n ∧ Aw U)
def rmN (d mc ms : Nat) : Room := { frames := d, cells := mc, slots := ms, locals := 40 * d }
def Cn (l : Launch) (G : Gw) (y : MethodName) (cc : ByteArray) (maxL d : Nat) (k : Nat) (M : Mem) (o : Nat → Option va_E) (n : Nat) (M' : Mem) (o' : Nat → Option va_E) (mc ms : Nat) : Prop :=
  Met l y (wsY y cc maxL none) (rmN d mc ms) (PcN G M o n [.ref (G.2.2 + k)]) (va_Qv (S := Unit) (fun _ => True) (fun _ t => va_P G.1 clsL (wsN G M' o' (n + mc)) t.heap) (fun q => G.2.2 ≤ q)) mc ms (fun q => G.2.2 ≤ q)
abbrev QN (E : Ev) (G : Gw) (M' : Mem) (o' : Nat → Option va_E) (n' mc ms : Nat) : State → Prop := MQ E.2.2.2.2.2.2.2.1 (va_Qv (S := Unit) (fun _ => True) (fun _ t => va_P G.1 clsL (wsN G M' o' n') t.heap) (fun q => G.2.2 ≤ q)) E.2.2.2.2.2.2.1 E.2.2.2.2.1 mc ms (fun q => G.2.2 ≤ q)
theorem Cn_of {l : Launch} {G : Gw} {y : MethodName} {cc : ByteArray} {maxL d k n mc ms : Nat} {M M' : Mem} {o o' : Nat → Option va_E} (hy : plainName y.cls = true) (hyn : y.name = "<init>") (hl : 1 ≤ maxL)
    (body : ∀ E : Ev, E.2.1 = l → Cx E G cc y.cls maxL d none → E.2.2.2.2.1.heap.size = G.2.2 + n → E.2.2.2.2.2.2.2.2.1.name = "<init>" → Aw E.2.2.2.2.1 → E.2.2.2.1 = rmN d mc ms → Nj E (0, 0) G maxL (QN E G M' o' (n + mc) mc ms) M o n 0 [(0, .ref (G.2.2 + k))] []) : Cn l G y cc maxL d k M o n M' o' mc ms := by
  refine Met.ofW (cc := cc) (maxL := maxL) (ret := none) hy rfl ?_
  intro p e s m args below meth c s₁ B hml hv
  obtain ⟨rfl, hP, hK, hz, ha⟩ := hv
  have hts := atoms_spec (ws := wsY y cc maxL none) B.pre
  rw [lg_entry_eq]
  have h := body (p, l, e, rmN d mc ms, s, m, ([.ref (G.2.2 + k)] : List Value).toArray, below, meth, c) rfl ⟨B.exec, B.bytes, hml, findClass_of_methodNamed B.named, fun w hw => hts w (List.mem_cons_of_mem _ hw), hK, B.notSynchronized, ⟨Nat.le_refl _, Nat.le_refl _⟩, B.returns⟩ hz (by rw [← hyn]; exact (name_of_methodNamed B.named B.method).1) ha rfl
  exact h s.heap [] _ hP va_S.rf (lv_entry _ (by show 1 ≤ maxL; exact hl))
section NC
variable {E : Ev} {cs : Nat × Nat} {G : Gw} {cc : ByteArray} {own : String} {nL d : Nat} {ret : Option FieldType} {Q : State → Prop} {M : Mem} {o : Nat → Option va_E} {n : Nat} {pc pc' : Nat} {lv lv' : List (Nat × Value)} {st rest : List Value}
theorem N_ret {mc ms : Nat} (X : Cx E G cc own nL d none) (hm : cs.1 ≤ mc ∧ cs.2 ≤ ms) (hd : decode cc pc = .ok (.return_, 1)) : Nj E cs G nL (QN E G M o n mc ms) M o n pc lv [] := by
  intro H locs ls hP hS hl
  refine W.widen (k := mc) (n := ms) hm.1 hm.2 ?_
  exact W.vret X.1 X.2.1 X.2.2.2.2.2.2.2.2 (fun t ht hW => ⟨⟨(), rfl, trivial, by show va_P _ _ _ t.heap; rw [ht]; exact hP⟩, hS.F ht⟩) hS.2.2 hd X.2.2.2.2.2.2.1
theorem PcN_blind (G : Gw) (M : Mem) (o : Nat → Option va_E) (n : Nat) (av : List Value) : FrameBlind (PcN G M o n av) := fun a U g mk q => by
  obtain ⟨q0, qP, qK, qz, qa⟩ := q
  exact ⟨q0, qP, va_K.moved (u := U) (U := U.calling g mk a) (Vm.Alike.refl U.vm) qK, qz, ⟨va_AO.moved (u := U) (U := U.calling g mk a) (Vm.Alike.refl U.vm) qa.1, va_Nw.same (u := U) (U := U.calling g mk a) rfl rfl qa.2⟩⟩
theorem goodC {Ts : List Cond} {y : MethodName} {cc : ByteArray} {maxL : Nat} {ret : Option FieldType} (hT : ∀ w ∈ gw, w ∈ Ts) (hc : Cond.code y cc maxL ret ∈ gw) : GoodIn Ts (wsY y cc maxL ret) := by
  intro w hw
  have : w ∈ gw := by
    rcases List.mem_cons.mp hw with rfl | hw
    · exact hc
    · exact hw
  exact ⟨hT w this, gw_good this⟩
theorem N_init {cs' : Nat × Nat} {n' : Nat} {k idx d2 maxL mc ms : Nat} {y : MethodName} {b2 : ByteArray} {M' : Mem} {o' : Nat → Option va_E} (X : Cx E G cc own nL d ret) (hz : E.2.2.2.2.1.heap.size + cs.1 = G.2.2 + n) (h0 : G.2.2 ≤ E.2.2.2.2.1.heap.size) (hcs : cs.1 + mc ≤ E.2.2.2.1.cells ∧ cs.2 + ms ≤ E.2.2.2.1.slots) (hao : Aw E.2.2.2.2.1) (hl : Cond.methodLink own idx y ∈ gw) (hy : Cond.instanceMethod y ∈ gw ∧ Cond.initialized y.cls ∈ gw ∧ Cond.code y b2 maxL none ∈ gw) (hy2 : y.name = "<init>" ∧ (y.cls ≠ "java/lang/invoke/MethodHandle" ∧ y.cls ≠ "java/lang/invoke/VarHandle" ∧ (parseMethodDescriptor y.desc).map (fun d => d.parameters.length) = some 0) ∧ maxL ≤ 21) (hM : Cn E.2.1 G y b2 maxL d2 k M o n M' o' mc ms) (hd2 : d2 + 1 ≤ d) (hw : (rest.map fun v => v.category).sum ≤ 8) (hd : decode cc pc = .ok (.invokespecial idx, 3)) (hp : pc + 3 = pc') (hc9 : (cs.1 + mc, cs.2 + ms) = cs') (hn9 : n + mc = n')
    (kk : Nj E cs' G nL Q M' o' n' pc' lv rest) : Nj E cs G nL Q M o n pc lv (.ref (G.2.2 + k) :: rest) := by
  subst hp; subst hc9; subst hn9
  intro H locs ls hP hS hl9 T hT X9
  have hsz := X9.heapSize
  rw [hT] at hsz
  have hsz2 := wsN_size hP (Nat.le_trans h0 hS.1)
  have hH : H.size = G.2.2 + n := by omega
  obtain ⟨h1, h2, h3⟩ := hy
  obtain ⟨h4, h5, h6⟩ := hy2
  have hgood := goodC (Ts := gw) (fun w h => h) h3
  exact (va_callv (A0 := fun q => G.2.2 ≤ q) (va_runI (As := []) (rest := rest) ⟨X.1, X.2.1, X.2.2.1, X.2.2.2.1, X.2.2.2.2.1⟩ hM (cwI 0 X.2.2.2.2.1 hgood rfl rfl rfl (X.2.2.2.2.1 _ h2) (X.2.2.2.2.1 _ hl) (X.2.2.2.2.1 _ h1) h4 h5 ⟨by have := X.2.2.2.2.2.2.2.1.1; show d2 + 1 ≤ _; omega, by have := X.2.2.2.2.2.2.2.1.2; show 8 + (maxL + 11) + 40 * d2 ≤ _; omega⟩) ⟨PcN_blind G M o n _, fun U hU hW => ⟨rfl, by rw [hU]; exact hP, va_K.moved hW.alike X.2.2.2.2.2.1, by rw [hU]; exact hH, hao.warm hW⟩⟩ rfl rfl hl9.1 rfl (lv_room hw) hd ⟨hcs.1, hcs.2⟩) hS (fun q _ h => h) (fun q h => h) (fun u t H1 locs1 ht hvm hpost hB hz1 hk1 hS1 => kk H1 locs1 ls (by rw [← ht]; exact hB) hS1 hl9)) T hT X9
theorem N_initN {cs' : Nat × Nat} {n' : Nat} {k idx d2 maxL mc ms : Nat} {y : MethodName} {b2 : ByteArray} {M' : Mem} {o' : Nat → Option va_E} (X : Cx E G cc own nL d ret) (hz : E.2.2.2.2.1.heap.size + cs.1 = G.2.2 + n) (h0 : G.2.2 ≤ E.2.2.2.2.1.heap.size) (hcs : cs.1 + mc ≤ E.2.2.2.1.cells ∧ cs.2 + ms ≤ E.2.2.2.1.slots) (hao : Aw E.2.2.2.2.1) {host : String} (hl : va_Nw (.methodLinkNest own idx y host) E.2.2.2.2.1) (hy : Cond.instanceMethod y ∈ gw ∧ Cond.initialized y.cls ∈ gw ∧ Cond.code y b2 maxL none ∈ gw) (hy2 : y.name = "<init>" ∧ (y.cls ≠ "java/lang/invoke/MethodHandle" ∧ y.cls ≠ "java/lang/invoke/VarHandle" ∧ (parseMethodDescriptor y.desc).map (fun d => d.parameters.length) = some 0) ∧ maxL ≤ 21) (hM : Cn E.2.1 G y b2 maxL d2 k M o n M' o' mc ms) (hd2 : d2 + 1 ≤ d) (hw : (rest.map fun v => v.category).sum ≤ 8) (hd : decode cc pc = .ok (.invokespecial idx, 3)) (hp : pc + 3 = pc') (hc9 : (cs.1 + mc, cs.2 + ms) = cs') (hn9 : n + mc = n')
    (kk : Nj E cs' G nL Q M' o' n' pc' lv rest) : Nj E cs G nL Q M o n pc lv (.ref (G.2.2 + k) :: rest) := by
  subst hp; subst hc9; subst hn9
  intro H locs ls hP hS hl9 T hT X9
  have hsz := X9.heapSize
  rw [hT] at hsz
  have hsz2 := wsN_size hP (Nat.le_trans h0 hS.1)
  have hH : H.size = G.2.2 + n := by omega
  obtain ⟨h1, h2, h3⟩ := hy
  obtain ⟨h4, h5, h6⟩ := hy2
  have hgood := goodC (Ts := gw) (fun w h => h) h3
  exact (va_callv (A0 := fun q => G.2.2 ≤ q) (va_runIN (As := []) (rest := rest) ⟨X.1, X.2.1, X.2.2.1, X.2.2.2.1, X.2.2.2.2.1⟩ hM ⟨va_cnB 0 X.2.2.2.2.1 hgood rfl rfl rfl hl (X.2.2.2.2.1 _ h2) h5 ⟨by have := X.2.2.2.2.2.2.2.1.1; show d2 + 1 ≤ _; omega, by have := X.2.2.2.2.2.2.2.1.2; show 8 + (maxL + 11) + 40 * d2 ≤ _; omega⟩, h4, X.2.2.2.2.1 _ h1⟩ ⟨PcN_blind G M o n _, fun U hU hW => ⟨rfl, by rw [hU]; exact hP, va_K.moved hW.alike X.2.2.2.2.2.1, by rw [hU]; exact hH, hao.warm hW⟩⟩ rfl rfl hl9.1 rfl (lv_room hw) hd ⟨hcs.1, hcs.2⟩) hS (fun q _ h => h) (fun q h => h) (fun u t H1 locs1 ht hvm hpost hB hz1 hk1 hS1 => kk H1 locs1 ls (by rw [← ht]; exact hB) hS1 hl9)) T hT X9
theorem o_self (o : Nat → Option va_E) (k : Nat) (e : Option va_E) : o_s o k e k = e := by simp [o_s]
theorem o_ne {o : Nat → Option va_E} {k i : Nat} {e x : Option va_E} (h : i ≠ k) (hi : o i = x) : o_s o k e i = x := by simp [o_s, h, hi]
theorem o_ss (o : Nat → Option va_E) (k : Nat) (e e' : Option va_E) : o_s (o_s o k e) k e' = o_s o k e' := by funext i; by_cases h : i = k <;> simp [o_s, h]
theorem o_id {o : Nat → Option va_E} {k : Nat} (h : o k = none) : o_s o k none = o := by funext i; by_cases hi : i = k <;> simp [o_s, hi, h]
theorem N_fin2 {k c j idx : Nat} {ty : FieldType} {v : Value} {fs fs' : List Value} (X : Cx E G cc own nL d ret) (hin2 : E.2.2.2.2.2.2.2.2.1.name = "<init>") (hF : fFin own idx c j ty) (hk : k < n) (hlen : j < fs.length) (hn : narrow ty v = v) (hfit : fits ty v = true) (hfs : fs.set j v = fs') (hd : decode cc pc = .ok (.putfield idx, 3)) (hp : pc + 3 = pc') (kk : Nj E cs G nL Q M (o_s o k (some (.inr (c, fs')))) n pc' lv st) : Nj E cs G nL Q M (o_s o k (some (.inr (c, fs)))) n pc lv (v :: .ref (G.2.2 + k) :: st) := by
  refine N_fin X hin2 hF hk (o_self _ _ _) hlen hn hfit hd hp ?_
  rw [o_ss, hfs]; exact kk
theorem N_putu2 {k c j idx : Nat} {ty : FieldType} {v : Value} {fs fs' : List Value} (X : Cx E G cc own nL d ret) (hF : fPut own idx c j ty) (hk : k < n) (hlen : j < fs.length) (hn : narrow ty v = v) (hfit : fits ty v = true) (hfs : fs.set j v = fs') (hd : decode cc pc = .ok (.putfield idx, 3)) (hp : pc + 3 = pc') (kk : Nj E cs G nL Q M (o_s o k (some (.inr (c, fs')))) n pc' lv st) : Nj E cs G nL Q M (o_s o k (some (.inr (c, fs)))) n pc lv (v :: .ref (G.2.2 + k) :: st) := by
  refine N_putu X hF hk (o_self _ _ _) hlen hn hfit hd hp ?_
  rw [o_ss, hfs]; exact kk
theorem N_done2 {k : Nat} {e : va_E} {M' : Mem} (ho : o k = none) (he : dsc G M' k = e) (ha : ∀ a, a ≠ k → dsc G M' a = dsc G M a) (kk : Nj E cs G nL Q M' o n pc lv st) : Nj E cs G nL Q M (o_s o k (some e)) n pc lv st := by
  refine N_done (o_self _ _ _) he ha ?_
  rw [o_ss, o_id ho]; exact kk
/-- from cell k on the memory is as new -/
def Zr (M : Mem) (k : Nat) : Prop := ∀ i, k ≤ i → M.1 i = (fun _ => 0) ∧ M.2.1 i = (fun _ => 0) ∧ M.2.2 i = (fun _ => none)
theorem Zr.i {M : Mem} {m k j : Nat} {v : Int32} (h : Zr M m) (hk : k < m) : Zr (s_i M k j v) m := fun i hi => by
  have hne : i ≠ k := by omega
  refine ⟨?_, (h i hi).2.1, (h i hi).2.2⟩
  funext b; simp [s_i, hne, (h i hi).1]
theorem Zr.l {M : Mem} {m k j : Nat} {v : Int64} (h : Zr M m) (hk : k < m) : Zr (s_l M k j v) m := fun i hi => by
  have hne : i ≠ k := by omega
  refine ⟨(h i hi).1, ?_, (h i hi).2.2⟩
  funext b; simp [s_l, hne, (h i hi).2.1]
/-- a row filled with one value up to n; a row of Scenes, each seven cells behind the one before -/
def fil (M : Mem) (k n : Nat) (v : Int32) : Mem := (fun a b => if a = k ∧ b < n then v else M.1 a b, M.2)
def qfl (M : Mem) (k n f : Nat) : Mem := (M.1, M.2.1, fun a b => if a = k ∧ b < n then some (f + 7 * b) else M.2.2 a b)
theorem Zr.f {M : Mem} {m k n : Nat} {v : Int32} (h : Zr M m) (hk : k < m) : Zr (fil M k n v) m := fun i hi => by
  have hne : i ≠ k := by omega
  refine ⟨?_, (h i hi).2.1, (h i hi).2.2⟩
  funext b; simp [fil, hne, (h i hi).1]
theorem Zr.q {M : Mem} {m k n f : Nat} (h : Zr M m) (hk : k < m) : Zr (qfl M k n f) m := fun i hi => by
  have hne : i ≠ k := by omega
  refine ⟨(h i hi).1, (h i hi).2.1, ?_⟩
  funext b; simp [qfl, hne, (h i hi).2.2]
theorem fil_0 (M : Mem) (k : Nat) (v : Int32) : fil M k 0 v = M := by simp [fil]
theorem qfl_0 (M : Mem) (k f : Nat) : qfl M k 0 f = M := by simp [qfl]
theorem fil_s (M : Mem) (k n : Nat) (v : Int32) : s_i (fil M k n v) k n v = fil M k (n + 1) v := by
  refine Prod.ext ?_ rfl
  funext a b
  by_cases ha : a = k
  · by_cases hb : b = n
    · simp [s_i, fil, ha, hb]
    · have : b < n + 1 ↔ b < n := by omega
      simp [s_i, fil, ha, hb, this]
  · simp [s_i, fil, ha]
theorem qfl_s (M : Mem) (k n f : Nat) : s_q (qfl M k n f) k n (some (f + 7 * n)) = qfl M k (n + 1) f := by
  refine Prod.ext rfl (Prod.ext rfl ?_)
  funext a b
  by_cases ha : a = k
  · by_cases hb : b = n
    · simp [s_q, qfl, ha, hb]
    · have : b < n + 1 ↔ b < n := by omega
      simp [s_q, qfl, ha, hb, this]
  · simp [s_q, qfl, ha]
def mG (M : Mem) : Mem := s_i (s_i (s_i M 3 2 1) 3 3 1) 4 0 3
def mN (k : Nat) (M : Mem) : Mem := fil (s_l (s_l M (k + 1) 0 1) (k + 1) 1 1) (k + 3) 288 (-1)
def mH (M : Mem) : Mem := qfl (qfl M 47 12 49) 48 2 133
theorem zr_G {M : Mem} {m : Nat} (h : Zr M m) (hm : 4 < m) : Zr (mG M) m := ((h.i (by omega)).i (by omega)).i (by omega)
theorem zr_N {M : Mem} {m k : Nat} (h : Zr M m) (hm : k + 3 < m) : Zr (mN k M) m := ((h.l (by omega)).l (by omega)).f (by omega)
theorem zr_H {M : Mem} {m : Nat} (h : Zr M m) (hm : 48 < m) : Zr (mH M) m := (h.q (by omega)).q (by omega)
theorem new_i {M : Mem} {k n t N : Nat} (h : Zr M k) (hk : k ≤ n) (hd : kd n = t) (ht : t < 4) (hl : ln n = N) : dsc G M n = .inl (G.2.1 t, N, .inl (fun _ => 0)) := by rw [dsc_i hd ht, hl, (h n hk).1]
theorem new_l {M : Mem} {k n N : Nat} (h : Zr M k) (hk : k ≤ n) (hd : kd n = 4) (hl : ln n = N) : dsc G M n = .inl (G.2.1 4, N, .inr (.inl (fun _ => 0))) := by rw [dsc_l hd, hl, (h n hk).2.1]
theorem new_q {M : Mem} {k n N : Nat} (h : Zr M k) (hk : k ≤ n) (hd : kd n = 5) (hl : ln n = N) : dsc G M n = .inl (G.2.1 5, N, .inr (.inr (.inr (.inr (fun _ => none))))) := by rw [dsc_q hd, hl, (h n hk).2.2]; rfl
end NC
