/-! THE LAW: one turn of its loop -/
section VLAW
variable {E : Ev} {cs cs' : Nat × Nat} {G : Gw} {cc : ByteArray} {own : String} {nL d : Nat} {ret9 : Option FieldType} {Q : State → Prop} {M : Mem} {pc pc' : Nat} {lv lv' : List (Nat × Value)} {st rest : List Value}
theorem V_wid (h : cs.1 ≤ cs'.1 ∧ cs.2 ≤ cs'.2) (k : V E cs' G nL Q M pc lv st) : V E cs G nL Q M pc lv st := fun H locs ls hP hS hl => W.widen (k := cs'.1) (n := cs'.2) h.1 h.2 (k H locs ls hP hS hl)
theorem inb_v {i : Int32} {n : Nat} (hb : inb i n = true) : vp_in i n := by
  intro hc
  rcases hc with hc | hc <;> simp [inb, hc] at hb
theorem V_sld {b L : Nat} {xs : Nat → Int32} {i : Int32} (X : Cx E G cc own nL d ret9) (hX : va_X b L xs E.2.2.2.2.1 E.2.2.2.2.1.heap) (hbl : b < E.2.2.2.2.1.heap.size) (hbA : ¬ G.2.2 ≤ b) (hi : inb i L = true) (hd : decode cc pc = .ok (.iaload, 1)) (hp : pc + 1 = pc') (k : V E cs G nL Q M pc' lv (.int (xs i.toNatClampNeg) :: st)) : V E cs G nL Q M pc lv (.int i :: .ref b :: st) := by
  subst hp
  exact fun H locs ls hP hS hl => va_sld X.1 X.2.1 hX hbl hbA hS (inb_v hi) hd (k H locs ls hP hS hl)
theorem V_slen {b L : Nat} {xs : Nat → Int32} (X : Cx E G cc own nL d ret9) (hX : va_X b L xs E.2.2.2.2.1 E.2.2.2.2.1.heap) (hbl : b < E.2.2.2.2.1.heap.size) (hbA : ¬ G.2.2 ≤ b) (hd : decode cc pc = .ok (.arraylength, 1)) (hp : pc + 1 = pc') (k : V E cs G nL Q M pc' lv (.int (Int32.ofNat L) :: st)) : V E cs G nL Q M pc lv (.ref b :: st) := by
  subst hp
  exact fun H locs ls hP hS hl => va_slen X.1 X.2.1 hX hbl hbA hS hd (k H locs ls hP hS hl)
theorem goodH {own : String} {idx maxL : Nat} {y : MethodName} {cc : ByteArray} {ret : Option FieldType} {hh : List (Nat × Nat × Nat × Nat)} (hl : Cond.methodLink own idx y ∈ gw) (h1 : Cond.static y ∈ gw) (h2 : Cond.initialized y.cls ∈ gw) (h3 : Cond.codeWith y cc maxL ret hh ∈ gw) : GoodIn gw (va_wsS own idx y (Cond.codeWith y cc maxL ret hh :: gw)) := by
  intro w hw
  have : w ∈ gw := by
    simp only [va_wsS, List.mem_append, List.mem_cons, List.not_mem_nil, or_false] at hw
    rcases hw with (rfl | rfl | rfl) | rfl | hw
    · exact hl
    · exact h1
    · exact h2
    · exact h3
    · exact hw
  exact ⟨this, gw_good this⟩
theorem V_sh {idx n d2 maxL : Nat} {y : MethodName} {b2 : ByteArray} {ret2 : Option FieldType} {hh : List (Nat × Nat × Nat × Nat)} {As : List Value} {post : Int32 → Mem → Prop} (X : Cx E G cc own nL d ret9) (hT : Tw G E.2.2.2.2.1 E.2.2.2.2.1.heap) (hz : Zc E (cs.1 + 1, cs.2 + 6)) (hc9 : (cs.1 + 1, cs.2 + 6) = cs') (hl : Cond.methodLink own idx y ∈ gw) (hy : Cond.static y ∈ gw ∧ Cond.initialized y.cls ∈ gw ∧ Cond.codeWith y b2 maxL ret2 hh ∈ gw ∧ (y.cls ≠ "java/lang/invoke/MethodHandle" ∧ y.cls ≠ "java/lang/invoke/VarHandle" ∧ (parseMethodDescriptor y.desc).map (fun d => d.parameters.length) = some n)) (hml : maxL ≤ 21) (hM : Ch E.2.1 G y b2 maxL ret2 hh d2 As M post) (hn : As.length = n) (hd2 : d2 + 1 ≤ d) (hs : st = As.reverse ++ rest) (hw : (rest.map fun v => v.category).sum ≤ 8) (hd : decode cc pc = .ok (.invokestatic idx, 3)) (hp : pc + 3 = pc')
    (kk : ∀ (r : Int32) (M' : Mem), post r M' → V E cs' G nL Q M' pc' lv (.int r :: rest)) : V E cs G nL Q M pc lv st := by
  subst hp; subst hs; subst hc9
  intro H locs ls hP hS hl9
  obtain ⟨h1, h2, h3, h5⟩ := hy
  refine va_calli (A0 := fun q => G.2.2 ≤ q) (vx_runSW (As := As) (rest := rest) ⟨X.1, X.2.1, X.2.2.1, X.2.2.2.1, X.2.2.2.2.1⟩ hM (vx_cwSW n X.2.2.2.2.1 (goodH hl h1 h2 h3) rfl rfl rfl h5 ⟨by have := X.2.2.2.2.2.2.2.1.1; show d2 + 1 ≤ _; omega, by have := X.2.2.2.2.2.2.2.1.2; show 8 + (maxL + 11) + 40 * d2 ≤ _; omega⟩) ⟨PcT_blind G M _, fun U hU hW => ⟨rfl, by rw [hU]; exact hP, va_K.moved hW.alike X.2.2.2.2.2.1, hT.warm hS hU hW⟩⟩ rfl hn hl9.1 rfl (lv_room hw) hd ⟨hz.1, hz.2⟩) hS (fun q _ h => h) (fun q h => h) (fun r u t H1 locs1 ht hvm hpost hB hz1 hk1 hS1 => ?_)
  exact kk r u hpost H1 locs1 ls (by rw [← ht]; exact hB) hS1 hl9
end VLAW
theorem mh_52 : Cond.methodLink "WomenByTheRoofsLaw" 52 y_Lw_cell ∈ gw := gt_5 184 rfl rfl
theorem mh_58 : Cond.methodLink "WomenByTheRoofsLaw" 58 y_Lw_person ∈ gw := gt_6 13 rfl rfl
theorem mh_203 : Cond.methodLink "WomenByTheRoofsLaw" 203 y_Lw_row ∈ gw := gt_6 26 rfl rfl
def j_law_228_23 (L : Nat) (xs : Nat → Int32) (v4 : Int32) (M : Mem) : Option ((Int32 × Mem) ⊕ ((Mem) ⊕ (Int32 × Mem))) :=
  if inb (v4 + (1 : Int32)) L = true then
  Option.bind (f_Top_sign (xs (v4 + (1 : Int32)).toNatClampNeg) M) fun x1 =>
  if inb (v4 + (1 : Int32)) L = true then
  Option.bind (f_Mod_sign (xs (v4 + (1 : Int32)).toNatClampNeg) x1.2) fun x2 =>
  some (.inl ((v4 + (5 : Int32)), x2.2))
  else none
  else none
theorem j_law_228_23_ok {E : Ev} {cs : Nat × Nat} {G : Gw} {d : Nat} {Q : State → Prop} {b L : Nat} {xs : Nat → Int32} (X : Cx E G code "WomenByTheRoofsLaw" 7 d ret) (hz0 : Zc E cs) (hz : Zc E (cs.1 + 1, cs.2 + 6)) (hT : Tw G E.2.2.2.2.1 E.2.2.2.2.1.heap) (hl9 : E.2.1.stackTraces = false) (hX : va_X b L xs E.2.2.2.2.1 E.2.2.2.2.1.heap) (hbl : b < E.2.2.2.2.1.heap.size) (hbA : ¬ G.2.2 ≤ b) (hD : 450 ≤ d)  (v4 : Int32)  (M : Mem)  (o : (Int32 × Mem) ⊕ ((Mem) ⊕ (Int32 × Mem))) (h : j_law_228_23 L xs v4 M = some o) (kc : ∀ s9 : Int32 × Mem, o = .inl s9 → V E (cs.1 + 1, cs.2 + 6) G 7 Q s9.2 23 [(0, .ref b), (1, .ref (G.2.2 + 0)), (2, .ref (G.2.2 + 162)), (3, .ref (G.2.2 + 192)), (4, .int s9.1)] []) (kx0 : ∀ x9 : Mem, o = .inr (Sum.inl x9) → V E (cs.1 + 1, cs.2 + 6) G 7 Q x9 1559 [] []) (kr : ∀ x9 : Int32 × Mem, o = .inr (Sum.inr x9) → False) : V E cs G 7 Q M 228 [(0, .ref b), (1, .ref (G.2.2 + 0)), (2, .ref (G.2.2 + 162)), (3, .ref (G.2.2 + 192)), (4, .int v4)] [] := by
  unfold j_law_228_23 at h
  refine V_aload_n (n := 1) X d_law_228 rfl rfl rfl ?_
  refine V_aload_n (n := 0) X d_law_229 rfl rfl rfl ?_
  refine V_iload (n := 4) X d_law_230 rfl rfl ?_
  refine V_iconst (v := 1) X d_law_232 (by decide) rfl ?_
  refine V_iadd X d_law_233 rfl ?_
  obtain ⟨hb, h⟩ := ifn h
  refine V_sld X hX hbl hbA hb d_law_234 rfl ?_
  obtain ⟨x1, hx1, h⟩ := ob_s h
  refine V_ci (As := [.int (xs (v4 + (1 : Int32)).toNatClampNeg)]) X hz0 ml_Lw_26 yq_Top_sign (c_Top_sign E.2.1 G (xs (v4 + (1 : Int32)).toNatClampNeg) M x1 hx1 _ (Nat.le_refl _)) kd_0 rfl rfl (by omega) rfl (Nat.le_of_ble_eq_true rfl) d_law_235 rfl (fun r9 M9 hq => ?_)
  rw [hq.1, hq.2]
  refine V_pop X d_law_238 rfl rfl ?_
  refine V_aload_n (n := 2) X d_law_239 rfl rfl rfl ?_
  refine V_aload_n (n := 0) X d_law_240 rfl rfl rfl ?_
  refine V_iload (n := 4) X d_law_241 rfl rfl ?_
  refine V_iconst (v := 1) X d_law_243 (by decide) rfl ?_
  refine V_iadd X d_law_244 rfl ?_
  obtain ⟨hb, h⟩ := ifn h
  refine V_sld X hX hbl hbA hb d_law_245 rfl ?_
  obtain ⟨x2, hx2, h⟩ := ob_s h
  refine V_ci (As := [.int (xs (v4 + (1 : Int32)).toNatClampNeg)]) X hz0 ml_Lw_29 yq_Mod_sign (c_Mod_sign E.2.1 G (xs (v4 + (1 : Int32)).toNatClampNeg) x1.2 x2 hx2 _ (Nat.le_refl _)) kd_162 rfl rfl (by omega) rfl (Nat.le_of_ble_eq_true rfl) d_law_246 rfl (fun r9 M9 hq => ?_)
  rw [hq.1, hq.2]
  refine V_pop X d_law_249 rfl rfl ?_
  refine V_goto (pc' := 1553) X d_law_250 (by decide) ?_
  refine V_iinc (n := 4) (v := (v4 + (5 : Int32))) (lv' := [(4, .int (v4 + (5 : Int32))), (0, .ref b), (1, .ref (G.2.2 + 0)), (2, .ref (G.2.2 + 162)), (3, .ref (G.2.2 + 192))]) X d_law_1553 rfl rfl (by decide) rfl rfl ?_
  refine V_goto (pc' := 23) X d_law_1556 (by decide) ?_
  refine V_wid (cs' := (cs.1 + 1, cs.2 + 6)) ⟨Nat.le_succ _, Nat.le_add_right _ _⟩ ?_
  refine V_sub (lv' := [(0, .ref b), (1, .ref (G.2.2 + 0)), (2, .ref (G.2.2 + 162)), (3, .ref (G.2.2 + 192)), (4, .int (v4 + (5 : Int32)))]) [1, 2, 3, 4, 0] rfl ?_
  exact kc ((v4 + (5 : Int32)), x2.2) (Option.some.inj h).symm
def j_law_253_23 (L : Nat) (xs : Nat → Int32) (v4 : Int32) (M : Mem) : Option ((Int32 × Mem) ⊕ ((Mem) ⊕ (Int32 × Mem))) :=
  if inb (v4 + (1 : Int32)) L = true then
  Option.bind (f_Top_end (xs (v4 + (1 : Int32)).toNatClampNeg) M) fun x4 =>
  if inb (v4 + (1 : Int32)) L = true then
  Option.bind (f_Mod_end (xs (v4 + (1 : Int32)).toNatClampNeg) x4.2) fun x5 =>
  some (.inl ((v4 + (5 : Int32)), x5.2))
  else none
  else none
theorem j_law_253_23_ok {E : Ev} {cs : Nat × Nat} {G : Gw} {d : Nat} {Q : State → Prop} {b L : Nat} {xs : Nat → Int32} (X : Cx E G code "WomenByTheRoofsLaw" 7 d ret) (hz0 : Zc E cs) (hz : Zc E (cs.1 + 1, cs.2 + 6)) (hT : Tw G E.2.2.2.2.1 E.2.2.2.2.1.heap) (hl9 : E.2.1.stackTraces = false) (hX : va_X b L xs E.2.2.2.2.1 E.2.2.2.2.1.heap) (hbl : b < E.2.2.2.2.1.heap.size) (hbA : ¬ G.2.2 ≤ b) (hD : 450 ≤ d)  (v4 : Int32)  (M : Mem)  (o : (Int32 × Mem) ⊕ ((Mem) ⊕ (Int32 × Mem))) (h : j_law_253_23 L xs v4 M = some o) (kc : ∀ s9 : Int32 × Mem, o = .inl s9 → V E (cs.1 + 1, cs.2 + 6) G 7 Q s9.2 23 [(0, .ref b), (1, .ref (G.2.2 + 0)), (2, .ref (G.2.2 + 162)), (3, .ref (G.2.2 + 192)), (4, .int s9.1)] []) (kx0 : ∀ x9 : Mem, o = .inr (Sum.inl x9) → V E (cs.1 + 1, cs.2 + 6) G 7 Q x9 1559 [] []) (kr : ∀ x9 : Int32 × Mem, o = .inr (Sum.inr x9) → False) : V E cs G 7 Q M 253 [(0, .ref b), (1, .ref (G.2.2 + 0)), (2, .ref (G.2.2 + 162)), (3, .ref (G.2.2 + 192)), (4, .int v4)] [] := by
  unfold j_law_253_23 at h
  refine V_aload_n (n := 1) X d_law_253 rfl rfl rfl ?_
  refine V_aload_n (n := 0) X d_law_254 rfl rfl rfl ?_
  refine V_iload (n := 4) X d_law_255 rfl rfl ?_
  refine V_iconst (v := 1) X d_law_257 (by decide) rfl ?_
  refine V_iadd X d_law_258 rfl ?_
  obtain ⟨hb, h⟩ := ifn h
  refine V_sld X hX hbl hbA hb d_law_259 rfl ?_
  obtain ⟨x4, hx4, h⟩ := ob_s h
  refine V_ci (As := [.int (xs (v4 + (1 : Int32)).toNatClampNeg)]) X hz0 ml_Lw_30 yq_Top_end (c_Top_end E.2.1 G (xs (v4 + (1 : Int32)).toNatClampNeg) M x4 hx4 _ (Nat.le_refl _)) kd_0 rfl rfl (by omega) rfl (Nat.le_of_ble_eq_true rfl) d_law_260 rfl (fun r9 M9 hq => ?_)
  rw [hq.1, hq.2]
  refine V_pop X d_law_263 rfl rfl ?_
  refine V_aload_n (n := 2) X d_law_264 rfl rfl rfl ?_
  refine V_aload_n (n := 0) X d_law_265 rfl rfl rfl ?_
  refine V_iload (n := 4) X d_law_266 rfl rfl ?_
  refine V_iconst (v := 1) X d_law_268 (by decide) rfl ?_
  refine V_iadd X d_law_269 rfl ?_
  obtain ⟨hb, h⟩ := ifn h
  refine V_sld X hX hbl hbA hb d_law_270 rfl ?_
  obtain ⟨x5, hx5, h⟩ := ob_s h
  refine V_ci (As := [.int (xs (v4 + (1 : Int32)).toNatClampNeg)]) X hz0 ml_Lw_34 yq_Mod_end (c_Mod_end E.2.1 G (xs (v4 + (1 : Int32)).toNatClampNeg) x4.2 x5 hx5 _ (Nat.le_refl _)) kd_162 rfl rfl (by omega) rfl (Nat.le_of_ble_eq_true rfl) d_law_271 rfl (fun r9 M9 hq => ?_)
  rw [hq.1, hq.2]
  refine V_pop X d_law_274 rfl rfl ?_
  refine V_goto (pc' := 1553) X d_law_275 (by decide) ?_
  refine V_iinc (n := 4) (v := (v4 + (5 : Int32))) (lv' := [(4, .int (v4 + (5 : Int32))), (0, .ref b), (1, .ref (G.2.2 + 0)), (2, .ref (G.2.2 + 162)), (3, .ref (G.2.2 + 192))]) X d_law_1553 rfl rfl (by decide) rfl rfl ?_
  refine V_goto (pc' := 23) X d_law_1556 (by decide) ?_
  refine V_wid (cs' := (cs.1 + 1, cs.2 + 6)) ⟨Nat.le_succ _, Nat.le_add_right _ _⟩ ?_
  refine V_sub (lv' := [(0, .ref b), (1, .ref (G.2.2 + 0)), (2, .ref (G.2.2 + 162)), (3, .ref (G.2.2 + 192)), (4, .int (v4 + (5 : Int32)))]) [1, 2, 3, 4, 0] rfl ?_
  exact kc ((v4 + (5 : Int32)), x5.2) (Option.some.inj h).symm
def j_law_278_23 (L : Nat) (xs : Nat → Int32) (v4 : Int32) (M : Mem) : Option ((Int32 × Mem) ⊕ ((Mem) ⊕ (Int32 × Mem))) :=
  Option.bind (f_Top_town M) fun x7 =>
  Option.bind (f_Mod_town x7.2) fun x8 =>
  some (.inl ((v4 + (5 : Int32)), x8.2))
theorem j_law_278_23_ok {E : Ev} {cs : Nat × Nat} {G : Gw} {d : Nat} {Q : State → Prop} {b L : Nat} {xs : Nat → Int32} (X : Cx E G code "WomenByTheRoofsLaw" 7 d ret) (hz0 : Zc E cs) (hz : Zc E (cs.1 + 1, cs.2 + 6)) (hT : Tw G E.2.2.2.2.1 E.2.2.2.2.1.heap) (hl9 : E.2.1.stackTraces = false) (hX : va_X b L xs E.2.2.2.2.1 E.2.2.2.2.1.heap) (hbl : b < E.2.2.2.2.1.heap.size) (hbA : ¬ G.2.2 ≤ b) (hD : 450 ≤ d)  (v4 : Int32)  (M : Mem)  (o : (Int32 × Mem) ⊕ ((Mem) ⊕ (Int32 × Mem))) (h : j_law_278_23 L xs v4 M = some o) (kc : ∀ s9 : Int32 × Mem, o = .inl s9 → V E (cs.1 + 1, cs.2 + 6) G 7 Q s9.2 23 [(0, .ref b), (1, .ref (G.2.2 + 0)), (2, .ref (G.2.2 + 162)), (3, .ref (G.2.2 + 192)), (4, .int s9.1)] []) (kx0 : ∀ x9 : Mem, o = .inr (Sum.inl x9) → V E (cs.1 + 1, cs.2 + 6) G 7 Q x9 1559 [] []) (kr : ∀ x9 : Int32 × Mem, o = .inr (Sum.inr x9) → False) : V E cs G 7 Q M 278 [(0, .ref b), (1, .ref (G.2.2 + 0)), (2, .ref (G.2.2 + 162)), (3, .ref (G.2.2 + 192)), (4, .int v4)] [] := by
  unfold j_law_278_23 at h
  refine V_aload_n (n := 1) X d_law_278 rfl rfl rfl ?_
  obtain ⟨x7, hx7, h⟩ := ob_s h
  refine V_ci (As := []) X hz0 ml_Lw_35 yq_Top_town (c_Top_town E.2.1 G  M x7 hx7 _ (Nat.le_refl _)) kd_0 rfl rfl (by omega) rfl (Nat.le_of_ble_eq_true rfl) d_law_279 rfl (fun r9 M9 hq => ?_)
  rw [hq.1, hq.2]
  refine V_pop X d_law_282 rfl rfl ?_
  refine V_aload_n (n := 2) X d_law_283 rfl rfl rfl ?_
  obtain ⟨x8, hx8, h⟩ := ob_s h
  refine V_ci (As := []) X hz0 ml_Lw_39 yq_Mod_town (c_Mod_town E.2.1 G  x7.2 x8 hx8 _ (Nat.le_refl _)) kd_162 rfl rfl (by omega) rfl (Nat.le_of_ble_eq_true rfl) d_law_284 rfl (fun r9 M9 hq => ?_)
  rw [hq.1, hq.2]
  refine V_pop X d_law_287 rfl rfl ?_
  refine V_goto (pc' := 1553) X d_law_288 (by decide) ?_
  refine V_iinc (n := 4) (v := (v4 + (5 : Int32))) (lv' := [(4, .int (v4 + (5 : Int32))), (0, .ref b), (1, .ref (G.2.2 + 0)), (2, .ref (G.2.2 + 162)), (3, .ref (G.2.2 + 192))]) X d_law_1553 rfl rfl (by decide) rfl rfl ?_
  refine V_goto (pc' := 23) X d_law_1556 (by decide) ?_
  refine V_wid (cs' := (cs.1 + 1, cs.2 + 6)) ⟨Nat.le_succ _, Nat.le_add_right _ _⟩ ?_
  refine V_sub (lv' := [(0, .ref b), (1, .ref (G.2.2 + 0)), (2, .ref (G.2.2 + 162)), (3, .ref (G.2.2 + 192)), (4, .int (v4 + (5 : Int32)))]) [1, 2, 3, 4, 0] rfl ?_
  exact kc ((v4 + (5 : Int32)), x8.2) (Option.some.inj h).symm
def j_law_291_23 (L : Nat) (xs : Nat → Int32) (v4 : Int32) (M : Mem) : Option ((Int32 × Mem) ⊕ ((Mem) ⊕ (Int32 × Mem))) :=
  Option.bind (f_Top_folk M) fun x10 =>
  Option.bind (f_Mod_folk x10.2) fun x11 =>
  some (.inl ((v4 + (5 : Int32)), x11.2))
theorem j_law_291_23_ok {E : Ev} {cs : Nat × Nat} {G : Gw} {d : Nat} {Q : State → Prop} {b L : Nat} {xs : Nat → Int32} (X : Cx E G code "WomenByTheRoofsLaw" 7 d ret) (hz0 : Zc E cs) (hz : Zc E (cs.1 + 1, cs.2 + 6)) (hT : Tw G E.2.2.2.2.1 E.2.2.2.2.1.heap) (hl9 : E.2.1.stackTraces = false) (hX : va_X b L xs E.2.2.2.2.1 E.2.2.2.2.1.heap) (hbl : b < E.2.2.2.2.1.heap.size) (hbA : ¬ G.2.2 ≤ b) (hD : 450 ≤ d)  (v4 : Int32)  (M : Mem)  (o : (Int32 × Mem) ⊕ ((Mem) ⊕ (Int32 × Mem))) (h : j_law_291_23 L xs v4 M = some o) (kc : ∀ s9 : Int32 × Mem, o = .inl s9 → V E (cs.1 + 1, cs.2 + 6) G 7 Q s9.2 23 [(0, .ref b), (1, .ref (G.2.2 + 0)), (2, .ref (G.2.2 + 162)), (3, .ref (G.2.2 + 192)), (4, .int s9.1)] []) (kx0 : ∀ x9 : Mem, o = .inr (Sum.inl x9) → V E (cs.1 + 1, cs.2 + 6) G 7 Q x9 1559 [] []) (kr : ∀ x9 : Int32 × Mem, o = .inr (Sum.inr x9) → False) : V E cs G 7 Q M 291 [(0, .ref b), (1, .ref (G.2.2 + 0)), (2, .ref (G.2.2 + 162)), (3, .ref (G.2.2 + 192)), (4, .int v4)] [] := by
  unfold j_law_291_23 at h
  refine V_aload_n (n := 1) X d_law_291 rfl rfl rfl ?_
  obtain ⟨x10, hx10, h⟩ := ob_s h
  refine V_ci (As := []) X hz0 ml_Lw_40 yq_Top_folk (c_Top_folk E.2.1 G  M x10 hx10 _ (Nat.le_refl _)) kd_0 rfl rfl (by omega) rfl (Nat.le_of_ble_eq_true rfl) d_law_292 rfl (fun r9 M9 hq => ?_)
  rw [hq.1, hq.2]
  refine V_pop X d_law_295 rfl rfl ?_
  refine V_aload_n (n := 2) X d_law_296 rfl rfl rfl ?_
  obtain ⟨x11, hx11, h⟩ := ob_s h
  refine V_ci (As := []) X hz0 ml_Lw_43 yq_Mod_folk (c_Mod_folk E.2.1 G  x10.2 x11 hx11 _ (Nat.le_refl _)) kd_162 rfl rfl (by omega) rfl (Nat.le_of_ble_eq_true rfl) d_law_297 rfl (fun r9 M9 hq => ?_)
  rw [hq.1, hq.2]
  refine V_pop X d_law_300 rfl rfl ?_
  refine V_goto (pc' := 1553) X d_law_301 (by decide) ?_
  refine V_iinc (n := 4) (v := (v4 + (5 : Int32))) (lv' := [(4, .int (v4 + (5 : Int32))), (0, .ref b), (1, .ref (G.2.2 + 0)), (2, .ref (G.2.2 + 162)), (3, .ref (G.2.2 + 192))]) X d_law_1553 rfl rfl (by decide) rfl rfl ?_
  refine V_goto (pc' := 23) X d_law_1556 (by decide) ?_
  refine V_wid (cs' := (cs.1 + 1, cs.2 + 6)) ⟨Nat.le_succ _, Nat.le_add_right _ _⟩ ?_
  refine V_sub (lv' := [(0, .ref b), (1, .ref (G.2.2 + 0)), (2, .ref (G.2.2 + 162)), (3, .ref (G.2.2 + 192)), (4, .int (v4 + (5 : Int32)))]) [1, 2, 3, 4, 0] rfl ?_
  exact kc ((v4 + (5 : Int32)), x11.2) (Option.some.inj h).symm
def j_law_304_23 (L : Nat) (xs : Nat → Int32) (v4 : Int32) (M : Mem) : Option ((Int32 × Mem) ⊕ ((Mem) ⊕ (Int32 × Mem))) :=
  Option.bind (f_Top_rule M) fun x13 =>
  Option.bind (f_Mod_rule x13.2) fun x14 =>
  some (.inl ((v4 + (5 : Int32)), x14.2))
theorem j_law_304_23_ok {E : Ev} {cs : Nat × Nat} {G : Gw} {d : Nat} {Q : State → Prop} {b L : Nat} {xs : Nat → Int32} (X : Cx E G code "WomenByTheRoofsLaw" 7 d ret) (hz0 : Zc E cs) (hz : Zc E (cs.1 + 1, cs.2 + 6)) (hT : Tw G E.2.2.2.2.1 E.2.2.2.2.1.heap) (hl9 : E.2.1.stackTraces = false) (hX : va_X b L xs E.2.2.2.2.1 E.2.2.2.2.1.heap) (hbl : b < E.2.2.2.2.1.heap.size) (hbA : ¬ G.2.2 ≤ b) (hD : 450 ≤ d)  (v4 : Int32)  (M : Mem)  (o : (Int32 × Mem) ⊕ ((Mem) ⊕ (Int32 × Mem))) (h : j_law_304_23 L xs v4 M = some o) (kc : ∀ s9 : Int32 × Mem, o = .inl s9 → V E (cs.1 + 1, cs.2 + 6) G 7 Q s9.2 23 [(0, .ref b), (1, .ref (G.2.2 + 0)), (2, .ref (G.2.2 + 162)), (3, .ref (G.2.2 + 192)), (4, .int s9.1)] []) (kx0 : ∀ x9 : Mem, o = .inr (Sum.inl x9) → V E (cs.1 + 1, cs.2 + 6) G 7 Q x9 1559 [] []) (kr : ∀ x9 : Int32 × Mem, o = .inr (Sum.inr x9) → False) : V E cs G 7 Q M 304 [(0, .ref b), (1, .ref (G.2.2 + 0)), (2, .ref (G.2.2 + 162)), (3, .ref (G.2.2 + 192)), (4, .int v4)] [] := by
  unfold j_law_304_23 at h
  refine V_aload_n (n := 1) X d_law_304 rfl rfl rfl ?_
  obtain ⟨x13, hx13, h⟩ := ob_s h
  refine V_ci (As := []) X hz0 ml_Lw_44 yq_Top_rule (c_Top_rule E.2.1 G  M x13 hx13 _ (Nat.le_refl _)) kd_0 rfl rfl (by omega) rfl (Nat.le_of_ble_eq_true rfl) d_law_305 rfl (fun r9 M9 hq => ?_)
  rw [hq.1, hq.2]
  refine V_pop X d_law_308 rfl rfl ?_
  refine V_aload_n (n := 2) X d_law_309 rfl rfl rfl ?_
  obtain ⟨x14, hx14, h⟩ := ob_s h
  refine V_ci (As := []) X hz0 ml_Lw_47 yq_Mod_rule (c_Mod_rule E.2.1 G  x13.2 x14 hx14 _ (Nat.le_refl _)) kd_162 rfl rfl (by omega) rfl (Nat.le_of_ble_eq_true rfl) d_law_310 rfl (fun r9 M9 hq => ?_)
  rw [hq.1, hq.2]
  refine V_pop X d_law_313 rfl rfl ?_
  refine V_goto (pc' := 1553) X d_law_314 (by decide) ?_
  refine V_iinc (n := 4) (v := (v4 + (5 : Int32))) (lv' := [(4, .int (v4 + (5 : Int32))), (0, .ref b), (1, .ref (G.2.2 + 0)), (2, .ref (G.2.2 + 162)), (3, .ref (G.2.2 + 192))]) X d_law_1553 rfl rfl (by decide) rfl rfl ?_
  refine V_goto (pc' := 23) X d_law_1556 (by decide) ?_
  refine V_wid (cs' := (cs.1 + 1, cs.2 + 6)) ⟨Nat.le_succ _, Nat.le_add_right _ _⟩ ?_
  refine V_sub (lv' := [(0, .ref b), (1, .ref (G.2.2 + 0)), (2, .ref (G.2.2 + 162)), (3, .ref (G.2.2 + 192)), (4, .int (v4 + (5 : Int32)))]) [1, 2, 3, 4, 0] rfl ?_
  exact kc ((v4 + (5 : Int32)), x14.2) (Option.some.inj h).symm
def j_law_317_23 (L : Nat) (xs : Nat → Int32) (v4 : Int32) (M : Mem) : Option ((Int32 × Mem) ⊕ ((Mem) ⊕ (Int32 × Mem))) :=
  if inb (v4 + (1 : Int32)) L = true then
  Option.bind (f_Top_route (xs (v4 + (1 : Int32)).toNatClampNeg) M) fun x16 =>
  if inb (v4 + (1 : Int32)) L = true then
  Option.bind (f_Mod_route (xs (v4 + (1 : Int32)).toNatClampNeg) x16.2) fun x17 =>
  some (.inl ((v4 + (5 : Int32)), x17.2))
  else none
  else none
theorem j_law_317_23_ok {E : Ev} {cs : Nat × Nat} {G : Gw} {d : Nat} {Q : State → Prop} {b L : Nat} {xs : Nat → Int32} (X : Cx E G code "WomenByTheRoofsLaw" 7 d ret) (hz0 : Zc E cs) (hz : Zc E (cs.1 + 1, cs.2 + 6)) (hT : Tw G E.2.2.2.2.1 E.2.2.2.2.1.heap) (hl9 : E.2.1.stackTraces = false) (hX : va_X b L xs E.2.2.2.2.1 E.2.2.2.2.1.heap) (hbl : b < E.2.2.2.2.1.heap.size) (hbA : ¬ G.2.2 ≤ b) (hD : 450 ≤ d)  (v4 : Int32)  (M : Mem)  (o : (Int32 × Mem) ⊕ ((Mem) ⊕ (Int32 × Mem))) (h : j_law_317_23 L xs v4 M = some o) (kc : ∀ s9 : Int32 × Mem, o = .inl s9 → V E (cs.1 + 1, cs.2 + 6) G 7 Q s9.2 23 [(0, .ref b), (1, .ref (G.2.2 + 0)), (2, .ref (G.2.2 + 162)), (3, .ref (G.2.2 + 192)), (4, .int s9.1)] []) (kx0 : ∀ x9 : Mem, o = .inr (Sum.inl x9) → V E (cs.1 + 1, cs.2 + 6) G 7 Q x9 1559 [] []) (kr : ∀ x9 : Int32 × Mem, o = .inr (Sum.inr x9) → False) : V E cs G 7 Q M 317 [(0, .ref b), (1, .ref (G.2.2 + 0)), (2, .ref (G.2.2 + 162)), (3, .ref (G.2.2 + 192)), (4, .int v4)] [] := by
  unfold j_law_317_23 at h
  refine V_aload_n (n := 1) X d_law_317 rfl rfl rfl ?_
  refine V_aload_n (n := 0) X d_law_318 rfl rfl rfl ?_
  refine V_iload (n := 4) X d_law_319 rfl rfl ?_
  refine V_iconst (v := 1) X d_law_321 (by decide) rfl ?_
  refine V_iadd X d_law_322 rfl ?_
  obtain ⟨hb, h⟩ := ifn h
  refine V_sld X hX hbl hbA hb d_law_323 rfl ?_
  obtain ⟨x16, hx16, h⟩ := ob_s h
  refine V_ci (As := [.int (xs (v4 + (1 : Int32)).toNatClampNeg)]) X hz0 ml_Lw_48 yq_Top_route (c_Top_route E.2.1 G (xs (v4 + (1 : Int32)).toNatClampNeg) M x16 hx16 _ (Nat.le_refl _)) kd_0 rfl rfl (by omega) rfl (Nat.le_of_ble_eq_true rfl) d_law_324 rfl (fun r9 M9 hq => ?_)
  rw [hq.1, hq.2]
  refine V_pop X d_law_327 rfl rfl ?_
  refine V_aload_n (n := 2) X d_law_328 rfl rfl rfl ?_
  refine V_aload_n (n := 0) X d_law_329 rfl rfl rfl ?_
  refine V_iload (n := 4) X d_law_330 rfl rfl ?_
  refine V_iconst (v := 1) X d_law_332 (by decide) rfl ?_
  refine V_iadd X d_law_333 rfl ?_
  obtain ⟨hb, h⟩ := ifn h
  refine V_sld X hX hbl hbA hb d_law_334 rfl ?_
  obtain ⟨x17, hx17, h⟩ := ob_s h
  refine V_ci (As := [.int (xs (v4 + (1 : Int32)).toNatClampNeg)]) X hz0 ml_Lw_51 yq_Mod_route (c_Mod_route E.2.1 G (xs (v4 + (1 : Int32)).toNatClampNeg) x16.2 x17 hx17 _ (Nat.le_refl _)) kd_162 rfl rfl (by omega) rfl (Nat.le_of_ble_eq_true rfl) d_law_335 rfl (fun r9 M9 hq => ?_)
  rw [hq.1, hq.2]
  refine V_pop X d_law_338 rfl rfl ?_
  refine V_goto (pc' := 1553) X d_law_339 (by decide) ?_
  refine V_iinc (n := 4) (v := (v4 + (5 : Int32))) (lv' := [(4, .int (v4 + (5 : Int32))), (0, .ref b), (1, .ref (G.2.2 + 0)), (2, .ref (G.2.2 + 162)), (3, .ref (G.2.2 + 192))]) X d_law_1553 rfl rfl (by decide) rfl rfl ?_
  refine V_goto (pc' := 23) X d_law_1556 (by decide) ?_
  refine V_wid (cs' := (cs.1 + 1, cs.2 + 6)) ⟨Nat.le_succ _, Nat.le_add_right _ _⟩ ?_
  refine V_sub (lv' := [(0, .ref b), (1, .ref (G.2.2 + 0)), (2, .ref (G.2.2 + 162)), (3, .ref (G.2.2 + 192)), (4, .int (v4 + (5 : Int32)))]) [1, 2, 3, 4, 0] rfl ?_
  exact kc ((v4 + (5 : Int32)), x17.2) (Option.some.inj h).symm
def j_law_342_23 (L : Nat) (xs : Nat → Int32) (v4 : Int32) (M : Mem) : Option ((Int32 × Mem) ⊕ ((Mem) ⊕ (Int32 × Mem))) :=
  if inb (v4 + (1 : Int32)) L = true then
  if inb (v4 + (2 : Int32)) L = true then
  Option.bind (f_Lw_cell (xs (v4 + (1 : Int32)).toNatClampNeg) (xs (v4 + (2 : Int32)).toNatClampNeg) M) fun x19 =>
  if inb (v4 + (1 : Int32)) L = true then
  if inb (v4 + (2 : Int32)) L = true then
  Option.bind (f_Mod_cell (xs (v4 + (1 : Int32)).toNatClampNeg) (xs (v4 + (2 : Int32)).toNatClampNeg) x19.2) fun x20 =>
  some (.inl ((v4 + (5 : Int32)), x20.2))
  else none
  else none
  else none
  else none
theorem j_law_342_23_ok {E : Ev} {cs : Nat × Nat} {G : Gw} {d : Nat} {Q : State → Prop} {b L : Nat} {xs : Nat → Int32} (X : Cx E G code "WomenByTheRoofsLaw" 7 d ret) (hz0 : Zc E cs) (hz : Zc E (cs.1 + 1, cs.2 + 6)) (hT : Tw G E.2.2.2.2.1 E.2.2.2.2.1.heap) (hl9 : E.2.1.stackTraces = false) (hX : va_X b L xs E.2.2.2.2.1 E.2.2.2.2.1.heap) (hbl : b < E.2.2.2.2.1.heap.size) (hbA : ¬ G.2.2 ≤ b) (hD : 450 ≤ d)  (v4 : Int32)  (M : Mem)  (o : (Int32 × Mem) ⊕ ((Mem) ⊕ (Int32 × Mem))) (h : j_law_342_23 L xs v4 M = some o) (kc : ∀ s9 : Int32 × Mem, o = .inl s9 → V E (cs.1 + 1, cs.2 + 6) G 7 Q s9.2 23 [(0, .ref b), (1, .ref (G.2.2 + 0)), (2, .ref (G.2.2 + 162)), (3, .ref (G.2.2 + 192)), (4, .int s9.1)] []) (kx0 : ∀ x9 : Mem, o = .inr (Sum.inl x9) → V E (cs.1 + 1, cs.2 + 6) G 7 Q x9 1559 [] []) (kr : ∀ x9 : Int32 × Mem, o = .inr (Sum.inr x9) → False) : V E cs G 7 Q M 342 [(0, .ref b), (1, .ref (G.2.2 + 0)), (2, .ref (G.2.2 + 162)), (3, .ref (G.2.2 + 192)), (4, .int v4)] [] := by
  unfold j_law_342_23 at h
  refine V_aload_n (n := 1) X d_law_342 rfl rfl rfl ?_
  refine V_aload_n (n := 0) X d_law_343 rfl rfl rfl ?_
  refine V_iload (n := 4) X d_law_344 rfl rfl ?_
  refine V_iconst (v := 1) X d_law_346 (by decide) rfl ?_
  refine V_iadd X d_law_347 rfl ?_
  obtain ⟨hb, h⟩ := ifn h
  refine V_sld X hX hbl hbA hb d_law_348 rfl ?_
  refine V_aload_n (n := 0) X d_law_349 rfl rfl rfl ?_
  refine V_iload (n := 4) X d_law_350 rfl rfl ?_
  refine V_iconst (v := 2) X d_law_352 (by decide) rfl ?_
  refine V_iadd X d_law_353 rfl ?_
  obtain ⟨hb, h⟩ := ifn h
  refine V_sld X hX hbl hbA hb d_law_354 rfl ?_
  refine V_aload_n (n := 3) X d_law_355 rfl rfl rfl ?_
  obtain ⟨x19, hx19, h⟩ := ob_s h
  refine V_sh (As := [.ref (G.2.2 + 0), .int (xs (v4 + (1 : Int32)).toNatClampNeg), .int (xs (v4 + (2 : Int32)).toNatClampNeg), .ref (G.2.2 + 192)]) X hT hz rfl mh_52 yh_Lw_cell (by decide) (c_Lw_cell E.2.1 hl9 G (xs (v4 + (1 : Int32)).toNatClampNeg) (xs (v4 + (2 : Int32)).toNatClampNeg) M x19 hx19 _ (Nat.le_refl _)) rfl (by omega) rfl (Nat.le_of_ble_eq_true rfl) d_law_356 rfl (fun r9 M9 hq => ?_)
  rw [hq.1, hq.2]
  refine V_istore (lv' := [(5, .int x19.1), (0, .ref b), (1, .ref (G.2.2 + 0)), (2, .ref (G.2.2 + 162)), (3, .ref (G.2.2 + 192)), (4, .int v4)]) X d_law_359 (by decide) rfl rfl ?_
  refine V_aload_n (n := 3) X d_law_361 rfl rfl rfl ?_
  refine V_aload_n (n := 1) X d_law_362 rfl rfl rfl ?_
  refine V_iload (n := 5) X d_law_363 rfl rfl ?_
  refine V_iconst (v := 1) X d_law_365 (by decide) rfl ?_
  refine V_iadd X d_law_366 rfl ?_
  obtain ⟨hb, h⟩ := ifn h
  refine V_sld X hX hbl hbA hb d_law_367 rfl ?_
  refine V_aload_n (n := 1) X d_law_368 rfl rfl rfl ?_
  refine V_iload (n := 5) X d_law_369 rfl rfl ?_
  refine V_iconst (v := 2) X d_law_371 (by decide) rfl ?_
  refine V_iadd X d_law_372 rfl ?_
  obtain ⟨hb, h⟩ := ifn h
  refine V_sld X hX hbl hbA hb d_law_373 rfl ?_
  obtain ⟨x20, hx20, h⟩ := ob_s h
  refine V_ci (As := [.int (xs (v4 + (1 : Int32)).toNatClampNeg), .int (xs (v4 + (2 : Int32)).toNatClampNeg)]) X hz ml_Lw_57 yq_Mod_cell (c_Mod_cell E.2.1 G (xs (v4 + (1 : Int32)).toNatClampNeg) (xs (v4 + (2 : Int32)).toNatClampNeg) x19.2 x20 hx20 _ (Nat.le_refl _)) kd_162 rfl rfl (by omega) rfl (Nat.le_of_ble_eq_true rfl) d_law_374 rfl (fun r9 M9 hq => ?_)
  rw [hq.1, hq.2]
  refine V_istore (lv' := [(6, .int x20.1), (5, .int x19.1), (0, .ref b), (1, .ref (G.2.2 + 0)), (2, .ref (G.2.2 + 162)), (3, .ref (G.2.2 + 192)), (4, .int v4)]) X d_law_377 (by decide) rfl rfl ?_
  refine V_goto (pc' := 1553) X d_law_379 (by decide) ?_
  refine V_iinc (n := 6) (v := (v4 + (5 : Int32))) (lv' := [(4, .int (v4 + (5 : Int32))), (6, .int x20.1), (5, .int x19.1), (0, .ref b), (1, .ref (G.2.2 + 0)), (2, .ref (G.2.2 + 162)), (3, .ref (G.2.2 + 192))]) X d_law_1553 rfl rfl (by decide) rfl rfl ?_
  refine V_goto (pc' := 23) X d_law_1556 (by decide) ?_
  refine V_sub (lv' := [(0, .ref b), (1, .ref (G.2.2 + 0)), (2, .ref (G.2.2 + 162)), (3, .ref (G.2.2 + 192)), (4, .int (v4 + (5 : Int32)))]) [3, 4, 5, 6, 0] rfl ?_
  exact kc ((v4 + (5 : Int32)), x20.2) (Option.some.inj h).symm
def j_law_382_23 (L : Nat) (xs : Nat → Int32) (v4 : Int32) (M : Mem) : Option ((Int32 × Mem) ⊕ ((Mem) ⊕ (Int32 × Mem))) :=
  if inb (v4 + (1 : Int32)) L = true then
  if inb (v4 + (2 : Int32)) L = true then
  Option.bind (f_Lw_person (xs (v4 + (1 : Int32)).toNatClampNeg) (xs (v4 + (2 : Int32)).toNatClampNeg) M) fun x22 =>
  if inb (v4 + (1 : Int32)) L = true then
  if inb (v4 + (2 : Int32)) L = true then
  Option.bind (f_Mod_person (xs (v4 + (1 : Int32)).toNatClampNeg) (xs (v4 + (2 : Int32)).toNatClampNeg) x22.2) fun x23 =>
  some (.inl ((v4 + (5 : Int32)), x23.2))
  else none
  else none
  else none
  else none
theorem j_law_382_23_ok {E : Ev} {cs : Nat × Nat} {G : Gw} {d : Nat} {Q : State → Prop} {b L : Nat} {xs : Nat → Int32} (X : Cx E G code "WomenByTheRoofsLaw" 7 d ret) (hz0 : Zc E cs) (hz : Zc E (cs.1 + 1, cs.2 + 6)) (hT : Tw G E.2.2.2.2.1 E.2.2.2.2.1.heap) (hl9 : E.2.1.stackTraces = false) (hX : va_X b L xs E.2.2.2.2.1 E.2.2.2.2.1.heap) (hbl : b < E.2.2.2.2.1.heap.size) (hbA : ¬ G.2.2 ≤ b) (hD : 450 ≤ d)  (v4 : Int32)  (M : Mem)  (o : (Int32 × Mem) ⊕ ((Mem) ⊕ (Int32 × Mem))) (h : j_law_382_23 L xs v4 M = some o) (kc : ∀ s9 : Int32 × Mem, o = .inl s9 → V E (cs.1 + 1, cs.2 + 6) G 7 Q s9.2 23 [(0, .ref b), (1, .ref (G.2.2 + 0)), (2, .ref (G.2.2 + 162)), (3, .ref (G.2.2 + 192)), (4, .int s9.1)] []) (kx0 : ∀ x9 : Mem, o = .inr (Sum.inl x9) → V E (cs.1 + 1, cs.2 + 6) G 7 Q x9 1559 [] []) (kr : ∀ x9 : Int32 × Mem, o = .inr (Sum.inr x9) → False) : V E cs G 7 Q M 382 [(0, .ref b), (1, .ref (G.2.2 + 0)), (2, .ref (G.2.2 + 162)), (3, .ref (G.2.2 + 192)), (4, .int v4)] [] := by
  unfold j_law_382_23 at h
  refine V_aload_n (n := 1) X d_law_382 rfl rfl rfl ?_
  refine V_aload_n (n := 0) X d_law_383 rfl rfl rfl ?_
  refine V_iload (n := 4) X d_law_384 rfl rfl ?_
  refine V_iconst (v := 1) X d_law_386 (by decide) rfl ?_
  refine V_iadd X d_law_387 rfl ?_
  obtain ⟨hb, h⟩ := ifn h
  refine V_sld X hX hbl hbA hb d_law_388 rfl ?_
  refine V_aload_n (n := 0) X d_law_389 rfl rfl rfl ?_
  refine V_iload (n := 4) X d_law_390 rfl rfl ?_
  refine V_iconst (v := 2) X d_law_392 (by decide) rfl ?_
  refine V_iadd X d_law_393 rfl ?_
  obtain ⟨hb, h⟩ := ifn h
  refine V_sld X hX hbl hbA hb d_law_394 rfl ?_
  refine V_aload_n (n := 3) X d_law_395 rfl rfl rfl ?_
  obtain ⟨x22, hx22, h⟩ := ob_s h
  refine V_sh (As := [.ref (G.2.2 + 0), .int (xs (v4 + (1 : Int32)).toNatClampNeg), .int (xs (v4 + (2 : Int32)).toNatClampNeg), .ref (G.2.2 + 192)]) X hT hz rfl mh_58 yh_Lw_person (by decide) (c_Lw_person E.2.1 hl9 G (xs (v4 + (1 : Int32)).toNatClampNeg) (xs (v4 + (2 : Int32)).toNatClampNeg) M x22 hx22 _ (Nat.le_refl _)) rfl (by omega) rfl (Nat.le_of_ble_eq_true rfl) d_law_396 rfl (fun r9 M9 hq => ?_)
  rw [hq.1, hq.2]
  refine V_istore (lv' := [(5, .int x22.1), (0, .ref b), (1, .ref (G.2.2 + 0)), (2, .ref (G.2.2 + 162)), (3, .ref (G.2.2 + 192)), (4, .int v4)]) X d_law_399 (by decide) rfl rfl ?_
  refine V_aload_n (n := 3) X d_law_401 rfl rfl rfl ?_
  refine V_aload_n (n := 1) X d_law_402 rfl rfl rfl ?_
  refine V_iload (n := 5) X d_law_403 rfl rfl ?_
  refine V_iconst (v := 1) X d_law_405 (by decide) rfl ?_
  refine V_iadd X d_law_406 rfl ?_
  obtain ⟨hb, h⟩ := ifn h
  refine V_sld X hX hbl hbA hb d_law_407 rfl ?_
  refine V_aload_n (n := 1) X d_law_408 rfl rfl rfl ?_
  refine V_iload (n := 5) X d_law_409 rfl rfl ?_
  refine V_iconst (v := 2) X d_law_411 (by decide) rfl ?_
  refine V_iadd X d_law_412 rfl ?_
  obtain ⟨hb, h⟩ := ifn h
  refine V_sld X hX hbl hbA hb d_law_413 rfl ?_
  obtain ⟨x23, hx23, h⟩ := ob_s h
  refine V_ci (As := [.int (xs (v4 + (1 : Int32)).toNatClampNeg), .int (xs (v4 + (2 : Int32)).toNatClampNeg)]) X hz ml_Lw_60 yq_Mod_person (c_Mod_person E.2.1 G (xs (v4 + (1 : Int32)).toNatClampNeg) (xs (v4 + (2 : Int32)).toNatClampNeg) x22.2 x23 hx23 _ (Nat.le_refl _)) kd_162 rfl rfl (by omega) rfl (Nat.le_of_ble_eq_true rfl) d_law_414 rfl (fun r9 M9 hq => ?_)
  rw [hq.1, hq.2]
  refine V_istore (lv' := [(6, .int x23.1), (5, .int x22.1), (0, .ref b), (1, .ref (G.2.2 + 0)), (2, .ref (G.2.2 + 162)), (3, .ref (G.2.2 + 192)), (4, .int v4)]) X d_law_417 (by decide) rfl rfl ?_
  refine V_goto (pc' := 1553) X d_law_419 (by decide) ?_
  refine V_iinc (n := 6) (v := (v4 + (5 : Int32))) (lv' := [(4, .int (v4 + (5 : Int32))), (6, .int x23.1), (5, .int x22.1), (0, .ref b), (1, .ref (G.2.2 + 0)), (2, .ref (G.2.2 + 162)), (3, .ref (G.2.2 + 192))]) X d_law_1553 rfl rfl (by decide) rfl rfl ?_
  refine V_goto (pc' := 23) X d_law_1556 (by decide) ?_
  refine V_sub (lv' := [(0, .ref b), (1, .ref (G.2.2 + 0)), (2, .ref (G.2.2 + 162)), (3, .ref (G.2.2 + 192)), (4, .int (v4 + (5 : Int32)))]) [3, 4, 5, 6, 0] rfl ?_
  exact kc ((v4 + (5 : Int32)), x23.2) (Option.some.inj h).symm
def j_law_422_23 (L : Nat) (xs : Nat → Int32) (v4 : Int32) (M : Mem) : Option ((Int32 × Mem) ⊕ ((Mem) ⊕ (Int32 × Mem))) :=
  if inb (v4 + (1 : Int32)) L = true then
  if inb (v4 + (2 : Int32)) L = true then
  Option.bind (f_Top_build (xs (v4 + (1 : Int32)).toNatClampNeg) (xs (v4 + (2 : Int32)).toNatClampNeg) M) fun x25 =>
  if inb (v4 + (1 : Int32)) L = true then
  if inb (v4 + (2 : Int32)) L = true then
  Option.bind (f_Mod_build (xs (v4 + (1 : Int32)).toNatClampNeg) (xs (v4 + (2 : Int32)).toNatClampNeg) x25.2) fun x26 =>
  some (.inl ((v4 + (5 : Int32)), x26.2))
  else none
  else none
  else none
  else none
theorem j_law_422_23_ok {E : Ev} {cs : Nat × Nat} {G : Gw} {d : Nat} {Q : State → Prop} {b L : Nat} {xs : Nat → Int32} (X : Cx E G code "WomenByTheRoofsLaw" 7 d ret) (hz0 : Zc E cs) (hz : Zc E (cs.1 + 1, cs.2 + 6)) (hT : Tw G E.2.2.2.2.1 E.2.2.2.2.1.heap) (hl9 : E.2.1.stackTraces = false) (hX : va_X b L xs E.2.2.2.2.1 E.2.2.2.2.1.heap) (hbl : b < E.2.2.2.2.1.heap.size) (hbA : ¬ G.2.2 ≤ b) (hD : 450 ≤ d)  (v4 : Int32)  (M : Mem)  (o : (Int32 × Mem) ⊕ ((Mem) ⊕ (Int32 × Mem))) (h : j_law_422_23 L xs v4 M = some o) (kc : ∀ s9 : Int32 × Mem, o = .inl s9 → V E (cs.1 + 1, cs.2 + 6) G 7 Q s9.2 23 [(0, .ref b), (1, .ref (G.2.2 + 0)), (2, .ref (G.2.2 + 162)), (3, .ref (G.2.2 + 192)), (4, .int s9.1)] []) (kx0 : ∀ x9 : Mem, o = .inr (Sum.inl x9) → V E (cs.1 + 1, cs.2 + 6) G 7 Q x9 1559 [] []) (kr : ∀ x9 : Int32 × Mem, o = .inr (Sum.inr x9) → False) : V E cs G 7 Q M 422 [(0, .ref b), (1, .ref (G.2.2 + 0)), (2, .ref (G.2.2 + 162)), (3, .ref (G.2.2 + 192)), (4, .int v4)] [] := by
  unfold j_law_422_23 at h
  refine V_aload_n (n := 1) X d_law_422 rfl rfl rfl ?_
  refine V_aload_n (n := 0) X d_law_423 rfl rfl rfl ?_
  refine V_iload (n := 4) X d_law_424 rfl rfl ?_
  refine V_iconst (v := 1) X d_law_426 (by decide) rfl ?_
  refine V_iadd X d_law_427 rfl ?_
  obtain ⟨hb, h⟩ := ifn h
  refine V_sld X hX hbl hbA hb d_law_428 rfl ?_
  refine V_aload_n (n := 0) X d_law_429 rfl rfl rfl ?_
  refine V_iload (n := 4) X d_law_430 rfl rfl ?_
  refine V_iconst (v := 2) X d_law_432 (by decide) rfl ?_
  refine V_iadd X d_law_433 rfl ?_
  obtain ⟨hb, h⟩ := ifn h
  refine V_sld X hX hbl hbA hb d_law_434 rfl ?_
  obtain ⟨x25, hx25, h⟩ := ob_s h
  refine V_ci (As := [.int (xs (v4 + (1 : Int32)).toNatClampNeg), .int (xs (v4 + (2 : Int32)).toNatClampNeg)]) X hz0 ml_Lw_61 yq_Top_build (c_Top_build E.2.1 G (xs (v4 + (1 : Int32)).toNatClampNeg) (xs (v4 + (2 : Int32)).toNatClampNeg) M x25 hx25 _ (Nat.le_refl _)) kd_0 rfl rfl (by omega) rfl (Nat.le_of_ble_eq_true rfl) d_law_435 rfl (fun r9 M9 hq => ?_)
  rw [hq.1, hq.2]
  refine V_pop X d_law_438 rfl rfl ?_
  refine V_aload_n (n := 2) X d_law_439 rfl rfl rfl ?_
  refine V_aload_n (n := 0) X d_law_440 rfl rfl rfl ?_
  refine V_iload (n := 4) X d_law_441 rfl rfl ?_
  refine V_iconst (v := 1) X d_law_443 (by decide) rfl ?_
  refine V_iadd X d_law_444 rfl ?_
  obtain ⟨hb, h⟩ := ifn h
  refine V_sld X hX hbl hbA hb d_law_445 rfl ?_
  refine V_aload_n (n := 0) X d_law_446 rfl rfl rfl ?_
  refine V_iload (n := 4) X d_law_447 rfl rfl ?_
  refine V_iconst (v := 2) X d_law_449 (by decide) rfl ?_
  refine V_iadd X d_law_450 rfl ?_
  obtain ⟨hb, h⟩ := ifn h
  refine V_sld X hX hbl hbA hb d_law_451 rfl ?_
  obtain ⟨x26, hx26, h⟩ := ob_s h
  refine V_ci (As := [.int (xs (v4 + (1 : Int32)).toNatClampNeg), .int (xs (v4 + (2 : Int32)).toNatClampNeg)]) X hz0 ml_Lw_64 yq_Mod_build (c_Mod_build E.2.1 G (xs (v4 + (1 : Int32)).toNatClampNeg) (xs (v4 + (2 : Int32)).toNatClampNeg) x25.2 x26 hx26 _ (Nat.le_refl _)) kd_162 rfl rfl (by omega) rfl (Nat.le_of_ble_eq_true rfl) d_law_452 rfl (fun r9 M9 hq => ?_)
  rw [hq.1, hq.2]
  refine V_pop X d_law_455 rfl rfl ?_
  refine V_goto (pc' := 1553) X d_law_456 (by decide) ?_
  refine V_iinc (n := 4) (v := (v4 + (5 : Int32))) (lv' := [(4, .int (v4 + (5 : Int32))), (0, .ref b), (1, .ref (G.2.2 + 0)), (2, .ref (G.2.2 + 162)), (3, .ref (G.2.2 + 192))]) X d_law_1553 rfl rfl (by decide) rfl rfl ?_
  refine V_goto (pc' := 23) X d_law_1556 (by decide) ?_
  refine V_wid (cs' := (cs.1 + 1, cs.2 + 6)) ⟨Nat.le_succ _, Nat.le_add_right _ _⟩ ?_
  refine V_sub (lv' := [(0, .ref b), (1, .ref (G.2.2 + 0)), (2, .ref (G.2.2 + 162)), (3, .ref (G.2.2 + 192)), (4, .int (v4 + (5 : Int32)))]) [1, 2, 3, 4, 0] rfl ?_
  exact kc ((v4 + (5 : Int32)), x26.2) (Option.some.inj h).symm
def j_law_459_23 (L : Nat) (xs : Nat → Int32) (v4 : Int32) (M : Mem) : Option ((Int32 × Mem) ⊕ ((Mem) ⊕ (Int32 × Mem))) :=
  if inb (v4 + (1 : Int32)) L = true then
  if inb (v4 + (2 : Int32)) L = true then
  Option.bind (f_Top_plank (xs (v4 + (1 : Int32)).toNatClampNeg) (xs (v4 + (2 : Int32)).toNatClampNeg) M) fun x28 =>
  if inb (v4 + (1 : Int32)) L = true then
  if inb (v4 + (2 : Int32)) L = true then
  Option.bind (f_Mod_plank (xs (v4 + (1 : Int32)).toNatClampNeg) (xs (v4 + (2 : Int32)).toNatClampNeg) x28.2) fun x29 =>
  some (.inl ((v4 + (5 : Int32)), x29.2))
  else none
  else none
  else none
  else none
theorem j_law_459_23_ok {E : Ev} {cs : Nat × Nat} {G : Gw} {d : Nat} {Q : State → Prop} {b L : Nat} {xs : Nat → Int32} (X : Cx E G code "WomenByTheRoofsLaw" 7 d ret) (hz0 : Zc E cs) (hz : Zc E (cs.1 + 1, cs.2 + 6)) (hT : Tw G E.2.2.2.2.1 E.2.2.2.2.1.heap) (hl9 : E.2.1.stackTraces = false) (hX : va_X b L xs E.2.2.2.2.1 E.2.2.2.2.1.heap) (hbl : b < E.2.2.2.2.1.heap.size) (hbA : ¬ G.2.2 ≤ b) (hD : 450 ≤ d)  (v4 : Int32)  (M : Mem)  (o : (Int32 × Mem) ⊕ ((Mem) ⊕ (Int32 × Mem))) (h : j_law_459_23 L xs v4 M = some o) (kc : ∀ s9 : Int32 × Mem, o = .inl s9 → V E (cs.1 + 1, cs.2 + 6) G 7 Q s9.2 23 [(0, .ref b), (1, .ref (G.2.2 + 0)), (2, .ref (G.2.2 + 162)), (3, .ref (G.2.2 + 192)), (4, .int s9.1)] []) (kx0 : ∀ x9 : Mem, o = .inr (Sum.inl x9) → V E (cs.1 + 1, cs.2 + 6) G 7 Q x9 1559 [] []) (kr : ∀ x9 : Int32 × Mem, o = .inr (Sum.inr x9) → False) : V E cs G 7 Q M 459 [(0, .ref b), (1, .ref (G.2.2 + 0)), (2, .ref (G.2.2 + 162)), (3, .ref (G.2.2 + 192)), (4, .int v4)] [] := by
  unfold j_law_459_23 at h
  refine V_aload_n (n := 1) X d_law_459 rfl rfl rfl ?_
  refine V_aload_n (n := 0) X d_law_460 rfl rfl rfl ?_
  refine V_iload (n := 4) X d_law_461 rfl rfl ?_
  refine V_iconst (v := 1) X d_law_463 (by decide) rfl ?_
  refine V_iadd X d_law_464 rfl ?_
  obtain ⟨hb, h⟩ := ifn h
  refine V_sld X hX hbl hbA hb d_law_465 rfl ?_
  refine V_aload_n (n := 0) X d_law_466 rfl rfl rfl ?_
  refine V_iload (n := 4) X d_law_467 rfl rfl ?_
  refine V_iconst (v := 2) X d_law_469 (by decide) rfl ?_
  refine V_iadd X d_law_470 rfl ?_
  obtain ⟨hb, h⟩ := ifn h
  refine V_sld X hX hbl hbA hb d_law_471 rfl ?_
  obtain ⟨x28, hx28, h⟩ := ob_s h
  refine V_ci (As := [.int (xs (v4 + (1 : Int32)).toNatClampNeg), .int (xs (v4 + (2 : Int32)).toNatClampNeg)]) X hz0 ml_Lw_65 yq_Top_plank (c_Top_plank E.2.1 G (xs (v4 + (1 : Int32)).toNatClampNeg) (xs (v4 + (2 : Int32)).toNatClampNeg) M x28 hx28 _ (Nat.le_refl _)) kd_0 rfl rfl (by omega) rfl (Nat.le_of_ble_eq_true rfl) d_law_472 rfl (fun r9 M9 hq => ?_)
  rw [hq.1, hq.2]
  refine V_pop X d_law_475 rfl rfl ?_
  refine V_aload_n (n := 2) X d_law_476 rfl rfl rfl ?_
  refine V_aload_n (n := 0) X d_law_477 rfl rfl rfl ?_
  refine V_iload (n := 4) X d_law_478 rfl rfl ?_
  refine V_iconst (v := 1) X d_law_480 (by decide) rfl ?_
  refine V_iadd X d_law_481 rfl ?_
  obtain ⟨hb, h⟩ := ifn h
  refine V_sld X hX hbl hbA hb d_law_482 rfl ?_
  refine V_aload_n (n := 0) X d_law_483 rfl rfl rfl ?_
  refine V_iload (n := 4) X d_law_484 rfl rfl ?_
  refine V_iconst (v := 2) X d_law_486 (by decide) rfl ?_
  refine V_iadd X d_law_487 rfl ?_
  obtain ⟨hb, h⟩ := ifn h
  refine V_sld X hX hbl hbA hb d_law_488 rfl ?_
  obtain ⟨x29, hx29, h⟩ := ob_s h
  refine V_ci (As := [.int (xs (v4 + (1 : Int32)).toNatClampNeg), .int (xs (v4 + (2 : Int32)).toNatClampNeg)]) X hz0 ml_Lw_68 yq_Mod_plank (c_Mod_plank E.2.1 G (xs (v4 + (1 : Int32)).toNatClampNeg) (xs (v4 + (2 : Int32)).toNatClampNeg) x28.2 x29 hx29 _ (Nat.le_refl _)) kd_162 rfl rfl (by omega) rfl (Nat.le_of_ble_eq_true rfl) d_law_489 rfl (fun r9 M9 hq => ?_)
  rw [hq.1, hq.2]
  refine V_pop X d_law_492 rfl rfl ?_
  refine V_goto (pc' := 1553) X d_law_493 (by decide) ?_
  refine V_iinc (n := 4) (v := (v4 + (5 : Int32))) (lv' := [(4, .int (v4 + (5 : Int32))), (0, .ref b), (1, .ref (G.2.2 + 0)), (2, .ref (G.2.2 + 162)), (3, .ref (G.2.2 + 192))]) X d_law_1553 rfl rfl (by decide) rfl rfl ?_
  refine V_goto (pc' := 23) X d_law_1556 (by decide) ?_
  refine V_wid (cs' := (cs.1 + 1, cs.2 + 6)) ⟨Nat.le_succ _, Nat.le_add_right _ _⟩ ?_
  refine V_sub (lv' := [(0, .ref b), (1, .ref (G.2.2 + 0)), (2, .ref (G.2.2 + 162)), (3, .ref (G.2.2 + 192)), (4, .int (v4 + (5 : Int32)))]) [1, 2, 3, 4, 0] rfl ?_
  exact kc ((v4 + (5 : Int32)), x29.2) (Option.some.inj h).symm
def j_law_496_23 (L : Nat) (xs : Nat → Int32) (v4 : Int32) (M : Mem) : Option ((Int32 × Mem) ⊕ ((Mem) ⊕ (Int32 × Mem))) :=
  Option.bind (f_Top_take M) fun x31 =>
  Option.bind (f_Mod_take x31.2) fun x32 =>
  some (.inl ((v4 + (5 : Int32)), x32.2))
theorem j_law_496_23_ok {E : Ev} {cs : Nat × Nat} {G : Gw} {d : Nat} {Q : State → Prop} {b L : Nat} {xs : Nat → Int32} (X : Cx E G code "WomenByTheRoofsLaw" 7 d ret) (hz0 : Zc E cs) (hz : Zc E (cs.1 + 1, cs.2 + 6)) (hT : Tw G E.2.2.2.2.1 E.2.2.2.2.1.heap) (hl9 : E.2.1.stackTraces = false) (hX : va_X b L xs E.2.2.2.2.1 E.2.2.2.2.1.heap) (hbl : b < E.2.2.2.2.1.heap.size) (hbA : ¬ G.2.2 ≤ b) (hD : 450 ≤ d)  (v4 : Int32)  (M : Mem)  (o : (Int32 × Mem) ⊕ ((Mem) ⊕ (Int32 × Mem))) (h : j_law_496_23 L xs v4 M = some o) (kc : ∀ s9 : Int32 × Mem, o = .inl s9 → V E (cs.1 + 1, cs.2 + 6) G 7 Q s9.2 23 [(0, .ref b), (1, .ref (G.2.2 + 0)), (2, .ref (G.2.2 + 162)), (3, .ref (G.2.2 + 192)), (4, .int s9.1)] []) (kx0 : ∀ x9 : Mem, o = .inr (Sum.inl x9) → V E (cs.1 + 1, cs.2 + 6) G 7 Q x9 1559 [] []) (kr : ∀ x9 : Int32 × Mem, o = .inr (Sum.inr x9) → False) : V E cs G 7 Q M 496 [(0, .ref b), (1, .ref (G.2.2 + 0)), (2, .ref (G.2.2 + 162)), (3, .ref (G.2.2 + 192)), (4, .int v4)] [] := by
  unfold j_law_496_23 at h
  refine V_aload_n (n := 1) X d_law_496 rfl rfl rfl ?_
  obtain ⟨x31, hx31, h⟩ := ob_s h
  refine V_ci (As := []) X hz0 ml_Lw_69 yq_Top_take (c_Top_take E.2.1 G  M x31 hx31 _ (Nat.le_refl _)) kd_0 rfl rfl (by omega) rfl (Nat.le_of_ble_eq_true rfl) d_law_497 rfl (fun r9 M9 hq => ?_)
  rw [hq.1, hq.2]
  refine V_pop X d_law_500 rfl rfl ?_
  refine V_aload_n (n := 2) X d_law_501 rfl rfl rfl ?_
  obtain ⟨x32, hx32, h⟩ := ob_s h
  refine V_ci (As := []) X hz0 ml_Lw_72 yq_Mod_take (c_Mod_take E.2.1 G  x31.2 x32 hx32 _ (Nat.le_refl _)) kd_162 rfl rfl (by omega) rfl (Nat.le_of_ble_eq_true rfl) d_law_502 rfl (fun r9 M9 hq => ?_)
  rw [hq.1, hq.2]
  refine V_pop X d_law_505 rfl rfl ?_
  refine V_goto (pc' := 1553) X d_law_506 (by decide) ?_
  refine V_iinc (n := 4) (v := (v4 + (5 : Int32))) (lv' := [(4, .int (v4 + (5 : Int32))), (0, .ref b), (1, .ref (G.2.2 + 0)), (2, .ref (G.2.2 + 162)), (3, .ref (G.2.2 + 192))]) X d_law_1553 rfl rfl (by decide) rfl rfl ?_
  refine V_goto (pc' := 23) X d_law_1556 (by decide) ?_
  refine V_wid (cs' := (cs.1 + 1, cs.2 + 6)) ⟨Nat.le_succ _, Nat.le_add_right _ _⟩ ?_
  refine V_sub (lv' := [(0, .ref b), (1, .ref (G.2.2 + 0)), (2, .ref (G.2.2 + 162)), (3, .ref (G.2.2 + 192)), (4, .int (v4 + (5 : Int32)))]) [1, 2, 3, 4, 0] rfl ?_
  exact kc ((v4 + (5 : Int32)), x32.2) (Option.some.inj h).symm
def j_law_509_23 (L : Nat) (xs : Nat → Int32) (v4 : Int32) (M : Mem) : Option ((Int32 × Mem) ⊕ ((Mem) ⊕ (Int32 × Mem))) :=
  if inb (v4 + (1 : Int32)) L = true then
  if inb (v4 + (2 : Int32)) L = true then
  if inb (v4 + (3 : Int32)) L = true then
  if inb (v4 + (4 : Int32)) L = true then
  Option.bind (f_Top_sheet (xs (v4 + (1 : Int32)).toNatClampNeg) (xs (v4 + (2 : Int32)).toNatClampNeg) (xs (v4 + (3 : Int32)).toNatClampNeg) (xs (v4 + (4 : Int32)).toNatClampNeg) M) fun x34 =>
  if inb (v4 + (1 : Int32)) L = true then
  if inb (v4 + (2 : Int32)) L = true then
  if inb (v4 + (3 : Int32)) L = true then
  if inb (v4 + (4 : Int32)) L = true then
  Option.bind (f_Mod_sheet (xs (v4 + (1 : Int32)).toNatClampNeg) (xs (v4 + (2 : Int32)).toNatClampNeg) (xs (v4 + (3 : Int32)).toNatClampNeg) (xs (v4 + (4 : Int32)).toNatClampNeg) x34.2) fun x35 =>
  some (.inl ((v4 + (5 : Int32)), x35.2))
  else none
  else none
  else none
  else none
  else none
  else none
  else none
  else none
theorem j_law_509_23_ok {E : Ev} {cs : Nat × Nat} {G : Gw} {d : Nat} {Q : State → Prop} {b L : Nat} {xs : Nat → Int32} (X : Cx E G code "WomenByTheRoofsLaw" 7 d ret) (hz0 : Zc E cs) (hz : Zc E (cs.1 + 1, cs.2 + 6)) (hT : Tw G E.2.2.2.2.1 E.2.2.2.2.1.heap) (hl9 : E.2.1.stackTraces = false) (hX : va_X b L xs E.2.2.2.2.1 E.2.2.2.2.1.heap) (hbl : b < E.2.2.2.2.1.heap.size) (hbA : ¬ G.2.2 ≤ b) (hD : 450 ≤ d)  (v4 : Int32)  (M : Mem)  (o : (Int32 × Mem) ⊕ ((Mem) ⊕ (Int32 × Mem))) (h : j_law_509_23 L xs v4 M = some o) (kc : ∀ s9 : Int32 × Mem, o = .inl s9 → V E (cs.1 + 1, cs.2 + 6) G 7 Q s9.2 23 [(0, .ref b), (1, .ref (G.2.2 + 0)), (2, .ref (G.2.2 + 162)), (3, .ref (G.2.2 + 192)), (4, .int s9.1)] []) (kx0 : ∀ x9 : Mem, o = .inr (Sum.inl x9) → V E (cs.1 + 1, cs.2 + 6) G 7 Q x9 1559 [] []) (kr : ∀ x9 : Int32 × Mem, o = .inr (Sum.inr x9) → False) : V E cs G 7 Q M 509 [(0, .ref b), (1, .ref (G.2.2 + 0)), (2, .ref (G.2.2 + 162)), (3, .ref (G.2.2 + 192)), (4, .int v4)] [] := by
  unfold j_law_509_23 at h
  refine V_aload_n (n := 1) X d_law_509 rfl rfl rfl ?_
  refine V_aload_n (n := 0) X d_law_510 rfl rfl rfl ?_
  refine V_iload (n := 4) X d_law_511 rfl rfl ?_
  refine V_iconst (v := 1) X d_law_513 (by decide) rfl ?_
  refine V_iadd X d_law_514 rfl ?_
  obtain ⟨hb, h⟩ := ifn h
  refine V_sld X hX hbl hbA hb d_law_515 rfl ?_
  refine V_aload_n (n := 0) X d_law_516 rfl rfl rfl ?_
  refine V_iload (n := 4) X d_law_517 rfl rfl ?_
  refine V_iconst (v := 2) X d_law_519 (by decide) rfl ?_
  refine V_iadd X d_law_520 rfl ?_
  obtain ⟨hb, h⟩ := ifn h
  refine V_sld X hX hbl hbA hb d_law_521 rfl ?_
  refine V_aload_n (n := 0) X d_law_522 rfl rfl rfl ?_
  refine V_iload (n := 4) X d_law_523 rfl rfl ?_
  refine V_iconst (v := 3) X d_law_525 (by decide) rfl ?_
  refine V_iadd X d_law_526 rfl ?_
  obtain ⟨hb, h⟩ := ifn h
  refine V_sld X hX hbl hbA hb d_law_527 rfl ?_
  refine V_aload_n (n := 0) X d_law_528 rfl rfl rfl ?_
  refine V_iload (n := 4) X d_law_529 rfl rfl ?_
  refine V_iconst (v := 4) X d_law_531 (by decide) rfl ?_
  refine V_iadd X d_law_532 rfl ?_
  obtain ⟨hb, h⟩ := ifn h
  refine V_sld X hX hbl hbA hb d_law_533 rfl ?_
  obtain ⟨x34, hx34, h⟩ := ob_s h
  refine V_ci (As := [.int (xs (v4 + (1 : Int32)).toNatClampNeg), .int (xs (v4 + (2 : Int32)).toNatClampNeg), .int (xs (v4 + (3 : Int32)).toNatClampNeg), .int (xs (v4 + (4 : Int32)).toNatClampNeg)]) X hz0 ml_Lw_73 yq_Top_sheet (c_Top_sheet E.2.1 G (xs (v4 + (1 : Int32)).toNatClampNeg) (xs (v4 + (2 : Int32)).toNatClampNeg) (xs (v4 + (3 : Int32)).toNatClampNeg) (xs (v4 + (4 : Int32)).toNatClampNeg) M x34 hx34 _ (Nat.le_refl _)) kd_0 rfl rfl (by omega) rfl (Nat.le_of_ble_eq_true rfl) d_law_534 rfl (fun r9 M9 hq => ?_)
  rw [hq.1, hq.2]
  refine V_pop X d_law_537 rfl rfl ?_
  refine V_aload_n (n := 2) X d_law_538 rfl rfl rfl ?_
  refine V_aload_n (n := 0) X d_law_539 rfl rfl rfl ?_
  refine V_iload (n := 4) X d_law_540 rfl rfl ?_
  refine V_iconst (v := 1) X d_law_542 (by decide) rfl ?_
  refine V_iadd X d_law_543 rfl ?_
  obtain ⟨hb, h⟩ := ifn h
  refine V_sld X hX hbl hbA hb d_law_544 rfl ?_
  refine V_aload_n (n := 0) X d_law_545 rfl rfl rfl ?_
  refine V_iload (n := 4) X d_law_546 rfl rfl ?_
  refine V_iconst (v := 2) X d_law_548 (by decide) rfl ?_
  refine V_iadd X d_law_549 rfl ?_
  obtain ⟨hb, h⟩ := ifn h
  refine V_sld X hX hbl hbA hb d_law_550 rfl ?_
  refine V_aload_n (n := 0) X d_law_551 rfl rfl rfl ?_
  refine V_iload (n := 4) X d_law_552 rfl rfl ?_
  refine V_iconst (v := 3) X d_law_554 (by decide) rfl ?_
  refine V_iadd X d_law_555 rfl ?_
  obtain ⟨hb, h⟩ := ifn h
  refine V_sld X hX hbl hbA hb d_law_556 rfl ?_
  refine V_aload_n (n := 0) X d_law_557 rfl rfl rfl ?_
  refine V_iload (n := 4) X d_law_558 rfl rfl ?_
  refine V_iconst (v := 4) X d_law_560 (by decide) rfl ?_
  refine V_iadd X d_law_561 rfl ?_
  obtain ⟨hb, h⟩ := ifn h
  refine V_sld X hX hbl hbA hb d_law_562 rfl ?_
  obtain ⟨x35, hx35, h⟩ := ob_s h
  refine V_ci (As := [.int (xs (v4 + (1 : Int32)).toNatClampNeg), .int (xs (v4 + (2 : Int32)).toNatClampNeg), .int (xs (v4 + (3 : Int32)).toNatClampNeg), .int (xs (v4 + (4 : Int32)).toNatClampNeg)]) X hz0 ml_Lw_77 yq_Mod_sheet (c_Mod_sheet E.2.1 G (xs (v4 + (1 : Int32)).toNatClampNeg) (xs (v4 + (2 : Int32)).toNatClampNeg) (xs (v4 + (3 : Int32)).toNatClampNeg) (xs (v4 + (4 : Int32)).toNatClampNeg) x34.2 x35 hx35 _ (Nat.le_refl _)) kd_162 rfl rfl (by omega) rfl (Nat.le_of_ble_eq_true rfl) d_law_563 rfl (fun r9 M9 hq => ?_)
  rw [hq.1, hq.2]
  refine V_pop X d_law_566 rfl rfl ?_
  refine V_goto (pc' := 1553) X d_law_567 (by decide) ?_
  refine V_iinc (n := 4) (v := (v4 + (5 : Int32))) (lv' := [(4, .int (v4 + (5 : Int32))), (0, .ref b), (1, .ref (G.2.2 + 0)), (2, .ref (G.2.2 + 162)), (3, .ref (G.2.2 + 192))]) X d_law_1553 rfl rfl (by decide) rfl rfl ?_
  refine V_goto (pc' := 23) X d_law_1556 (by decide) ?_
  refine V_wid (cs' := (cs.1 + 1, cs.2 + 6)) ⟨Nat.le_succ _, Nat.le_add_right _ _⟩ ?_
  refine V_sub (lv' := [(0, .ref b), (1, .ref (G.2.2 + 0)), (2, .ref (G.2.2 + 162)), (3, .ref (G.2.2 + 192)), (4, .int (v4 + (5 : Int32)))]) [1, 2, 3, 4, 0] rfl ?_
  exact kc ((v4 + (5 : Int32)), x35.2) (Option.some.inj h).symm
def j_law_570_23 (L : Nat) (xs : Nat → Int32) (v4 : Int32) (M : Mem) : Option ((Int32 × Mem) ⊕ ((Mem) ⊕ (Int32 × Mem))) :=
  if inb (v4 + (1 : Int32)) L = true then
  Option.bind (f_Top_tell (xs (v4 + (1 : Int32)).toNatClampNeg) M) fun x37 =>
  if inb (v4 + (1 : Int32)) L = true then
  Option.bind (f_Mod_tell (xs (v4 + (1 : Int32)).toNatClampNeg) x37.2) fun x38 =>
  some (.inl ((v4 + (5 : Int32)), x38.2))
  else none
  else none
theorem j_law_570_23_ok {E : Ev} {cs : Nat × Nat} {G : Gw} {d : Nat} {Q : State → Prop} {b L : Nat} {xs : Nat → Int32} (X : Cx E G code "WomenByTheRoofsLaw" 7 d ret) (hz0 : Zc E cs) (hz : Zc E (cs.1 + 1, cs.2 + 6)) (hT : Tw G E.2.2.2.2.1 E.2.2.2.2.1.heap) (hl9 : E.2.1.stackTraces = false) (hX : va_X b L xs E.2.2.2.2.1 E.2.2.2.2.1.heap) (hbl : b < E.2.2.2.2.1.heap.size) (hbA : ¬ G.2.2 ≤ b) (hD : 450 ≤ d)  (v4 : Int32)  (M : Mem)  (o : (Int32 × Mem) ⊕ ((Mem) ⊕ (Int32 × Mem))) (h : j_law_570_23 L xs v4 M = some o) (kc : ∀ s9 : Int32 × Mem, o = .inl s9 → V E (cs.1 + 1, cs.2 + 6) G 7 Q s9.2 23 [(0, .ref b), (1, .ref (G.2.2 + 0)), (2, .ref (G.2.2 + 162)), (3, .ref (G.2.2 + 192)), (4, .int s9.1)] []) (kx0 : ∀ x9 : Mem, o = .inr (Sum.inl x9) → V E (cs.1 + 1, cs.2 + 6) G 7 Q x9 1559 [] []) (kr : ∀ x9 : Int32 × Mem, o = .inr (Sum.inr x9) → False) : V E cs G 7 Q M 570 [(0, .ref b), (1, .ref (G.2.2 + 0)), (2, .ref (G.2.2 + 162)), (3, .ref (G.2.2 + 192)), (4, .int v4)] [] := by
  unfold j_law_570_23 at h
  refine V_aload_n (n := 1) X d_law_570 rfl rfl rfl ?_
  refine V_aload_n (n := 0) X d_law_571 rfl rfl rfl ?_
  refine V_iload (n := 4) X d_law_572 rfl rfl ?_
  refine V_iconst (v := 1) X d_law_574 (by decide) rfl ?_
  refine V_iadd X d_law_575 rfl ?_
  obtain ⟨hb, h⟩ := ifn h
  refine V_sld X hX hbl hbA hb d_law_576 rfl ?_
  obtain ⟨x37, hx37, h⟩ := ob_s h
  refine V_ci (As := [.int (xs (v4 + (1 : Int32)).toNatClampNeg)]) X hz0 ml_Lw_78 yq_Top_tell (c_Top_tell E.2.1 G (xs (v4 + (1 : Int32)).toNatClampNeg) M x37 hx37 _ (Nat.le_refl _)) kd_0 rfl rfl (by omega) rfl (Nat.le_of_ble_eq_true rfl) d_law_577 rfl (fun r9 M9 hq => ?_)
  rw [hq.1, hq.2]
  refine V_pop X d_law_580 rfl rfl ?_
  refine V_aload_n (n := 2) X d_law_581 rfl rfl rfl ?_
  refine V_aload_n (n := 0) X d_law_582 rfl rfl rfl ?_
  refine V_iload (n := 4) X d_law_583 rfl rfl ?_
  refine V_iconst (v := 1) X d_law_585 (by decide) rfl ?_
  refine V_iadd X d_law_586 rfl ?_
  obtain ⟨hb, h⟩ := ifn h
  refine V_sld X hX hbl hbA hb d_law_587 rfl ?_
  obtain ⟨x38, hx38, h⟩ := ob_s h
  refine V_ci (As := [.int (xs (v4 + (1 : Int32)).toNatClampNeg)]) X hz0 ml_Lw_81 yq_Mod_tell (c_Mod_tell E.2.1 G (xs (v4 + (1 : Int32)).toNatClampNeg) x37.2 x38 hx38 _ (Nat.le_refl _)) kd_162 rfl rfl (by omega) rfl (Nat.le_of_ble_eq_true rfl) d_law_588 rfl (fun r9 M9 hq => ?_)
  rw [hq.1, hq.2]
  refine V_pop X d_law_591 rfl rfl ?_
  refine V_goto (pc' := 1553) X d_law_592 (by decide) ?_
  refine V_iinc (n := 4) (v := (v4 + (5 : Int32))) (lv' := [(4, .int (v4 + (5 : Int32))), (0, .ref b), (1, .ref (G.2.2 + 0)), (2, .ref (G.2.2 + 162)), (3, .ref (G.2.2 + 192))]) X d_law_1553 rfl rfl (by decide) rfl rfl ?_
  refine V_goto (pc' := 23) X d_law_1556 (by decide) ?_
  refine V_wid (cs' := (cs.1 + 1, cs.2 + 6)) ⟨Nat.le_succ _, Nat.le_add_right _ _⟩ ?_
  refine V_sub (lv' := [(0, .ref b), (1, .ref (G.2.2 + 0)), (2, .ref (G.2.2 + 162)), (3, .ref (G.2.2 + 192)), (4, .int (v4 + (5 : Int32)))]) [1, 2, 3, 4, 0] rfl ?_
  exact kc ((v4 + (5 : Int32)), x38.2) (Option.some.inj h).symm
def j_law_595_23 (L : Nat) (xs : Nat → Int32) (v4 : Int32) (M : Mem) : Option ((Int32 × Mem) ⊕ ((Mem) ⊕ (Int32 × Mem))) :=
  if inb (v4 + (1 : Int32)) L = true then
  Option.bind (f_Top_feast (xs (v4 + (1 : Int32)).toNatClampNeg) M) fun x40 =>
  if inb (v4 + (1 : Int32)) L = true then
  Option.bind (f_Mod_feast (xs (v4 + (1 : Int32)).toNatClampNeg) x40.2) fun x41 =>
  some (.inl ((v4 + (5 : Int32)), x41.2))
  else none
  else none
theorem j_law_595_23_ok {E : Ev} {cs : Nat × Nat} {G : Gw} {d : Nat} {Q : State → Prop} {b L : Nat} {xs : Nat → Int32} (X : Cx E G code "WomenByTheRoofsLaw" 7 d ret) (hz0 : Zc E cs) (hz : Zc E (cs.1 + 1, cs.2 + 6)) (hT : Tw G E.2.2.2.2.1 E.2.2.2.2.1.heap) (hl9 : E.2.1.stackTraces = false) (hX : va_X b L xs E.2.2.2.2.1 E.2.2.2.2.1.heap) (hbl : b < E.2.2.2.2.1.heap.size) (hbA : ¬ G.2.2 ≤ b) (hD : 450 ≤ d)  (v4 : Int32)  (M : Mem)  (o : (Int32 × Mem) ⊕ ((Mem) ⊕ (Int32 × Mem))) (h : j_law_595_23 L xs v4 M = some o) (kc : ∀ s9 : Int32 × Mem, o = .inl s9 → V E (cs.1 + 1, cs.2 + 6) G 7 Q s9.2 23 [(0, .ref b), (1, .ref (G.2.2 + 0)), (2, .ref (G.2.2 + 162)), (3, .ref (G.2.2 + 192)), (4, .int s9.1)] []) (kx0 : ∀ x9 : Mem, o = .inr (Sum.inl x9) → V E (cs.1 + 1, cs.2 + 6) G 7 Q x9 1559 [] []) (kr : ∀ x9 : Int32 × Mem, o = .inr (Sum.inr x9) → False) : V E cs G 7 Q M 595 [(0, .ref b), (1, .ref (G.2.2 + 0)), (2, .ref (G.2.2 + 162)), (3, .ref (G.2.2 + 192)), (4, .int v4)] [] := by
  unfold j_law_595_23 at h
  refine V_aload_n (n := 1) X d_law_595 rfl rfl rfl ?_
  refine V_aload_n (n := 0) X d_law_596 rfl rfl rfl ?_
  refine V_iload (n := 4) X d_law_597 rfl rfl ?_
  refine V_iconst (v := 1) X d_law_599 (by decide) rfl ?_
  refine V_iadd X d_law_600 rfl ?_
  obtain ⟨hb, h⟩ := ifn h
  refine V_sld X hX hbl hbA hb d_law_601 rfl ?_
  obtain ⟨x40, hx40, h⟩ := ob_s h
  refine V_ci (As := [.int (xs (v4 + (1 : Int32)).toNatClampNeg)]) X hz0 ml_Lw_82 yq_Top_feast (c_Top_feast E.2.1 G (xs (v4 + (1 : Int32)).toNatClampNeg) M x40 hx40 _ (Nat.le_refl _)) kd_0 rfl rfl (by omega) rfl (Nat.le_of_ble_eq_true rfl) d_law_602 rfl (fun r9 M9 hq => ?_)
  rw [hq.1, hq.2]
  refine V_pop X d_law_605 rfl rfl ?_
  refine V_aload_n (n := 2) X d_law_606 rfl rfl rfl ?_
  refine V_aload_n (n := 0) X d_law_607 rfl rfl rfl ?_
  refine V_iload (n := 4) X d_law_608 rfl rfl ?_
  refine V_iconst (v := 1) X d_law_610 (by decide) rfl ?_
  refine V_iadd X d_law_611 rfl ?_
  obtain ⟨hb, h⟩ := ifn h
  refine V_sld X hX hbl hbA hb d_law_612 rfl ?_
  obtain ⟨x41, hx41, h⟩ := ob_s h
  refine V_ci (As := [.int (xs (v4 + (1 : Int32)).toNatClampNeg)]) X hz0 ml_Lw_85 yq_Mod_feast (c_Mod_feast E.2.1 G (xs (v4 + (1 : Int32)).toNatClampNeg) x40.2 x41 hx41 _ (Nat.le_refl _)) kd_162 rfl rfl (by omega) rfl (Nat.le_of_ble_eq_true rfl) d_law_613 rfl (fun r9 M9 hq => ?_)
  rw [hq.1, hq.2]
  refine V_pop X d_law_616 rfl rfl ?_
  refine V_goto (pc' := 1553) X d_law_617 (by decide) ?_
  refine V_iinc (n := 4) (v := (v4 + (5 : Int32))) (lv' := [(4, .int (v4 + (5 : Int32))), (0, .ref b), (1, .ref (G.2.2 + 0)), (2, .ref (G.2.2 + 162)), (3, .ref (G.2.2 + 192))]) X d_law_1553 rfl rfl (by decide) rfl rfl ?_
  refine V_goto (pc' := 23) X d_law_1556 (by decide) ?_
  refine V_wid (cs' := (cs.1 + 1, cs.2 + 6)) ⟨Nat.le_succ _, Nat.le_add_right _ _⟩ ?_
  refine V_sub (lv' := [(0, .ref b), (1, .ref (G.2.2 + 0)), (2, .ref (G.2.2 + 162)), (3, .ref (G.2.2 + 192)), (4, .int (v4 + (5 : Int32)))]) [1, 2, 3, 4, 0] rfl ?_
  exact kc ((v4 + (5 : Int32)), x41.2) (Option.some.inj h).symm
def j_law_620_23 (L : Nat) (xs : Nat → Int32) (v4 : Int32) (M : Mem) : Option ((Int32 × Mem) ⊕ ((Mem) ⊕ (Int32 × Mem))) :=
  Option.bind (f_Top_minute M) fun x43 =>
  Option.bind (f_Mod_minute x43.2) fun x44 =>
  some (.inl ((v4 + (5 : Int32)), x44.2))
theorem j_law_620_23_ok {E : Ev} {cs : Nat × Nat} {G : Gw} {d : Nat} {Q : State → Prop} {b L : Nat} {xs : Nat → Int32} (X : Cx E G code "WomenByTheRoofsLaw" 7 d ret) (hz0 : Zc E cs) (hz : Zc E (cs.1 + 1, cs.2 + 6)) (hT : Tw G E.2.2.2.2.1 E.2.2.2.2.1.heap) (hl9 : E.2.1.stackTraces = false) (hX : va_X b L xs E.2.2.2.2.1 E.2.2.2.2.1.heap) (hbl : b < E.2.2.2.2.1.heap.size) (hbA : ¬ G.2.2 ≤ b) (hD : 450 ≤ d)  (v4 : Int32)  (M : Mem)  (o : (Int32 × Mem) ⊕ ((Mem) ⊕ (Int32 × Mem))) (h : j_law_620_23 L xs v4 M = some o) (kc : ∀ s9 : Int32 × Mem, o = .inl s9 → V E (cs.1 + 1, cs.2 + 6) G 7 Q s9.2 23 [(0, .ref b), (1, .ref (G.2.2 + 0)), (2, .ref (G.2.2 + 162)), (3, .ref (G.2.2 + 192)), (4, .int s9.1)] []) (kx0 : ∀ x9 : Mem, o = .inr (Sum.inl x9) → V E (cs.1 + 1, cs.2 + 6) G 7 Q x9 1559 [] []) (kr : ∀ x9 : Int32 × Mem, o = .inr (Sum.inr x9) → False) : V E cs G 7 Q M 620 [(0, .ref b), (1, .ref (G.2.2 + 0)), (2, .ref (G.2.2 + 162)), (3, .ref (G.2.2 + 192)), (4, .int v4)] [] := by
  unfold j_law_620_23 at h
  refine V_aload_n (n := 1) X d_law_620 rfl rfl rfl ?_
  obtain ⟨x43, hx43, h⟩ := ob_s h
  refine V_ci (As := []) X hz0 ml_Lw_86 yq_Top_minute (c_Top_minute E.2.1 G  M x43 hx43 _ (Nat.le_refl _)) kd_0 rfl rfl (by omega) rfl (Nat.le_of_ble_eq_true rfl) d_law_621 rfl (fun r9 M9 hq => ?_)
  rw [hq.1, hq.2]
  refine V_pop X d_law_624 rfl rfl ?_
  refine V_aload_n (n := 2) X d_law_625 rfl rfl rfl ?_
  obtain ⟨x44, hx44, h⟩ := ob_s h
  refine V_ci (As := []) X hz0 ml_Lw_89 yq_Mod_minute (c_Mod_minute E.2.1 G  x43.2 x44 hx44 _ (Nat.le_refl _)) kd_162 rfl rfl (by omega) rfl (Nat.le_of_ble_eq_true rfl) d_law_626 rfl (fun r9 M9 hq => ?_)
  rw [hq.1, hq.2]
  refine V_pop X d_law_629 rfl rfl ?_
  refine V_goto (pc' := 1553) X d_law_630 (by decide) ?_
  refine V_iinc (n := 4) (v := (v4 + (5 : Int32))) (lv' := [(4, .int (v4 + (5 : Int32))), (0, .ref b), (1, .ref (G.2.2 + 0)), (2, .ref (G.2.2 + 162)), (3, .ref (G.2.2 + 192))]) X d_law_1553 rfl rfl (by decide) rfl rfl ?_
  refine V_goto (pc' := 23) X d_law_1556 (by decide) ?_
  refine V_wid (cs' := (cs.1 + 1, cs.2 + 6)) ⟨Nat.le_succ _, Nat.le_add_right _ _⟩ ?_
  refine V_sub (lv' := [(0, .ref b), (1, .ref (G.2.2 + 0)), (2, .ref (G.2.2 + 162)), (3, .ref (G.2.2 + 192)), (4, .int (v4 + (5 : Int32)))]) [1, 2, 3, 4, 0] rfl ?_
  exact kc ((v4 + (5 : Int32)), x44.2) (Option.some.inj h).symm
def j_law_633_23 (L : Nat) (xs : Nat → Int32) (v4 : Int32) (M : Mem) : Option ((Int32 × Mem) ⊕ ((Mem) ⊕ (Int32 × Mem))) :=
  if inb (v4 + (1 : Int32)) L = true then
  Option.bind (f_Top_minutes (xs (v4 + (1 : Int32)).toNatClampNeg) M) fun x46 =>
  if inb (v4 + (1 : Int32)) L = true then
  Option.bind (f_Mod_minutes (xs (v4 + (1 : Int32)).toNatClampNeg) x46.2) fun x47 =>
  some (.inl ((v4 + (5 : Int32)), x47.2))
  else none
  else none
theorem j_law_633_23_ok {E : Ev} {cs : Nat × Nat} {G : Gw} {d : Nat} {Q : State → Prop} {b L : Nat} {xs : Nat → Int32} (X : Cx E G code "WomenByTheRoofsLaw" 7 d ret) (hz0 : Zc E cs) (hz : Zc E (cs.1 + 1, cs.2 + 6)) (hT : Tw G E.2.2.2.2.1 E.2.2.2.2.1.heap) (hl9 : E.2.1.stackTraces = false) (hX : va_X b L xs E.2.2.2.2.1 E.2.2.2.2.1.heap) (hbl : b < E.2.2.2.2.1.heap.size) (hbA : ¬ G.2.2 ≤ b) (hD : 450 ≤ d)  (v4 : Int32)  (M : Mem)  (o : (Int32 × Mem) ⊕ ((Mem) ⊕ (Int32 × Mem))) (h : j_law_633_23 L xs v4 M = some o) (kc : ∀ s9 : Int32 × Mem, o = .inl s9 → V E (cs.1 + 1, cs.2 + 6) G 7 Q s9.2 23 [(0, .ref b), (1, .ref (G.2.2 + 0)), (2, .ref (G.2.2 + 162)), (3, .ref (G.2.2 + 192)), (4, .int s9.1)] []) (kx0 : ∀ x9 : Mem, o = .inr (Sum.inl x9) → V E (cs.1 + 1, cs.2 + 6) G 7 Q x9 1559 [] []) (kr : ∀ x9 : Int32 × Mem, o = .inr (Sum.inr x9) → False) : V E cs G 7 Q M 633 [(0, .ref b), (1, .ref (G.2.2 + 0)), (2, .ref (G.2.2 + 162)), (3, .ref (G.2.2 + 192)), (4, .int v4)] [] := by
  unfold j_law_633_23 at h
  refine V_aload_n (n := 1) X d_law_633 rfl rfl rfl ?_
  refine V_aload_n (n := 0) X d_law_634 rfl rfl rfl ?_
  refine V_iload (n := 4) X d_law_635 rfl rfl ?_
  refine V_iconst (v := 1) X d_law_637 (by decide) rfl ?_
  refine V_iadd X d_law_638 rfl ?_
  obtain ⟨hb, h⟩ := ifn h
  refine V_sld X hX hbl hbA hb d_law_639 rfl ?_
  obtain ⟨x46, hx46, h⟩ := ob_s h
  refine V_ci (As := [.int (xs (v4 + (1 : Int32)).toNatClampNeg)]) X hz0 ml_Lw_90 yq_Top_minutes (c_Top_minutes E.2.1 G (xs (v4 + (1 : Int32)).toNatClampNeg) M x46 hx46 _ (Nat.le_refl _)) kd_0 rfl rfl (by omega) rfl (Nat.le_of_ble_eq_true rfl) d_law_640 rfl (fun r9 M9 hq => ?_)
  rw [hq.1, hq.2]
  refine V_pop X d_law_643 rfl rfl ?_
  refine V_aload_n (n := 2) X d_law_644 rfl rfl rfl ?_
  refine V_aload_n (n := 0) X d_law_645 rfl rfl rfl ?_
  refine V_iload (n := 4) X d_law_646 rfl rfl ?_
  refine V_iconst (v := 1) X d_law_648 (by decide) rfl ?_
  refine V_iadd X d_law_649 rfl ?_
  obtain ⟨hb, h⟩ := ifn h
  refine V_sld X hX hbl hbA hb d_law_650 rfl ?_
  obtain ⟨x47, hx47, h⟩ := ob_s h
  refine V_ci (As := [.int (xs (v4 + (1 : Int32)).toNatClampNeg)]) X hz0 ml_Lw_93 yq_Mod_minutes (c_Mod_minutes E.2.1 G (xs (v4 + (1 : Int32)).toNatClampNeg) x46.2 x47 hx47 _ (Nat.le_refl _)) kd_162 rfl rfl (by omega) rfl (Nat.le_of_ble_eq_true rfl) d_law_651 rfl (fun r9 M9 hq => ?_)
  rw [hq.1, hq.2]
  refine V_pop X d_law_654 rfl rfl ?_
  refine V_goto (pc' := 1553) X d_law_655 (by decide) ?_
  refine V_iinc (n := 4) (v := (v4 + (5 : Int32))) (lv' := [(4, .int (v4 + (5 : Int32))), (0, .ref b), (1, .ref (G.2.2 + 0)), (2, .ref (G.2.2 + 162)), (3, .ref (G.2.2 + 192))]) X d_law_1553 rfl rfl (by decide) rfl rfl ?_
  refine V_goto (pc' := 23) X d_law_1556 (by decide) ?_
  refine V_wid (cs' := (cs.1 + 1, cs.2 + 6)) ⟨Nat.le_succ _, Nat.le_add_right _ _⟩ ?_
  refine V_sub (lv' := [(0, .ref b), (1, .ref (G.2.2 + 0)), (2, .ref (G.2.2 + 162)), (3, .ref (G.2.2 + 192)), (4, .int (v4 + (5 : Int32)))]) [1, 2, 3, 4, 0] rfl ?_
  exact kc ((v4 + (5 : Int32)), x47.2) (Option.some.inj h).symm
def j_law_658_23 (L : Nat) (xs : Nat → Int32) (v4 : Int32) (M : Mem) : Option ((Int32 × Mem) ⊕ ((Mem) ⊕ (Int32 × Mem))) :=
  Option.bind (f_Top_evening M) fun x49 =>
  Option.bind (f_Mod_evening x49.2) fun x50 =>
  some (.inl ((v4 + (5 : Int32)), x50.2))
theorem j_law_658_23_ok {E : Ev} {cs : Nat × Nat} {G : Gw} {d : Nat} {Q : State → Prop} {b L : Nat} {xs : Nat → Int32} (X : Cx E G code "WomenByTheRoofsLaw" 7 d ret) (hz0 : Zc E cs) (hz : Zc E (cs.1 + 1, cs.2 + 6)) (hT : Tw G E.2.2.2.2.1 E.2.2.2.2.1.heap) (hl9 : E.2.1.stackTraces = false) (hX : va_X b L xs E.2.2.2.2.1 E.2.2.2.2.1.heap) (hbl : b < E.2.2.2.2.1.heap.size) (hbA : ¬ G.2.2 ≤ b) (hD : 450 ≤ d)  (v4 : Int32)  (M : Mem)  (o : (Int32 × Mem) ⊕ ((Mem) ⊕ (Int32 × Mem))) (h : j_law_658_23 L xs v4 M = some o) (kc : ∀ s9 : Int32 × Mem, o = .inl s9 → V E (cs.1 + 1, cs.2 + 6) G 7 Q s9.2 23 [(0, .ref b), (1, .ref (G.2.2 + 0)), (2, .ref (G.2.2 + 162)), (3, .ref (G.2.2 + 192)), (4, .int s9.1)] []) (kx0 : ∀ x9 : Mem, o = .inr (Sum.inl x9) → V E (cs.1 + 1, cs.2 + 6) G 7 Q x9 1559 [] []) (kr : ∀ x9 : Int32 × Mem, o = .inr (Sum.inr x9) → False) : V E cs G 7 Q M 658 [(0, .ref b), (1, .ref (G.2.2 + 0)), (2, .ref (G.2.2 + 162)), (3, .ref (G.2.2 + 192)), (4, .int v4)] [] := by
  unfold j_law_658_23 at h
  refine V_aload_n (n := 1) X d_law_658 rfl rfl rfl ?_
  obtain ⟨x49, hx49, h⟩ := ob_s h
  refine V_ci (As := []) X hz0 ml_Lw_94 yq_Top_evening (c_Top_evening E.2.1 G  M x49 hx49 _ (Nat.le_refl _)) kd_0 rfl rfl (by omega) rfl (Nat.le_of_ble_eq_true rfl) d_law_659 rfl (fun r9 M9 hq => ?_)
  rw [hq.1, hq.2]
  refine V_pop X d_law_662 rfl rfl ?_
  refine V_aload_n (n := 2) X d_law_663 rfl rfl rfl ?_
  obtain ⟨x50, hx50, h⟩ := ob_s h
  refine V_ci (As := []) X hz0 ml_Lw_97 yq_Mod_evening (c_Mod_evening E.2.1 G  x49.2 x50 hx50 _ (Nat.le_refl _)) kd_162 rfl rfl (by omega) rfl (Nat.le_of_ble_eq_true rfl) d_law_664 rfl (fun r9 M9 hq => ?_)
  rw [hq.1, hq.2]
  refine V_pop X d_law_667 rfl rfl ?_
  refine V_goto (pc' := 1553) X d_law_668 (by decide) ?_
  refine V_iinc (n := 4) (v := (v4 + (5 : Int32))) (lv' := [(4, .int (v4 + (5 : Int32))), (0, .ref b), (1, .ref (G.2.2 + 0)), (2, .ref (G.2.2 + 162)), (3, .ref (G.2.2 + 192))]) X d_law_1553 rfl rfl (by decide) rfl rfl ?_
  refine V_goto (pc' := 23) X d_law_1556 (by decide) ?_
  refine V_wid (cs' := (cs.1 + 1, cs.2 + 6)) ⟨Nat.le_succ _, Nat.le_add_right _ _⟩ ?_
  refine V_sub (lv' := [(0, .ref b), (1, .ref (G.2.2 + 0)), (2, .ref (G.2.2 + 162)), (3, .ref (G.2.2 + 192)), (4, .int (v4 + (5 : Int32)))]) [1, 2, 3, 4, 0] rfl ?_
  exact kc ((v4 + (5 : Int32)), x50.2) (Option.some.inj h).symm
def j_law_671_23 (L : Nat) (xs : Nat → Int32) (v4 : Int32) (M : Mem) : Option ((Int32 × Mem) ⊕ ((Mem) ⊕ (Int32 × Mem))) :=
  Option.bind (f_Top_undo M) fun x52 =>
  Option.bind (f_Mod_undo x52.2) fun x53 =>
  some (.inl ((v4 + (5 : Int32)), x53.2))
theorem j_law_671_23_ok {E : Ev} {cs : Nat × Nat} {G : Gw} {d : Nat} {Q : State → Prop} {b L : Nat} {xs : Nat → Int32} (X : Cx E G code "WomenByTheRoofsLaw" 7 d ret) (hz0 : Zc E cs) (hz : Zc E (cs.1 + 1, cs.2 + 6)) (hT : Tw G E.2.2.2.2.1 E.2.2.2.2.1.heap) (hl9 : E.2.1.stackTraces = false) (hX : va_X b L xs E.2.2.2.2.1 E.2.2.2.2.1.heap) (hbl : b < E.2.2.2.2.1.heap.size) (hbA : ¬ G.2.2 ≤ b) (hD : 450 ≤ d)  (v4 : Int32)  (M : Mem)  (o : (Int32 × Mem) ⊕ ((Mem) ⊕ (Int32 × Mem))) (h : j_law_671_23 L xs v4 M = some o) (kc : ∀ s9 : Int32 × Mem, o = .inl s9 → V E (cs.1 + 1, cs.2 + 6) G 7 Q s9.2 23 [(0, .ref b), (1, .ref (G.2.2 + 0)), (2, .ref (G.2.2 + 162)), (3, .ref (G.2.2 + 192)), (4, .int s9.1)] []) (kx0 : ∀ x9 : Mem, o = .inr (Sum.inl x9) → V E (cs.1 + 1, cs.2 + 6) G 7 Q x9 1559 [] []) (kr : ∀ x9 : Int32 × Mem, o = .inr (Sum.inr x9) → False) : V E cs G 7 Q M 671 [(0, .ref b), (1, .ref (G.2.2 + 0)), (2, .ref (G.2.2 + 162)), (3, .ref (G.2.2 + 192)), (4, .int v4)] [] := by
  unfold j_law_671_23 at h
  refine V_aload_n (n := 1) X d_law_671 rfl rfl rfl ?_
  obtain ⟨x52, hx52, h⟩ := ob_s h
  refine V_ci (As := []) X hz0 ml_Lw_98 yq_Top_undo (c_Top_undo E.2.1 G  M x52 hx52 _ (Nat.le_refl _)) kd_0 rfl rfl (by omega) rfl (Nat.le_of_ble_eq_true rfl) d_law_672 rfl (fun r9 M9 hq => ?_)
  rw [hq.1, hq.2]
  refine V_pop X d_law_675 rfl rfl ?_
  refine V_aload_n (n := 2) X d_law_676 rfl rfl rfl ?_
  obtain ⟨x53, hx53, h⟩ := ob_s h
  refine V_ci (As := []) X hz0 ml_Lw_101 yq_Mod_undo (c_Mod_undo E.2.1 G  x52.2 x53 hx53 _ (Nat.le_refl _)) kd_162 rfl rfl (by omega) rfl (Nat.le_of_ble_eq_true rfl) d_law_677 rfl (fun r9 M9 hq => ?_)
  rw [hq.1, hq.2]
  refine V_pop X d_law_680 rfl rfl ?_
  refine V_goto (pc' := 1553) X d_law_681 (by decide) ?_
  refine V_iinc (n := 4) (v := (v4 + (5 : Int32))) (lv' := [(4, .int (v4 + (5 : Int32))), (0, .ref b), (1, .ref (G.2.2 + 0)), (2, .ref (G.2.2 + 162)), (3, .ref (G.2.2 + 192))]) X d_law_1553 rfl rfl (by decide) rfl rfl ?_
  refine V_goto (pc' := 23) X d_law_1556 (by decide) ?_
  refine V_wid (cs' := (cs.1 + 1, cs.2 + 6)) ⟨Nat.le_succ _, Nat.le_add_right _ _⟩ ?_
  refine V_sub (lv' := [(0, .ref b), (1, .ref (G.2.2 + 0)), (2, .ref (G.2.2 + 162)), (3, .ref (G.2.2 + 192)), (4, .int (v4 + (5 : Int32)))]) [1, 2, 3, 4, 0] rfl ?_
  exact kc ((v4 + (5 : Int32)), x53.2) (Option.some.inj h).symm
def j_law_684_23 (L : Nat) (xs : Nat → Int32) (v4 : Int32) (M : Mem) : Option ((Int32 × Mem) ⊕ ((Mem) ⊕ (Int32 × Mem))) :=
  if inb (v4 + (1 : Int32)) L = true then
  if inb (v4 + (2 : Int32)) L = true then
  Option.bind (f_Top_met (xs (v4 + (1 : Int32)).toNatClampNeg) (xs (v4 + (2 : Int32)).toNatClampNeg) M) fun x55 =>
  if inb (v4 + (1 : Int32)) L = true then
  if inb (v4 + (2 : Int32)) L = true then
  Option.bind (f_Mod_met (xs (v4 + (1 : Int32)).toNatClampNeg) (xs (v4 + (2 : Int32)).toNatClampNeg) M) fun x56 =>
  some (.inl ((v4 + (5 : Int32)), x56.2))
  else none
  else none
  else none
  else none
theorem j_law_684_23_ok {E : Ev} {cs : Nat × Nat} {G : Gw} {d : Nat} {Q : State → Prop} {b L : Nat} {xs : Nat → Int32} (X : Cx E G code "WomenByTheRoofsLaw" 7 d ret) (hz0 : Zc E cs) (hz : Zc E (cs.1 + 1, cs.2 + 6)) (hT : Tw G E.2.2.2.2.1 E.2.2.2.2.1.heap) (hl9 : E.2.1.stackTraces = false) (hX : va_X b L xs E.2.2.2.2.1 E.2.2.2.2.1.heap) (hbl : b < E.2.2.2.2.1.heap.size) (hbA : ¬ G.2.2 ≤ b) (hD : 450 ≤ d)  (v4 : Int32)  (M : Mem)  (o : (Int32 × Mem) ⊕ ((Mem) ⊕ (Int32 × Mem))) (h : j_law_684_23 L xs v4 M = some o) (kc : ∀ s9 : Int32 × Mem, o = .inl s9 → V E (cs.1 + 1, cs.2 + 6) G 7 Q s9.2 23 [(0, .ref b), (1, .ref (G.2.2 + 0)), (2, .ref (G.2.2 + 162)), (3, .ref (G.2.2 + 192)), (4, .int s9.1)] []) (kx0 : ∀ x9 : Mem, o = .inr (Sum.inl x9) → V E (cs.1 + 1, cs.2 + 6) G 7 Q x9 1559 [] []) (kr : ∀ x9 : Int32 × Mem, o = .inr (Sum.inr x9) → False) : V E cs G 7 Q M 684 [(0, .ref b), (1, .ref (G.2.2 + 0)), (2, .ref (G.2.2 + 162)), (3, .ref (G.2.2 + 192)), (4, .int v4)] [] := by
  unfold j_law_684_23 at h
  refine V_aload_n (n := 1) X d_law_684 rfl rfl rfl ?_
  refine V_aload_n (n := 0) X d_law_685 rfl rfl rfl ?_
  refine V_iload (n := 4) X d_law_686 rfl rfl ?_
  refine V_iconst (v := 1) X d_law_688 (by decide) rfl ?_
  refine V_iadd X d_law_689 rfl ?_
  obtain ⟨hb, h⟩ := ifn h
  refine V_sld X hX hbl hbA hb d_law_690 rfl ?_
  refine V_aload_n (n := 0) X d_law_691 rfl rfl rfl ?_
  refine V_iload (n := 4) X d_law_692 rfl rfl ?_
  refine V_iconst (v := 2) X d_law_694 (by decide) rfl ?_
  refine V_iadd X d_law_695 rfl ?_
  obtain ⟨hb, h⟩ := ifn h
  refine V_sld X hX hbl hbA hb d_law_696 rfl ?_
  obtain ⟨x55, hx55, h⟩ := ob_s h
  refine V_ci (As := [.int (xs (v4 + (1 : Int32)).toNatClampNeg), .int (xs (v4 + (2 : Int32)).toNatClampNeg)]) X hz0 ml_Lw_102 yq_Top_met (c_Top_met E.2.1 G (xs (v4 + (1 : Int32)).toNatClampNeg) (xs (v4 + (2 : Int32)).toNatClampNeg) M x55 hx55 _ (Nat.le_refl _)) kd_0 rfl rfl (by omega) rfl (Nat.le_of_ble_eq_true rfl) d_law_697 rfl (fun r9 M9 hq => ?_)
  rw [hq.1, hq.2]
  refine V_pop X d_law_700 rfl rfl ?_
  refine V_aload_n (n := 2) X d_law_701 rfl rfl rfl ?_
  refine V_aload_n (n := 0) X d_law_702 rfl rfl rfl ?_
  refine V_iload (n := 4) X d_law_703 rfl rfl ?_
  refine V_iconst (v := 1) X d_law_705 (by decide) rfl ?_
  refine V_iadd X d_law_706 rfl ?_
  obtain ⟨hb, h⟩ := ifn h
  refine V_sld X hX hbl hbA hb d_law_707 rfl ?_
  refine V_aload_n (n := 0) X d_law_708 rfl rfl rfl ?_
  refine V_iload (n := 4) X d_law_709 rfl rfl ?_
  refine V_iconst (v := 2) X d_law_711 (by decide) rfl ?_
  refine V_iadd X d_law_712 rfl ?_
  obtain ⟨hb, h⟩ := ifn h
  refine V_sld X hX hbl hbA hb d_law_713 rfl ?_
  obtain ⟨x56, hx56, h⟩ := ob_s h
  refine V_ci (As := [.int (xs (v4 + (1 : Int32)).toNatClampNeg), .int (xs (v4 + (2 : Int32)).toNatClampNeg)]) X hz0 ml_Lw_105 yq_Mod_met (c_Mod_met E.2.1 G (xs (v4 + (1 : Int32)).toNatClampNeg) (xs (v4 + (2 : Int32)).toNatClampNeg) M x56 hx56 _ (Nat.le_refl _)) kd_162 rfl rfl (by omega) rfl (Nat.le_of_ble_eq_true rfl) d_law_714 rfl (fun r9 M9 hq => ?_)
  rw [hq.1, hq.2]
  refine V_pop X d_law_717 rfl rfl ?_
  refine V_goto (pc' := 1553) X d_law_718 (by decide) ?_
  refine V_iinc (n := 4) (v := (v4 + (5 : Int32))) (lv' := [(4, .int (v4 + (5 : Int32))), (0, .ref b), (1, .ref (G.2.2 + 0)), (2, .ref (G.2.2 + 162)), (3, .ref (G.2.2 + 192))]) X d_law_1553 rfl rfl (by decide) rfl rfl ?_
  refine V_goto (pc' := 23) X d_law_1556 (by decide) ?_
  refine V_wid (cs' := (cs.1 + 1, cs.2 + 6)) ⟨Nat.le_succ _, Nat.le_add_right _ _⟩ ?_
  refine V_sub (lv' := [(0, .ref b), (1, .ref (G.2.2 + 0)), (2, .ref (G.2.2 + 162)), (3, .ref (G.2.2 + 192)), (4, .int (v4 + (5 : Int32)))]) [1, 2, 3, 4, 0] rfl ?_
  exact kc ((v4 + (5 : Int32)), x56.2) (Option.some.inj h).symm
def j_law_721_23 (L : Nat) (xs : Nat → Int32) (v4 : Int32) (M : Mem) : Option ((Int32 × Mem) ⊕ ((Mem) ⊕ (Int32 × Mem))) :=
  if inb (v4 + (1 : Int32)) L = true then
  Option.bind (f_Top_ahead (xs (v4 + (1 : Int32)).toNatClampNeg) M) fun x58 =>
  if inb (v4 + (1 : Int32)) L = true then
  Option.bind (f_Mod_ahead (xs (v4 + (1 : Int32)).toNatClampNeg) x58.2) fun x59 =>
  some (.inl ((v4 + (5 : Int32)), x59.2))
  else none
  else none
theorem j_law_721_23_ok {E : Ev} {cs : Nat × Nat} {G : Gw} {d : Nat} {Q : State → Prop} {b L : Nat} {xs : Nat → Int32} (X : Cx E G code "WomenByTheRoofsLaw" 7 d ret) (hz0 : Zc E cs) (hz : Zc E (cs.1 + 1, cs.2 + 6)) (hT : Tw G E.2.2.2.2.1 E.2.2.2.2.1.heap) (hl9 : E.2.1.stackTraces = false) (hX : va_X b L xs E.2.2.2.2.1 E.2.2.2.2.1.heap) (hbl : b < E.2.2.2.2.1.heap.size) (hbA : ¬ G.2.2 ≤ b) (hD : 450 ≤ d)  (v4 : Int32)  (M : Mem)  (o : (Int32 × Mem) ⊕ ((Mem) ⊕ (Int32 × Mem))) (h : j_law_721_23 L xs v4 M = some o) (kc : ∀ s9 : Int32 × Mem, o = .inl s9 → V E (cs.1 + 1, cs.2 + 6) G 7 Q s9.2 23 [(0, .ref b), (1, .ref (G.2.2 + 0)), (2, .ref (G.2.2 + 162)), (3, .ref (G.2.2 + 192)), (4, .int s9.1)] []) (kx0 : ∀ x9 : Mem, o = .inr (Sum.inl x9) → V E (cs.1 + 1, cs.2 + 6) G 7 Q x9 1559 [] []) (kr : ∀ x9 : Int32 × Mem, o = .inr (Sum.inr x9) → False) : V E cs G 7 Q M 721 [(0, .ref b), (1, .ref (G.2.2 + 0)), (2, .ref (G.2.2 + 162)), (3, .ref (G.2.2 + 192)), (4, .int v4)] [] := by
  unfold j_law_721_23 at h
  refine V_aload_n (n := 1) X d_law_721 rfl rfl rfl ?_
  refine V_aload_n (n := 0) X d_law_722 rfl rfl rfl ?_
  refine V_iload (n := 4) X d_law_723 rfl rfl ?_
  refine V_iconst (v := 1) X d_law_725 (by decide) rfl ?_
  refine V_iadd X d_law_726 rfl ?_
  obtain ⟨hb, h⟩ := ifn h
  refine V_sld X hX hbl hbA hb d_law_727 rfl ?_
  obtain ⟨x58, hx58, h⟩ := ob_s h
  refine V_ci (As := [.int (xs (v4 + (1 : Int32)).toNatClampNeg)]) X hz0 ml_Lw_106 yq_Top_ahead (c_Top_ahead E.2.1 G (xs (v4 + (1 : Int32)).toNatClampNeg) M x58 hx58 _ (Nat.le_refl _)) kd_0 rfl rfl (by omega) rfl (Nat.le_of_ble_eq_true rfl) d_law_728 rfl (fun r9 M9 hq => ?_)
  rw [hq.1, hq.2]
  refine V_pop X d_law_731 rfl rfl ?_
  refine V_aload_n (n := 2) X d_law_732 rfl rfl rfl ?_
  refine V_aload_n (n := 0) X d_law_733 rfl rfl rfl ?_
  refine V_iload (n := 4) X d_law_734 rfl rfl ?_
  refine V_iconst (v := 1) X d_law_736 (by decide) rfl ?_
  refine V_iadd X d_law_737 rfl ?_
  obtain ⟨hb, h⟩ := ifn h
  refine V_sld X hX hbl hbA hb d_law_738 rfl ?_
  obtain ⟨x59, hx59, h⟩ := ob_s h
  refine V_ci (As := [.int (xs (v4 + (1 : Int32)).toNatClampNeg)]) X hz0 ml_Lw_109 yq_Mod_ahead (c_Mod_ahead E.2.1 G (xs (v4 + (1 : Int32)).toNatClampNeg) x58.2 x59 hx59 _ (Nat.le_refl _)) kd_162 rfl rfl (by omega) rfl (Nat.le_of_ble_eq_true rfl) d_law_739 rfl (fun r9 M9 hq => ?_)
  rw [hq.1, hq.2]
  refine V_pop X d_law_742 rfl rfl ?_
  refine V_goto (pc' := 1553) X d_law_743 (by decide) ?_
  refine V_iinc (n := 4) (v := (v4 + (5 : Int32))) (lv' := [(4, .int (v4 + (5 : Int32))), (0, .ref b), (1, .ref (G.2.2 + 0)), (2, .ref (G.2.2 + 162)), (3, .ref (G.2.2 + 192))]) X d_law_1553 rfl rfl (by decide) rfl rfl ?_
  refine V_goto (pc' := 23) X d_law_1556 (by decide) ?_
  refine V_wid (cs' := (cs.1 + 1, cs.2 + 6)) ⟨Nat.le_succ _, Nat.le_add_right _ _⟩ ?_
  refine V_sub (lv' := [(0, .ref b), (1, .ref (G.2.2 + 0)), (2, .ref (G.2.2 + 162)), (3, .ref (G.2.2 + 192)), (4, .int (v4 + (5 : Int32)))]) [1, 2, 3, 4, 0] rfl ?_
  exact kc ((v4 + (5 : Int32)), x59.2) (Option.some.inj h).symm
def j_law_746_23 (L : Nat) (xs : Nat → Int32) (v4 : Int32) (M : Mem) : Option ((Int32 × Mem) ⊕ ((Mem) ⊕ (Int32 × Mem))) :=
  if inb (v4 + (1 : Int32)) L = true then
  if inb (v4 + (2 : Int32)) L = true then
  Option.bind (f_Top_meet (xs (v4 + (1 : Int32)).toNatClampNeg) (xs (v4 + (2 : Int32)).toNatClampNeg) M) fun x61 =>
  if inb (v4 + (1 : Int32)) L = true then
  if inb (v4 + (2 : Int32)) L = true then
  Option.bind (f_Mod_meet (xs (v4 + (1 : Int32)).toNatClampNeg) (xs (v4 + (2 : Int32)).toNatClampNeg) x61.2) fun x62 =>
  some (.inl ((v4 + (5 : Int32)), x62.2))
  else none
  else none
  else none
  else none
theorem j_law_746_23_ok {E : Ev} {cs : Nat × Nat} {G : Gw} {d : Nat} {Q : State → Prop} {b L : Nat} {xs : Nat → Int32} (X : Cx E G code "WomenByTheRoofsLaw" 7 d ret) (hz0 : Zc E cs) (hz : Zc E (cs.1 + 1, cs.2 + 6)) (hT : Tw G E.2.2.2.2.1 E.2.2.2.2.1.heap) (hl9 : E.2.1.stackTraces = false) (hX : va_X b L xs E.2.2.2.2.1 E.2.2.2.2.1.heap) (hbl : b < E.2.2.2.2.1.heap.size) (hbA : ¬ G.2.2 ≤ b) (hD : 450 ≤ d)  (v4 : Int32)  (M : Mem)  (o : (Int32 × Mem) ⊕ ((Mem) ⊕ (Int32 × Mem))) (h : j_law_746_23 L xs v4 M = some o) (kc : ∀ s9 : Int32 × Mem, o = .inl s9 → V E (cs.1 + 1, cs.2 + 6) G 7 Q s9.2 23 [(0, .ref b), (1, .ref (G.2.2 + 0)), (2, .ref (G.2.2 + 162)), (3, .ref (G.2.2 + 192)), (4, .int s9.1)] []) (kx0 : ∀ x9 : Mem, o = .inr (Sum.inl x9) → V E (cs.1 + 1, cs.2 + 6) G 7 Q x9 1559 [] []) (kr : ∀ x9 : Int32 × Mem, o = .inr (Sum.inr x9) → False) : V E cs G 7 Q M 746 [(0, .ref b), (1, .ref (G.2.2 + 0)), (2, .ref (G.2.2 + 162)), (3, .ref (G.2.2 + 192)), (4, .int v4)] [] := by
  unfold j_law_746_23 at h
  refine V_aload_n (n := 1) X d_law_746 rfl rfl rfl ?_
  refine V_aload_n (n := 0) X d_law_747 rfl rfl rfl ?_
  refine V_iload (n := 4) X d_law_748 rfl rfl ?_
  refine V_iconst (v := 1) X d_law_750 (by decide) rfl ?_
  refine V_iadd X d_law_751 rfl ?_
  obtain ⟨hb, h⟩ := ifn h
  refine V_sld X hX hbl hbA hb d_law_752 rfl ?_
  refine V_aload_n (n := 0) X d_law_753 rfl rfl rfl ?_
  refine V_iload (n := 4) X d_law_754 rfl rfl ?_
  refine V_iconst (v := 2) X d_law_756 (by decide) rfl ?_
  refine V_iadd X d_law_757 rfl ?_
  obtain ⟨hb, h⟩ := ifn h
  refine V_sld X hX hbl hbA hb d_law_758 rfl ?_
  obtain ⟨x61, hx61, h⟩ := ob_s h
  refine V_ci (As := [.int (xs (v4 + (1 : Int32)).toNatClampNeg), .int (xs (v4 + (2 : Int32)).toNatClampNeg)]) X hz0 ml_Lw_110 yq_Top_meet (c_Top_meet E.2.1 G (xs (v4 + (1 : Int32)).toNatClampNeg) (xs (v4 + (2 : Int32)).toNatClampNeg) M x61 hx61 _ (Nat.le_refl _)) kd_0 rfl rfl (by omega) rfl (Nat.le_of_ble_eq_true rfl) d_law_759 rfl (fun r9 M9 hq => ?_)
  rw [hq.1, hq.2]
  refine V_pop X d_law_762 rfl rfl ?_
  refine V_aload_n (n := 2) X d_law_763 rfl rfl rfl ?_
  refine V_aload_n (n := 0) X d_law_764 rfl rfl rfl ?_
  refine V_iload (n := 4) X d_law_765 rfl rfl ?_
  refine V_iconst (v := 1) X d_law_767 (by decide) rfl ?_
  refine V_iadd X d_law_768 rfl ?_
  obtain ⟨hb, h⟩ := ifn h
  refine V_sld X hX hbl hbA hb d_law_769 rfl ?_
  refine V_aload_n (n := 0) X d_law_770 rfl rfl rfl ?_
  refine V_iload (n := 4) X d_law_771 rfl rfl ?_
  refine V_iconst (v := 2) X d_law_773 (by decide) rfl ?_
  refine V_iadd X d_law_774 rfl ?_
  obtain ⟨hb, h⟩ := ifn h
  refine V_sld X hX hbl hbA hb d_law_775 rfl ?_
  obtain ⟨x62, hx62, h⟩ := ob_s h
  refine V_ci (As := [.int (xs (v4 + (1 : Int32)).toNatClampNeg), .int (xs (v4 + (2 : Int32)).toNatClampNeg)]) X hz0 ml_Lw_113 yq_Mod_meet (c_Mod_meet E.2.1 G (xs (v4 + (1 : Int32)).toNatClampNeg) (xs (v4 + (2 : Int32)).toNatClampNeg) x61.2 x62 hx62 _ (Nat.le_refl _)) kd_162 rfl rfl (by omega) rfl (Nat.le_of_ble_eq_true rfl) d_law_776 rfl (fun r9 M9 hq => ?_)
  rw [hq.1, hq.2]
  refine V_pop X d_law_779 rfl rfl ?_
  refine V_goto (pc' := 1553) X d_law_780 (by decide) ?_
  refine V_iinc (n := 4) (v := (v4 + (5 : Int32))) (lv' := [(4, .int (v4 + (5 : Int32))), (0, .ref b), (1, .ref (G.2.2 + 0)), (2, .ref (G.2.2 + 162)), (3, .ref (G.2.2 + 192))]) X d_law_1553 rfl rfl (by decide) rfl rfl ?_
  refine V_goto (pc' := 23) X d_law_1556 (by decide) ?_
  refine V_wid (cs' := (cs.1 + 1, cs.2 + 6)) ⟨Nat.le_succ _, Nat.le_add_right _ _⟩ ?_
  refine V_sub (lv' := [(0, .ref b), (1, .ref (G.2.2 + 0)), (2, .ref (G.2.2 + 162)), (3, .ref (G.2.2 + 192)), (4, .int (v4 + (5 : Int32)))]) [1, 2, 3, 4, 0] rfl ?_
  exact kc ((v4 + (5 : Int32)), x62.2) (Option.some.inj h).symm
def j_law_783_23 (L : Nat) (xs : Nat → Int32) (v4 : Int32) (M : Mem) : Option ((Int32 × Mem) ⊕ ((Mem) ⊕ (Int32 × Mem))) :=
  Option.bind (f_Top_known M) fun x64 =>
  Option.bind (f_Mod_known x64.2) fun x65 =>
  some (.inl ((v4 + (5 : Int32)), x65.2))
theorem j_law_783_23_ok {E : Ev} {cs : Nat × Nat} {G : Gw} {d : Nat} {Q : State → Prop} {b L : Nat} {xs : Nat → Int32} (X : Cx E G code "WomenByTheRoofsLaw" 7 d ret) (hz0 : Zc E cs) (hz : Zc E (cs.1 + 1, cs.2 + 6)) (hT : Tw G E.2.2.2.2.1 E.2.2.2.2.1.heap) (hl9 : E.2.1.stackTraces = false) (hX : va_X b L xs E.2.2.2.2.1 E.2.2.2.2.1.heap) (hbl : b < E.2.2.2.2.1.heap.size) (hbA : ¬ G.2.2 ≤ b) (hD : 450 ≤ d)  (v4 : Int32)  (M : Mem)  (o : (Int32 × Mem) ⊕ ((Mem) ⊕ (Int32 × Mem))) (h : j_law_783_23 L xs v4 M = some o) (kc : ∀ s9 : Int32 × Mem, o = .inl s9 → V E (cs.1 + 1, cs.2 + 6) G 7 Q s9.2 23 [(0, .ref b), (1, .ref (G.2.2 + 0)), (2, .ref (G.2.2 + 162)), (3, .ref (G.2.2 + 192)), (4, .int s9.1)] []) (kx0 : ∀ x9 : Mem, o = .inr (Sum.inl x9) → V E (cs.1 + 1, cs.2 + 6) G 7 Q x9 1559 [] []) (kr : ∀ x9 : Int32 × Mem, o = .inr (Sum.inr x9) → False) : V E cs G 7 Q M 783 [(0, .ref b), (1, .ref (G.2.2 + 0)), (2, .ref (G.2.2 + 162)), (3, .ref (G.2.2 + 192)), (4, .int v4)] [] := by
  unfold j_law_783_23 at h
  refine V_aload_n (n := 1) X d_law_783 rfl rfl rfl ?_
  obtain ⟨x64, hx64, h⟩ := ob_s h
  refine V_ci (As := []) X hz0 ml_Lw_114 yq_Top_known (c_Top_known E.2.1 G  M x64 hx64 _ (Nat.le_refl _)) kd_0 rfl rfl (by omega) rfl (Nat.le_of_ble_eq_true rfl) d_law_784 rfl (fun r9 M9 hq => ?_)
  rw [hq.1, hq.2]
  refine V_pop X d_law_787 rfl rfl ?_
  refine V_aload_n (n := 2) X d_law_788 rfl rfl rfl ?_
  obtain ⟨x65, hx65, h⟩ := ob_s h
  refine V_ci (As := []) X hz0 ml_Lw_117 yq_Mod_known (c_Mod_known E.2.1 G  x64.2 x65 hx65 _ (Nat.le_refl _)) kd_162 rfl rfl (by omega) rfl (Nat.le_of_ble_eq_true rfl) d_law_789 rfl (fun r9 M9 hq => ?_)
  rw [hq.1, hq.2]
  refine V_pop X d_law_792 rfl rfl ?_
  refine V_goto (pc' := 1553) X d_law_793 (by decide) ?_
  refine V_iinc (n := 4) (v := (v4 + (5 : Int32))) (lv' := [(4, .int (v4 + (5 : Int32))), (0, .ref b), (1, .ref (G.2.2 + 0)), (2, .ref (G.2.2 + 162)), (3, .ref (G.2.2 + 192))]) X d_law_1553 rfl rfl (by decide) rfl rfl ?_
  refine V_goto (pc' := 23) X d_law_1556 (by decide) ?_
  refine V_wid (cs' := (cs.1 + 1, cs.2 + 6)) ⟨Nat.le_succ _, Nat.le_add_right _ _⟩ ?_
  refine V_sub (lv' := [(0, .ref b), (1, .ref (G.2.2 + 0)), (2, .ref (G.2.2 + 162)), (3, .ref (G.2.2 + 192)), (4, .int (v4 + (5 : Int32)))]) [1, 2, 3, 4, 0] rfl ?_
  exact kc ((v4 + (5 : Int32)), x65.2) (Option.some.inj h).symm
def j_law_796_23 (L : Nat) (xs : Nat → Int32) (v4 : Int32) (M : Mem) : Option ((Int32 × Mem) ⊕ ((Mem) ⊕ (Int32 × Mem))) :=
  if inb (v4 + (1 : Int32)) L = true then
  Option.bind (f_Top_gossip (xs (v4 + (1 : Int32)).toNatClampNeg) M) fun x67 =>
  if inb (v4 + (1 : Int32)) L = true then
  Option.bind (f_Mod_gossip (xs (v4 + (1 : Int32)).toNatClampNeg) x67.2) fun x68 =>
  some (.inl ((v4 + (5 : Int32)), x68.2))
  else none
  else none
theorem j_law_796_23_ok {E : Ev} {cs : Nat × Nat} {G : Gw} {d : Nat} {Q : State → Prop} {b L : Nat} {xs : Nat → Int32} (X : Cx E G code "WomenByTheRoofsLaw" 7 d ret) (hz0 : Zc E cs) (hz : Zc E (cs.1 + 1, cs.2 + 6)) (hT : Tw G E.2.2.2.2.1 E.2.2.2.2.1.heap) (hl9 : E.2.1.stackTraces = false) (hX : va_X b L xs E.2.2.2.2.1 E.2.2.2.2.1.heap) (hbl : b < E.2.2.2.2.1.heap.size) (hbA : ¬ G.2.2 ≤ b) (hD : 450 ≤ d)  (v4 : Int32)  (M : Mem)  (o : (Int32 × Mem) ⊕ ((Mem) ⊕ (Int32 × Mem))) (h : j_law_796_23 L xs v4 M = some o) (kc : ∀ s9 : Int32 × Mem, o = .inl s9 → V E (cs.1 + 1, cs.2 + 6) G 7 Q s9.2 23 [(0, .ref b), (1, .ref (G.2.2 + 0)), (2, .ref (G.2.2 + 162)), (3, .ref (G.2.2 + 192)), (4, .int s9.1)] []) (kx0 : ∀ x9 : Mem, o = .inr (Sum.inl x9) → V E (cs.1 + 1, cs.2 + 6) G 7 Q x9 1559 [] []) (kr : ∀ x9 : Int32 × Mem, o = .inr (Sum.inr x9) → False) : V E cs G 7 Q M 796 [(0, .ref b), (1, .ref (G.2.2 + 0)), (2, .ref (G.2.2 + 162)), (3, .ref (G.2.2 + 192)), (4, .int v4)] [] := by
  unfold j_law_796_23 at h
  refine V_aload_n (n := 1) X d_law_796 rfl rfl rfl ?_
  refine V_aload_n (n := 0) X d_law_797 rfl rfl rfl ?_
  refine V_iload (n := 4) X d_law_798 rfl rfl ?_
  refine V_iconst (v := 1) X d_law_800 (by decide) rfl ?_
  refine V_iadd X d_law_801 rfl ?_
  obtain ⟨hb, h⟩ := ifn h
  refine V_sld X hX hbl hbA hb d_law_802 rfl ?_
  obtain ⟨x67, hx67, h⟩ := ob_s h
  refine V_ci (As := [.int (xs (v4 + (1 : Int32)).toNatClampNeg)]) X hz0 ml_Lw_118 yq_Top_gossip (c_Top_gossip E.2.1 G (xs (v4 + (1 : Int32)).toNatClampNeg) M x67 hx67 _ (Nat.le_refl _)) kd_0 rfl rfl (by omega) rfl (Nat.le_of_ble_eq_true rfl) d_law_803 rfl (fun r9 M9 hq => ?_)
  rw [hq.1, hq.2]
  refine V_pop X d_law_806 rfl rfl ?_
  refine V_aload_n (n := 2) X d_law_807 rfl rfl rfl ?_
  refine V_aload_n (n := 0) X d_law_808 rfl rfl rfl ?_
  refine V_iload (n := 4) X d_law_809 rfl rfl ?_
  refine V_iconst (v := 1) X d_law_811 (by decide) rfl ?_
  refine V_iadd X d_law_812 rfl ?_
  obtain ⟨hb, h⟩ := ifn h
  refine V_sld X hX hbl hbA hb d_law_813 rfl ?_
  obtain ⟨x68, hx68, h⟩ := ob_s h
  refine V_ci (As := [.int (xs (v4 + (1 : Int32)).toNatClampNeg)]) X hz0 ml_Lw_121 yq_Mod_gossip (c_Mod_gossip E.2.1 G (xs (v4 + (1 : Int32)).toNatClampNeg) x67.2 x68 hx68 _ (Nat.le_refl _)) kd_162 rfl rfl (by omega) rfl (Nat.le_of_ble_eq_true rfl) d_law_814 rfl (fun r9 M9 hq => ?_)
  rw [hq.1, hq.2]
  refine V_pop X d_law_817 rfl rfl ?_
  refine V_goto (pc' := 1553) X d_law_818 (by decide) ?_
  refine V_iinc (n := 4) (v := (v4 + (5 : Int32))) (lv' := [(4, .int (v4 + (5 : Int32))), (0, .ref b), (1, .ref (G.2.2 + 0)), (2, .ref (G.2.2 + 162)), (3, .ref (G.2.2 + 192))]) X d_law_1553 rfl rfl (by decide) rfl rfl ?_
  refine V_goto (pc' := 23) X d_law_1556 (by decide) ?_
  refine V_wid (cs' := (cs.1 + 1, cs.2 + 6)) ⟨Nat.le_succ _, Nat.le_add_right _ _⟩ ?_
  refine V_sub (lv' := [(0, .ref b), (1, .ref (G.2.2 + 0)), (2, .ref (G.2.2 + 162)), (3, .ref (G.2.2 + 192)), (4, .int (v4 + (5 : Int32)))]) [1, 2, 3, 4, 0] rfl ?_
  exact kc ((v4 + (5 : Int32)), x68.2) (Option.some.inj h).symm
def j_law_821_23 (L : Nat) (xs : Nat → Int32) (v4 : Int32) (M : Mem) : Option ((Int32 × Mem) ⊕ ((Mem) ⊕ (Int32 × Mem))) :=
  if inb (v4 + (1 : Int32)) L = true then
  Option.bind (f_Top_pieces (xs (v4 + (1 : Int32)).toNatClampNeg) M) fun x70 =>
  if inb (v4 + (1 : Int32)) L = true then
  Option.bind (f_Mod_pieces (xs (v4 + (1 : Int32)).toNatClampNeg) x70.2) fun x71 =>
  some (.inl ((v4 + (5 : Int32)), x71.2))
  else none
  else none
theorem j_law_821_23_ok {E : Ev} {cs : Nat × Nat} {G : Gw} {d : Nat} {Q : State → Prop} {b L : Nat} {xs : Nat → Int32} (X : Cx E G code "WomenByTheRoofsLaw" 7 d ret) (hz0 : Zc E cs) (hz : Zc E (cs.1 + 1, cs.2 + 6)) (hT : Tw G E.2.2.2.2.1 E.2.2.2.2.1.heap) (hl9 : E.2.1.stackTraces = false) (hX : va_X b L xs E.2.2.2.2.1 E.2.2.2.2.1.heap) (hbl : b < E.2.2.2.2.1.heap.size) (hbA : ¬ G.2.2 ≤ b) (hD : 450 ≤ d)  (v4 : Int32)  (M : Mem)  (o : (Int32 × Mem) ⊕ ((Mem) ⊕ (Int32 × Mem))) (h : j_law_821_23 L xs v4 M = some o) (kc : ∀ s9 : Int32 × Mem, o = .inl s9 → V E (cs.1 + 1, cs.2 + 6) G 7 Q s9.2 23 [(0, .ref b), (1, .ref (G.2.2 + 0)), (2, .ref (G.2.2 + 162)), (3, .ref (G.2.2 + 192)), (4, .int s9.1)] []) (kx0 : ∀ x9 : Mem, o = .inr (Sum.inl x9) → V E (cs.1 + 1, cs.2 + 6) G 7 Q x9 1559 [] []) (kr : ∀ x9 : Int32 × Mem, o = .inr (Sum.inr x9) → False) : V E cs G 7 Q M 821 [(0, .ref b), (1, .ref (G.2.2 + 0)), (2, .ref (G.2.2 + 162)), (3, .ref (G.2.2 + 192)), (4, .int v4)] [] := by
  unfold j_law_821_23 at h
  refine V_aload_n (n := 1) X d_law_821 rfl rfl rfl ?_
  refine V_aload_n (n := 0) X d_law_822 rfl rfl rfl ?_
  refine V_iload (n := 4) X d_law_823 rfl rfl ?_
  refine V_iconst (v := 1) X d_law_825 (by decide) rfl ?_
  refine V_iadd X d_law_826 rfl ?_
  obtain ⟨hb, h⟩ := ifn h
  refine V_sld X hX hbl hbA hb d_law_827 rfl ?_
  obtain ⟨x70, hx70, h⟩ := ob_s h
  refine V_ci (As := [.int (xs (v4 + (1 : Int32)).toNatClampNeg)]) X hz0 ml_Lw_122 yq_Top_pieces (c_Top_pieces E.2.1 G (xs (v4 + (1 : Int32)).toNatClampNeg) M x70 hx70 _ (Nat.le_refl _)) kd_0 rfl rfl (by omega) rfl (Nat.le_of_ble_eq_true rfl) d_law_828 rfl (fun r9 M9 hq => ?_)
  rw [hq.1, hq.2]
  refine V_pop X d_law_831 rfl rfl ?_
  refine V_aload_n (n := 2) X d_law_832 rfl rfl rfl ?_
  refine V_aload_n (n := 0) X d_law_833 rfl rfl rfl ?_
  refine V_iload (n := 4) X d_law_834 rfl rfl ?_
  refine V_iconst (v := 1) X d_law_836 (by decide) rfl ?_
  refine V_iadd X d_law_837 rfl ?_
  obtain ⟨hb, h⟩ := ifn h
  refine V_sld X hX hbl hbA hb d_law_838 rfl ?_
  obtain ⟨x71, hx71, h⟩ := ob_s h
  refine V_ci (As := [.int (xs (v4 + (1 : Int32)).toNatClampNeg)]) X hz0 ml_Lw_125 yq_Mod_pieces (c_Mod_pieces E.2.1 G (xs (v4 + (1 : Int32)).toNatClampNeg) x70.2 x71 hx71 _ (Nat.le_refl _)) kd_162 rfl rfl (by omega) rfl (Nat.le_of_ble_eq_true rfl) d_law_839 rfl (fun r9 M9 hq => ?_)
  rw [hq.1, hq.2]
  refine V_pop X d_law_842 rfl rfl ?_
  refine V_goto (pc' := 1553) X d_law_843 (by decide) ?_
  refine V_iinc (n := 4) (v := (v4 + (5 : Int32))) (lv' := [(4, .int (v4 + (5 : Int32))), (0, .ref b), (1, .ref (G.2.2 + 0)), (2, .ref (G.2.2 + 162)), (3, .ref (G.2.2 + 192))]) X d_law_1553 rfl rfl (by decide) rfl rfl ?_
  refine V_goto (pc' := 23) X d_law_1556 (by decide) ?_
  refine V_wid (cs' := (cs.1 + 1, cs.2 + 6)) ⟨Nat.le_succ _, Nat.le_add_right _ _⟩ ?_
  refine V_sub (lv' := [(0, .ref b), (1, .ref (G.2.2 + 0)), (2, .ref (G.2.2 + 162)), (3, .ref (G.2.2 + 192)), (4, .int (v4 + (5 : Int32)))]) [1, 2, 3, 4, 0] rfl ?_
  exact kc ((v4 + (5 : Int32)), x71.2) (Option.some.inj h).symm
def j_law_846_23 (L : Nat) (xs : Nat → Int32) (v4 : Int32) (M : Mem) : Option ((Int32 × Mem) ⊕ ((Mem) ⊕ (Int32 × Mem))) :=
  if inb (v4 + (1 : Int32)) L = true then
  if inb (v4 + (2 : Int32)) L = true then
  Option.bind (f_Top_reach (xs (v4 + (1 : Int32)).toNatClampNeg) (xs (v4 + (2 : Int32)).toNatClampNeg) M) fun x73 =>
  if inb (v4 + (1 : Int32)) L = true then
  if inb (v4 + (2 : Int32)) L = true then
  Option.bind (f_Mod_reach (xs (v4 + (1 : Int32)).toNatClampNeg) (xs (v4 + (2 : Int32)).toNatClampNeg) x73.2) fun x74 =>
  some (.inl ((v4 + (5 : Int32)), x74.2))
  else none
  else none
  else none
  else none
theorem j_law_846_23_ok {E : Ev} {cs : Nat × Nat} {G : Gw} {d : Nat} {Q : State → Prop} {b L : Nat} {xs : Nat → Int32} (X : Cx E G code "WomenByTheRoofsLaw" 7 d ret) (hz0 : Zc E cs) (hz : Zc E (cs.1 + 1, cs.2 + 6)) (hT : Tw G E.2.2.2.2.1 E.2.2.2.2.1.heap) (hl9 : E.2.1.stackTraces = false) (hX : va_X b L xs E.2.2.2.2.1 E.2.2.2.2.1.heap) (hbl : b < E.2.2.2.2.1.heap.size) (hbA : ¬ G.2.2 ≤ b) (hD : 450 ≤ d)  (v4 : Int32)  (M : Mem)  (o : (Int32 × Mem) ⊕ ((Mem) ⊕ (Int32 × Mem))) (h : j_law_846_23 L xs v4 M = some o) (kc : ∀ s9 : Int32 × Mem, o = .inl s9 → V E (cs.1 + 1, cs.2 + 6) G 7 Q s9.2 23 [(0, .ref b), (1, .ref (G.2.2 + 0)), (2, .ref (G.2.2 + 162)), (3, .ref (G.2.2 + 192)), (4, .int s9.1)] []) (kx0 : ∀ x9 : Mem, o = .inr (Sum.inl x9) → V E (cs.1 + 1, cs.2 + 6) G 7 Q x9 1559 [] []) (kr : ∀ x9 : Int32 × Mem, o = .inr (Sum.inr x9) → False) : V E cs G 7 Q M 846 [(0, .ref b), (1, .ref (G.2.2 + 0)), (2, .ref (G.2.2 + 162)), (3, .ref (G.2.2 + 192)), (4, .int v4)] [] := by
  unfold j_law_846_23 at h
  refine V_aload_n (n := 1) X d_law_846 rfl rfl rfl ?_
  refine V_aload_n (n := 0) X d_law_847 rfl rfl rfl ?_
  refine V_iload (n := 4) X d_law_848 rfl rfl ?_
  refine V_iconst (v := 1) X d_law_850 (by decide) rfl ?_
  refine V_iadd X d_law_851 rfl ?_
  obtain ⟨hb, h⟩ := ifn h
  refine V_sld X hX hbl hbA hb d_law_852 rfl ?_
  refine V_aload_n (n := 0) X d_law_853 rfl rfl rfl ?_
  refine V_iload (n := 4) X d_law_854 rfl rfl ?_
  refine V_iconst (v := 2) X d_law_856 (by decide) rfl ?_
  refine V_iadd X d_law_857 rfl ?_
  obtain ⟨hb, h⟩ := ifn h
  refine V_sld X hX hbl hbA hb d_law_858 rfl ?_
  obtain ⟨x73, hx73, h⟩ := ob_s h
  refine V_ci (As := [.int (xs (v4 + (1 : Int32)).toNatClampNeg), .int (xs (v4 + (2 : Int32)).toNatClampNeg)]) X hz0 ml_Lw_126 yq_Top_reach (c_Top_reach E.2.1 G (xs (v4 + (1 : Int32)).toNatClampNeg) (xs (v4 + (2 : Int32)).toNatClampNeg) M x73 hx73 _ (Nat.le_refl _)) kd_0 rfl rfl (by omega) rfl (Nat.le_of_ble_eq_true rfl) d_law_859 rfl (fun r9 M9 hq => ?_)
  rw [hq.1, hq.2]
  refine V_pop X d_law_862 rfl rfl ?_
  refine V_aload_n (n := 2) X d_law_863 rfl rfl rfl ?_
  refine V_aload_n (n := 0) X d_law_864 rfl rfl rfl ?_
  refine V_iload (n := 4) X d_law_865 rfl rfl ?_
  refine V_iconst (v := 1) X d_law_867 (by decide) rfl ?_
  refine V_iadd X d_law_868 rfl ?_
  obtain ⟨hb, h⟩ := ifn h
  refine V_sld X hX hbl hbA hb d_law_869 rfl ?_
  refine V_aload_n (n := 0) X d_law_870 rfl rfl rfl ?_
  refine V_iload (n := 4) X d_law_871 rfl rfl ?_
  refine V_iconst (v := 2) X d_law_873 (by decide) rfl ?_
  refine V_iadd X d_law_874 rfl ?_
  obtain ⟨hb, h⟩ := ifn h
  refine V_sld X hX hbl hbA hb d_law_875 rfl ?_
  obtain ⟨x74, hx74, h⟩ := ob_s h
  refine V_ci (As := [.int (xs (v4 + (1 : Int32)).toNatClampNeg), .int (xs (v4 + (2 : Int32)).toNatClampNeg)]) X hz0 ml_Lw_129 yq_Mod_reach (c_Mod_reach E.2.1 G (xs (v4 + (1 : Int32)).toNatClampNeg) (xs (v4 + (2 : Int32)).toNatClampNeg) x73.2 x74 hx74 _ (Nat.le_refl _)) kd_162 rfl rfl (by omega) rfl (Nat.le_of_ble_eq_true rfl) d_law_876 rfl (fun r9 M9 hq => ?_)
  rw [hq.1, hq.2]
  refine V_pop X d_law_879 rfl rfl ?_
  refine V_goto (pc' := 1553) X d_law_880 (by decide) ?_
  refine V_iinc (n := 4) (v := (v4 + (5 : Int32))) (lv' := [(4, .int (v4 + (5 : Int32))), (0, .ref b), (1, .ref (G.2.2 + 0)), (2, .ref (G.2.2 + 162)), (3, .ref (G.2.2 + 192))]) X d_law_1553 rfl rfl (by decide) rfl rfl ?_
  refine V_goto (pc' := 23) X d_law_1556 (by decide) ?_
  refine V_wid (cs' := (cs.1 + 1, cs.2 + 6)) ⟨Nat.le_succ _, Nat.le_add_right _ _⟩ ?_
  refine V_sub (lv' := [(0, .ref b), (1, .ref (G.2.2 + 0)), (2, .ref (G.2.2 + 162)), (3, .ref (G.2.2 + 192)), (4, .int (v4 + (5 : Int32)))]) [1, 2, 3, 4, 0] rfl ?_
  exact kc ((v4 + (5 : Int32)), x74.2) (Option.some.inj h).symm
def j_law_883_23 (L : Nat) (xs : Nat → Int32) (v4 : Int32) (M : Mem) : Option ((Int32 × Mem) ⊕ ((Mem) ⊕ (Int32 × Mem))) :=
  if inb (v4 + (1 : Int32)) L = true then
  if inb (v4 + (2 : Int32)) L = true then
  if inb (v4 + (3 : Int32)) L = true then
  Option.bind (f_Top_path (xs (v4 + (1 : Int32)).toNatClampNeg) (xs (v4 + (2 : Int32)).toNatClampNeg) (xs (v4 + (3 : Int32)).toNatClampNeg) M) fun x76 =>
  if inb (v4 + (1 : Int32)) L = true then
  if inb (v4 + (2 : Int32)) L = true then
  if inb (v4 + (3 : Int32)) L = true then
  Option.bind (f_Mod_path (xs (v4 + (1 : Int32)).toNatClampNeg) (xs (v4 + (2 : Int32)).toNatClampNeg) (xs (v4 + (3 : Int32)).toNatClampNeg) x76.2) fun x77 =>
  some (.inl ((v4 + (5 : Int32)), x77.2))
  else none
  else none
  else none
  else none
  else none
  else none
theorem j_law_883_23_ok {E : Ev} {cs : Nat × Nat} {G : Gw} {d : Nat} {Q : State → Prop} {b L : Nat} {xs : Nat → Int32} (X : Cx E G code "WomenByTheRoofsLaw" 7 d ret) (hz0 : Zc E cs) (hz : Zc E (cs.1 + 1, cs.2 + 6)) (hT : Tw G E.2.2.2.2.1 E.2.2.2.2.1.heap) (hl9 : E.2.1.stackTraces = false) (hX : va_X b L xs E.2.2.2.2.1 E.2.2.2.2.1.heap) (hbl : b < E.2.2.2.2.1.heap.size) (hbA : ¬ G.2.2 ≤ b) (hD : 450 ≤ d)  (v4 : Int32)  (M : Mem)  (o : (Int32 × Mem) ⊕ ((Mem) ⊕ (Int32 × Mem))) (h : j_law_883_23 L xs v4 M = some o) (kc : ∀ s9 : Int32 × Mem, o = .inl s9 → V E (cs.1 + 1, cs.2 + 6) G 7 Q s9.2 23 [(0, .ref b), (1, .ref (G.2.2 + 0)), (2, .ref (G.2.2 + 162)), (3, .ref (G.2.2 + 192)), (4, .int s9.1)] []) (kx0 : ∀ x9 : Mem, o = .inr (Sum.inl x9) → V E (cs.1 + 1, cs.2 + 6) G 7 Q x9 1559 [] []) (kr : ∀ x9 : Int32 × Mem, o = .inr (Sum.inr x9) → False) : V E cs G 7 Q M 883 [(0, .ref b), (1, .ref (G.2.2 + 0)), (2, .ref (G.2.2 + 162)), (3, .ref (G.2.2 + 192)), (4, .int v4)] [] := by
  unfold j_law_883_23 at h
  refine V_aload_n (n := 1) X d_law_883 rfl rfl rfl ?_
  refine V_aload_n (n := 0) X d_law_884 rfl rfl rfl ?_
  refine V_iload (n := 4) X d_law_885 rfl rfl ?_
  refine V_iconst (v := 1) X d_law_887 (by decide) rfl ?_
  refine V_iadd X d_law_888 rfl ?_
  obtain ⟨hb, h⟩ := ifn h
  refine V_sld X hX hbl hbA hb d_law_889 rfl ?_
  refine V_aload_n (n := 0) X d_law_890 rfl rfl rfl ?_
  refine V_iload (n := 4) X d_law_891 rfl rfl ?_
  refine V_iconst (v := 2) X d_law_893 (by decide) rfl ?_
  refine V_iadd X d_law_894 rfl ?_
  obtain ⟨hb, h⟩ := ifn h
  refine V_sld X hX hbl hbA hb d_law_895 rfl ?_
  refine V_aload_n (n := 0) X d_law_896 rfl rfl rfl ?_
  refine V_iload (n := 4) X d_law_897 rfl rfl ?_
  refine V_iconst (v := 3) X d_law_899 (by decide) rfl ?_
  refine V_iadd X d_law_900 rfl ?_
  obtain ⟨hb, h⟩ := ifn h
  refine V_sld X hX hbl hbA hb d_law_901 rfl ?_
  obtain ⟨x76, hx76, h⟩ := ob_s h
  refine V_ci (As := [.int (xs (v4 + (1 : Int32)).toNatClampNeg), .int (xs (v4 + (2 : Int32)).toNatClampNeg), .int (xs (v4 + (3 : Int32)).toNatClampNeg)]) X hz0 ml_Lw_130 yq_Top_path (c_Top_path E.2.1 G (xs (v4 + (1 : Int32)).toNatClampNeg) (xs (v4 + (2 : Int32)).toNatClampNeg) (xs (v4 + (3 : Int32)).toNatClampNeg) M x76 hx76 _ (Nat.le_refl _)) kd_0 rfl rfl (by omega) rfl (Nat.le_of_ble_eq_true rfl) d_law_902 rfl (fun r9 M9 hq => ?_)
  rw [hq.1, hq.2]
  refine V_pop X d_law_905 rfl rfl ?_
  refine V_aload_n (n := 2) X d_law_906 rfl rfl rfl ?_
  refine V_aload_n (n := 0) X d_law_907 rfl rfl rfl ?_
  refine V_iload (n := 4) X d_law_908 rfl rfl ?_
  refine V_iconst (v := 1) X d_law_910 (by decide) rfl ?_
  refine V_iadd X d_law_911 rfl ?_
  obtain ⟨hb, h⟩ := ifn h
  refine V_sld X hX hbl hbA hb d_law_912 rfl ?_
  refine V_aload_n (n := 0) X d_law_913 rfl rfl rfl ?_
  refine V_iload (n := 4) X d_law_914 rfl rfl ?_
  refine V_iconst (v := 2) X d_law_916 (by decide) rfl ?_
  refine V_iadd X d_law_917 rfl ?_
  obtain ⟨hb, h⟩ := ifn h
  refine V_sld X hX hbl hbA hb d_law_918 rfl ?_
  refine V_aload_n (n := 0) X d_law_919 rfl rfl rfl ?_
  refine V_iload (n := 4) X d_law_920 rfl rfl ?_
  refine V_iconst (v := 3) X d_law_922 (by decide) rfl ?_
  refine V_iadd X d_law_923 rfl ?_
  obtain ⟨hb, h⟩ := ifn h
  refine V_sld X hX hbl hbA hb d_law_924 rfl ?_
  obtain ⟨x77, hx77, h⟩ := ob_s h
  refine V_ci (As := [.int (xs (v4 + (1 : Int32)).toNatClampNeg), .int (xs (v4 + (2 : Int32)).toNatClampNeg), .int (xs (v4 + (3 : Int32)).toNatClampNeg)]) X hz0 ml_Lw_134 yq_Mod_path (c_Mod_path E.2.1 G (xs (v4 + (1 : Int32)).toNatClampNeg) (xs (v4 + (2 : Int32)).toNatClampNeg) (xs (v4 + (3 : Int32)).toNatClampNeg) x76.2 x77 hx77 _ (Nat.le_refl _)) kd_162 rfl rfl (by omega) rfl (Nat.le_of_ble_eq_true rfl) d_law_925 rfl (fun r9 M9 hq => ?_)
  rw [hq.1, hq.2]
  refine V_pop X d_law_928 rfl rfl ?_
  refine V_goto (pc' := 1553) X d_law_929 (by decide) ?_
  refine V_iinc (n := 4) (v := (v4 + (5 : Int32))) (lv' := [(4, .int (v4 + (5 : Int32))), (0, .ref b), (1, .ref (G.2.2 + 0)), (2, .ref (G.2.2 + 162)), (3, .ref (G.2.2 + 192))]) X d_law_1553 rfl rfl (by decide) rfl rfl ?_
  refine V_goto (pc' := 23) X d_law_1556 (by decide) ?_
  refine V_wid (cs' := (cs.1 + 1, cs.2 + 6)) ⟨Nat.le_succ _, Nat.le_add_right _ _⟩ ?_
  refine V_sub (lv' := [(0, .ref b), (1, .ref (G.2.2 + 0)), (2, .ref (G.2.2 + 162)), (3, .ref (G.2.2 + 192)), (4, .int (v4 + (5 : Int32)))]) [1, 2, 3, 4, 0] rfl ?_
  exact kc ((v4 + (5 : Int32)), x77.2) (Option.some.inj h).symm
def j_law_932_23 (L : Nat) (xs : Nat → Int32) (v4 : Int32) (M : Mem) : Option ((Int32 × Mem) ⊕ ((Mem) ⊕ (Int32 × Mem))) :=
  if inb (v4 + (1 : Int32)) L = true then
  if inb (v4 + (2 : Int32)) L = true then
  if inb (v4 + (3 : Int32)) L = true then
  if inb (v4 + (4 : Int32)) L = true then
  Option.bind (f_Top_both (xs (v4 + (1 : Int32)).toNatClampNeg) (xs (v4 + (2 : Int32)).toNatClampNeg) (xs (v4 + (3 : Int32)).toNatClampNeg) (xs (v4 + (4 : Int32)).toNatClampNeg) M) fun x79 =>
  if inb (v4 + (1 : Int32)) L = true then
  if inb (v4 + (2 : Int32)) L = true then
  if inb (v4 + (3 : Int32)) L = true then
  if inb (v4 + (4 : Int32)) L = true then
  Option.bind (f_Mod_both (xs (v4 + (1 : Int32)).toNatClampNeg) (xs (v4 + (2 : Int32)).toNatClampNeg) (xs (v4 + (3 : Int32)).toNatClampNeg) (xs (v4 + (4 : Int32)).toNatClampNeg) x79.2) fun x80 =>
  some (.inl ((v4 + (5 : Int32)), x80.2))
  else none
  else none
  else none
  else none
  else none
  else none
  else none
  else none
theorem j_law_932_23_ok {E : Ev} {cs : Nat × Nat} {G : Gw} {d : Nat} {Q : State → Prop} {b L : Nat} {xs : Nat → Int32} (X : Cx E G code "WomenByTheRoofsLaw" 7 d ret) (hz0 : Zc E cs) (hz : Zc E (cs.1 + 1, cs.2 + 6)) (hT : Tw G E.2.2.2.2.1 E.2.2.2.2.1.heap) (hl9 : E.2.1.stackTraces = false) (hX : va_X b L xs E.2.2.2.2.1 E.2.2.2.2.1.heap) (hbl : b < E.2.2.2.2.1.heap.size) (hbA : ¬ G.2.2 ≤ b) (hD : 450 ≤ d)  (v4 : Int32)  (M : Mem)  (o : (Int32 × Mem) ⊕ ((Mem) ⊕ (Int32 × Mem))) (h : j_law_932_23 L xs v4 M = some o) (kc : ∀ s9 : Int32 × Mem, o = .inl s9 → V E (cs.1 + 1, cs.2 + 6) G 7 Q s9.2 23 [(0, .ref b), (1, .ref (G.2.2 + 0)), (2, .ref (G.2.2 + 162)), (3, .ref (G.2.2 + 192)), (4, .int s9.1)] []) (kx0 : ∀ x9 : Mem, o = .inr (Sum.inl x9) → V E (cs.1 + 1, cs.2 + 6) G 7 Q x9 1559 [] []) (kr : ∀ x9 : Int32 × Mem, o = .inr (Sum.inr x9) → False) : V E cs G 7 Q M 932 [(0, .ref b), (1, .ref (G.2.2 + 0)), (2, .ref (G.2.2 + 162)), (3, .ref (G.2.2 + 192)), (4, .int v4)] [] := by
  unfold j_law_932_23 at h
  refine V_aload_n (n := 1) X d_law_932 rfl rfl rfl ?_
  refine V_aload_n (n := 0) X d_law_933 rfl rfl rfl ?_
  refine V_iload (n := 4) X d_law_934 rfl rfl ?_
  refine V_iconst (v := 1) X d_law_936 (by decide) rfl ?_
  refine V_iadd X d_law_937 rfl ?_
  obtain ⟨hb, h⟩ := ifn h
  refine V_sld X hX hbl hbA hb d_law_938 rfl ?_
  refine V_aload_n (n := 0) X d_law_939 rfl rfl rfl ?_
  refine V_iload (n := 4) X d_law_940 rfl rfl ?_
  refine V_iconst (v := 2) X d_law_942 (by decide) rfl ?_
  refine V_iadd X d_law_943 rfl ?_
  obtain ⟨hb, h⟩ := ifn h
  refine V_sld X hX hbl hbA hb d_law_944 rfl ?_
  refine V_aload_n (n := 0) X d_law_945 rfl rfl rfl ?_
  refine V_iload (n := 4) X d_law_946 rfl rfl ?_
  refine V_iconst (v := 3) X d_law_948 (by decide) rfl ?_
  refine V_iadd X d_law_949 rfl ?_
  obtain ⟨hb, h⟩ := ifn h
  refine V_sld X hX hbl hbA hb d_law_950 rfl ?_
  refine V_aload_n (n := 0) X d_law_951 rfl rfl rfl ?_
  refine V_iload (n := 4) X d_law_952 rfl rfl ?_
  refine V_iconst (v := 4) X d_law_954 (by decide) rfl ?_
  refine V_iadd X d_law_955 rfl ?_
  obtain ⟨hb, h⟩ := ifn h
  refine V_sld X hX hbl hbA hb d_law_956 rfl ?_
  obtain ⟨x79, hx79, h⟩ := ob_s h
  refine V_ci (As := [.int (xs (v4 + (1 : Int32)).toNatClampNeg), .int (xs (v4 + (2 : Int32)).toNatClampNeg), .int (xs (v4 + (3 : Int32)).toNatClampNeg), .int (xs (v4 + (4 : Int32)).toNatClampNeg)]) X hz0 ml_Lw_135 yq_Top_both (c_Top_both E.2.1 G (xs (v4 + (1 : Int32)).toNatClampNeg) (xs (v4 + (2 : Int32)).toNatClampNeg) (xs (v4 + (3 : Int32)).toNatClampNeg) (xs (v4 + (4 : Int32)).toNatClampNeg) M x79 hx79 _ (Nat.le_refl _)) kd_0 rfl rfl (by omega) rfl (Nat.le_of_ble_eq_true rfl) d_law_957 rfl (fun r9 M9 hq => ?_)
  rw [hq.1, hq.2]
  refine V_pop X d_law_960 rfl rfl ?_
  refine V_aload_n (n := 2) X d_law_961 rfl rfl rfl ?_
  refine V_aload_n (n := 0) X d_law_962 rfl rfl rfl ?_
  refine V_iload (n := 4) X d_law_963 rfl rfl ?_
  refine V_iconst (v := 1) X d_law_965 (by decide) rfl ?_
  refine V_iadd X d_law_966 rfl ?_
  obtain ⟨hb, h⟩ := ifn h
  refine V_sld X hX hbl hbA hb d_law_967 rfl ?_
  refine V_aload_n (n := 0) X d_law_968 rfl rfl rfl ?_
  refine V_iload (n := 4) X d_law_969 rfl rfl ?_
  refine V_iconst (v := 2) X d_law_971 (by decide) rfl ?_
  refine V_iadd X d_law_972 rfl ?_
  obtain ⟨hb, h⟩ := ifn h
  refine V_sld X hX hbl hbA hb d_law_973 rfl ?_
  refine V_aload_n (n := 0) X d_law_974 rfl rfl rfl ?_
  refine V_iload (n := 4) X d_law_975 rfl rfl ?_
  refine V_iconst (v := 3) X d_law_977 (by decide) rfl ?_
  refine V_iadd X d_law_978 rfl ?_
  obtain ⟨hb, h⟩ := ifn h
  refine V_sld X hX hbl hbA hb d_law_979 rfl ?_
  refine V_aload_n (n := 0) X d_law_980 rfl rfl rfl ?_
  refine V_iload (n := 4) X d_law_981 rfl rfl ?_
  refine V_iconst (v := 4) X d_law_983 (by decide) rfl ?_
  refine V_iadd X d_law_984 rfl ?_
  obtain ⟨hb, h⟩ := ifn h
  refine V_sld X hX hbl hbA hb d_law_985 rfl ?_
  obtain ⟨x80, hx80, h⟩ := ob_s h
  refine V_ci (As := [.int (xs (v4 + (1 : Int32)).toNatClampNeg), .int (xs (v4 + (2 : Int32)).toNatClampNeg), .int (xs (v4 + (3 : Int32)).toNatClampNeg), .int (xs (v4 + (4 : Int32)).toNatClampNeg)]) X hz0 ml_Lw_138 yq_Mod_both (c_Mod_both E.2.1 G (xs (v4 + (1 : Int32)).toNatClampNeg) (xs (v4 + (2 : Int32)).toNatClampNeg) (xs (v4 + (3 : Int32)).toNatClampNeg) (xs (v4 + (4 : Int32)).toNatClampNeg) x79.2 x80 hx80 _ (Nat.le_refl _)) kd_162 rfl rfl (by omega) rfl (Nat.le_of_ble_eq_true rfl) d_law_986 rfl (fun r9 M9 hq => ?_)
  rw [hq.1, hq.2]
  refine V_pop X d_law_989 rfl rfl ?_
  refine V_goto (pc' := 1553) X d_law_990 (by decide) ?_
  refine V_iinc (n := 4) (v := (v4 + (5 : Int32))) (lv' := [(4, .int (v4 + (5 : Int32))), (0, .ref b), (1, .ref (G.2.2 + 0)), (2, .ref (G.2.2 + 162)), (3, .ref (G.2.2 + 192))]) X d_law_1553 rfl rfl (by decide) rfl rfl ?_
  refine V_goto (pc' := 23) X d_law_1556 (by decide) ?_
  refine V_wid (cs' := (cs.1 + 1, cs.2 + 6)) ⟨Nat.le_succ _, Nat.le_add_right _ _⟩ ?_
  refine V_sub (lv' := [(0, .ref b), (1, .ref (G.2.2 + 0)), (2, .ref (G.2.2 + 162)), (3, .ref (G.2.2 + 192)), (4, .int (v4 + (5 : Int32)))]) [1, 2, 3, 4, 0] rfl ?_
  exact kc ((v4 + (5 : Int32)), x80.2) (Option.some.inj h).symm
def j_law_993_23 (L : Nat) (xs : Nat → Int32) (v4 : Int32) (M : Mem) : Option ((Int32 × Mem) ⊕ ((Mem) ⊕ (Int32 × Mem))) :=
  if inb (v4 + (1 : Int32)) L = true then
  if inb (v4 + (2 : Int32)) L = true then
  Option.bind (f_Top_errand (xs (v4 + (1 : Int32)).toNatClampNeg) (xs (v4 + (2 : Int32)).toNatClampNeg) M) fun x82 =>
  if inb (v4 + (1 : Int32)) L = true then
  if inb (v4 + (2 : Int32)) L = true then
  Option.bind (f_Mod_errand (xs (v4 + (1 : Int32)).toNatClampNeg) (xs (v4 + (2 : Int32)).toNatClampNeg) x82.2) fun x83 =>
  some (.inl ((v4 + (5 : Int32)), x83.2))
  else none
  else none
  else none
  else none
theorem j_law_993_23_ok {E : Ev} {cs : Nat × Nat} {G : Gw} {d : Nat} {Q : State → Prop} {b L : Nat} {xs : Nat → Int32} (X : Cx E G code "WomenByTheRoofsLaw" 7 d ret) (hz0 : Zc E cs) (hz : Zc E (cs.1 + 1, cs.2 + 6)) (hT : Tw G E.2.2.2.2.1 E.2.2.2.2.1.heap) (hl9 : E.2.1.stackTraces = false) (hX : va_X b L xs E.2.2.2.2.1 E.2.2.2.2.1.heap) (hbl : b < E.2.2.2.2.1.heap.size) (hbA : ¬ G.2.2 ≤ b) (hD : 450 ≤ d)  (v4 : Int32)  (M : Mem)  (o : (Int32 × Mem) ⊕ ((Mem) ⊕ (Int32 × Mem))) (h : j_law_993_23 L xs v4 M = some o) (kc : ∀ s9 : Int32 × Mem, o = .inl s9 → V E (cs.1 + 1, cs.2 + 6) G 7 Q s9.2 23 [(0, .ref b), (1, .ref (G.2.2 + 0)), (2, .ref (G.2.2 + 162)), (3, .ref (G.2.2 + 192)), (4, .int s9.1)] []) (kx0 : ∀ x9 : Mem, o = .inr (Sum.inl x9) → V E (cs.1 + 1, cs.2 + 6) G 7 Q x9 1559 [] []) (kr : ∀ x9 : Int32 × Mem, o = .inr (Sum.inr x9) → False) : V E cs G 7 Q M 993 [(0, .ref b), (1, .ref (G.2.2 + 0)), (2, .ref (G.2.2 + 162)), (3, .ref (G.2.2 + 192)), (4, .int v4)] [] := by
  unfold j_law_993_23 at h
  refine V_aload_n (n := 1) X d_law_993 rfl rfl rfl ?_
  refine V_aload_n (n := 0) X d_law_994 rfl rfl rfl ?_
  refine V_iload (n := 4) X d_law_995 rfl rfl ?_
  refine V_iconst (v := 1) X d_law_997 (by decide) rfl ?_
  refine V_iadd X d_law_998 rfl ?_
  obtain ⟨hb, h⟩ := ifn h
  refine V_sld X hX hbl hbA hb d_law_999 rfl ?_
  refine V_aload_n (n := 0) X d_law_1000 rfl rfl rfl ?_
  refine V_iload (n := 4) X d_law_1001 rfl rfl ?_
  refine V_iconst (v := 2) X d_law_1003 (by decide) rfl ?_
  refine V_iadd X d_law_1004 rfl ?_
  obtain ⟨hb, h⟩ := ifn h
  refine V_sld X hX hbl hbA hb d_law_1005 rfl ?_
  obtain ⟨x82, hx82, h⟩ := ob_s h
  refine V_ci (As := [.int (xs (v4 + (1 : Int32)).toNatClampNeg), .int (xs (v4 + (2 : Int32)).toNatClampNeg)]) X hz0 ml_Lw_139 yq_Top_errand (c_Top_errand E.2.1 G (xs (v4 + (1 : Int32)).toNatClampNeg) (xs (v4 + (2 : Int32)).toNatClampNeg) M x82 hx82 _ (Nat.le_refl _)) kd_0 rfl rfl (by omega) rfl (Nat.le_of_ble_eq_true rfl) d_law_1006 rfl (fun r9 M9 hq => ?_)
  rw [hq.1, hq.2]
  refine V_pop X d_law_1009 rfl rfl ?_
  refine V_aload_n (n := 2) X d_law_1010 rfl rfl rfl ?_
  refine V_aload_n (n := 0) X d_law_1011 rfl rfl rfl ?_
  refine V_iload (n := 4) X d_law_1012 rfl rfl ?_
  refine V_iconst (v := 1) X d_law_1014 (by decide) rfl ?_
  refine V_iadd X d_law_1015 rfl ?_
  obtain ⟨hb, h⟩ := ifn h
  refine V_sld X hX hbl hbA hb d_law_1016 rfl ?_
  refine V_aload_n (n := 0) X d_law_1017 rfl rfl rfl ?_
  refine V_iload (n := 4) X d_law_1018 rfl rfl ?_
  refine V_iconst (v := 2) X d_law_1020 (by decide) rfl ?_
  refine V_iadd X d_law_1021 rfl ?_
  obtain ⟨hb, h⟩ := ifn h
  refine V_sld X hX hbl hbA hb d_law_1022 rfl ?_
  obtain ⟨x83, hx83, h⟩ := ob_s h
  refine V_ci (As := [.int (xs (v4 + (1 : Int32)).toNatClampNeg), .int (xs (v4 + (2 : Int32)).toNatClampNeg)]) X hz0 ml_Lw_142 yq_Mod_errand (c_Mod_errand E.2.1 G (xs (v4 + (1 : Int32)).toNatClampNeg) (xs (v4 + (2 : Int32)).toNatClampNeg) x82.2 x83 hx83 _ (Nat.le_refl _)) kd_162 rfl rfl (by omega) rfl (Nat.le_of_ble_eq_true rfl) d_law_1023 rfl (fun r9 M9 hq => ?_)
  rw [hq.1, hq.2]
  refine V_pop X d_law_1026 rfl rfl ?_
  refine V_goto (pc' := 1553) X d_law_1027 (by decide) ?_
  refine V_iinc (n := 4) (v := (v4 + (5 : Int32))) (lv' := [(4, .int (v4 + (5 : Int32))), (0, .ref b), (1, .ref (G.2.2 + 0)), (2, .ref (G.2.2 + 162)), (3, .ref (G.2.2 + 192))]) X d_law_1553 rfl rfl (by decide) rfl rfl ?_
  refine V_goto (pc' := 23) X d_law_1556 (by decide) ?_
  refine V_wid (cs' := (cs.1 + 1, cs.2 + 6)) ⟨Nat.le_succ _, Nat.le_add_right _ _⟩ ?_
  refine V_sub (lv' := [(0, .ref b), (1, .ref (G.2.2 + 0)), (2, .ref (G.2.2 + 162)), (3, .ref (G.2.2 + 192)), (4, .int (v4 + (5 : Int32)))]) [1, 2, 3, 4, 0] rfl ?_
  exact kc ((v4 + (5 : Int32)), x83.2) (Option.some.inj h).symm
def j_law_1030_23 (L : Nat) (xs : Nat → Int32) (v4 : Int32) (M : Mem) : Option ((Int32 × Mem) ⊕ ((Mem) ⊕ (Int32 × Mem))) :=
  if inb (v4 + (1 : Int32)) L = true then
  if inb (v4 + (2 : Int32)) L = true then
  Option.bind (f_Top_tryst (xs (v4 + (1 : Int32)).toNatClampNeg) (xs (v4 + (2 : Int32)).toNatClampNeg) M) fun x85 =>
  if inb (v4 + (1 : Int32)) L = true then
  if inb (v4 + (2 : Int32)) L = true then
  Option.bind (f_Mod_tryst (xs (v4 + (1 : Int32)).toNatClampNeg) (xs (v4 + (2 : Int32)).toNatClampNeg) x85.2) fun x86 =>
  some (.inl ((v4 + (5 : Int32)), x86.2))
  else none
  else none
  else none
  else none
theorem j_law_1030_23_ok {E : Ev} {cs : Nat × Nat} {G : Gw} {d : Nat} {Q : State → Prop} {b L : Nat} {xs : Nat → Int32} (X : Cx E G code "WomenByTheRoofsLaw" 7 d ret) (hz0 : Zc E cs) (hz : Zc E (cs.1 + 1, cs.2 + 6)) (hT : Tw G E.2.2.2.2.1 E.2.2.2.2.1.heap) (hl9 : E.2.1.stackTraces = false) (hX : va_X b L xs E.2.2.2.2.1 E.2.2.2.2.1.heap) (hbl : b < E.2.2.2.2.1.heap.size) (hbA : ¬ G.2.2 ≤ b) (hD : 450 ≤ d)  (v4 : Int32)  (M : Mem)  (o : (Int32 × Mem) ⊕ ((Mem) ⊕ (Int32 × Mem))) (h : j_law_1030_23 L xs v4 M = some o) (kc : ∀ s9 : Int32 × Mem, o = .inl s9 → V E (cs.1 + 1, cs.2 + 6) G 7 Q s9.2 23 [(0, .ref b), (1, .ref (G.2.2 + 0)), (2, .ref (G.2.2 + 162)), (3, .ref (G.2.2 + 192)), (4, .int s9.1)] []) (kx0 : ∀ x9 : Mem, o = .inr (Sum.inl x9) → V E (cs.1 + 1, cs.2 + 6) G 7 Q x9 1559 [] []) (kr : ∀ x9 : Int32 × Mem, o = .inr (Sum.inr x9) → False) : V E cs G 7 Q M 1030 [(0, .ref b), (1, .ref (G.2.2 + 0)), (2, .ref (G.2.2 + 162)), (3, .ref (G.2.2 + 192)), (4, .int v4)] [] := by
  unfold j_law_1030_23 at h
  refine V_aload_n (n := 1) X d_law_1030 rfl rfl rfl ?_
  refine V_aload_n (n := 0) X d_law_1031 rfl rfl rfl ?_
  refine V_iload (n := 4) X d_law_1032 rfl rfl ?_
  refine V_iconst (v := 1) X d_law_1034 (by decide) rfl ?_
  refine V_iadd X d_law_1035 rfl ?_
  obtain ⟨hb, h⟩ := ifn h
  refine V_sld X hX hbl hbA hb d_law_1036 rfl ?_
  refine V_aload_n (n := 0) X d_law_1037 rfl rfl rfl ?_
  refine V_iload (n := 4) X d_law_1038 rfl rfl ?_
  refine V_iconst (v := 2) X d_law_1040 (by decide) rfl ?_
  refine V_iadd X d_law_1041 rfl ?_
  obtain ⟨hb, h⟩ := ifn h
  refine V_sld X hX hbl hbA hb d_law_1042 rfl ?_
  obtain ⟨x85, hx85, h⟩ := ob_s h
  refine V_ci (As := [.int (xs (v4 + (1 : Int32)).toNatClampNeg), .int (xs (v4 + (2 : Int32)).toNatClampNeg)]) X hz0 ml_Lw_143 yq_Top_tryst (c_Top_tryst E.2.1 G (xs (v4 + (1 : Int32)).toNatClampNeg) (xs (v4 + (2 : Int32)).toNatClampNeg) M x85 hx85 _ (Nat.le_refl _)) kd_0 rfl rfl (by omega) rfl (Nat.le_of_ble_eq_true rfl) d_law_1043 rfl (fun r9 M9 hq => ?_)
  rw [hq.1, hq.2]
  refine V_pop X d_law_1046 rfl rfl ?_
  refine V_aload_n (n := 2) X d_law_1047 rfl rfl rfl ?_
  refine V_aload_n (n := 0) X d_law_1048 rfl rfl rfl ?_
  refine V_iload (n := 4) X d_law_1049 rfl rfl ?_
  refine V_iconst (v := 1) X d_law_1051 (by decide) rfl ?_
  refine V_iadd X d_law_1052 rfl ?_
  obtain ⟨hb, h⟩ := ifn h
  refine V_sld X hX hbl hbA hb d_law_1053 rfl ?_
  refine V_aload_n (n := 0) X d_law_1054 rfl rfl rfl ?_
  refine V_iload (n := 4) X d_law_1055 rfl rfl ?_
  refine V_iconst (v := 2) X d_law_1057 (by decide) rfl ?_
  refine V_iadd X d_law_1058 rfl ?_
  obtain ⟨hb, h⟩ := ifn h
  refine V_sld X hX hbl hbA hb d_law_1059 rfl ?_
  obtain ⟨x86, hx86, h⟩ := ob_s h
  refine V_ci (As := [.int (xs (v4 + (1 : Int32)).toNatClampNeg), .int (xs (v4 + (2 : Int32)).toNatClampNeg)]) X hz0 ml_Lw_146 yq_Mod_tryst (c_Mod_tryst E.2.1 G (xs (v4 + (1 : Int32)).toNatClampNeg) (xs (v4 + (2 : Int32)).toNatClampNeg) x85.2 x86 hx86 _ (Nat.le_refl _)) kd_162 rfl rfl (by omega) rfl (Nat.le_of_ble_eq_true rfl) d_law_1060 rfl (fun r9 M9 hq => ?_)
  rw [hq.1, hq.2]
  refine V_pop X d_law_1063 rfl rfl ?_
  refine V_goto (pc' := 1553) X d_law_1064 (by decide) ?_
  refine V_iinc (n := 4) (v := (v4 + (5 : Int32))) (lv' := [(4, .int (v4 + (5 : Int32))), (0, .ref b), (1, .ref (G.2.2 + 0)), (2, .ref (G.2.2 + 162)), (3, .ref (G.2.2 + 192))]) X d_law_1553 rfl rfl (by decide) rfl rfl ?_
  refine V_goto (pc' := 23) X d_law_1556 (by decide) ?_
  refine V_wid (cs' := (cs.1 + 1, cs.2 + 6)) ⟨Nat.le_succ _, Nat.le_add_right _ _⟩ ?_
  refine V_sub (lv' := [(0, .ref b), (1, .ref (G.2.2 + 0)), (2, .ref (G.2.2 + 162)), (3, .ref (G.2.2 + 192)), (4, .int (v4 + (5 : Int32)))]) [1, 2, 3, 4, 0] rfl ?_
  exact kc ((v4 + (5 : Int32)), x86.2) (Option.some.inj h).symm
def j_law_1067_23 (L : Nat) (xs : Nat → Int32) (v4 : Int32) (M : Mem) : Option ((Int32 × Mem) ⊕ ((Mem) ⊕ (Int32 × Mem))) :=
  if inb (v4 + (1 : Int32)) L = true then
  if inb (v4 + (2 : Int32)) L = true then
  Option.bind (f_Top_open (xs (v4 + (1 : Int32)).toNatClampNeg) (xs (v4 + (2 : Int32)).toNatClampNeg) M) fun x88 =>
  if inb (v4 + (1 : Int32)) L = true then
  if inb (v4 + (2 : Int32)) L = true then
  Option.bind (f_Mod_open (xs (v4 + (1 : Int32)).toNatClampNeg) (xs (v4 + (2 : Int32)).toNatClampNeg) x88.2) fun x89 =>
  some (.inl ((v4 + (5 : Int32)), x89.2))
  else none
  else none
  else none
  else none
theorem j_law_1067_23_ok {E : Ev} {cs : Nat × Nat} {G : Gw} {d : Nat} {Q : State → Prop} {b L : Nat} {xs : Nat → Int32} (X : Cx E G code "WomenByTheRoofsLaw" 7 d ret) (hz0 : Zc E cs) (hz : Zc E (cs.1 + 1, cs.2 + 6)) (hT : Tw G E.2.2.2.2.1 E.2.2.2.2.1.heap) (hl9 : E.2.1.stackTraces = false) (hX : va_X b L xs E.2.2.2.2.1 E.2.2.2.2.1.heap) (hbl : b < E.2.2.2.2.1.heap.size) (hbA : ¬ G.2.2 ≤ b) (hD : 450 ≤ d)  (v4 : Int32)  (M : Mem)  (o : (Int32 × Mem) ⊕ ((Mem) ⊕ (Int32 × Mem))) (h : j_law_1067_23 L xs v4 M = some o) (kc : ∀ s9 : Int32 × Mem, o = .inl s9 → V E (cs.1 + 1, cs.2 + 6) G 7 Q s9.2 23 [(0, .ref b), (1, .ref (G.2.2 + 0)), (2, .ref (G.2.2 + 162)), (3, .ref (G.2.2 + 192)), (4, .int s9.1)] []) (kx0 : ∀ x9 : Mem, o = .inr (Sum.inl x9) → V E (cs.1 + 1, cs.2 + 6) G 7 Q x9 1559 [] []) (kr : ∀ x9 : Int32 × Mem, o = .inr (Sum.inr x9) → False) : V E cs G 7 Q M 1067 [(0, .ref b), (1, .ref (G.2.2 + 0)), (2, .ref (G.2.2 + 162)), (3, .ref (G.2.2 + 192)), (4, .int v4)] [] := by
  unfold j_law_1067_23 at h
  refine V_aload_n (n := 1) X d_law_1067 rfl rfl rfl ?_
  refine V_aload_n (n := 0) X d_law_1068 rfl rfl rfl ?_
  refine V_iload (n := 4) X d_law_1069 rfl rfl ?_
  refine V_iconst (v := 1) X d_law_1071 (by decide) rfl ?_
  refine V_iadd X d_law_1072 rfl ?_
  obtain ⟨hb, h⟩ := ifn h
  refine V_sld X hX hbl hbA hb d_law_1073 rfl ?_
  refine V_aload_n (n := 0) X d_law_1074 rfl rfl rfl ?_
  refine V_iload (n := 4) X d_law_1075 rfl rfl ?_
  refine V_iconst (v := 2) X d_law_1077 (by decide) rfl ?_
  refine V_iadd X d_law_1078 rfl ?_
  obtain ⟨hb, h⟩ := ifn h
  refine V_sld X hX hbl hbA hb d_law_1079 rfl ?_
  obtain ⟨x88, hx88, h⟩ := ob_s h
  refine V_ci (As := [.int (xs (v4 + (1 : Int32)).toNatClampNeg), .int (xs (v4 + (2 : Int32)).toNatClampNeg)]) X hz0 ml_Lw_147 yq_Top_open (c_Top_open E.2.1 G (xs (v4 + (1 : Int32)).toNatClampNeg) (xs (v4 + (2 : Int32)).toNatClampNeg) M x88 hx88 _ (Nat.le_refl _)) kd_0 rfl rfl (by omega) rfl (Nat.le_of_ble_eq_true rfl) d_law_1080 rfl (fun r9 M9 hq => ?_)
  rw [hq.1, hq.2]
  refine V_pop X d_law_1083 rfl rfl ?_
  refine V_aload_n (n := 2) X d_law_1084 rfl rfl rfl ?_
  refine V_aload_n (n := 0) X d_law_1085 rfl rfl rfl ?_
  refine V_iload (n := 4) X d_law_1086 rfl rfl ?_
  refine V_iconst (v := 1) X d_law_1088 (by decide) rfl ?_
  refine V_iadd X d_law_1089 rfl ?_
  obtain ⟨hb, h⟩ := ifn h
  refine V_sld X hX hbl hbA hb d_law_1090 rfl ?_
  refine V_aload_n (n := 0) X d_law_1091 rfl rfl rfl ?_
  refine V_iload (n := 4) X d_law_1092 rfl rfl ?_
  refine V_iconst (v := 2) X d_law_1094 (by decide) rfl ?_
  refine V_iadd X d_law_1095 rfl ?_
  obtain ⟨hb, h⟩ := ifn h
  refine V_sld X hX hbl hbA hb d_law_1096 rfl ?_
  obtain ⟨x89, hx89, h⟩ := ob_s h
  refine V_ci (As := [.int (xs (v4 + (1 : Int32)).toNatClampNeg), .int (xs (v4 + (2 : Int32)).toNatClampNeg)]) X hz0 ml_Lw_150 yq_Mod_open (c_Mod_open E.2.1 G (xs (v4 + (1 : Int32)).toNatClampNeg) (xs (v4 + (2 : Int32)).toNatClampNeg) x88.2 x89 hx89 _ (Nat.le_refl _)) kd_162 rfl rfl (by omega) rfl (Nat.le_of_ble_eq_true rfl) d_law_1097 rfl (fun r9 M9 hq => ?_)
  rw [hq.1, hq.2]
  refine V_pop X d_law_1100 rfl rfl ?_
  refine V_goto (pc' := 1553) X d_law_1101 (by decide) ?_
  refine V_iinc (n := 4) (v := (v4 + (5 : Int32))) (lv' := [(4, .int (v4 + (5 : Int32))), (0, .ref b), (1, .ref (G.2.2 + 0)), (2, .ref (G.2.2 + 162)), (3, .ref (G.2.2 + 192))]) X d_law_1553 rfl rfl (by decide) rfl rfl ?_
  refine V_goto (pc' := 23) X d_law_1556 (by decide) ?_
  refine V_wid (cs' := (cs.1 + 1, cs.2 + 6)) ⟨Nat.le_succ _, Nat.le_add_right _ _⟩ ?_
  refine V_sub (lv' := [(0, .ref b), (1, .ref (G.2.2 + 0)), (2, .ref (G.2.2 + 162)), (3, .ref (G.2.2 + 192)), (4, .int (v4 + (5 : Int32)))]) [1, 2, 3, 4, 0] rfl ?_
  exact kc ((v4 + (5 : Int32)), x89.2) (Option.some.inj h).symm
def j_law_1104_23 (L : Nat) (xs : Nat → Int32) (v4 : Int32) (M : Mem) : Option ((Int32 × Mem) ⊕ ((Mem) ⊕ (Int32 × Mem))) :=
  if inb (v4 + (1 : Int32)) L = true then
  if inb (v4 + (2 : Int32)) L = true then
  Option.bind (f_Top_part (xs (v4 + (1 : Int32)).toNatClampNeg) (xs (v4 + (2 : Int32)).toNatClampNeg) M) fun x91 =>
  if inb (v4 + (1 : Int32)) L = true then
  if inb (v4 + (2 : Int32)) L = true then
  Option.bind (f_Mod_part (xs (v4 + (1 : Int32)).toNatClampNeg) (xs (v4 + (2 : Int32)).toNatClampNeg) x91.2) fun x92 =>
  some (.inl ((v4 + (5 : Int32)), x92.2))
  else none
  else none
  else none
  else none
theorem j_law_1104_23_ok {E : Ev} {cs : Nat × Nat} {G : Gw} {d : Nat} {Q : State → Prop} {b L : Nat} {xs : Nat → Int32} (X : Cx E G code "WomenByTheRoofsLaw" 7 d ret) (hz0 : Zc E cs) (hz : Zc E (cs.1 + 1, cs.2 + 6)) (hT : Tw G E.2.2.2.2.1 E.2.2.2.2.1.heap) (hl9 : E.2.1.stackTraces = false) (hX : va_X b L xs E.2.2.2.2.1 E.2.2.2.2.1.heap) (hbl : b < E.2.2.2.2.1.heap.size) (hbA : ¬ G.2.2 ≤ b) (hD : 450 ≤ d)  (v4 : Int32)  (M : Mem)  (o : (Int32 × Mem) ⊕ ((Mem) ⊕ (Int32 × Mem))) (h : j_law_1104_23 L xs v4 M = some o) (kc : ∀ s9 : Int32 × Mem, o = .inl s9 → V E (cs.1 + 1, cs.2 + 6) G 7 Q s9.2 23 [(0, .ref b), (1, .ref (G.2.2 + 0)), (2, .ref (G.2.2 + 162)), (3, .ref (G.2.2 + 192)), (4, .int s9.1)] []) (kx0 : ∀ x9 : Mem, o = .inr (Sum.inl x9) → V E (cs.1 + 1, cs.2 + 6) G 7 Q x9 1559 [] []) (kr : ∀ x9 : Int32 × Mem, o = .inr (Sum.inr x9) → False) : V E cs G 7 Q M 1104 [(0, .ref b), (1, .ref (G.2.2 + 0)), (2, .ref (G.2.2 + 162)), (3, .ref (G.2.2 + 192)), (4, .int v4)] [] := by
  unfold j_law_1104_23 at h
  refine V_aload_n (n := 1) X d_law_1104 rfl rfl rfl ?_
  refine V_aload_n (n := 0) X d_law_1105 rfl rfl rfl ?_
  refine V_iload (n := 4) X d_law_1106 rfl rfl ?_
  refine V_iconst (v := 1) X d_law_1108 (by decide) rfl ?_
  refine V_iadd X d_law_1109 rfl ?_
  obtain ⟨hb, h⟩ := ifn h
  refine V_sld X hX hbl hbA hb d_law_1110 rfl ?_
  refine V_aload_n (n := 0) X d_law_1111 rfl rfl rfl ?_
  refine V_iload (n := 4) X d_law_1112 rfl rfl ?_
  refine V_iconst (v := 2) X d_law_1114 (by decide) rfl ?_
  refine V_iadd X d_law_1115 rfl ?_
  obtain ⟨hb, h⟩ := ifn h
  refine V_sld X hX hbl hbA hb d_law_1116 rfl ?_
  obtain ⟨x91, hx91, h⟩ := ob_s h
  refine V_ci (As := [.int (xs (v4 + (1 : Int32)).toNatClampNeg), .int (xs (v4 + (2 : Int32)).toNatClampNeg)]) X hz0 ml_Lw_151 yq_Top_part (c_Top_part E.2.1 G (xs (v4 + (1 : Int32)).toNatClampNeg) (xs (v4 + (2 : Int32)).toNatClampNeg) M x91 hx91 _ (Nat.le_refl _)) kd_0 rfl rfl (by omega) rfl (Nat.le_of_ble_eq_true rfl) d_law_1117 rfl (fun r9 M9 hq => ?_)
  rw [hq.1, hq.2]
  refine V_pop X d_law_1120 rfl rfl ?_
  refine V_aload_n (n := 2) X d_law_1121 rfl rfl rfl ?_
  refine V_aload_n (n := 0) X d_law_1122 rfl rfl rfl ?_
  refine V_iload (n := 4) X d_law_1123 rfl rfl ?_
  refine V_iconst (v := 1) X d_law_1125 (by decide) rfl ?_
  refine V_iadd X d_law_1126 rfl ?_
  obtain ⟨hb, h⟩ := ifn h
  refine V_sld X hX hbl hbA hb d_law_1127 rfl ?_
  refine V_aload_n (n := 0) X d_law_1128 rfl rfl rfl ?_
  refine V_iload (n := 4) X d_law_1129 rfl rfl ?_
  refine V_iconst (v := 2) X d_law_1131 (by decide) rfl ?_
  refine V_iadd X d_law_1132 rfl ?_
  obtain ⟨hb, h⟩ := ifn h
  refine V_sld X hX hbl hbA hb d_law_1133 rfl ?_
  obtain ⟨x92, hx92, h⟩ := ob_s h
  refine V_ci (As := [.int (xs (v4 + (1 : Int32)).toNatClampNeg), .int (xs (v4 + (2 : Int32)).toNatClampNeg)]) X hz0 ml_Lw_154 yq_Mod_part (c_Mod_part E.2.1 G (xs (v4 + (1 : Int32)).toNatClampNeg) (xs (v4 + (2 : Int32)).toNatClampNeg) x91.2 x92 hx92 _ (Nat.le_refl _)) kd_162 rfl rfl (by omega) rfl (Nat.le_of_ble_eq_true rfl) d_law_1134 rfl (fun r9 M9 hq => ?_)
  rw [hq.1, hq.2]
  refine V_pop X d_law_1137 rfl rfl ?_
  refine V_goto (pc' := 1553) X d_law_1138 (by decide) ?_
  refine V_iinc (n := 4) (v := (v4 + (5 : Int32))) (lv' := [(4, .int (v4 + (5 : Int32))), (0, .ref b), (1, .ref (G.2.2 + 0)), (2, .ref (G.2.2 + 162)), (3, .ref (G.2.2 + 192))]) X d_law_1553 rfl rfl (by decide) rfl rfl ?_
  refine V_goto (pc' := 23) X d_law_1556 (by decide) ?_
  refine V_wid (cs' := (cs.1 + 1, cs.2 + 6)) ⟨Nat.le_succ _, Nat.le_add_right _ _⟩ ?_
  refine V_sub (lv' := [(0, .ref b), (1, .ref (G.2.2 + 0)), (2, .ref (G.2.2 + 162)), (3, .ref (G.2.2 + 192)), (4, .int (v4 + (5 : Int32)))]) [1, 2, 3, 4, 0] rfl ?_
  exact kc ((v4 + (5 : Int32)), x92.2) (Option.some.inj h).symm
def j_law_1141_23 (L : Nat) (xs : Nat → Int32) (v4 : Int32) (M : Mem) : Option ((Int32 × Mem) ⊕ ((Mem) ⊕ (Int32 × Mem))) :=
  if inb (v4 + (1 : Int32)) L = true then
  if inb (v4 + (2 : Int32)) L = true then
  Option.bind (f_Top_planks (xs (v4 + (1 : Int32)).toNatClampNeg) (xs (v4 + (2 : Int32)).toNatClampNeg) M) fun x94 =>
  if inb (v4 + (1 : Int32)) L = true then
  if inb (v4 + (2 : Int32)) L = true then
  Option.bind (f_Mod_planks (xs (v4 + (1 : Int32)).toNatClampNeg) (xs (v4 + (2 : Int32)).toNatClampNeg) x94.2) fun x95 =>
  some (.inl ((v4 + (5 : Int32)), x95.2))
  else none
  else none
  else none
  else none
theorem j_law_1141_23_ok {E : Ev} {cs : Nat × Nat} {G : Gw} {d : Nat} {Q : State → Prop} {b L : Nat} {xs : Nat → Int32} (X : Cx E G code "WomenByTheRoofsLaw" 7 d ret) (hz0 : Zc E cs) (hz : Zc E (cs.1 + 1, cs.2 + 6)) (hT : Tw G E.2.2.2.2.1 E.2.2.2.2.1.heap) (hl9 : E.2.1.stackTraces = false) (hX : va_X b L xs E.2.2.2.2.1 E.2.2.2.2.1.heap) (hbl : b < E.2.2.2.2.1.heap.size) (hbA : ¬ G.2.2 ≤ b) (hD : 450 ≤ d)  (v4 : Int32)  (M : Mem)  (o : (Int32 × Mem) ⊕ ((Mem) ⊕ (Int32 × Mem))) (h : j_law_1141_23 L xs v4 M = some o) (kc : ∀ s9 : Int32 × Mem, o = .inl s9 → V E (cs.1 + 1, cs.2 + 6) G 7 Q s9.2 23 [(0, .ref b), (1, .ref (G.2.2 + 0)), (2, .ref (G.2.2 + 162)), (3, .ref (G.2.2 + 192)), (4, .int s9.1)] []) (kx0 : ∀ x9 : Mem, o = .inr (Sum.inl x9) → V E (cs.1 + 1, cs.2 + 6) G 7 Q x9 1559 [] []) (kr : ∀ x9 : Int32 × Mem, o = .inr (Sum.inr x9) → False) : V E cs G 7 Q M 1141 [(0, .ref b), (1, .ref (G.2.2 + 0)), (2, .ref (G.2.2 + 162)), (3, .ref (G.2.2 + 192)), (4, .int v4)] [] := by
  unfold j_law_1141_23 at h
  refine V_aload_n (n := 1) X d_law_1141 rfl rfl rfl ?_
  refine V_aload_n (n := 0) X d_law_1142 rfl rfl rfl ?_
  refine V_iload (n := 4) X d_law_1143 rfl rfl ?_
  refine V_iconst (v := 1) X d_law_1145 (by decide) rfl ?_
  refine V_iadd X d_law_1146 rfl ?_
  obtain ⟨hb, h⟩ := ifn h
  refine V_sld X hX hbl hbA hb d_law_1147 rfl ?_
  refine V_aload_n (n := 0) X d_law_1148 rfl rfl rfl ?_
  refine V_iload (n := 4) X d_law_1149 rfl rfl ?_
  refine V_iconst (v := 2) X d_law_1151 (by decide) rfl ?_
  refine V_iadd X d_law_1152 rfl ?_
  obtain ⟨hb, h⟩ := ifn h
  refine V_sld X hX hbl hbA hb d_law_1153 rfl ?_
  obtain ⟨x94, hx94, h⟩ := ob_s h
  refine V_ci (As := [.int (xs (v4 + (1 : Int32)).toNatClampNeg), .int (xs (v4 + (2 : Int32)).toNatClampNeg)]) X hz0 ml_Lw_155 yq_Top_planks (c_Top_planks E.2.1 G (xs (v4 + (1 : Int32)).toNatClampNeg) (xs (v4 + (2 : Int32)).toNatClampNeg) M x94 hx94 _ (Nat.le_refl _)) kd_0 rfl rfl (by omega) rfl (Nat.le_of_ble_eq_true rfl) d_law_1154 rfl (fun r9 M9 hq => ?_)
  rw [hq.1, hq.2]
  refine V_pop X d_law_1157 rfl rfl ?_
  refine V_aload_n (n := 2) X d_law_1158 rfl rfl rfl ?_
  refine V_aload_n (n := 0) X d_law_1159 rfl rfl rfl ?_
  refine V_iload (n := 4) X d_law_1160 rfl rfl ?_
  refine V_iconst (v := 1) X d_law_1162 (by decide) rfl ?_
  refine V_iadd X d_law_1163 rfl ?_
  obtain ⟨hb, h⟩ := ifn h
  refine V_sld X hX hbl hbA hb d_law_1164 rfl ?_
  refine V_aload_n (n := 0) X d_law_1165 rfl rfl rfl ?_
  refine V_iload (n := 4) X d_law_1166 rfl rfl ?_
  refine V_iconst (v := 2) X d_law_1168 (by decide) rfl ?_
  refine V_iadd X d_law_1169 rfl ?_
  obtain ⟨hb, h⟩ := ifn h
  refine V_sld X hX hbl hbA hb d_law_1170 rfl ?_
  obtain ⟨x95, hx95, h⟩ := ob_s h
  refine V_ci (As := [.int (xs (v4 + (1 : Int32)).toNatClampNeg), .int (xs (v4 + (2 : Int32)).toNatClampNeg)]) X hz0 ml_Lw_158 yq_Mod_planks (c_Mod_planks E.2.1 G (xs (v4 + (1 : Int32)).toNatClampNeg) (xs (v4 + (2 : Int32)).toNatClampNeg) x94.2 x95 hx95 _ (Nat.le_refl _)) kd_162 rfl rfl (by omega) rfl (Nat.le_of_ble_eq_true rfl) d_law_1171 rfl (fun r9 M9 hq => ?_)
  rw [hq.1, hq.2]
  refine V_pop X d_law_1174 rfl rfl ?_
  refine V_goto (pc' := 1553) X d_law_1175 (by decide) ?_
  refine V_iinc (n := 4) (v := (v4 + (5 : Int32))) (lv' := [(4, .int (v4 + (5 : Int32))), (0, .ref b), (1, .ref (G.2.2 + 0)), (2, .ref (G.2.2 + 162)), (3, .ref (G.2.2 + 192))]) X d_law_1553 rfl rfl (by decide) rfl rfl ?_
  refine V_goto (pc' := 23) X d_law_1556 (by decide) ?_
  refine V_wid (cs' := (cs.1 + 1, cs.2 + 6)) ⟨Nat.le_succ _, Nat.le_add_right _ _⟩ ?_
  refine V_sub (lv' := [(0, .ref b), (1, .ref (G.2.2 + 0)), (2, .ref (G.2.2 + 162)), (3, .ref (G.2.2 + 192)), (4, .int (v4 + (5 : Int32)))]) [1, 2, 3, 4, 0] rfl ?_
  exact kc ((v4 + (5 : Int32)), x95.2) (Option.some.inj h).symm
def j_law_1178_23 (L : Nat) (xs : Nat → Int32) (v4 : Int32) (M : Mem) : Option ((Int32 × Mem) ⊕ ((Mem) ⊕ (Int32 × Mem))) :=
  if inb (v4 + (1 : Int32)) L = true then
  Option.bind (f_Top_fire (xs (v4 + (1 : Int32)).toNatClampNeg) M) fun x97 =>
  if inb (v4 + (1 : Int32)) L = true then
  Option.bind (f_Mod_fire (xs (v4 + (1 : Int32)).toNatClampNeg) x97.2) fun x98 =>
  some (.inl ((v4 + (5 : Int32)), x98.2))
  else none
  else none
theorem j_law_1178_23_ok {E : Ev} {cs : Nat × Nat} {G : Gw} {d : Nat} {Q : State → Prop} {b L : Nat} {xs : Nat → Int32} (X : Cx E G code "WomenByTheRoofsLaw" 7 d ret) (hz0 : Zc E cs) (hz : Zc E (cs.1 + 1, cs.2 + 6)) (hT : Tw G E.2.2.2.2.1 E.2.2.2.2.1.heap) (hl9 : E.2.1.stackTraces = false) (hX : va_X b L xs E.2.2.2.2.1 E.2.2.2.2.1.heap) (hbl : b < E.2.2.2.2.1.heap.size) (hbA : ¬ G.2.2 ≤ b) (hD : 450 ≤ d)  (v4 : Int32)  (M : Mem)  (o : (Int32 × Mem) ⊕ ((Mem) ⊕ (Int32 × Mem))) (h : j_law_1178_23 L xs v4 M = some o) (kc : ∀ s9 : Int32 × Mem, o = .inl s9 → V E (cs.1 + 1, cs.2 + 6) G 7 Q s9.2 23 [(0, .ref b), (1, .ref (G.2.2 + 0)), (2, .ref (G.2.2 + 162)), (3, .ref (G.2.2 + 192)), (4, .int s9.1)] []) (kx0 : ∀ x9 : Mem, o = .inr (Sum.inl x9) → V E (cs.1 + 1, cs.2 + 6) G 7 Q x9 1559 [] []) (kr : ∀ x9 : Int32 × Mem, o = .inr (Sum.inr x9) → False) : V E cs G 7 Q M 1178 [(0, .ref b), (1, .ref (G.2.2 + 0)), (2, .ref (G.2.2 + 162)), (3, .ref (G.2.2 + 192)), (4, .int v4)] [] := by
  unfold j_law_1178_23 at h
  refine V_aload_n (n := 1) X d_law_1178 rfl rfl rfl ?_
  refine V_aload_n (n := 0) X d_law_1179 rfl rfl rfl ?_
  refine V_iload (n := 4) X d_law_1180 rfl rfl ?_
  refine V_iconst (v := 1) X d_law_1182 (by decide) rfl ?_
  refine V_iadd X d_law_1183 rfl ?_
  obtain ⟨hb, h⟩ := ifn h
  refine V_sld X hX hbl hbA hb d_law_1184 rfl ?_
  obtain ⟨x97, hx97, h⟩ := ob_s h
  refine V_ci (As := [.int (xs (v4 + (1 : Int32)).toNatClampNeg)]) X hz0 ml_Lw_159 yq_Top_fire (c_Top_fire E.2.1 G (xs (v4 + (1 : Int32)).toNatClampNeg) M x97 hx97 _ (Nat.le_refl _)) kd_0 rfl rfl (by omega) rfl (Nat.le_of_ble_eq_true rfl) d_law_1185 rfl (fun r9 M9 hq => ?_)
  rw [hq.1, hq.2]
  refine V_pop X d_law_1188 rfl rfl ?_
  refine V_aload_n (n := 2) X d_law_1189 rfl rfl rfl ?_
  refine V_aload_n (n := 0) X d_law_1190 rfl rfl rfl ?_
  refine V_iload (n := 4) X d_law_1191 rfl rfl ?_
  refine V_iconst (v := 1) X d_law_1193 (by decide) rfl ?_
  refine V_iadd X d_law_1194 rfl ?_
  obtain ⟨hb, h⟩ := ifn h
  refine V_sld X hX hbl hbA hb d_law_1195 rfl ?_
  obtain ⟨x98, hx98, h⟩ := ob_s h
  refine V_ci (As := [.int (xs (v4 + (1 : Int32)).toNatClampNeg)]) X hz0 ml_Lw_162 yq_Mod_fire (c_Mod_fire E.2.1 G (xs (v4 + (1 : Int32)).toNatClampNeg) x97.2 x98 hx98 _ (Nat.le_refl _)) kd_162 rfl rfl (by omega) rfl (Nat.le_of_ble_eq_true rfl) d_law_1196 rfl (fun r9 M9 hq => ?_)
  rw [hq.1, hq.2]
  refine V_pop X d_law_1199 rfl rfl ?_
  refine V_goto (pc' := 1553) X d_law_1200 (by decide) ?_
  refine V_iinc (n := 4) (v := (v4 + (5 : Int32))) (lv' := [(4, .int (v4 + (5 : Int32))), (0, .ref b), (1, .ref (G.2.2 + 0)), (2, .ref (G.2.2 + 162)), (3, .ref (G.2.2 + 192))]) X d_law_1553 rfl rfl (by decide) rfl rfl ?_
  refine V_goto (pc' := 23) X d_law_1556 (by decide) ?_
  refine V_wid (cs' := (cs.1 + 1, cs.2 + 6)) ⟨Nat.le_succ _, Nat.le_add_right _ _⟩ ?_
  refine V_sub (lv' := [(0, .ref b), (1, .ref (G.2.2 + 0)), (2, .ref (G.2.2 + 162)), (3, .ref (G.2.2 + 192)), (4, .int (v4 + (5 : Int32)))]) [1, 2, 3, 4, 0] rfl ?_
  exact kc ((v4 + (5 : Int32)), x98.2) (Option.some.inj h).symm
def j_law_1203_23 (L : Nat) (xs : Nat → Int32) (v4 : Int32) (M : Mem) : Option ((Int32 × Mem) ⊕ ((Mem) ⊕ (Int32 × Mem))) :=
  if inb (v4 + (1 : Int32)) L = true then
  Option.bind (f_Top_fights (xs (v4 + (1 : Int32)).toNatClampNeg) M) fun x100 =>
  if inb (v4 + (1 : Int32)) L = true then
  Option.bind (f_Mod_fights (xs (v4 + (1 : Int32)).toNatClampNeg) x100.2) fun x101 =>
  some (.inl ((v4 + (5 : Int32)), x101.2))
  else none
  else none
theorem j_law_1203_23_ok {E : Ev} {cs : Nat × Nat} {G : Gw} {d : Nat} {Q : State → Prop} {b L : Nat} {xs : Nat → Int32} (X : Cx E G code "WomenByTheRoofsLaw" 7 d ret) (hz0 : Zc E cs) (hz : Zc E (cs.1 + 1, cs.2 + 6)) (hT : Tw G E.2.2.2.2.1 E.2.2.2.2.1.heap) (hl9 : E.2.1.stackTraces = false) (hX : va_X b L xs E.2.2.2.2.1 E.2.2.2.2.1.heap) (hbl : b < E.2.2.2.2.1.heap.size) (hbA : ¬ G.2.2 ≤ b) (hD : 450 ≤ d)  (v4 : Int32)  (M : Mem)  (o : (Int32 × Mem) ⊕ ((Mem) ⊕ (Int32 × Mem))) (h : j_law_1203_23 L xs v4 M = some o) (kc : ∀ s9 : Int32 × Mem, o = .inl s9 → V E (cs.1 + 1, cs.2 + 6) G 7 Q s9.2 23 [(0, .ref b), (1, .ref (G.2.2 + 0)), (2, .ref (G.2.2 + 162)), (3, .ref (G.2.2 + 192)), (4, .int s9.1)] []) (kx0 : ∀ x9 : Mem, o = .inr (Sum.inl x9) → V E (cs.1 + 1, cs.2 + 6) G 7 Q x9 1559 [] []) (kr : ∀ x9 : Int32 × Mem, o = .inr (Sum.inr x9) → False) : V E cs G 7 Q M 1203 [(0, .ref b), (1, .ref (G.2.2 + 0)), (2, .ref (G.2.2 + 162)), (3, .ref (G.2.2 + 192)), (4, .int v4)] [] := by
  unfold j_law_1203_23 at h
  refine V_aload_n (n := 1) X d_law_1203 rfl rfl rfl ?_
  refine V_aload_n (n := 0) X d_law_1204 rfl rfl rfl ?_
  refine V_iload (n := 4) X d_law_1205 rfl rfl ?_
  refine V_iconst (v := 1) X d_law_1207 (by decide) rfl ?_
  refine V_iadd X d_law_1208 rfl ?_
  obtain ⟨hb, h⟩ := ifn h
  refine V_sld X hX hbl hbA hb d_law_1209 rfl ?_
  obtain ⟨x100, hx100, h⟩ := ob_s h
  refine V_ci (As := [.int (xs (v4 + (1 : Int32)).toNatClampNeg)]) X hz0 ml_Lw_163 yq_Top_fights (c_Top_fights E.2.1 G (xs (v4 + (1 : Int32)).toNatClampNeg) M x100 hx100 _ (Nat.le_refl _)) kd_0 rfl rfl (by omega) rfl (Nat.le_of_ble_eq_true rfl) d_law_1210 rfl (fun r9 M9 hq => ?_)
  rw [hq.1, hq.2]
  refine V_pop X d_law_1213 rfl rfl ?_
  refine V_aload_n (n := 2) X d_law_1214 rfl rfl rfl ?_
  refine V_aload_n (n := 0) X d_law_1215 rfl rfl rfl ?_
  refine V_iload (n := 4) X d_law_1216 rfl rfl ?_
  refine V_iconst (v := 1) X d_law_1218 (by decide) rfl ?_
  refine V_iadd X d_law_1219 rfl ?_
  obtain ⟨hb, h⟩ := ifn h
  refine V_sld X hX hbl hbA hb d_law_1220 rfl ?_
  obtain ⟨x101, hx101, h⟩ := ob_s h
  refine V_ci (As := [.int (xs (v4 + (1 : Int32)).toNatClampNeg)]) X hz0 ml_Lw_166 yq_Mod_fights (c_Mod_fights E.2.1 G (xs (v4 + (1 : Int32)).toNatClampNeg) x100.2 x101 hx101 _ (Nat.le_refl _)) kd_162 rfl rfl (by omega) rfl (Nat.le_of_ble_eq_true rfl) d_law_1221 rfl (fun r9 M9 hq => ?_)
  rw [hq.1, hq.2]
  refine V_pop X d_law_1224 rfl rfl ?_
  refine V_goto (pc' := 1553) X d_law_1225 (by decide) ?_
  refine V_iinc (n := 4) (v := (v4 + (5 : Int32))) (lv' := [(4, .int (v4 + (5 : Int32))), (0, .ref b), (1, .ref (G.2.2 + 0)), (2, .ref (G.2.2 + 162)), (3, .ref (G.2.2 + 192))]) X d_law_1553 rfl rfl (by decide) rfl rfl ?_
  refine V_goto (pc' := 23) X d_law_1556 (by decide) ?_
  refine V_wid (cs' := (cs.1 + 1, cs.2 + 6)) ⟨Nat.le_succ _, Nat.le_add_right _ _⟩ ?_
  refine V_sub (lv' := [(0, .ref b), (1, .ref (G.2.2 + 0)), (2, .ref (G.2.2 + 162)), (3, .ref (G.2.2 + 192)), (4, .int (v4 + (5 : Int32)))]) [1, 2, 3, 4, 0] rfl ?_
  exact kc ((v4 + (5 : Int32)), x101.2) (Option.some.inj h).symm
def j_law_1228_23 (L : Nat) (xs : Nat → Int32) (v4 : Int32) (M : Mem) : Option ((Int32 × Mem) ⊕ ((Mem) ⊕ (Int32 × Mem))) :=
  Option.bind (f_Top_saved M) fun x103 =>
  Option.bind (f_Mod_saved x103.2) fun x104 =>
  if x103.1 = x104.1 then
  some (.inl ((v4 + (5 : Int32)), x104.2))
  else
  some (.inr (Sum.inr ((0 : Int32), x104.2)))
theorem j_law_1228_23_ok {E : Ev} {cs : Nat × Nat} {G : Gw} {d : Nat} {Q : State → Prop} {b L : Nat} {xs : Nat → Int32} (X : Cx E G code "WomenByTheRoofsLaw" 7 d ret) (hz0 : Zc E cs) (hz : Zc E (cs.1 + 1, cs.2 + 6)) (hT : Tw G E.2.2.2.2.1 E.2.2.2.2.1.heap) (hl9 : E.2.1.stackTraces = false) (hX : va_X b L xs E.2.2.2.2.1 E.2.2.2.2.1.heap) (hbl : b < E.2.2.2.2.1.heap.size) (hbA : ¬ G.2.2 ≤ b) (hD : 450 ≤ d)  (v4 : Int32)  (M : Mem)  (o : (Int32 × Mem) ⊕ ((Mem) ⊕ (Int32 × Mem))) (h : j_law_1228_23 L xs v4 M = some o) (kc : ∀ s9 : Int32 × Mem, o = .inl s9 → V E (cs.1 + 1, cs.2 + 6) G 7 Q s9.2 23 [(0, .ref b), (1, .ref (G.2.2 + 0)), (2, .ref (G.2.2 + 162)), (3, .ref (G.2.2 + 192)), (4, .int s9.1)] []) (kx0 : ∀ x9 : Mem, o = .inr (Sum.inl x9) → V E (cs.1 + 1, cs.2 + 6) G 7 Q x9 1559 [] []) (kr : ∀ x9 : Int32 × Mem, o = .inr (Sum.inr x9) → False) : V E cs G 7 Q M 1228 [(0, .ref b), (1, .ref (G.2.2 + 0)), (2, .ref (G.2.2 + 162)), (3, .ref (G.2.2 + 192)), (4, .int v4)] [] := by
  unfold j_law_1228_23 at h
  refine V_aload_n (n := 1) X d_law_1228 rfl rfl rfl ?_
  obtain ⟨x103, hx103, h⟩ := ob_s h
  refine V_ci (As := []) X hz0 ml_Lw_167 yq_Top_saved (c_Top_saved E.2.1 G  M x103 hx103 _ (Nat.le_refl _)) kd_0 rfl rfl (by omega) rfl (Nat.le_of_ble_eq_true rfl) d_law_1229 rfl (fun r9 M9 hq => ?_)
  rw [hq.1, hq.2]
  refine V_aload_n (n := 2) X d_law_1232 rfl rfl rfl ?_
  obtain ⟨x104, hx104, h⟩ := ob_s h
  refine V_ci (As := []) X hz0 ml_Lw_170 yq_Mod_saved (c_Mod_saved E.2.1 G  x103.2 x104 hx104 _ (Nat.le_refl _)) kd_162 rfl rfl (by omega) rfl (Nat.le_of_ble_eq_true rfl) d_law_1233 rfl (fun r9 M9 hq => ?_)
  rw [hq.1, hq.2]
  refine V_icmp_eq (tgt := 1553) X d_law_1236 (by decide) rfl (fun c105 => ?_) (fun c105 => ?_)
  · rw [if_pos c105] at h
    refine V_iinc (n := 4) (v := (v4 + (5 : Int32))) (lv' := [(4, .int (v4 + (5 : Int32))), (0, .ref b), (1, .ref (G.2.2 + 0)), (2, .ref (G.2.2 + 162)), (3, .ref (G.2.2 + 192))]) X d_law_1553 rfl rfl (by decide) rfl rfl ?_
    refine V_goto (pc' := 23) X d_law_1556 (by decide) ?_
    refine V_wid (cs' := (cs.1 + 1, cs.2 + 6)) ⟨Nat.le_succ _, Nat.le_add_right _ _⟩ ?_
    refine V_sub (lv' := [(0, .ref b), (1, .ref (G.2.2 + 0)), (2, .ref (G.2.2 + 162)), (3, .ref (G.2.2 + 192)), (4, .int (v4 + (5 : Int32)))]) [1, 2, 3, 4, 0] rfl ?_
    exact kc ((v4 + (5 : Int32)), x104.2) (Option.some.inj h).symm
  · rw [if_neg c105] at h
    refine V_iconst (v := 0) X d_law_1239 (by decide) rfl ?_
    exact (kr ((0 : Int32), x104.2) (Option.some.inj h).symm).elim
def j_law_1241_23 (L : Nat) (xs : Nat → Int32) (v4 : Int32) (M : Mem) : Option ((Int32 × Mem) ⊕ ((Mem) ⊕ (Int32 × Mem))) :=
  if inb (v4 + (1 : Int32)) L = true then
  if inb (v4 + (2 : Int32)) L = true then
  Option.bind (f_Top_wardrobe (xs (v4 + (1 : Int32)).toNatClampNeg) (xs (v4 + (2 : Int32)).toNatClampNeg) M) fun x107 =>
  if inb (v4 + (1 : Int32)) L = true then
  if inb (v4 + (2 : Int32)) L = true then
  Option.bind (f_Mod_wardrobe (xs (v4 + (1 : Int32)).toNatClampNeg) (xs (v4 + (2 : Int32)).toNatClampNeg) x107.2) fun x108 =>
  some (.inl ((v4 + (5 : Int32)), x108.2))
  else none
  else none
  else none
  else none
theorem j_law_1241_23_ok {E : Ev} {cs : Nat × Nat} {G : Gw} {d : Nat} {Q : State → Prop} {b L : Nat} {xs : Nat → Int32} (X : Cx E G code "WomenByTheRoofsLaw" 7 d ret) (hz0 : Zc E cs) (hz : Zc E (cs.1 + 1, cs.2 + 6)) (hT : Tw G E.2.2.2.2.1 E.2.2.2.2.1.heap) (hl9 : E.2.1.stackTraces = false) (hX : va_X b L xs E.2.2.2.2.1 E.2.2.2.2.1.heap) (hbl : b < E.2.2.2.2.1.heap.size) (hbA : ¬ G.2.2 ≤ b) (hD : 450 ≤ d)  (v4 : Int32)  (M : Mem)  (o : (Int32 × Mem) ⊕ ((Mem) ⊕ (Int32 × Mem))) (h : j_law_1241_23 L xs v4 M = some o) (kc : ∀ s9 : Int32 × Mem, o = .inl s9 → V E (cs.1 + 1, cs.2 + 6) G 7 Q s9.2 23 [(0, .ref b), (1, .ref (G.2.2 + 0)), (2, .ref (G.2.2 + 162)), (3, .ref (G.2.2 + 192)), (4, .int s9.1)] []) (kx0 : ∀ x9 : Mem, o = .inr (Sum.inl x9) → V E (cs.1 + 1, cs.2 + 6) G 7 Q x9 1559 [] []) (kr : ∀ x9 : Int32 × Mem, o = .inr (Sum.inr x9) → False) : V E cs G 7 Q M 1241 [(0, .ref b), (1, .ref (G.2.2 + 0)), (2, .ref (G.2.2 + 162)), (3, .ref (G.2.2 + 192)), (4, .int v4)] [] := by
  unfold j_law_1241_23 at h
  refine V_aload_n (n := 1) X d_law_1241 rfl rfl rfl ?_
  refine V_aload_n (n := 0) X d_law_1242 rfl rfl rfl ?_
  refine V_iload (n := 4) X d_law_1243 rfl rfl ?_
  refine V_iconst (v := 1) X d_law_1245 (by decide) rfl ?_
  refine V_iadd X d_law_1246 rfl ?_
  obtain ⟨hb, h⟩ := ifn h
  refine V_sld X hX hbl hbA hb d_law_1247 rfl ?_
  refine V_aload_n (n := 0) X d_law_1248 rfl rfl rfl ?_
  refine V_iload (n := 4) X d_law_1249 rfl rfl ?_
  refine V_iconst (v := 2) X d_law_1251 (by decide) rfl ?_
  refine V_iadd X d_law_1252 rfl ?_
  obtain ⟨hb, h⟩ := ifn h
  refine V_sld X hX hbl hbA hb d_law_1253 rfl ?_
  obtain ⟨x107, hx107, h⟩ := ob_s h
  refine V_ci (As := [.int (xs (v4 + (1 : Int32)).toNatClampNeg), .int (xs (v4 + (2 : Int32)).toNatClampNeg)]) X hz0 ml_Lw_171 yq_Top_wardrobe (c_Top_wardrobe E.2.1 G (xs (v4 + (1 : Int32)).toNatClampNeg) (xs (v4 + (2 : Int32)).toNatClampNeg) M x107 hx107 _ (Nat.le_refl _)) kd_0 rfl rfl (by omega) rfl (Nat.le_of_ble_eq_true rfl) d_law_1254 rfl (fun r9 M9 hq => ?_)
  rw [hq.1, hq.2]
  refine V_pop X d_law_1257 rfl rfl ?_
  refine V_aload_n (n := 2) X d_law_1258 rfl rfl rfl ?_
  refine V_aload_n (n := 0) X d_law_1259 rfl rfl rfl ?_
  refine V_iload (n := 4) X d_law_1260 rfl rfl ?_
  refine V_iconst (v := 1) X d_law_1262 (by decide) rfl ?_
  refine V_iadd X d_law_1263 rfl ?_
  obtain ⟨hb, h⟩ := ifn h
  refine V_sld X hX hbl hbA hb d_law_1264 rfl ?_
  refine V_aload_n (n := 0) X d_law_1265 rfl rfl rfl ?_
  refine V_iload (n := 4) X d_law_1266 rfl rfl ?_
  refine V_iconst (v := 2) X d_law_1268 (by decide) rfl ?_
  refine V_iadd X d_law_1269 rfl ?_
  obtain ⟨hb, h⟩ := ifn h
  refine V_sld X hX hbl hbA hb d_law_1270 rfl ?_
  obtain ⟨x108, hx108, h⟩ := ob_s h
  refine V_ci (As := [.int (xs (v4 + (1 : Int32)).toNatClampNeg), .int (xs (v4 + (2 : Int32)).toNatClampNeg)]) X hz0 ml_Lw_174 yq_Mod_wardrobe (c_Mod_wardrobe E.2.1 G (xs (v4 + (1 : Int32)).toNatClampNeg) (xs (v4 + (2 : Int32)).toNatClampNeg) x107.2 x108 hx108 _ (Nat.le_refl _)) kd_162 rfl rfl (by omega) rfl (Nat.le_of_ble_eq_true rfl) d_law_1271 rfl (fun r9 M9 hq => ?_)
  rw [hq.1, hq.2]
  refine V_pop X d_law_1274 rfl rfl ?_
  refine V_goto (pc' := 1553) X d_law_1275 (by decide) ?_
  refine V_iinc (n := 4) (v := (v4 + (5 : Int32))) (lv' := [(4, .int (v4 + (5 : Int32))), (0, .ref b), (1, .ref (G.2.2 + 0)), (2, .ref (G.2.2 + 162)), (3, .ref (G.2.2 + 192))]) X d_law_1553 rfl rfl (by decide) rfl rfl ?_
  refine V_goto (pc' := 23) X d_law_1556 (by decide) ?_
  refine V_wid (cs' := (cs.1 + 1, cs.2 + 6)) ⟨Nat.le_succ _, Nat.le_add_right _ _⟩ ?_
  refine V_sub (lv' := [(0, .ref b), (1, .ref (G.2.2 + 0)), (2, .ref (G.2.2 + 162)), (3, .ref (G.2.2 + 192)), (4, .int (v4 + (5 : Int32)))]) [1, 2, 3, 4, 0] rfl ?_
  exact kc ((v4 + (5 : Int32)), x108.2) (Option.some.inj h).symm
def j_law_1278_23 (L : Nat) (xs : Nat → Int32) (v4 : Int32) (M : Mem) : Option ((Int32 × Mem) ⊕ ((Mem) ⊕ (Int32 × Mem))) :=
  if inb (v4 + (1 : Int32)) L = true then
  if inb (v4 + (2 : Int32)) L = true then
  if inb (v4 + (3 : Int32)) L = true then
  Option.bind (f_Top_flees (xs (v4 + (1 : Int32)).toNatClampNeg) (xs (v4 + (2 : Int32)).toNatClampNeg) (xs (v4 + (3 : Int32)).toNatClampNeg) M) fun x110 =>
  if inb (v4 + (1 : Int32)) L = true then
  if inb (v4 + (2 : Int32)) L = true then
  if inb (v4 + (3 : Int32)) L = true then
  Option.bind (f_Mod_flees (xs (v4 + (1 : Int32)).toNatClampNeg) (xs (v4 + (2 : Int32)).toNatClampNeg) (xs (v4 + (3 : Int32)).toNatClampNeg) x110.2) fun x111 =>
  some (.inl ((v4 + (5 : Int32)), x111.2))
  else none
  else none
  else none
  else none
  else none
  else none
theorem j_law_1278_23_ok {E : Ev} {cs : Nat × Nat} {G : Gw} {d : Nat} {Q : State → Prop} {b L : Nat} {xs : Nat → Int32} (X : Cx E G code "WomenByTheRoofsLaw" 7 d ret) (hz0 : Zc E cs) (hz : Zc E (cs.1 + 1, cs.2 + 6)) (hT : Tw G E.2.2.2.2.1 E.2.2.2.2.1.heap) (hl9 : E.2.1.stackTraces = false) (hX : va_X b L xs E.2.2.2.2.1 E.2.2.2.2.1.heap) (hbl : b < E.2.2.2.2.1.heap.size) (hbA : ¬ G.2.2 ≤ b) (hD : 450 ≤ d)  (v4 : Int32)  (M : Mem)  (o : (Int32 × Mem) ⊕ ((Mem) ⊕ (Int32 × Mem))) (h : j_law_1278_23 L xs v4 M = some o) (kc : ∀ s9 : Int32 × Mem, o = .inl s9 → V E (cs.1 + 1, cs.2 + 6) G 7 Q s9.2 23 [(0, .ref b), (1, .ref (G.2.2 + 0)), (2, .ref (G.2.2 + 162)), (3, .ref (G.2.2 + 192)), (4, .int s9.1)] []) (kx0 : ∀ x9 : Mem, o = .inr (Sum.inl x9) → V E (cs.1 + 1, cs.2 + 6) G 7 Q x9 1559 [] []) (kr : ∀ x9 : Int32 × Mem, o = .inr (Sum.inr x9) → False) : V E cs G 7 Q M 1278 [(0, .ref b), (1, .ref (G.2.2 + 0)), (2, .ref (G.2.2 + 162)), (3, .ref (G.2.2 + 192)), (4, .int v4)] [] := by
  unfold j_law_1278_23 at h
  refine V_aload_n (n := 1) X d_law_1278 rfl rfl rfl ?_
  refine V_aload_n (n := 0) X d_law_1279 rfl rfl rfl ?_
  refine V_iload (n := 4) X d_law_1280 rfl rfl ?_
  refine V_iconst (v := 1) X d_law_1282 (by decide) rfl ?_
  refine V_iadd X d_law_1283 rfl ?_
  obtain ⟨hb, h⟩ := ifn h
  refine V_sld X hX hbl hbA hb d_law_1284 rfl ?_
  refine V_aload_n (n := 0) X d_law_1285 rfl rfl rfl ?_
  refine V_iload (n := 4) X d_law_1286 rfl rfl ?_
  refine V_iconst (v := 2) X d_law_1288 (by decide) rfl ?_
  refine V_iadd X d_law_1289 rfl ?_
  obtain ⟨hb, h⟩ := ifn h
  refine V_sld X hX hbl hbA hb d_law_1290 rfl ?_
  refine V_aload_n (n := 0) X d_law_1291 rfl rfl rfl ?_
  refine V_iload (n := 4) X d_law_1292 rfl rfl ?_
  refine V_iconst (v := 3) X d_law_1294 (by decide) rfl ?_
  refine V_iadd X d_law_1295 rfl ?_
  obtain ⟨hb, h⟩ := ifn h
  refine V_sld X hX hbl hbA hb d_law_1296 rfl ?_
  obtain ⟨x110, hx110, h⟩ := ob_s h
  refine V_ci (As := [.int (xs (v4 + (1 : Int32)).toNatClampNeg), .int (xs (v4 + (2 : Int32)).toNatClampNeg), .int (xs (v4 + (3 : Int32)).toNatClampNeg)]) X hz0 ml_Lw_175 yq_Top_flees (c_Top_flees E.2.1 G (xs (v4 + (1 : Int32)).toNatClampNeg) (xs (v4 + (2 : Int32)).toNatClampNeg) (xs (v4 + (3 : Int32)).toNatClampNeg) M x110 hx110 _ (Nat.le_refl _)) kd_0 rfl rfl (by omega) rfl (Nat.le_of_ble_eq_true rfl) d_law_1297 rfl (fun r9 M9 hq => ?_)
  rw [hq.1, hq.2]
  refine V_pop X d_law_1300 rfl rfl ?_
  refine V_aload_n (n := 2) X d_law_1301 rfl rfl rfl ?_
  refine V_aload_n (n := 0) X d_law_1302 rfl rfl rfl ?_
  refine V_iload (n := 4) X d_law_1303 rfl rfl ?_
  refine V_iconst (v := 1) X d_law_1305 (by decide) rfl ?_
  refine V_iadd X d_law_1306 rfl ?_
  obtain ⟨hb, h⟩ := ifn h
  refine V_sld X hX hbl hbA hb d_law_1307 rfl ?_
  refine V_aload_n (n := 0) X d_law_1308 rfl rfl rfl ?_
  refine V_iload (n := 4) X d_law_1309 rfl rfl ?_
  refine V_iconst (v := 2) X d_law_1311 (by decide) rfl ?_
  refine V_iadd X d_law_1312 rfl ?_
  obtain ⟨hb, h⟩ := ifn h
  refine V_sld X hX hbl hbA hb d_law_1313 rfl ?_
  refine V_aload_n (n := 0) X d_law_1314 rfl rfl rfl ?_
  refine V_iload (n := 4) X d_law_1315 rfl rfl ?_
  refine V_iconst (v := 3) X d_law_1317 (by decide) rfl ?_
  refine V_iadd X d_law_1318 rfl ?_
  obtain ⟨hb, h⟩ := ifn h
  refine V_sld X hX hbl hbA hb d_law_1319 rfl ?_
  obtain ⟨x111, hx111, h⟩ := ob_s h
  refine V_ci (As := [.int (xs (v4 + (1 : Int32)).toNatClampNeg), .int (xs (v4 + (2 : Int32)).toNatClampNeg), .int (xs (v4 + (3 : Int32)).toNatClampNeg)]) X hz0 ml_Lw_178 yq_Mod_flees (c_Mod_flees E.2.1 G (xs (v4 + (1 : Int32)).toNatClampNeg) (xs (v4 + (2 : Int32)).toNatClampNeg) (xs (v4 + (3 : Int32)).toNatClampNeg) x110.2 x111 hx111 _ (Nat.le_refl _)) kd_162 rfl rfl (by omega) rfl (Nat.le_of_ble_eq_true rfl) d_law_1320 rfl (fun r9 M9 hq => ?_)
  rw [hq.1, hq.2]
  refine V_pop X d_law_1323 rfl rfl ?_
  refine V_goto (pc' := 1553) X d_law_1324 (by decide) ?_
  refine V_iinc (n := 4) (v := (v4 + (5 : Int32))) (lv' := [(4, .int (v4 + (5 : Int32))), (0, .ref b), (1, .ref (G.2.2 + 0)), (2, .ref (G.2.2 + 162)), (3, .ref (G.2.2 + 192))]) X d_law_1553 rfl rfl (by decide) rfl rfl ?_
  refine V_goto (pc' := 23) X d_law_1556 (by decide) ?_
  refine V_wid (cs' := (cs.1 + 1, cs.2 + 6)) ⟨Nat.le_succ _, Nat.le_add_right _ _⟩ ?_
  refine V_sub (lv' := [(0, .ref b), (1, .ref (G.2.2 + 0)), (2, .ref (G.2.2 + 162)), (3, .ref (G.2.2 + 192)), (4, .int (v4 + (5 : Int32)))]) [1, 2, 3, 4, 0] rfl ?_
  exact kc ((v4 + (5 : Int32)), x111.2) (Option.some.inj h).symm
def j_law_1327_23 (L : Nat) (xs : Nat → Int32) (v4 : Int32) (M : Mem) : Option ((Int32 × Mem) ⊕ ((Mem) ⊕ (Int32 × Mem))) :=
  if inb (v4 + (1 : Int32)) L = true then
  Option.bind (f_Top_lairs (xs (v4 + (1 : Int32)).toNatClampNeg) M) fun x113 =>
  if inb (v4 + (1 : Int32)) L = true then
  Option.bind (f_Mod_lairs (xs (v4 + (1 : Int32)).toNatClampNeg) x113.2) fun x114 =>
  some (.inl ((v4 + (5 : Int32)), x114.2))
  else none
  else none
theorem j_law_1327_23_ok {E : Ev} {cs : Nat × Nat} {G : Gw} {d : Nat} {Q : State → Prop} {b L : Nat} {xs : Nat → Int32} (X : Cx E G code "WomenByTheRoofsLaw" 7 d ret) (hz0 : Zc E cs) (hz : Zc E (cs.1 + 1, cs.2 + 6)) (hT : Tw G E.2.2.2.2.1 E.2.2.2.2.1.heap) (hl9 : E.2.1.stackTraces = false) (hX : va_X b L xs E.2.2.2.2.1 E.2.2.2.2.1.heap) (hbl : b < E.2.2.2.2.1.heap.size) (hbA : ¬ G.2.2 ≤ b) (hD : 450 ≤ d)  (v4 : Int32)  (M : Mem)  (o : (Int32 × Mem) ⊕ ((Mem) ⊕ (Int32 × Mem))) (h : j_law_1327_23 L xs v4 M = some o) (kc : ∀ s9 : Int32 × Mem, o = .inl s9 → V E (cs.1 + 1, cs.2 + 6) G 7 Q s9.2 23 [(0, .ref b), (1, .ref (G.2.2 + 0)), (2, .ref (G.2.2 + 162)), (3, .ref (G.2.2 + 192)), (4, .int s9.1)] []) (kx0 : ∀ x9 : Mem, o = .inr (Sum.inl x9) → V E (cs.1 + 1, cs.2 + 6) G 7 Q x9 1559 [] []) (kr : ∀ x9 : Int32 × Mem, o = .inr (Sum.inr x9) → False) : V E cs G 7 Q M 1327 [(0, .ref b), (1, .ref (G.2.2 + 0)), (2, .ref (G.2.2 + 162)), (3, .ref (G.2.2 + 192)), (4, .int v4)] [] := by
  unfold j_law_1327_23 at h
  refine V_aload_n (n := 1) X d_law_1327 rfl rfl rfl ?_
  refine V_aload_n (n := 0) X d_law_1328 rfl rfl rfl ?_
  refine V_iload (n := 4) X d_law_1329 rfl rfl ?_
  refine V_iconst (v := 1) X d_law_1331 (by decide) rfl ?_
  refine V_iadd X d_law_1332 rfl ?_
  obtain ⟨hb, h⟩ := ifn h
  refine V_sld X hX hbl hbA hb d_law_1333 rfl ?_
  obtain ⟨x113, hx113, h⟩ := ob_s h
  refine V_ci (As := [.int (xs (v4 + (1 : Int32)).toNatClampNeg)]) X hz0 ml_Lw_179 yq_Top_lairs (c_Top_lairs E.2.1 G (xs (v4 + (1 : Int32)).toNatClampNeg) M x113 hx113 _ (Nat.le_refl _)) kd_0 rfl rfl (by omega) rfl (Nat.le_of_ble_eq_true rfl) d_law_1334 rfl (fun r9 M9 hq => ?_)
  rw [hq.1, hq.2]
  refine V_pop X d_law_1337 rfl rfl ?_
  refine V_aload_n (n := 2) X d_law_1338 rfl rfl rfl ?_
  refine V_aload_n (n := 0) X d_law_1339 rfl rfl rfl ?_
  refine V_iload (n := 4) X d_law_1340 rfl rfl ?_
  refine V_iconst (v := 1) X d_law_1342 (by decide) rfl ?_
  refine V_iadd X d_law_1343 rfl ?_
  obtain ⟨hb, h⟩ := ifn h
  refine V_sld X hX hbl hbA hb d_law_1344 rfl ?_
  obtain ⟨x114, hx114, h⟩ := ob_s h
  refine V_ci (As := [.int (xs (v4 + (1 : Int32)).toNatClampNeg)]) X hz0 ml_Lw_182 yq_Mod_lairs (c_Mod_lairs E.2.1 G (xs (v4 + (1 : Int32)).toNatClampNeg) x113.2 x114 hx114 _ (Nat.le_refl _)) kd_162 rfl rfl (by omega) rfl (Nat.le_of_ble_eq_true rfl) d_law_1345 rfl (fun r9 M9 hq => ?_)
  rw [hq.1, hq.2]
  refine V_pop X d_law_1348 rfl rfl ?_
  refine V_goto (pc' := 1553) X d_law_1349 (by decide) ?_
  refine V_iinc (n := 4) (v := (v4 + (5 : Int32))) (lv' := [(4, .int (v4 + (5 : Int32))), (0, .ref b), (1, .ref (G.2.2 + 0)), (2, .ref (G.2.2 + 162)), (3, .ref (G.2.2 + 192))]) X d_law_1553 rfl rfl (by decide) rfl rfl ?_
  refine V_goto (pc' := 23) X d_law_1556 (by decide) ?_
  refine V_wid (cs' := (cs.1 + 1, cs.2 + 6)) ⟨Nat.le_succ _, Nat.le_add_right _ _⟩ ?_
  refine V_sub (lv' := [(0, .ref b), (1, .ref (G.2.2 + 0)), (2, .ref (G.2.2 + 162)), (3, .ref (G.2.2 + 192)), (4, .int (v4 + (5 : Int32)))]) [1, 2, 3, 4, 0] rfl ?_
  exact kc ((v4 + (5 : Int32)), x114.2) (Option.some.inj h).symm
def j_law_1352_23 (L : Nat) (xs : Nat → Int32) (v4 : Int32) (M : Mem) : Option ((Int32 × Mem) ⊕ ((Mem) ⊕ (Int32 × Mem))) :=
  if inb (v4 + (1 : Int32)) L = true then
  if inb (v4 + (2 : Int32)) L = true then
  Option.bind (f_Top_caught (xs (v4 + (1 : Int32)).toNatClampNeg) (xs (v4 + (2 : Int32)).toNatClampNeg) M) fun x116 =>
  if inb (v4 + (1 : Int32)) L = true then
  if inb (v4 + (2 : Int32)) L = true then
  Option.bind (f_Mod_caught (xs (v4 + (1 : Int32)).toNatClampNeg) (xs (v4 + (2 : Int32)).toNatClampNeg) x116.2) fun x117 =>
  some (.inl ((v4 + (5 : Int32)), x117.2))
  else none
  else none
  else none
  else none
theorem j_law_1352_23_ok {E : Ev} {cs : Nat × Nat} {G : Gw} {d : Nat} {Q : State → Prop} {b L : Nat} {xs : Nat → Int32} (X : Cx E G code "WomenByTheRoofsLaw" 7 d ret) (hz0 : Zc E cs) (hz : Zc E (cs.1 + 1, cs.2 + 6)) (hT : Tw G E.2.2.2.2.1 E.2.2.2.2.1.heap) (hl9 : E.2.1.stackTraces = false) (hX : va_X b L xs E.2.2.2.2.1 E.2.2.2.2.1.heap) (hbl : b < E.2.2.2.2.1.heap.size) (hbA : ¬ G.2.2 ≤ b) (hD : 450 ≤ d)  (v4 : Int32)  (M : Mem)  (o : (Int32 × Mem) ⊕ ((Mem) ⊕ (Int32 × Mem))) (h : j_law_1352_23 L xs v4 M = some o) (kc : ∀ s9 : Int32 × Mem, o = .inl s9 → V E (cs.1 + 1, cs.2 + 6) G 7 Q s9.2 23 [(0, .ref b), (1, .ref (G.2.2 + 0)), (2, .ref (G.2.2 + 162)), (3, .ref (G.2.2 + 192)), (4, .int s9.1)] []) (kx0 : ∀ x9 : Mem, o = .inr (Sum.inl x9) → V E (cs.1 + 1, cs.2 + 6) G 7 Q x9 1559 [] []) (kr : ∀ x9 : Int32 × Mem, o = .inr (Sum.inr x9) → False) : V E cs G 7 Q M 1352 [(0, .ref b), (1, .ref (G.2.2 + 0)), (2, .ref (G.2.2 + 162)), (3, .ref (G.2.2 + 192)), (4, .int v4)] [] := by
  unfold j_law_1352_23 at h
  refine V_aload_n (n := 1) X d_law_1352 rfl rfl rfl ?_
  refine V_aload_n (n := 0) X d_law_1353 rfl rfl rfl ?_
  refine V_iload (n := 4) X d_law_1354 rfl rfl ?_
  refine V_iconst (v := 1) X d_law_1356 (by decide) rfl ?_
  refine V_iadd X d_law_1357 rfl ?_
  obtain ⟨hb, h⟩ := ifn h
  refine V_sld X hX hbl hbA hb d_law_1358 rfl ?_
  refine V_aload_n (n := 0) X d_law_1359 rfl rfl rfl ?_
  refine V_iload (n := 4) X d_law_1360 rfl rfl ?_
  refine V_iconst (v := 2) X d_law_1362 (by decide) rfl ?_
  refine V_iadd X d_law_1363 rfl ?_
  obtain ⟨hb, h⟩ := ifn h
  refine V_sld X hX hbl hbA hb d_law_1364 rfl ?_
  obtain ⟨x116, hx116, h⟩ := ob_s h
  refine V_ci (As := [.int (xs (v4 + (1 : Int32)).toNatClampNeg), .int (xs (v4 + (2 : Int32)).toNatClampNeg)]) X hz0 ml_Lw_183 yq_Top_caught (c_Top_caught E.2.1 G (xs (v4 + (1 : Int32)).toNatClampNeg) (xs (v4 + (2 : Int32)).toNatClampNeg) M x116 hx116 _ (Nat.le_refl _)) kd_0 rfl rfl (by omega) rfl (Nat.le_of_ble_eq_true rfl) d_law_1365 rfl (fun r9 M9 hq => ?_)
  rw [hq.1, hq.2]
  refine V_pop X d_law_1368 rfl rfl ?_
  refine V_aload_n (n := 2) X d_law_1369 rfl rfl rfl ?_
  refine V_aload_n (n := 0) X d_law_1370 rfl rfl rfl ?_
  refine V_iload (n := 4) X d_law_1371 rfl rfl ?_
  refine V_iconst (v := 1) X d_law_1373 (by decide) rfl ?_
  refine V_iadd X d_law_1374 rfl ?_
  obtain ⟨hb, h⟩ := ifn h
  refine V_sld X hX hbl hbA hb d_law_1375 rfl ?_
  refine V_aload_n (n := 0) X d_law_1376 rfl rfl rfl ?_
  refine V_iload (n := 4) X d_law_1377 rfl rfl ?_
  refine V_iconst (v := 2) X d_law_1379 (by decide) rfl ?_
  refine V_iadd X d_law_1380 rfl ?_
  obtain ⟨hb, h⟩ := ifn h
  refine V_sld X hX hbl hbA hb d_law_1381 rfl ?_
  obtain ⟨x117, hx117, h⟩ := ob_s h
  refine V_ci (As := [.int (xs (v4 + (1 : Int32)).toNatClampNeg), .int (xs (v4 + (2 : Int32)).toNatClampNeg)]) X hz0 ml_Lw_186 yq_Mod_caught (c_Mod_caught E.2.1 G (xs (v4 + (1 : Int32)).toNatClampNeg) (xs (v4 + (2 : Int32)).toNatClampNeg) x116.2 x117 hx117 _ (Nat.le_refl _)) kd_162 rfl rfl (by omega) rfl (Nat.le_of_ble_eq_true rfl) d_law_1382 rfl (fun r9 M9 hq => ?_)
  rw [hq.1, hq.2]
  refine V_pop X d_law_1385 rfl rfl ?_
  refine V_goto (pc' := 1553) X d_law_1386 (by decide) ?_
  refine V_iinc (n := 4) (v := (v4 + (5 : Int32))) (lv' := [(4, .int (v4 + (5 : Int32))), (0, .ref b), (1, .ref (G.2.2 + 0)), (2, .ref (G.2.2 + 162)), (3, .ref (G.2.2 + 192))]) X d_law_1553 rfl rfl (by decide) rfl rfl ?_
  refine V_goto (pc' := 23) X d_law_1556 (by decide) ?_
  refine V_wid (cs' := (cs.1 + 1, cs.2 + 6)) ⟨Nat.le_succ _, Nat.le_add_right _ _⟩ ?_
  refine V_sub (lv' := [(0, .ref b), (1, .ref (G.2.2 + 0)), (2, .ref (G.2.2 + 162)), (3, .ref (G.2.2 + 192)), (4, .int (v4 + (5 : Int32)))]) [1, 2, 3, 4, 0] rfl ?_
  exact kc ((v4 + (5 : Int32)), x117.2) (Option.some.inj h).symm
def j_law_1389_23 (L : Nat) (xs : Nat → Int32) (v4 : Int32) (M : Mem) : Option ((Int32 × Mem) ⊕ ((Mem) ⊕ (Int32 × Mem))) :=
  if inb (v4 + (1 : Int32)) L = true then
  if inb (v4 + (2 : Int32)) L = true then
  if inb (v4 + (3 : Int32)) L = true then
  if inb (v4 + (4 : Int32)) L = true then
  Option.bind (f_Top_watch (xs (v4 + (1 : Int32)).toNatClampNeg) (xs (v4 + (2 : Int32)).toNatClampNeg) (xs (v4 + (3 : Int32)).toNatClampNeg) (xs (v4 + (4 : Int32)).toNatClampNeg) M) fun x119 =>
  if inb (v4 + (1 : Int32)) L = true then
  if inb (v4 + (2 : Int32)) L = true then
  if inb (v4 + (3 : Int32)) L = true then
  if inb (v4 + (4 : Int32)) L = true then
  Option.bind (f_Mod_watch (xs (v4 + (1 : Int32)).toNatClampNeg) (xs (v4 + (2 : Int32)).toNatClampNeg) (xs (v4 + (3 : Int32)).toNatClampNeg) (xs (v4 + (4 : Int32)).toNatClampNeg) x119.2) fun x120 =>
  some (.inl ((v4 + (5 : Int32)), x120.2))
  else none
  else none
  else none
  else none
  else none
  else none
  else none
  else none
theorem j_law_1389_23_ok {E : Ev} {cs : Nat × Nat} {G : Gw} {d : Nat} {Q : State → Prop} {b L : Nat} {xs : Nat → Int32} (X : Cx E G code "WomenByTheRoofsLaw" 7 d ret) (hz0 : Zc E cs) (hz : Zc E (cs.1 + 1, cs.2 + 6)) (hT : Tw G E.2.2.2.2.1 E.2.2.2.2.1.heap) (hl9 : E.2.1.stackTraces = false) (hX : va_X b L xs E.2.2.2.2.1 E.2.2.2.2.1.heap) (hbl : b < E.2.2.2.2.1.heap.size) (hbA : ¬ G.2.2 ≤ b) (hD : 450 ≤ d)  (v4 : Int32)  (M : Mem)  (o : (Int32 × Mem) ⊕ ((Mem) ⊕ (Int32 × Mem))) (h : j_law_1389_23 L xs v4 M = some o) (kc : ∀ s9 : Int32 × Mem, o = .inl s9 → V E (cs.1 + 1, cs.2 + 6) G 7 Q s9.2 23 [(0, .ref b), (1, .ref (G.2.2 + 0)), (2, .ref (G.2.2 + 162)), (3, .ref (G.2.2 + 192)), (4, .int s9.1)] []) (kx0 : ∀ x9 : Mem, o = .inr (Sum.inl x9) → V E (cs.1 + 1, cs.2 + 6) G 7 Q x9 1559 [] []) (kr : ∀ x9 : Int32 × Mem, o = .inr (Sum.inr x9) → False) : V E cs G 7 Q M 1389 [(0, .ref b), (1, .ref (G.2.2 + 0)), (2, .ref (G.2.2 + 162)), (3, .ref (G.2.2 + 192)), (4, .int v4)] [] := by
  unfold j_law_1389_23 at h
  refine V_aload_n (n := 1) X d_law_1389 rfl rfl rfl ?_
  refine V_aload_n (n := 0) X d_law_1390 rfl rfl rfl ?_
  refine V_iload (n := 4) X d_law_1391 rfl rfl ?_
  refine V_iconst (v := 1) X d_law_1393 (by decide) rfl ?_
  refine V_iadd X d_law_1394 rfl ?_
  obtain ⟨hb, h⟩ := ifn h
  refine V_sld X hX hbl hbA hb d_law_1395 rfl ?_
  refine V_aload_n (n := 0) X d_law_1396 rfl rfl rfl ?_
  refine V_iload (n := 4) X d_law_1397 rfl rfl ?_
  refine V_iconst (v := 2) X d_law_1399 (by decide) rfl ?_
  refine V_iadd X d_law_1400 rfl ?_
  obtain ⟨hb, h⟩ := ifn h
  refine V_sld X hX hbl hbA hb d_law_1401 rfl ?_
  refine V_aload_n (n := 0) X d_law_1402 rfl rfl rfl ?_
  refine V_iload (n := 4) X d_law_1403 rfl rfl ?_
  refine V_iconst (v := 3) X d_law_1405 (by decide) rfl ?_
  refine V_iadd X d_law_1406 rfl ?_
  obtain ⟨hb, h⟩ := ifn h
  refine V_sld X hX hbl hbA hb d_law_1407 rfl ?_
  refine V_aload_n (n := 0) X d_law_1408 rfl rfl rfl ?_
  refine V_iload (n := 4) X d_law_1409 rfl rfl ?_
  refine V_iconst (v := 4) X d_law_1411 (by decide) rfl ?_
  refine V_iadd X d_law_1412 rfl ?_
  obtain ⟨hb, h⟩ := ifn h
  refine V_sld X hX hbl hbA hb d_law_1413 rfl ?_
  obtain ⟨x119, hx119, h⟩ := ob_s h
  refine V_ci (As := [.int (xs (v4 + (1 : Int32)).toNatClampNeg), .int (xs (v4 + (2 : Int32)).toNatClampNeg), .int (xs (v4 + (3 : Int32)).toNatClampNeg), .int (xs (v4 + (4 : Int32)).toNatClampNeg)]) X hz0 ml_Lw_187 yq_Top_watch (c_Top_watch E.2.1 G (xs (v4 + (1 : Int32)).toNatClampNeg) (xs (v4 + (2 : Int32)).toNatClampNeg) (xs (v4 + (3 : Int32)).toNatClampNeg) (xs (v4 + (4 : Int32)).toNatClampNeg) M x119 hx119 _ (Nat.le_refl _)) kd_0 rfl rfl (by omega) rfl (Nat.le_of_ble_eq_true rfl) d_law_1414 rfl (fun r9 M9 hq => ?_)
  rw [hq.1, hq.2]
  refine V_pop X d_law_1417 rfl rfl ?_
  refine V_aload_n (n := 2) X d_law_1418 rfl rfl rfl ?_
  refine V_aload_n (n := 0) X d_law_1419 rfl rfl rfl ?_
  refine V_iload (n := 4) X d_law_1420 rfl rfl ?_
  refine V_iconst (v := 1) X d_law_1422 (by decide) rfl ?_
  refine V_iadd X d_law_1423 rfl ?_
  obtain ⟨hb, h⟩ := ifn h
  refine V_sld X hX hbl hbA hb d_law_1424 rfl ?_
  refine V_aload_n (n := 0) X d_law_1425 rfl rfl rfl ?_
  refine V_iload (n := 4) X d_law_1426 rfl rfl ?_
  refine V_iconst (v := 2) X d_law_1428 (by decide) rfl ?_
  refine V_iadd X d_law_1429 rfl ?_
  obtain ⟨hb, h⟩ := ifn h
  refine V_sld X hX hbl hbA hb d_law_1430 rfl ?_
  refine V_aload_n (n := 0) X d_law_1431 rfl rfl rfl ?_
  refine V_iload (n := 4) X d_law_1432 rfl rfl ?_
  refine V_iconst (v := 3) X d_law_1434 (by decide) rfl ?_
  refine V_iadd X d_law_1435 rfl ?_
  obtain ⟨hb, h⟩ := ifn h
  refine V_sld X hX hbl hbA hb d_law_1436 rfl ?_
  refine V_aload_n (n := 0) X d_law_1437 rfl rfl rfl ?_
  refine V_iload (n := 4) X d_law_1438 rfl rfl ?_
  refine V_iconst (v := 4) X d_law_1440 (by decide) rfl ?_
  refine V_iadd X d_law_1441 rfl ?_
  obtain ⟨hb, h⟩ := ifn h
  refine V_sld X hX hbl hbA hb d_law_1442 rfl ?_
  obtain ⟨x120, hx120, h⟩ := ob_s h
  refine V_ci (As := [.int (xs (v4 + (1 : Int32)).toNatClampNeg), .int (xs (v4 + (2 : Int32)).toNatClampNeg), .int (xs (v4 + (3 : Int32)).toNatClampNeg), .int (xs (v4 + (4 : Int32)).toNatClampNeg)]) X hz0 ml_Lw_190 yq_Mod_watch (c_Mod_watch E.2.1 G (xs (v4 + (1 : Int32)).toNatClampNeg) (xs (v4 + (2 : Int32)).toNatClampNeg) (xs (v4 + (3 : Int32)).toNatClampNeg) (xs (v4 + (4 : Int32)).toNatClampNeg) x119.2 x120 hx120 _ (Nat.le_refl _)) kd_162 rfl rfl (by omega) rfl (Nat.le_of_ble_eq_true rfl) d_law_1443 rfl (fun r9 M9 hq => ?_)
  rw [hq.1, hq.2]
  refine V_pop X d_law_1446 rfl rfl ?_
  refine V_goto (pc' := 1553) X d_law_1447 (by decide) ?_
  refine V_iinc (n := 4) (v := (v4 + (5 : Int32))) (lv' := [(4, .int (v4 + (5 : Int32))), (0, .ref b), (1, .ref (G.2.2 + 0)), (2, .ref (G.2.2 + 162)), (3, .ref (G.2.2 + 192))]) X d_law_1553 rfl rfl (by decide) rfl rfl ?_
  refine V_goto (pc' := 23) X d_law_1556 (by decide) ?_
  refine V_wid (cs' := (cs.1 + 1, cs.2 + 6)) ⟨Nat.le_succ _, Nat.le_add_right _ _⟩ ?_
  refine V_sub (lv' := [(0, .ref b), (1, .ref (G.2.2 + 0)), (2, .ref (G.2.2 + 162)), (3, .ref (G.2.2 + 192)), (4, .int (v4 + (5 : Int32)))]) [1, 2, 3, 4, 0] rfl ?_
  exact kc ((v4 + (5 : Int32)), x120.2) (Option.some.inj h).symm
def j_law_1450_23 (L : Nat) (xs : Nat → Int32) (v4 : Int32) (M : Mem) : Option ((Int32 × Mem) ⊕ ((Mem) ⊕ (Int32 × Mem))) :=
  if inb (v4 + (1 : Int32)) L = true then
  Option.bind (f_Top_keep (xs (v4 + (1 : Int32)).toNatClampNeg) M) fun x122 =>
  if inb (v4 + (1 : Int32)) L = true then
  Option.bind (f_Mod_keep (xs (v4 + (1 : Int32)).toNatClampNeg) x122.2) fun x123 =>
  some (.inl ((v4 + (5 : Int32)), x123.2))
  else none
  else none
theorem j_law_1450_23_ok {E : Ev} {cs : Nat × Nat} {G : Gw} {d : Nat} {Q : State → Prop} {b L : Nat} {xs : Nat → Int32} (X : Cx E G code "WomenByTheRoofsLaw" 7 d ret) (hz0 : Zc E cs) (hz : Zc E (cs.1 + 1, cs.2 + 6)) (hT : Tw G E.2.2.2.2.1 E.2.2.2.2.1.heap) (hl9 : E.2.1.stackTraces = false) (hX : va_X b L xs E.2.2.2.2.1 E.2.2.2.2.1.heap) (hbl : b < E.2.2.2.2.1.heap.size) (hbA : ¬ G.2.2 ≤ b) (hD : 450 ≤ d)  (v4 : Int32)  (M : Mem)  (o : (Int32 × Mem) ⊕ ((Mem) ⊕ (Int32 × Mem))) (h : j_law_1450_23 L xs v4 M = some o) (kc : ∀ s9 : Int32 × Mem, o = .inl s9 → V E (cs.1 + 1, cs.2 + 6) G 7 Q s9.2 23 [(0, .ref b), (1, .ref (G.2.2 + 0)), (2, .ref (G.2.2 + 162)), (3, .ref (G.2.2 + 192)), (4, .int s9.1)] []) (kx0 : ∀ x9 : Mem, o = .inr (Sum.inl x9) → V E (cs.1 + 1, cs.2 + 6) G 7 Q x9 1559 [] []) (kr : ∀ x9 : Int32 × Mem, o = .inr (Sum.inr x9) → False) : V E cs G 7 Q M 1450 [(0, .ref b), (1, .ref (G.2.2 + 0)), (2, .ref (G.2.2 + 162)), (3, .ref (G.2.2 + 192)), (4, .int v4)] [] := by
  unfold j_law_1450_23 at h
  refine V_aload_n (n := 1) X d_law_1450 rfl rfl rfl ?_
  refine V_aload_n (n := 0) X d_law_1451 rfl rfl rfl ?_
  refine V_iload (n := 4) X d_law_1452 rfl rfl ?_
  refine V_iconst (v := 1) X d_law_1454 (by decide) rfl ?_
  refine V_iadd X d_law_1455 rfl ?_
  obtain ⟨hb, h⟩ := ifn h
  refine V_sld X hX hbl hbA hb d_law_1456 rfl ?_
  obtain ⟨x122, hx122, h⟩ := ob_s h
  refine V_ci (As := [.int (xs (v4 + (1 : Int32)).toNatClampNeg)]) X hz0 ml_Lw_191 yq_Top_keep (c_Top_keep E.2.1 G (xs (v4 + (1 : Int32)).toNatClampNeg) M x122 hx122 _ (Nat.le_refl _)) kd_0 rfl rfl (by omega) rfl (Nat.le_of_ble_eq_true rfl) d_law_1457 rfl (fun r9 M9 hq => ?_)
  rw [hq.1, hq.2]
  refine V_pop X d_law_1460 rfl rfl ?_
  refine V_aload_n (n := 2) X d_law_1461 rfl rfl rfl ?_
  refine V_aload_n (n := 0) X d_law_1462 rfl rfl rfl ?_
  refine V_iload (n := 4) X d_law_1463 rfl rfl ?_
  refine V_iconst (v := 1) X d_law_1465 (by decide) rfl ?_
  refine V_iadd X d_law_1466 rfl ?_
  obtain ⟨hb, h⟩ := ifn h
  refine V_sld X hX hbl hbA hb d_law_1467 rfl ?_
  obtain ⟨x123, hx123, h⟩ := ob_s h
  refine V_ci (As := [.int (xs (v4 + (1 : Int32)).toNatClampNeg)]) X hz0 ml_Lw_194 yq_Mod_keep (c_Mod_keep E.2.1 G (xs (v4 + (1 : Int32)).toNatClampNeg) x122.2 x123 hx123 _ (Nat.le_refl _)) kd_162 rfl rfl (by omega) rfl (Nat.le_of_ble_eq_true rfl) d_law_1468 rfl (fun r9 M9 hq => ?_)
  rw [hq.1, hq.2]
  refine V_pop X d_law_1471 rfl rfl ?_
  refine V_goto (pc' := 1553) X d_law_1472 (by decide) ?_
  refine V_iinc (n := 4) (v := (v4 + (5 : Int32))) (lv' := [(4, .int (v4 + (5 : Int32))), (0, .ref b), (1, .ref (G.2.2 + 0)), (2, .ref (G.2.2 + 162)), (3, .ref (G.2.2 + 192))]) X d_law_1553 rfl rfl (by decide) rfl rfl ?_
  refine V_goto (pc' := 23) X d_law_1556 (by decide) ?_
  refine V_wid (cs' := (cs.1 + 1, cs.2 + 6)) ⟨Nat.le_succ _, Nat.le_add_right _ _⟩ ?_
  refine V_sub (lv' := [(0, .ref b), (1, .ref (G.2.2 + 0)), (2, .ref (G.2.2 + 162)), (3, .ref (G.2.2 + 192)), (4, .int (v4 + (5 : Int32)))]) [1, 2, 3, 4, 0] rfl ?_
  exact kc ((v4 + (5 : Int32)), x123.2) (Option.some.inj h).symm
def j_law_1475_23 (L : Nat) (xs : Nat → Int32) (v4 : Int32) (M : Mem) : Option ((Int32 × Mem) ⊕ ((Mem) ⊕ (Int32 × Mem))) :=
  if inb (v4 + (1 : Int32)) L = true then
  Option.bind (f_Top_again (xs (v4 + (1 : Int32)).toNatClampNeg) M) fun x125 =>
  if inb (v4 + (1 : Int32)) L = true then
  Option.bind (f_Mod_again (xs (v4 + (1 : Int32)).toNatClampNeg) x125.2) fun x126 =>
  some (.inl ((v4 + (5 : Int32)), x126.2))
  else none
  else none
theorem j_law_1475_23_ok {E : Ev} {cs : Nat × Nat} {G : Gw} {d : Nat} {Q : State → Prop} {b L : Nat} {xs : Nat → Int32} (X : Cx E G code "WomenByTheRoofsLaw" 7 d ret) (hz0 : Zc E cs) (hz : Zc E (cs.1 + 1, cs.2 + 6)) (hT : Tw G E.2.2.2.2.1 E.2.2.2.2.1.heap) (hl9 : E.2.1.stackTraces = false) (hX : va_X b L xs E.2.2.2.2.1 E.2.2.2.2.1.heap) (hbl : b < E.2.2.2.2.1.heap.size) (hbA : ¬ G.2.2 ≤ b) (hD : 450 ≤ d)  (v4 : Int32)  (M : Mem)  (o : (Int32 × Mem) ⊕ ((Mem) ⊕ (Int32 × Mem))) (h : j_law_1475_23 L xs v4 M = some o) (kc : ∀ s9 : Int32 × Mem, o = .inl s9 → V E (cs.1 + 1, cs.2 + 6) G 7 Q s9.2 23 [(0, .ref b), (1, .ref (G.2.2 + 0)), (2, .ref (G.2.2 + 162)), (3, .ref (G.2.2 + 192)), (4, .int s9.1)] []) (kx0 : ∀ x9 : Mem, o = .inr (Sum.inl x9) → V E (cs.1 + 1, cs.2 + 6) G 7 Q x9 1559 [] []) (kr : ∀ x9 : Int32 × Mem, o = .inr (Sum.inr x9) → False) : V E cs G 7 Q M 1475 [(0, .ref b), (1, .ref (G.2.2 + 0)), (2, .ref (G.2.2 + 162)), (3, .ref (G.2.2 + 192)), (4, .int v4)] [] := by
  unfold j_law_1475_23 at h
  refine V_aload_n (n := 1) X d_law_1475 rfl rfl rfl ?_
  refine V_aload_n (n := 0) X d_law_1476 rfl rfl rfl ?_
  refine V_iload (n := 4) X d_law_1477 rfl rfl ?_
  refine V_iconst (v := 1) X d_law_1479 (by decide) rfl ?_
  refine V_iadd X d_law_1480 rfl ?_
  obtain ⟨hb, h⟩ := ifn h
  refine V_sld X hX hbl hbA hb d_law_1481 rfl ?_
  obtain ⟨x125, hx125, h⟩ := ob_s h
  refine V_ci (As := [.int (xs (v4 + (1 : Int32)).toNatClampNeg)]) X hz0 ml_Lw_195 yq_Top_again (c_Top_again E.2.1 G (xs (v4 + (1 : Int32)).toNatClampNeg) M x125 hx125 _ (Nat.le_refl _)) kd_0 rfl rfl (by omega) rfl (Nat.le_of_ble_eq_true rfl) d_law_1482 rfl (fun r9 M9 hq => ?_)
  rw [hq.1, hq.2]
  refine V_pop X d_law_1485 rfl rfl ?_
  refine V_aload_n (n := 2) X d_law_1486 rfl rfl rfl ?_
  refine V_aload_n (n := 0) X d_law_1487 rfl rfl rfl ?_
  refine V_iload (n := 4) X d_law_1488 rfl rfl ?_
  refine V_iconst (v := 1) X d_law_1490 (by decide) rfl ?_
  refine V_iadd X d_law_1491 rfl ?_
  obtain ⟨hb, h⟩ := ifn h
  refine V_sld X hX hbl hbA hb d_law_1492 rfl ?_
  obtain ⟨x126, hx126, h⟩ := ob_s h
  refine V_ci (As := [.int (xs (v4 + (1 : Int32)).toNatClampNeg)]) X hz0 ml_Lw_198 yq_Mod_again (c_Mod_again E.2.1 G (xs (v4 + (1 : Int32)).toNatClampNeg) x125.2 x126 hx126 _ (Nat.le_refl _)) kd_162 rfl rfl (by omega) rfl (Nat.le_of_ble_eq_true rfl) d_law_1493 rfl (fun r9 M9 hq => ?_)
  rw [hq.1, hq.2]
  refine V_pop X d_law_1496 rfl rfl ?_
  refine V_goto (pc' := 1553) X d_law_1497 (by decide) ?_
  refine V_iinc (n := 4) (v := (v4 + (5 : Int32))) (lv' := [(4, .int (v4 + (5 : Int32))), (0, .ref b), (1, .ref (G.2.2 + 0)), (2, .ref (G.2.2 + 162)), (3, .ref (G.2.2 + 192))]) X d_law_1553 rfl rfl (by decide) rfl rfl ?_
  refine V_goto (pc' := 23) X d_law_1556 (by decide) ?_
  refine V_wid (cs' := (cs.1 + 1, cs.2 + 6)) ⟨Nat.le_succ _, Nat.le_add_right _ _⟩ ?_
  refine V_sub (lv' := [(0, .ref b), (1, .ref (G.2.2 + 0)), (2, .ref (G.2.2 + 162)), (3, .ref (G.2.2 + 192)), (4, .int (v4 + (5 : Int32)))]) [1, 2, 3, 4, 0] rfl ?_
  exact kc ((v4 + (5 : Int32)), x126.2) (Option.some.inj h).symm
def j_law_1500_23 (L : Nat) (xs : Nat → Int32) (v4 : Int32) (M : Mem) : Option ((Int32 × Mem) ⊕ ((Mem) ⊕ (Int32 × Mem))) :=
  if inb (v4 + (1 : Int32)) L = true then
  Option.bind (f_Top_count (xs (v4 + (1 : Int32)).toNatClampNeg) M) fun x128 =>
  if inb (v4 + (1 : Int32)) L = true then
  Option.bind (f_Mod_count (xs (v4 + (1 : Int32)).toNatClampNeg) M) fun x129 =>
  some (.inl ((v4 + (5 : Int32)), x129.2))
  else none
  else none
theorem j_law_1500_23_ok {E : Ev} {cs : Nat × Nat} {G : Gw} {d : Nat} {Q : State → Prop} {b L : Nat} {xs : Nat → Int32} (X : Cx E G code "WomenByTheRoofsLaw" 7 d ret) (hz0 : Zc E cs) (hz : Zc E (cs.1 + 1, cs.2 + 6)) (hT : Tw G E.2.2.2.2.1 E.2.2.2.2.1.heap) (hl9 : E.2.1.stackTraces = false) (hX : va_X b L xs E.2.2.2.2.1 E.2.2.2.2.1.heap) (hbl : b < E.2.2.2.2.1.heap.size) (hbA : ¬ G.2.2 ≤ b) (hD : 450 ≤ d)  (v4 : Int32)  (M : Mem)  (o : (Int32 × Mem) ⊕ ((Mem) ⊕ (Int32 × Mem))) (h : j_law_1500_23 L xs v4 M = some o) (kc : ∀ s9 : Int32 × Mem, o = .inl s9 → V E (cs.1 + 1, cs.2 + 6) G 7 Q s9.2 23 [(0, .ref b), (1, .ref (G.2.2 + 0)), (2, .ref (G.2.2 + 162)), (3, .ref (G.2.2 + 192)), (4, .int s9.1)] []) (kx0 : ∀ x9 : Mem, o = .inr (Sum.inl x9) → V E (cs.1 + 1, cs.2 + 6) G 7 Q x9 1559 [] []) (kr : ∀ x9 : Int32 × Mem, o = .inr (Sum.inr x9) → False) : V E cs G 7 Q M 1500 [(0, .ref b), (1, .ref (G.2.2 + 0)), (2, .ref (G.2.2 + 162)), (3, .ref (G.2.2 + 192)), (4, .int v4)] [] := by
  unfold j_law_1500_23 at h
  refine V_aload_n (n := 1) X d_law_1500 rfl rfl rfl ?_
  refine V_aload_n (n := 0) X d_law_1501 rfl rfl rfl ?_
  refine V_iload (n := 4) X d_law_1502 rfl rfl ?_
  refine V_iconst (v := 1) X d_law_1504 (by decide) rfl ?_
  refine V_iadd X d_law_1505 rfl ?_
  obtain ⟨hb, h⟩ := ifn h
  refine V_sld X hX hbl hbA hb d_law_1506 rfl ?_
  obtain ⟨x128, hx128, h⟩ := ob_s h
  refine V_ci (As := [.int (xs (v4 + (1 : Int32)).toNatClampNeg)]) X hz0 ml_Lw_199 yq_Top_count (c_Top_count E.2.1 G (xs (v4 + (1 : Int32)).toNatClampNeg) M x128 hx128 _ (Nat.le_refl _)) kd_0 rfl rfl (by omega) rfl (Nat.le_of_ble_eq_true rfl) d_law_1507 rfl (fun r9 M9 hq => ?_)
  rw [hq.1, hq.2]
  refine V_pop X d_law_1510 rfl rfl ?_
  refine V_aload_n (n := 2) X d_law_1511 rfl rfl rfl ?_
  refine V_aload_n (n := 0) X d_law_1512 rfl rfl rfl ?_
  refine V_iload (n := 4) X d_law_1513 rfl rfl ?_
  refine V_iconst (v := 1) X d_law_1515 (by decide) rfl ?_
  refine V_iadd X d_law_1516 rfl ?_
  obtain ⟨hb, h⟩ := ifn h
  refine V_sld X hX hbl hbA hb d_law_1517 rfl ?_
  obtain ⟨x129, hx129, h⟩ := ob_s h
  refine V_ci (As := [.int (xs (v4 + (1 : Int32)).toNatClampNeg)]) X hz0 ml_Lw_202 yq_Mod_count (c_Mod_count E.2.1 G (xs (v4 + (1 : Int32)).toNatClampNeg) M x129 hx129 _ (Nat.le_refl _)) kd_162 rfl rfl (by omega) rfl (Nat.le_of_ble_eq_true rfl) d_law_1518 rfl (fun r9 M9 hq => ?_)
  rw [hq.1, hq.2]
  refine V_pop X d_law_1521 rfl rfl ?_
  refine V_goto (pc' := 1553) X d_law_1522 (by decide) ?_
  refine V_iinc (n := 4) (v := (v4 + (5 : Int32))) (lv' := [(4, .int (v4 + (5 : Int32))), (0, .ref b), (1, .ref (G.2.2 + 0)), (2, .ref (G.2.2 + 162)), (3, .ref (G.2.2 + 192))]) X d_law_1553 rfl rfl (by decide) rfl rfl ?_
  refine V_goto (pc' := 23) X d_law_1556 (by decide) ?_
  refine V_wid (cs' := (cs.1 + 1, cs.2 + 6)) ⟨Nat.le_succ _, Nat.le_add_right _ _⟩ ?_
  refine V_sub (lv' := [(0, .ref b), (1, .ref (G.2.2 + 0)), (2, .ref (G.2.2 + 162)), (3, .ref (G.2.2 + 192)), (4, .int (v4 + (5 : Int32)))]) [1, 2, 3, 4, 0] rfl ?_
  exact kc ((v4 + (5 : Int32)), x129.2) (Option.some.inj h).symm
def j_law_1525_23 (L : Nat) (xs : Nat → Int32) (v4 : Int32) (M : Mem) : Option ((Int32 × Mem) ⊕ ((Mem) ⊕ (Int32 × Mem))) :=
  if inb (v4 + (1 : Int32)) L = true then
  Option.bind (f_Lw_row (xs (v4 + (1 : Int32)).toNatClampNeg) M) fun x131 =>
  if inb (v4 + (1 : Int32)) L = true then
  Option.bind (f_Mod_row (xs (v4 + (1 : Int32)).toNatClampNeg) x131.2) fun x132 =>
  some (.inl ((v4 + (5 : Int32)), x132.2))
  else none
  else none
theorem j_law_1525_23_ok {E : Ev} {cs : Nat × Nat} {G : Gw} {d : Nat} {Q : State → Prop} {b L : Nat} {xs : Nat → Int32} (X : Cx E G code "WomenByTheRoofsLaw" 7 d ret) (hz0 : Zc E cs) (hz : Zc E (cs.1 + 1, cs.2 + 6)) (hT : Tw G E.2.2.2.2.1 E.2.2.2.2.1.heap) (hl9 : E.2.1.stackTraces = false) (hX : va_X b L xs E.2.2.2.2.1 E.2.2.2.2.1.heap) (hbl : b < E.2.2.2.2.1.heap.size) (hbA : ¬ G.2.2 ≤ b) (hD : 450 ≤ d)  (v4 : Int32)  (M : Mem)  (o : (Int32 × Mem) ⊕ ((Mem) ⊕ (Int32 × Mem))) (h : j_law_1525_23 L xs v4 M = some o) (kc : ∀ s9 : Int32 × Mem, o = .inl s9 → V E (cs.1 + 1, cs.2 + 6) G 7 Q s9.2 23 [(0, .ref b), (1, .ref (G.2.2 + 0)), (2, .ref (G.2.2 + 162)), (3, .ref (G.2.2 + 192)), (4, .int s9.1)] []) (kx0 : ∀ x9 : Mem, o = .inr (Sum.inl x9) → V E (cs.1 + 1, cs.2 + 6) G 7 Q x9 1559 [] []) (kr : ∀ x9 : Int32 × Mem, o = .inr (Sum.inr x9) → False) : V E cs G 7 Q M 1525 [(0, .ref b), (1, .ref (G.2.2 + 0)), (2, .ref (G.2.2 + 162)), (3, .ref (G.2.2 + 192)), (4, .int v4)] [] := by
  unfold j_law_1525_23 at h
  refine V_aload_n (n := 1) X d_law_1525 rfl rfl rfl ?_
  refine V_aload_n (n := 0) X d_law_1526 rfl rfl rfl ?_
  refine V_iload (n := 4) X d_law_1527 rfl rfl ?_
  refine V_iconst (v := 1) X d_law_1529 (by decide) rfl ?_
  refine V_iadd X d_law_1530 rfl ?_
  obtain ⟨hb, h⟩ := ifn h
  refine V_sld X hX hbl hbA hb d_law_1531 rfl ?_
  refine V_aload_n (n := 3) X d_law_1532 rfl rfl rfl ?_
  obtain ⟨x131, hx131, h⟩ := ob_s h
  refine V_sh (As := [.ref (G.2.2 + 0), .int (xs (v4 + (1 : Int32)).toNatClampNeg), .ref (G.2.2 + 192)]) X hT hz rfl mh_203 yh_Lw_row (by decide) (c_Lw_row E.2.1 hl9 G (xs (v4 + (1 : Int32)).toNatClampNeg) M x131 hx131 _ (Nat.le_refl _)) rfl (by omega) rfl (Nat.le_of_ble_eq_true rfl) d_law_1533 rfl (fun r9 M9 hq => ?_)
  rw [hq.1, hq.2]
  refine V_istore (lv' := [(5, .int x131.1), (0, .ref b), (1, .ref (G.2.2 + 0)), (2, .ref (G.2.2 + 162)), (3, .ref (G.2.2 + 192)), (4, .int v4)]) X d_law_1536 (by decide) rfl rfl ?_
  refine V_aload_n (n := 3) X d_law_1538 rfl rfl rfl ?_
  refine V_aload_n (n := 1) X d_law_1539 rfl rfl rfl ?_
  refine V_iload (n := 5) X d_law_1540 rfl rfl ?_
  refine V_iconst (v := 1) X d_law_1542 (by decide) rfl ?_
  refine V_iadd X d_law_1543 rfl ?_
  obtain ⟨hb, h⟩ := ifn h
  refine V_sld X hX hbl hbA hb d_law_1544 rfl ?_
  obtain ⟨x132, hx132, h⟩ := ob_s h
  refine V_ci (As := [.int (xs (v4 + (1 : Int32)).toNatClampNeg)]) X hz ml_Lw_206 yq_Mod_row (c_Mod_row E.2.1 G (xs (v4 + (1 : Int32)).toNatClampNeg) x131.2 x132 hx132 _ (Nat.le_refl _)) kd_162 rfl rfl (by omega) rfl (Nat.le_of_ble_eq_true rfl) d_law_1545 rfl (fun r9 M9 hq => ?_)
  rw [hq.1, hq.2]
  refine V_istore (lv' := [(6, .int x132.1), (5, .int x131.1), (0, .ref b), (1, .ref (G.2.2 + 0)), (2, .ref (G.2.2 + 162)), (3, .ref (G.2.2 + 192)), (4, .int v4)]) X d_law_1548 (by decide) rfl rfl ?_
  refine V_goto (pc' := 1553) X d_law_1550 (by decide) ?_
  refine V_iinc (n := 6) (v := (v4 + (5 : Int32))) (lv' := [(4, .int (v4 + (5 : Int32))), (6, .int x132.1), (5, .int x131.1), (0, .ref b), (1, .ref (G.2.2 + 0)), (2, .ref (G.2.2 + 162)), (3, .ref (G.2.2 + 192))]) X d_law_1553 rfl rfl (by decide) rfl rfl ?_
  refine V_goto (pc' := 23) X d_law_1556 (by decide) ?_
  refine V_sub (lv' := [(0, .ref b), (1, .ref (G.2.2 + 0)), (2, .ref (G.2.2 + 162)), (3, .ref (G.2.2 + 192)), (4, .int (v4 + (5 : Int32)))]) [3, 4, 5, 6, 0] rfl ?_
  exact kc ((v4 + (5 : Int32)), x132.2) (Option.some.inj h).symm
def lb_law (L : Nat) (xs : Nat → Int32) (s : Int32 × Mem) : Option ((Int32 × Mem) ⊕ ((Mem) ⊕ (Int32 × Mem))) :=
  if ((Int32.ofNat L) - (5 : Int32)) < s.1 then
  some (.inr (Sum.inl s.2))
  else
  if inb s.1 L = true then
  if ((xs s.1.toNatClampNeg) &&& (63 : Int32)) = (0 : Int32) then
  j_law_228_23 L xs s.1 s.2
  else if ((xs s.1.toNatClampNeg) &&& (63 : Int32)) = (1 : Int32) then
  j_law_253_23 L xs s.1 s.2
  else if ((xs s.1.toNatClampNeg) &&& (63 : Int32)) = (2 : Int32) then
  j_law_278_23 L xs s.1 s.2
  else if ((xs s.1.toNatClampNeg) &&& (63 : Int32)) = (3 : Int32) then
  j_law_291_23 L xs s.1 s.2
  else if ((xs s.1.toNatClampNeg) &&& (63 : Int32)) = (4 : Int32) then
  j_law_304_23 L xs s.1 s.2
  else if ((xs s.1.toNatClampNeg) &&& (63 : Int32)) = (5 : Int32) then
  j_law_317_23 L xs s.1 s.2
  else if ((xs s.1.toNatClampNeg) &&& (63 : Int32)) = (6 : Int32) then
  j_law_342_23 L xs s.1 s.2
  else if ((xs s.1.toNatClampNeg) &&& (63 : Int32)) = (7 : Int32) then
  j_law_382_23 L xs s.1 s.2
  else if ((xs s.1.toNatClampNeg) &&& (63 : Int32)) = (8 : Int32) then
  j_law_422_23 L xs s.1 s.2
  else if ((xs s.1.toNatClampNeg) &&& (63 : Int32)) = (9 : Int32) then
  j_law_459_23 L xs s.1 s.2
  else if ((xs s.1.toNatClampNeg) &&& (63 : Int32)) = (10 : Int32) then
  j_law_496_23 L xs s.1 s.2
  else if ((xs s.1.toNatClampNeg) &&& (63 : Int32)) = (11 : Int32) then
  j_law_509_23 L xs s.1 s.2
  else if ((xs s.1.toNatClampNeg) &&& (63 : Int32)) = (12 : Int32) then
  j_law_570_23 L xs s.1 s.2
  else if ((xs s.1.toNatClampNeg) &&& (63 : Int32)) = (13 : Int32) then
  j_law_595_23 L xs s.1 s.2
  else if ((xs s.1.toNatClampNeg) &&& (63 : Int32)) = (14 : Int32) then
  j_law_620_23 L xs s.1 s.2
  else if ((xs s.1.toNatClampNeg) &&& (63 : Int32)) = (15 : Int32) then
  j_law_633_23 L xs s.1 s.2
  else if ((xs s.1.toNatClampNeg) &&& (63 : Int32)) = (16 : Int32) then
  j_law_658_23 L xs s.1 s.2
  else if ((xs s.1.toNatClampNeg) &&& (63 : Int32)) = (17 : Int32) then
  j_law_671_23 L xs s.1 s.2
  else if ((xs s.1.toNatClampNeg) &&& (63 : Int32)) = (18 : Int32) then
  j_law_684_23 L xs s.1 s.2
  else if ((xs s.1.toNatClampNeg) &&& (63 : Int32)) = (19 : Int32) then
  j_law_721_23 L xs s.1 s.2
  else if ((xs s.1.toNatClampNeg) &&& (63 : Int32)) = (20 : Int32) then
  j_law_746_23 L xs s.1 s.2
  else if ((xs s.1.toNatClampNeg) &&& (63 : Int32)) = (21 : Int32) then
  j_law_783_23 L xs s.1 s.2
  else if ((xs s.1.toNatClampNeg) &&& (63 : Int32)) = (22 : Int32) then
  j_law_796_23 L xs s.1 s.2
  else if ((xs s.1.toNatClampNeg) &&& (63 : Int32)) = (23 : Int32) then
  j_law_821_23 L xs s.1 s.2
  else if ((xs s.1.toNatClampNeg) &&& (63 : Int32)) = (24 : Int32) then
  j_law_846_23 L xs s.1 s.2
  else if ((xs s.1.toNatClampNeg) &&& (63 : Int32)) = (25 : Int32) then
  j_law_883_23 L xs s.1 s.2
  else if ((xs s.1.toNatClampNeg) &&& (63 : Int32)) = (26 : Int32) then
  j_law_932_23 L xs s.1 s.2
  else if ((xs s.1.toNatClampNeg) &&& (63 : Int32)) = (27 : Int32) then
  j_law_993_23 L xs s.1 s.2
  else if ((xs s.1.toNatClampNeg) &&& (63 : Int32)) = (28 : Int32) then
  j_law_1030_23 L xs s.1 s.2
  else if ((xs s.1.toNatClampNeg) &&& (63 : Int32)) = (29 : Int32) then
  j_law_1067_23 L xs s.1 s.2
  else if ((xs s.1.toNatClampNeg) &&& (63 : Int32)) = (30 : Int32) then
  j_law_1104_23 L xs s.1 s.2
  else if ((xs s.1.toNatClampNeg) &&& (63 : Int32)) = (31 : Int32) then
  j_law_1141_23 L xs s.1 s.2
  else if ((xs s.1.toNatClampNeg) &&& (63 : Int32)) = (32 : Int32) then
  j_law_1178_23 L xs s.1 s.2
  else if ((xs s.1.toNatClampNeg) &&& (63 : Int32)) = (33 : Int32) then
  j_law_1203_23 L xs s.1 s.2
  else if ((xs s.1.toNatClampNeg) &&& (63 : Int32)) = (34 : Int32) then
  j_law_1228_23 L xs s.1 s.2
  else if ((xs s.1.toNatClampNeg) &&& (63 : Int32)) = (35 : Int32) then
  j_law_1241_23 L xs s.1 s.2
  else if ((xs s.1.toNatClampNeg) &&& (63 : Int32)) = (36 : Int32) then
  j_law_1278_23 L xs s.1 s.2
  else if ((xs s.1.toNatClampNeg) &&& (63 : Int32)) = (37 : Int32) then
  j_law_1327_23 L xs s.1 s.2
  else if ((xs s.1.toNatClampNeg) &&& (63 : Int32)) = (38 : Int32) then
  j_law_1352_23 L xs s.1 s.2
  else if ((xs s.1.toNatClampNeg) &&& (63 : Int32)) = (39 : Int32) then
  j_law_1389_23 L xs s.1 s.2
  else if ((xs s.1.toNatClampNeg) &&& (63 : Int32)) = (40 : Int32) then
  j_law_1450_23 L xs s.1 s.2
  else if ((xs s.1.toNatClampNeg) &&& (63 : Int32)) = (41 : Int32) then
  j_law_1475_23 L xs s.1 s.2
  else if ((xs s.1.toNatClampNeg) &&& (63 : Int32)) = (42 : Int32) then
  j_law_1500_23 L xs s.1 s.2
  else if ((xs s.1.toNatClampNeg) &&& (63 : Int32)) = (43 : Int32) then
  j_law_1525_23 L xs s.1 s.2
  else some (.inl ((s.1 + (5 : Int32)), s.2))
  else none
set_option maxRecDepth 20000 in
theorem lb_law_ok {E : Ev} {cs : Nat × Nat} {G : Gw} {d : Nat} {Q : State → Prop} {b L : Nat} {xs : Nat → Int32} (X : Cx E G code "WomenByTheRoofsLaw" 7 d ret) (hz0 : Zc E cs) (hz : Zc E (cs.1 + 1, cs.2 + 6)) (hT : Tw G E.2.2.2.2.1 E.2.2.2.2.1.heap) (hl9 : E.2.1.stackTraces = false) (hX : va_X b L xs E.2.2.2.2.1 E.2.2.2.2.1.heap) (hbl : b < E.2.2.2.2.1.heap.size) (hbA : ¬ G.2.2 ≤ b) (hD : 450 ≤ d) (s : Int32 × Mem) (o : (Int32 × Mem) ⊕ ((Mem) ⊕ (Int32 × Mem))) (h : lb_law L xs s = some o) (kc : ∀ s9 : Int32 × Mem, o = .inl s9 → V E (cs.1 + 1, cs.2 + 6) G 7 Q s9.2 23 [(0, .ref b), (1, .ref (G.2.2 + 0)), (2, .ref (G.2.2 + 162)), (3, .ref (G.2.2 + 192)), (4, .int s9.1)] []) (kx0 : ∀ x9 : Mem, o = .inr (Sum.inl x9) → V E (cs.1 + 1, cs.2 + 6) G 7 Q x9 1559 [] []) (kr : ∀ x9 : Int32 × Mem, o = .inr (Sum.inr x9) → False) : V E cs G 7 Q s.2 23 [(0, .ref b), (1, .ref (G.2.2 + 0)), (2, .ref (G.2.2 + 162)), (3, .ref (G.2.2 + 192)), (4, .int s.1)] [] := by
  unfold lb_law at h
  refine V_iload (n := 4) X d_law_23 rfl rfl ?_
  refine V_aload_n (n := 0) X d_law_25 rfl rfl rfl ?_
  refine V_slen X hX hbl hbA d_law_26 rfl ?_
  refine V_iconst (v := 5) X d_law_27 (by decide) rfl ?_
  refine V_isub X d_law_28 rfl ?_
  refine V_icmp_gt (tgt := 1559) X d_law_29 (by decide) rfl (fun c134 => ?_) (fun c134 => ?_)
  · rw [if_pos c134] at h
    refine V_wid (cs' := (cs.1 + 1, cs.2 + 6)) ⟨Nat.le_succ _, Nat.le_add_right _ _⟩ ?_
    refine V_sub (lv' := []) [] rfl ?_
    exact kx0 s.2 (Option.some.inj h).symm
  · rw [if_neg c134] at h
    refine V_aload_n (n := 0) X d_law_32 rfl rfl rfl ?_
    refine V_iload (n := 4) X d_law_33 rfl rfl ?_
    obtain ⟨hb, h⟩ := ifn h
    refine V_sld X hX hbl hbA hb d_law_35 rfl ?_
    refine V_bipush (v := 63) X d_law_36 (by decide) rfl ?_
    refine V_iand X d_law_38 rfl ?_
    by_cases c3 : ((xs s.1.toNatClampNeg) &&& (63 : Int32)) = (0 : Int32)
    · rw [if_pos c3] at h
      refine V_tbl (v := 0) (pc' := 228) (off := 189) X d_law_39 c3 (by decide) (by decide) (by decide +kernel) (by decide) ?_
      exact j_law_228_23_ok X hz0 hz hT hl9 hX hbl hbA hD s.1 s.2 _ h kc kx0 kr
    · rw [if_neg c3] at h
      by_cases c6 : ((xs s.1.toNatClampNeg) &&& (63 : Int32)) = (1 : Int32)
      · rw [if_pos c6] at h
        refine V_tbl (v := 1) (pc' := 253) (off := 214) X d_law_39 c6 (by decide) (by decide) (by decide +kernel) (by decide) ?_
        exact j_law_253_23_ok X hz0 hz hT hl9 hX hbl hbA hD s.1 s.2 _ h kc kx0 kr
      · rw [if_neg c6] at h
        by_cases c9 : ((xs s.1.toNatClampNeg) &&& (63 : Int32)) = (2 : Int32)
        · rw [if_pos c9] at h
          refine V_tbl (v := 2) (pc' := 278) (off := 239) X d_law_39 c9 (by decide) (by decide) (by decide +kernel) (by decide) ?_
          exact j_law_278_23_ok X hz0 hz hT hl9 hX hbl hbA hD s.1 s.2 _ h kc kx0 kr
        · rw [if_neg c9] at h
          by_cases c12 : ((xs s.1.toNatClampNeg) &&& (63 : Int32)) = (3 : Int32)
          · rw [if_pos c12] at h
            refine V_tbl (v := 3) (pc' := 291) (off := 252) X d_law_39 c12 (by decide) (by decide) (by decide +kernel) (by decide) ?_
            exact j_law_291_23_ok X hz0 hz hT hl9 hX hbl hbA hD s.1 s.2 _ h kc kx0 kr
          · rw [if_neg c12] at h
            by_cases c15 : ((xs s.1.toNatClampNeg) &&& (63 : Int32)) = (4 : Int32)
            · rw [if_pos c15] at h
              refine V_tbl (v := 4) (pc' := 304) (off := 265) X d_law_39 c15 (by decide) (by decide) (by decide +kernel) (by decide) ?_
              exact j_law_304_23_ok X hz0 hz hT hl9 hX hbl hbA hD s.1 s.2 _ h kc kx0 kr
            · rw [if_neg c15] at h
              by_cases c18 : ((xs s.1.toNatClampNeg) &&& (63 : Int32)) = (5 : Int32)
              · rw [if_pos c18] at h
                refine V_tbl (v := 5) (pc' := 317) (off := 278) X d_law_39 c18 (by decide) (by decide) (by decide +kernel) (by decide) ?_
                exact j_law_317_23_ok X hz0 hz hT hl9 hX hbl hbA hD s.1 s.2 _ h kc kx0 kr
              · rw [if_neg c18] at h
                by_cases c21 : ((xs s.1.toNatClampNeg) &&& (63 : Int32)) = (6 : Int32)
                · rw [if_pos c21] at h
                  refine V_tbl (v := 6) (pc' := 342) (off := 303) X d_law_39 c21 (by decide) (by decide) (by decide +kernel) (by decide) ?_
                  exact j_law_342_23_ok X hz0 hz hT hl9 hX hbl hbA hD s.1 s.2 _ h kc kx0 kr
                · rw [if_neg c21] at h
                  by_cases c24 : ((xs s.1.toNatClampNeg) &&& (63 : Int32)) = (7 : Int32)
                  · rw [if_pos c24] at h
                    refine V_tbl (v := 7) (pc' := 382) (off := 343) X d_law_39 c24 (by decide) (by decide) (by decide +kernel) (by decide) ?_
                    exact j_law_382_23_ok X hz0 hz hT hl9 hX hbl hbA hD s.1 s.2 _ h kc kx0 kr
                  · rw [if_neg c24] at h
                    by_cases c27 : ((xs s.1.toNatClampNeg) &&& (63 : Int32)) = (8 : Int32)
                    · rw [if_pos c27] at h
                      refine V_tbl (v := 8) (pc' := 422) (off := 383) X d_law_39 c27 (by decide) (by decide) (by decide +kernel) (by decide) ?_
                      exact j_law_422_23_ok X hz0 hz hT hl9 hX hbl hbA hD s.1 s.2 _ h kc kx0 kr
                    · rw [if_neg c27] at h
                      by_cases c30 : ((xs s.1.toNatClampNeg) &&& (63 : Int32)) = (9 : Int32)
                      · rw [if_pos c30] at h
                        refine V_tbl (v := 9) (pc' := 459) (off := 420) X d_law_39 c30 (by decide) (by decide) (by decide +kernel) (by decide) ?_
                        exact j_law_459_23_ok X hz0 hz hT hl9 hX hbl hbA hD s.1 s.2 _ h kc kx0 kr
                      · rw [if_neg c30] at h
                        by_cases c33 : ((xs s.1.toNatClampNeg) &&& (63 : Int32)) = (10 : Int32)
                        · rw [if_pos c33] at h
                          refine V_tbl (v := 10) (pc' := 496) (off := 457) X d_law_39 c33 (by decide) (by decide) (by decide +kernel) (by decide) ?_
                          exact j_law_496_23_ok X hz0 hz hT hl9 hX hbl hbA hD s.1 s.2 _ h kc kx0 kr
                        · rw [if_neg c33] at h
                          by_cases c36 : ((xs s.1.toNatClampNeg) &&& (63 : Int32)) = (11 : Int32)
                          · rw [if_pos c36] at h
                            refine V_tbl (v := 11) (pc' := 509) (off := 470) X d_law_39 c36 (by decide) (by decide) (by decide +kernel) (by decide) ?_
                            exact j_law_509_23_ok X hz0 hz hT hl9 hX hbl hbA hD s.1 s.2 _ h kc kx0 kr
                          · rw [if_neg c36] at h
                            by_cases c39 : ((xs s.1.toNatClampNeg) &&& (63 : Int32)) = (12 : Int32)
                            · rw [if_pos c39] at h
                              refine V_tbl (v := 12) (pc' := 570) (off := 531) X d_law_39 c39 (by decide) (by decide) (by decide +kernel) (by decide) ?_
                              exact j_law_570_23_ok X hz0 hz hT hl9 hX hbl hbA hD s.1 s.2 _ h kc kx0 kr
                            · rw [if_neg c39] at h
                              by_cases c42 : ((xs s.1.toNatClampNeg) &&& (63 : Int32)) = (13 : Int32)
                              · rw [if_pos c42] at h
                                refine V_tbl (v := 13) (pc' := 595) (off := 556) X d_law_39 c42 (by decide) (by decide) (by decide +kernel) (by decide) ?_
                                exact j_law_595_23_ok X hz0 hz hT hl9 hX hbl hbA hD s.1 s.2 _ h kc kx0 kr
                              · rw [if_neg c42] at h
                                by_cases c45 : ((xs s.1.toNatClampNeg) &&& (63 : Int32)) = (14 : Int32)
                                · rw [if_pos c45] at h
                                  refine V_tbl (v := 14) (pc' := 620) (off := 581) X d_law_39 c45 (by decide) (by decide) (by decide +kernel) (by decide) ?_
                                  exact j_law_620_23_ok X hz0 hz hT hl9 hX hbl hbA hD s.1 s.2 _ h kc kx0 kr
                                · rw [if_neg c45] at h
                                  by_cases c48 : ((xs s.1.toNatClampNeg) &&& (63 : Int32)) = (15 : Int32)
                                  · rw [if_pos c48] at h
                                    refine V_tbl (v := 15) (pc' := 633) (off := 594) X d_law_39 c48 (by decide) (by decide) (by decide +kernel) (by decide) ?_
                                    exact j_law_633_23_ok X hz0 hz hT hl9 hX hbl hbA hD s.1 s.2 _ h kc kx0 kr
                                  · rw [if_neg c48] at h
                                    by_cases c51 : ((xs s.1.toNatClampNeg) &&& (63 : Int32)) = (16 : Int32)
                                    · rw [if_pos c51] at h
                                      refine V_tbl (v := 16) (pc' := 658) (off := 619) X d_law_39 c51 (by decide) (by decide) (by decide +kernel) (by decide) ?_
                                      exact j_law_658_23_ok X hz0 hz hT hl9 hX hbl hbA hD s.1 s.2 _ h kc kx0 kr
                                    · rw [if_neg c51] at h
                                      by_cases c54 : ((xs s.1.toNatClampNeg) &&& (63 : Int32)) = (17 : Int32)
                                      · rw [if_pos c54] at h
                                        refine V_tbl (v := 17) (pc' := 671) (off := 632) X d_law_39 c54 (by decide) (by decide) (by decide +kernel) (by decide) ?_
                                        exact j_law_671_23_ok X hz0 hz hT hl9 hX hbl hbA hD s.1 s.2 _ h kc kx0 kr
                                      · rw [if_neg c54] at h
                                        by_cases c57 : ((xs s.1.toNatClampNeg) &&& (63 : Int32)) = (18 : Int32)
                                        · rw [if_pos c57] at h
                                          refine V_tbl (v := 18) (pc' := 684) (off := 645) X d_law_39 c57 (by decide) (by decide) (by decide +kernel) (by decide) ?_
                                          exact j_law_684_23_ok X hz0 hz hT hl9 hX hbl hbA hD s.1 s.2 _ h kc kx0 kr
                                        · rw [if_neg c57] at h
                                          by_cases c60 : ((xs s.1.toNatClampNeg) &&& (63 : Int32)) = (19 : Int32)
                                          · rw [if_pos c60] at h
                                            refine V_tbl (v := 19) (pc' := 721) (off := 682) X d_law_39 c60 (by decide) (by decide) (by decide +kernel) (by decide) ?_
                                            exact j_law_721_23_ok X hz0 hz hT hl9 hX hbl hbA hD s.1 s.2 _ h kc kx0 kr
                                          · rw [if_neg c60] at h
                                            by_cases c63 : ((xs s.1.toNatClampNeg) &&& (63 : Int32)) = (20 : Int32)
                                            · rw [if_pos c63] at h
                                              refine V_tbl (v := 20) (pc' := 746) (off := 707) X d_law_39 c63 (by decide) (by decide) (by decide +kernel) (by decide) ?_
                                              exact j_law_746_23_ok X hz0 hz hT hl9 hX hbl hbA hD s.1 s.2 _ h kc kx0 kr
                                            · rw [if_neg c63] at h
                                              by_cases c66 : ((xs s.1.toNatClampNeg) &&& (63 : Int32)) = (21 : Int32)
                                              · rw [if_pos c66] at h
                                                refine V_tbl (v := 21) (pc' := 783) (off := 744) X d_law_39 c66 (by decide) (by decide) (by decide +kernel) (by decide) ?_
                                                exact j_law_783_23_ok X hz0 hz hT hl9 hX hbl hbA hD s.1 s.2 _ h kc kx0 kr
                                              · rw [if_neg c66] at h
                                                by_cases c69 : ((xs s.1.toNatClampNeg) &&& (63 : Int32)) = (22 : Int32)
                                                · rw [if_pos c69] at h
                                                  refine V_tbl (v := 22) (pc' := 796) (off := 757) X d_law_39 c69 (by decide) (by decide) (by decide +kernel) (by decide) ?_
                                                  exact j_law_796_23_ok X hz0 hz hT hl9 hX hbl hbA hD s.1 s.2 _ h kc kx0 kr
                                                · rw [if_neg c69] at h
                                                  by_cases c72 : ((xs s.1.toNatClampNeg) &&& (63 : Int32)) = (23 : Int32)
                                                  · rw [if_pos c72] at h
                                                    refine V_tbl (v := 23) (pc' := 821) (off := 782) X d_law_39 c72 (by decide) (by decide) (by decide +kernel) (by decide) ?_
                                                    exact j_law_821_23_ok X hz0 hz hT hl9 hX hbl hbA hD s.1 s.2 _ h kc kx0 kr
                                                  · rw [if_neg c72] at h
                                                    by_cases c75 : ((xs s.1.toNatClampNeg) &&& (63 : Int32)) = (24 : Int32)
                                                    · rw [if_pos c75] at h
                                                      refine V_tbl (v := 24) (pc' := 846) (off := 807) X d_law_39 c75 (by decide) (by decide) (by decide +kernel) (by decide) ?_
                                                      exact j_law_846_23_ok X hz0 hz hT hl9 hX hbl hbA hD s.1 s.2 _ h kc kx0 kr
                                                    · rw [if_neg c75] at h
                                                      by_cases c78 : ((xs s.1.toNatClampNeg) &&& (63 : Int32)) = (25 : Int32)
                                                      · rw [if_pos c78] at h
                                                        refine V_tbl (v := 25) (pc' := 883) (off := 844) X d_law_39 c78 (by decide) (by decide) (by decide +kernel) (by decide) ?_
                                                        exact j_law_883_23_ok X hz0 hz hT hl9 hX hbl hbA hD s.1 s.2 _ h kc kx0 kr
                                                      · rw [if_neg c78] at h
                                                        by_cases c81 : ((xs s.1.toNatClampNeg) &&& (63 : Int32)) = (26 : Int32)
                                                        · rw [if_pos c81] at h
                                                          refine V_tbl (v := 26) (pc' := 932) (off := 893) X d_law_39 c81 (by decide) (by decide) (by decide +kernel) (by decide) ?_
                                                          exact j_law_932_23_ok X hz0 hz hT hl9 hX hbl hbA hD s.1 s.2 _ h kc kx0 kr
                                                        · rw [if_neg c81] at h
                                                          by_cases c84 : ((xs s.1.toNatClampNeg) &&& (63 : Int32)) = (27 : Int32)
                                                          · rw [if_pos c84] at h
                                                            refine V_tbl (v := 27) (pc' := 993) (off := 954) X d_law_39 c84 (by decide) (by decide) (by decide +kernel) (by decide) ?_
                                                            exact j_law_993_23_ok X hz0 hz hT hl9 hX hbl hbA hD s.1 s.2 _ h kc kx0 kr
                                                          · rw [if_neg c84] at h
                                                            by_cases c87 : ((xs s.1.toNatClampNeg) &&& (63 : Int32)) = (28 : Int32)
                                                            · rw [if_pos c87] at h
                                                              refine V_tbl (v := 28) (pc' := 1030) (off := 991) X d_law_39 c87 (by decide) (by decide) (by decide +kernel) (by decide) ?_
                                                              exact j_law_1030_23_ok X hz0 hz hT hl9 hX hbl hbA hD s.1 s.2 _ h kc kx0 kr
                                                            · rw [if_neg c87] at h
                                                              by_cases c90 : ((xs s.1.toNatClampNeg) &&& (63 : Int32)) = (29 : Int32)
                                                              · rw [if_pos c90] at h
                                                                refine V_tbl (v := 29) (pc' := 1067) (off := 1028) X d_law_39 c90 (by decide) (by decide) (by decide +kernel) (by decide) ?_
                                                                exact j_law_1067_23_ok X hz0 hz hT hl9 hX hbl hbA hD s.1 s.2 _ h kc kx0 kr
                                                              · rw [if_neg c90] at h
                                                                by_cases c93 : ((xs s.1.toNatClampNeg) &&& (63 : Int32)) = (30 : Int32)
                                                                · rw [if_pos c93] at h
                                                                  refine V_tbl (v := 30) (pc' := 1104) (off := 1065) X d_law_39 c93 (by decide) (by decide) (by decide +kernel) (by decide) ?_
                                                                  exact j_law_1104_23_ok X hz0 hz hT hl9 hX hbl hbA hD s.1 s.2 _ h kc kx0 kr
                                                                · rw [if_neg c93] at h
                                                                  by_cases c96 : ((xs s.1.toNatClampNeg) &&& (63 : Int32)) = (31 : Int32)
                                                                  · rw [if_pos c96] at h
                                                                    refine V_tbl (v := 31) (pc' := 1141) (off := 1102) X d_law_39 c96 (by decide) (by decide) (by decide +kernel) (by decide) ?_
                                                                    exact j_law_1141_23_ok X hz0 hz hT hl9 hX hbl hbA hD s.1 s.2 _ h kc kx0 kr
                                                                  · rw [if_neg c96] at h
                                                                    by_cases c99 : ((xs s.1.toNatClampNeg) &&& (63 : Int32)) = (32 : Int32)
                                                                    · rw [if_pos c99] at h
                                                                      refine V_tbl (v := 32) (pc' := 1178) (off := 1139) X d_law_39 c99 (by decide) (by decide) (by decide +kernel) (by decide) ?_
                                                                      exact j_law_1178_23_ok X hz0 hz hT hl9 hX hbl hbA hD s.1 s.2 _ h kc kx0 kr
                                                                    · rw [if_neg c99] at h
                                                                      by_cases c102 : ((xs s.1.toNatClampNeg) &&& (63 : Int32)) = (33 : Int32)
                                                                      · rw [if_pos c102] at h
                                                                        refine V_tbl (v := 33) (pc' := 1203) (off := 1164) X d_law_39 c102 (by decide) (by decide) (by decide +kernel) (by decide) ?_
                                                                        exact j_law_1203_23_ok X hz0 hz hT hl9 hX hbl hbA hD s.1 s.2 _ h kc kx0 kr
                                                                      · rw [if_neg c102] at h
                                                                        by_cases c106 : ((xs s.1.toNatClampNeg) &&& (63 : Int32)) = (34 : Int32)
                                                                        · rw [if_pos c106] at h
                                                                          refine V_tbl (v := 34) (pc' := 1228) (off := 1189) X d_law_39 c106 (by decide) (by decide) (by decide +kernel) (by decide) ?_
                                                                          exact j_law_1228_23_ok X hz0 hz hT hl9 hX hbl hbA hD s.1 s.2 _ h kc kx0 kr
                                                                        · rw [if_neg c106] at h
                                                                          by_cases c109 : ((xs s.1.toNatClampNeg) &&& (63 : Int32)) = (35 : Int32)
                                                                          · rw [if_pos c109] at h
                                                                            refine V_tbl (v := 35) (pc' := 1241) (off := 1202) X d_law_39 c109 (by decide) (by decide) (by decide +kernel) (by decide) ?_
                                                                            exact j_law_1241_23_ok X hz0 hz hT hl9 hX hbl hbA hD s.1 s.2 _ h kc kx0 kr
                                                                          · rw [if_neg c109] at h
                                                                            by_cases c112 : ((xs s.1.toNatClampNeg) &&& (63 : Int32)) = (36 : Int32)
                                                                            · rw [if_pos c112] at h
                                                                              refine V_tbl (v := 36) (pc' := 1278) (off := 1239) X d_law_39 c112 (by decide) (by decide) (by decide +kernel) (by decide) ?_
                                                                              exact j_law_1278_23_ok X hz0 hz hT hl9 hX hbl hbA hD s.1 s.2 _ h kc kx0 kr
                                                                            · rw [if_neg c112] at h
                                                                              by_cases c115 : ((xs s.1.toNatClampNeg) &&& (63 : Int32)) = (37 : Int32)
                                                                              · rw [if_pos c115] at h
                                                                                refine V_tbl (v := 37) (pc' := 1327) (off := 1288) X d_law_39 c115 (by decide) (by decide) (by decide +kernel) (by decide) ?_
                                                                                exact j_law_1327_23_ok X hz0 hz hT hl9 hX hbl hbA hD s.1 s.2 _ h kc kx0 kr
                                                                              · rw [if_neg c115] at h
                                                                                by_cases c118 : ((xs s.1.toNatClampNeg) &&& (63 : Int32)) = (38 : Int32)
                                                                                · rw [if_pos c118] at h
                                                                                  refine V_tbl (v := 38) (pc' := 1352) (off := 1313) X d_law_39 c118 (by decide) (by decide) (by decide +kernel) (by decide) ?_
                                                                                  exact j_law_1352_23_ok X hz0 hz hT hl9 hX hbl hbA hD s.1 s.2 _ h kc kx0 kr
                                                                                · rw [if_neg c118] at h
                                                                                  by_cases c121 : ((xs s.1.toNatClampNeg) &&& (63 : Int32)) = (39 : Int32)
                                                                                  · rw [if_pos c121] at h
                                                                                    refine V_tbl (v := 39) (pc' := 1389) (off := 1350) X d_law_39 c121 (by decide) (by decide) (by decide +kernel) (by decide) ?_
                                                                                    exact j_law_1389_23_ok X hz0 hz hT hl9 hX hbl hbA hD s.1 s.2 _ h kc kx0 kr
                                                                                  · rw [if_neg c121] at h
                                                                                    by_cases c124 : ((xs s.1.toNatClampNeg) &&& (63 : Int32)) = (40 : Int32)
                                                                                    · rw [if_pos c124] at h
                                                                                      refine V_tbl (v := 40) (pc' := 1450) (off := 1411) X d_law_39 c124 (by decide) (by decide) (by decide +kernel) (by decide) ?_
                                                                                      exact j_law_1450_23_ok X hz0 hz hT hl9 hX hbl hbA hD s.1 s.2 _ h kc kx0 kr
                                                                                    · rw [if_neg c124] at h
                                                                                      by_cases c127 : ((xs s.1.toNatClampNeg) &&& (63 : Int32)) = (41 : Int32)
                                                                                      · rw [if_pos c127] at h
                                                                                        refine V_tbl (v := 41) (pc' := 1475) (off := 1436) X d_law_39 c127 (by decide) (by decide) (by decide +kernel) (by decide) ?_
                                                                                        exact j_law_1475_23_ok X hz0 hz hT hl9 hX hbl hbA hD s.1 s.2 _ h kc kx0 kr
                                                                                      · rw [if_neg c127] at h
                                                                                        by_cases c130 : ((xs s.1.toNatClampNeg) &&& (63 : Int32)) = (42 : Int32)
                                                                                        · rw [if_pos c130] at h
                                                                                          refine V_tbl (v := 42) (pc' := 1500) (off := 1461) X d_law_39 c130 (by decide) (by decide) (by decide +kernel) (by decide) ?_
                                                                                          exact j_law_1500_23_ok X hz0 hz hT hl9 hX hbl hbA hD s.1 s.2 _ h kc kx0 kr
                                                                                        · rw [if_neg c130] at h
                                                                                          by_cases c133 : ((xs s.1.toNatClampNeg) &&& (63 : Int32)) = (43 : Int32)
                                                                                          · rw [if_pos c133] at h
                                                                                            refine V_tbl (v := 43) (pc' := 1525) (off := 1486) X d_law_39 c133 (by decide) (by decide) (by decide +kernel) (by decide) ?_
                                                                                            exact j_law_1525_23_ok X hz0 hz hT hl9 hX hbl hbA hD s.1 s.2 _ h kc kx0 kr
                                                                                          · rw [if_neg c133] at h
                                                                                            refine V_tableOut (pc' := 1553) X d_law_39 (by have g0 := neT c3 (z := 0) (by decide); have g1 := neT c6 (z := 1) (by decide); have g2 := neT c9 (z := 2) (by decide); have g3 := neT c12 (z := 3) (by decide); have g4 := neT c15 (z := 4) (by decide); have g5 := neT c18 (z := 5) (by decide); have g6 := neT c21 (z := 6) (by decide); have g7 := neT c24 (z := 7) (by decide); have g8 := neT c27 (z := 8) (by decide); have g9 := neT c30 (z := 9) (by decide); have g10 := neT c33 (z := 10) (by decide); have g11 := neT c36 (z := 11) (by decide); have g12 := neT c39 (z := 12) (by decide); have g13 := neT c42 (z := 13) (by decide); have g14 := neT c45 (z := 14) (by decide); have g15 := neT c48 (z := 15) (by decide); have g16 := neT c51 (z := 16) (by decide); have g17 := neT c54 (z := 17) (by decide); have g18 := neT c57 (z := 18) (by decide); have g19 := neT c60 (z := 19) (by decide); have g20 := neT c63 (z := 20) (by decide); have g21 := neT c66 (z := 21) (by decide); have g22 := neT c69 (z := 22) (by decide); have g23 := neT c72 (z := 23) (by decide); have g24 := neT c75 (z := 24) (by decide); have g25 := neT c78 (z := 25) (by decide); have g26 := neT c81 (z := 26) (by decide); have g27 := neT c84 (z := 27) (by decide); have g28 := neT c87 (z := 28) (by decide); have g29 := neT c90 (z := 29) (by decide); have g30 := neT c93 (z := 30) (by decide); have g31 := neT c96 (z := 31) (by decide); have g32 := neT c99 (z := 32) (by decide); have g33 := neT c102 (z := 33) (by decide); have g34 := neT c106 (z := 34) (by decide); have g35 := neT c109 (z := 35) (by decide); have g36 := neT c112 (z := 36) (by decide); have g37 := neT c115 (z := 37) (by decide); have g38 := neT c118 (z := 38) (by decide); have g39 := neT c121 (z := 39) (by decide); have g40 := neT c124 (z := 40) (by decide); have g41 := neT c127 (z := 41) (by decide); have g42 := neT c130 (z := 42) (by decide); have g43 := neT c133 (z := 43) (by decide); omega) (by decide) ?_
                                                                                            refine V_iinc (n := 4) (v := (s.1 + (5 : Int32))) (lv' := [(4, .int (s.1 + (5 : Int32))), (0, .ref b), (1, .ref (G.2.2 + 0)), (2, .ref (G.2.2 + 162)), (3, .ref (G.2.2 + 192))]) X d_law_1553 rfl rfl (by decide) rfl rfl ?_
                                                                                            refine V_goto (pc' := 23) X d_law_1556 (by decide) ?_
                                                                                            refine V_wid (cs' := (cs.1 + 1, cs.2 + 6)) ⟨Nat.le_succ _, Nat.le_add_right _ _⟩ ?_
                                                                                            refine V_sub (lv' := [(0, .ref b), (1, .ref (G.2.2 + 0)), (2, .ref (G.2.2 + 162)), (3, .ref (G.2.2 + 192)), (4, .int (s.1 + (5 : Int32)))]) [1, 2, 3, 4, 0] rfl ?_
                                                                                            exact kc ((s.1 + (5 : Int32)), s.2) (Option.some.inj h).symm
