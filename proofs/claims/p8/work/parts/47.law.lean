/-! THE LAW: one turn of its loop -/
section VLAW
variable {E : Ev} {cs cs' : Nat × Nat} {G : Gw} {cc : ByteArray} {own : String} {nL d : Nat} {ret9 : Option FieldType} {Q : State → Prop} {M : Mem} {pc pc' : Nat} {lv lv' : List (Nat × Value)} {st rest : List Value}
theorem V_wid (h : cs.1 ≤ cs'.1 ∧ cs.2 ≤ cs'.2) (k : V E cs' G nL Q M pc lv st) : V E cs G nL Q M pc lv st := fun H locs ls hP hS hl => W.widen (k := cs'.1) (n := cs'.2) h.1 h.2 (k H locs ls hP hS hl)
theorem inb_v {i : Int32} {n : Nat} (hb : inb i n = true) : vp_in i n := by
  intro hc
  rcases hc with hc | hc <;> simp [inb, hc] at hb
theorem V_sld {b L : Nat} {xs : Nat → Int32} {i : Int32} (X : Cx E G cc own nL d ret9) (hX : va_X b L xs E.2.2.2.2.1 E.2.2.2.2.1.heap) (hbl : b < E.2.2.2.2.1.heap.size) (hbA : ¬ G.2.2 ≤ b) (hi : inb i L = true) (hd : decode cc pc = .ok (.iaload, 1)) (hp : pc + 1 = pc') (k : V E cs G nL Q M pc' lv (.int (xs i.toNatClampNeg) :: st)) : V E cs G nL Q M pc lv (.int i :: .ref b :: st) := by
  subst hp
  exact fun H locs ls hP hS hl => va_sld X.1 X.2.1 hX hbl hbA hS (inb_v hi) hd (k H locs ls hP hS hl)
theorem V_slen {b L : Nat} {xs : Nat → Int32} (X : Cx E G cc own nL d ret9) (hX : va_X b L xs E.2.2.2.2.1 E.2.2.2.2.1.heap) (hbl : b < E.2.2.2.2.1.heap.size) (hbA : ¬ G.2.2 ≤ b) (hd : decode cc pc = .ok (.arraylength, 1)) (hp : pc + 1 = pc') (k : V E cs G nL Q M pc' lv (.int (Int32.ofNat L) :: st)) : V E cs G nL Q M pc lv (.ref b :: st) := by
  subst hp
  exact fun H locs ls hP hS hl => va_slen X.1 X.2.1 hX hbl hbA hS hd (k H locs ls hP hS hl)
theorem goodH {own : String} {idx maxL : Nat} {y : MethodName} {cc : ByteArray} {ret : Option FieldType} {hh : List (Nat × Nat × Nat × Nat)} (hl : Cond.methodLink own idx y ∈ gw) (h1 : Cond.static y ∈ gw) (h2 : Cond.initialized y.cls ∈ gw) (h3 : Cond.codeWith y cc maxL ret hh ∈ gw) : GoodIn gw (va_wsS own idx y (Cond.codeWith y cc maxL ret hh :: gw)) := by
  intro w hw
  have : w ∈ gw := by
    simp only [va_wsS, List.mem_append, List.mem_cons, List.not_mem_nil, or_false] at hw
    rcases hw with (rfl | rfl | rfl) | rfl | hw
    · exact hl
    · exact h1
    · exact h2
    · exact h3
    · exact hw
  exact ⟨this, gw_good this⟩
theorem V_sh {idx n d2 maxL : Nat} {y : MethodName} {b2 : ByteArray} {ret2 : Option FieldType} {hh : List (Nat × Nat × Nat × Nat)} {As : List Value} {post : Int32 → Mem → Prop} (X : Cx E G cc own nL d ret9) (hT : Tw G E.2.2.2.2.1 E.2.2.2.2.1.heap) (hz : Zc E (cs.1 + 1, cs.2 + 6)) (hc9 : (cs.1 + 1, cs.2 + 6) = cs') (hl : Cond.methodLink own idx y ∈ gw) (hy : Cond.static y ∈ gw ∧ Cond.initialized y.cls ∈ gw ∧ Cond.codeWith y b2 maxL ret2 hh ∈ gw ∧ (y.cls ≠ "java/lang/invoke/MethodHandle" ∧ y.cls ≠ "java/lang/invoke/VarHandle" ∧ (parseMethodDescriptor y.desc).map (fun d => d.parameters.length) = some n)) (hml : maxL ≤ 21) (hM : Ch E.2.1 G y b2 maxL ret2 hh d2 As M post) (hn : As.length = n) (hd2 : d2 + 1 ≤ d) (hs : st = As.reverse ++ rest) (hw : (rest.map fun v => v.category).sum ≤ 8) (hd : decode cc pc = .ok (.invokestatic idx, 3)) (hp : pc + 3 = pc')
    (kk : ∀ (r : Int32) (M' : Mem), post r M' → V E cs' G nL Q M' pc' lv (.int r :: rest)) : V E cs G nL Q M pc lv st := by
  subst hp; subst hs; subst hc9
  intro H locs ls hP hS hl9
  obtain ⟨h1, h2, h3, h5⟩ := hy
  refine va_calli (A0 := fun q => G.2.2 ≤ q) (vx_runSW (As := As) (rest := rest) ⟨X.1, X.2.1, X.2.2.1, X.2.2.2.1, X.2.2.2.2.1⟩ hM (vx_cwSW n X.2.2.2.2.1 (goodH hl h1 h2 h3) rfl rfl rfl h5 ⟨by have := X.2.2.2.2.2.2.2.1.1; show d2 + 1 ≤ _; omega, by have := X.2.2.2.2.2.2.2.1.2; show 8 + (maxL + 11) + 40 * d2 ≤ _; omega⟩) ⟨PcT_blind G M _, fun U hU hW => ⟨rfl, by rw [hU]; exact hP, va_K.moved hW.alike X.2.2.2.2.2.1, hT.warm hS hU hW⟩⟩ rfl hn hl9.1 rfl (lv_room hw) hd ⟨hz.1, hz.2⟩) hS (fun q _ h => h) (fun q h => h) (fun r u t H1 locs1 ht hvm hpost hB hz1 hk1 hS1 => ?_)
  exact kk r u hpost H1 locs1 ls (by rw [← ht]; exact hB) hS1 hl9
end VLAW
theorem mh_52 : Cond.methodLink "WomenByTheRoofsLaw" 52 y_Lw_cell ∈ gw := gt_5 184 rfl rfl
theorem mh_61 : Cond.methodLink "WomenByTheRoofsLaw" 61 y_Lw_person ∈ gw := gt_6 13 rfl rfl
theorem mh_206 : Cond.methodLink "WomenByTheRoofsLaw" 206 y_Lw_row ∈ gw := gt_6 26 rfl rfl
def j_law_228_23 (L : Nat) (xs : Nat → Int32) (v4 : Int32) (M : Mem) : Option ((Int32 × Mem) ⊕ ((Mem) ⊕ (Int32 × Mem))) :=
  if inb (v4 + (1 : Int32)) L = true then
  Option.bind (f_Top_sign (xs (v4 + (1 : Int32)).toNatClampNeg) M) fun x1 =>
  if inb (v4 + (1 : Int32)) L = true then
  Option.bind (f_Mod_sign (xs (v4 + (1 : Int32)).toNatClampNeg) x1.2) fun x2 =>
  some (.inl ((v4 + (5 : Int32)), x2.2))
  else none
  else none
theorem j_law_228_23_ok {E : Ev} {cs : Nat × Nat} {G : Gw} {d : Nat} {Q : State → Prop} {b L : Nat} {xs : Nat → Int32} (X : Cx E G code "WomenByTheRoofsLaw" 7 d ret) (hz0 : Zc E cs) (hz : Zc E (cs.1 + 1, cs.2 + 6)) (hT : Tw G E.2.2.2.2.1 E.2.2.2.2.1.heap) (hl9 : E.2.1.stackTraces = false) (hX : va_X b L xs E.2.2.2.2.1 E.2.2.2.2.1.heap) (hbl : b < E.2.2.2.2.1.heap.size) (hbA : ¬ G.2.2 ≤ b) (hD : 450 ≤ d)  (v4 : Int32)  (M : Mem)  (o : (Int32 × Mem) ⊕ ((Mem) ⊕ (Int32 × Mem))) (h : j_law_228_23 L xs v4 M = some o) (kc : ∀ s9 : Int32 × Mem, o = .inl s9 → V E (cs.1 + 1, cs.2 + 6) G 7 Q s9.2 23 [(0, .ref b), (1, .ref (G.2.2 + 0)), (2, .ref (G.2.2 + 162)), (3, .ref (G.2.2 + 192)), (4, .int s9.1)] []) (kx0 : ∀ x9 : Mem, o = .inr (Sum.inl x9) → V E (cs.1 + 1, cs.2 + 6) G 7 Q x9 1587 [] []) (kr : ∀ x9 : Int32 × Mem, o = .inr (Sum.inr x9) → False) : V E cs G 7 Q M 228 [(0, .ref b), (1, .ref (G.2.2 + 0)), (2, .ref (G.2.2 + 162)), (3, .ref (G.2.2 + 192)), (4, .int v4)] [] := by
  unfold j_law_228_23 at h
  refine V_aload_n (n := 1) X d_law_228 rfl rfl rfl ?_
  refine V_aload_n (n := 0) X d_law_229 rfl rfl rfl ?_
  refine V_iload (n := 4) X d_law_230 rfl rfl ?_
  refine V_iconst (v := 1) X d_law_232 (by decide) rfl ?_
  refine V_iadd X d_law_233 rfl ?_
  obtain ⟨hb, h⟩ := ifn h
  refine V_sld X hX hbl hbA hb d_law_234 rfl ?_
  obtain ⟨x1, hx1, h⟩ := ob_s h
  refine V_ci (As := [.int (xs (v4 + (1 : Int32)).toNatClampNeg)]) X hz0 ml_Lw_26 yq_Top_sign (c_Top_sign E.2.1 G (xs (v4 + (1 : Int32)).toNatClampNeg) M x1 hx1 _ (Nat.le_refl _)) kd_0 rfl rfl (by omega) rfl (Nat.le_of_ble_eq_true rfl) d_law_235 rfl (fun r9 M9 hq => ?_)
  rw [hq.1, hq.2]
  refine V_pop X d_law_238 rfl rfl ?_
  refine V_aload_n (n := 2) X d_law_239 rfl rfl rfl ?_
  refine V_aload_n (n := 0) X d_law_240 rfl rfl rfl ?_
  refine V_iload (n := 4) X d_law_241 rfl rfl ?_
  refine V_iconst (v := 1) X d_law_243 (by decide) rfl ?_
  refine V_iadd X d_law_244 rfl ?_
  obtain ⟨hb, h⟩ := ifn h
  refine V_sld X hX hbl hbA hb d_law_245 rfl ?_
  obtain ⟨x2, hx2, h⟩ := ob_s h
  refine V_ci (As := [.int (xs (v4 + (1 : Int32)).toNatClampNeg)]) X hz0 ml_Lw_29 yq_Mod_sign (c_Mod_sign E.2.1 G (xs (v4 + (1 : Int32)).toNatClampNeg) x1.2 x2 hx2 _ (Nat.le_refl _)) kd_162 rfl rfl (by omega) rfl (Nat.le_of_ble_eq_true rfl) d_law_246 rfl (fun r9 M9 hq => ?_)
  rw [hq.1, hq.2]
  refine V_pop X d_law_249 rfl rfl ?_
  refine V_goto (pc' := 1581) X d_law_250 (by decide) ?_
  refine V_iinc (n := 4) (v := (v4 + (5 : Int32))) (lv' := [(4, .int (v4 + (5 : Int32))), (0, .ref b), (1, .ref (G.2.2 + 0)), (2, .ref (G.2.2 + 162)), (3, .ref (G.2.2 + 192))]) X d_law_1581 rfl rfl (by decide) rfl rfl ?_
  refine V_goto (pc' := 23) X d_law_1584 (by decide) ?_
  refine V_wid (cs' := (cs.1 + 1, cs.2 + 6)) ⟨Nat.le_succ _, Nat.le_add_right _ _⟩ ?_
  refine V_sub (lv' := [(0, .ref b), (1, .ref (G.2.2 + 0)), (2, .ref (G.2.2 + 162)), (3, .ref (G.2.2 + 192)), (4, .int (v4 + (5 : Int32)))]) [1, 2, 3, 4, 0] rfl ?_
  exact kc ((v4 + (5 : Int32)), x2.2) (Option.some.inj h).symm
def j_law_253_23 (L : Nat) (xs : Nat → Int32) (v4 : Int32) (M : Mem) : Option ((Int32 × Mem) ⊕ ((Mem) ⊕ (Int32 × Mem))) :=
  if inb (v4 + (1 : Int32)) L = true then
  Option.bind (f_Top_end (xs (v4 + (1 : Int32)).toNatClampNeg) M) fun x4 =>
  if inb (v4 + (1 : Int32)) L = true then
  Option.bind (f_Mod_end (xs (v4 + (1 : Int32)).toNatClampNeg) x4.2) fun x5 =>
  some (.inl ((v4 + (5 : Int32)), x5.2))
  else none
  else none
theorem j_law_253_23_ok {E : Ev} {cs : Nat × Nat} {G : Gw} {d : Nat} {Q : State → Prop} {b L : Nat} {xs : Nat → Int32} (X : Cx E G code "WomenByTheRoofsLaw" 7 d ret) (hz0 : Zc E cs) (hz : Zc E (cs.1 + 1, cs.2 + 6)) (hT : Tw G E.2.2.2.2.1 E.2.2.2.2.1.heap) (hl9 : E.2.1.stackTraces = false) (hX : va_X b L xs E.2.2.2.2.1 E.2.2.2.2.1.heap) (hbl : b < E.2.2.2.2.1.heap.size) (hbA : ¬ G.2.2 ≤ b) (hD : 450 ≤ d)  (v4 : Int32)  (M : Mem)  (o : (Int32 × Mem) ⊕ ((Mem) ⊕ (Int32 × Mem))) (h : j_law_253_23 L xs v4 M = some o) (kc : ∀ s9 : Int32 × Mem, o = .inl s9 → V E (cs.1 + 1, cs.2 + 6) G 7 Q s9.2 23 [(0, .ref b), (1, .ref (G.2.2 + 0)), (2, .ref (G.2.2 + 162)), (3, .ref (G.2.2 + 192)), (4, .int s9.1)] []) (kx0 : ∀ x9 : Mem, o = .inr (Sum.inl x9) → V E (cs.1 + 1, cs.2 + 6) G 7 Q x9 1587 [] []) (kr : ∀ x9 : Int32 × Mem, o = .inr (Sum.inr x9) → False) : V E cs G 7 Q M 253 [(0, .ref b), (1, .ref (G.2.2 + 0)), (2, .ref (G.2.2 + 162)), (3, .ref (G.2.2 + 192)), (4, .int v4)] [] := by
  unfold j_law_253_23 at h
  refine V_aload_n (n := 1) X d_law_253 rfl rfl rfl ?_
  refine V_aload_n (n := 0) X d_law_254 rfl rfl rfl ?_
  refine V_iload (n := 4) X d_law_255 rfl rfl ?_
  refine V_iconst (v := 1) X d_law_257 (by decide) rfl ?_
  refine V_iadd X d_law_258 rfl ?_
  obtain ⟨hb, h⟩ := ifn h
  refine V_sld X hX hbl hbA hb d_law_259 rfl ?_
  obtain ⟨x4, hx4, h⟩ := ob_s h
  refine V_ci (As := [.int (xs (v4 + (1 : Int32)).toNatClampNeg)]) X hz0 ml_Lw_30 yq_Top_end (c_Top_end E.2.1 G (xs (v4 + (1 : Int32)).toNatClampNeg) M x4 hx4 _ (Nat.le_refl _)) kd_0 rfl rfl (by omega) rfl (Nat.le_of_ble_eq_true rfl) d_law_260 rfl (fun r9 M9 hq => ?_)
  rw [hq.1, hq.2]
  refine V_pop X d_law_263 rfl rfl ?_
  refine V_aload_n (n := 2) X d_law_264 rfl rfl rfl ?_
  refine V_aload_n (n := 0) X d_law_265 rfl rfl rfl ?_
  refine V_iload (n := 4) X d_law_266 rfl rfl ?_
  refine V_iconst (v := 1) X d_law_268 (by decide) rfl ?_
  refine V_iadd X d_law_269 rfl ?_
  obtain ⟨hb, h⟩ := ifn h
  refine V_sld X hX hbl hbA hb d_law_270 rfl ?_
  obtain ⟨x5, hx5, h⟩ := ob_s h
  refine V_ci (As := [.int (xs (v4 + (1 : Int32)).toNatClampNeg)]) X hz0 ml_Lw_34 yq_Mod_end (c_Mod_end E.2.1 G (xs (v4 + (1 : Int32)).toNatClampNeg) x4.2 x5 hx5 _ (Nat.le_refl _)) kd_162 rfl rfl (by omega) rfl (Nat.le_of_ble_eq_true rfl) d_law_271 rfl (fun r9 M9 hq => ?_)
  rw [hq.1, hq.2]
  refine V_pop X d_law_274 rfl rfl ?_
  refine V_goto (pc' := 1581) X d_law_275 (by decide) ?_
  refine V_iinc (n := 4) (v := (v4 + (5 : Int32))) (lv' := [(4, .int (v4 + (5 : Int32))), (0, .ref b), (1, .ref (G.2.2 + 0)), (2, .ref (G.2.2 + 162)), (3, .ref (G.2.2 + 192))]) X d_law_1581 rfl rfl (by decide) rfl rfl ?_
  refine V_goto (pc' := 23) X d_law_1584 (by decide) ?_
  refine V_wid (cs' := (cs.1 + 1, cs.2 + 6)) ⟨Nat.le_succ _, Nat.le_add_right _ _⟩ ?_
  refine V_sub (lv' := [(0, .ref b), (1, .ref (G.2.2 + 0)), (2, .ref (G.2.2 + 162)), (3, .ref (G.2.2 + 192)), (4, .int (v4 + (5 : Int32)))]) [1, 2, 3, 4, 0] rfl ?_
  exact kc ((v4 + (5 : Int32)), x5.2) (Option.some.inj h).symm
def j_law_278_23 (L : Nat) (xs : Nat → Int32) (v4 : Int32) (M : Mem) : Option ((Int32 × Mem) ⊕ ((Mem) ⊕ (Int32 × Mem))) :=
  Option.bind (f_Top_town M) fun x7 =>
  Option.bind (f_Mod_town x7.2) fun x8 =>
  some (.inl ((v4 + (5 : Int32)), x8.2))
theorem j_law_278_23_ok {E : Ev} {cs : Nat × Nat} {G : Gw} {d : Nat} {Q : State → Prop} {b L : Nat} {xs : Nat → Int32} (X : Cx E G code "WomenByTheRoofsLaw" 7 d ret) (hz0 : Zc E cs) (hz : Zc E (cs.1 + 1, cs.2 + 6)) (hT : Tw G E.2.2.2.2.1 E.2.2.2.2.1.heap) (hl9 : E.2.1.stackTraces = false) (hX : va_X b L xs E.2.2.2.2.1 E.2.2.2.2.1.heap) (hbl : b < E.2.2.2.2.1.heap.size) (hbA : ¬ G.2.2 ≤ b) (hD : 450 ≤ d)  (v4 : Int32)  (M : Mem)  (o : (Int32 × Mem) ⊕ ((Mem) ⊕ (Int32 × Mem))) (h : j_law_278_23 L xs v4 M = some o) (kc : ∀ s9 : Int32 × Mem, o = .inl s9 → V E (cs.1 + 1, cs.2 + 6) G 7 Q s9.2 23 [(0, .ref b), (1, .ref (G.2.2 + 0)), (2, .ref (G.2.2 + 162)), (3, .ref (G.2.2 + 192)), (4, .int s9.1)] []) (kx0 : ∀ x9 : Mem, o = .inr (Sum.inl x9) → V E (cs.1 + 1, cs.2 + 6) G 7 Q x9 1587 [] []) (kr : ∀ x9 : Int32 × Mem, o = .inr (Sum.inr x9) → False) : V E cs G 7 Q M 278 [(0, .ref b), (1, .ref (G.2.2 + 0)), (2, .ref (G.2.2 + 162)), (3, .ref (G.2.2 + 192)), (4, .int v4)] [] := by
  unfold j_law_278_23 at h
  refine V_aload_n (n := 1) X d_law_278 rfl rfl rfl ?_
  obtain ⟨x7, hx7, h⟩ := ob_s h
  refine V_ci (As := []) X hz0 ml_Lw_35 yq_Top_town (c_Top_town E.2.1 G  M x7 hx7 _ (Nat.le_refl _)) kd_0 rfl rfl (by omega) rfl (Nat.le_of_ble_eq_true rfl) d_law_279 rfl (fun r9 M9 hq => ?_)
  rw [hq.1, hq.2]
  refine V_pop X d_law_282 rfl rfl ?_
  refine V_aload_n (n := 2) X d_law_283 rfl rfl rfl ?_
  obtain ⟨x8, hx8, h⟩ := ob_s h
  refine V_ci (As := []) X hz0 ml_Lw_39 yq_Mod_town (c_Mod_town E.2.1 G  x7.2 x8 hx8 _ (Nat.le_refl _)) kd_162 rfl rfl (by omega) rfl (Nat.le_of_ble_eq_true rfl) d_law_284 rfl (fun r9 M9 hq => ?_)
  rw [hq.1, hq.2]
  refine V_pop X d_law_287 rfl rfl ?_
  refine V_goto (pc' := 1581) X d_law_288 (by decide) ?_
  refine V_iinc (n := 4) (v := (v4 + (5 : Int32))) (lv' := [(4, .int (v4 + (5 : Int32))), (0, .ref b), (1, .ref (G.2.2 + 0)), (2, .ref (G.2.2 + 162)), (3, .ref (G.2.2 + 192))]) X d_law_1581 rfl rfl (by decide) rfl rfl ?_
  refine V_goto (pc' := 23) X d_law_1584 (by decide) ?_
  refine V_wid (cs' := (cs.1 + 1, cs.2 + 6)) ⟨Nat.le_succ _, Nat.le_add_right _ _⟩ ?_
  refine V_sub (lv' := [(0, .ref b), (1, .ref (G.2.2 + 0)), (2, .ref (G.2.2 + 162)), (3, .ref (G.2.2 + 192)), (4, .int (v4 + (5 : Int32)))]) [1, 2, 3, 4, 0] rfl ?_
  exact kc ((v4 + (5 : Int32)), x8.2) (Option.some.inj h).symm
def j_law_291_23 (L : Nat) (xs : Nat → Int32) (v4 : Int32) (M : Mem) : Option ((Int32 × Mem) ⊕ ((Mem) ⊕ (Int32 × Mem))) :=
  Option.bind (f_Top_folk M) fun x10 =>
  Option.bind (f_Mod_folk x10.2) fun x11 =>
  some (.inl ((v4 + (5 : Int32)), x11.2))
theorem j_law_291_23_ok {E : Ev} {cs : Nat × Nat} {G : Gw} {d : Nat} {Q : State → Prop} {b L : Nat} {xs : Nat → Int32} (X : Cx E G code "WomenByTheRoofsLaw" 7 d ret) (hz0 : Zc E cs) (hz : Zc E (cs.1 + 1, cs.2 + 6)) (hT : Tw G E.2.2.2.2.1 E.2.2.2.2.1.heap) (hl9 : E.2.1.stackTraces = false) (hX : va_X b L xs E.2.2.2.2.1 E.2.2.2.2.1.heap) (hbl : b < E.2.2.2.2.1.heap.size) (hbA : ¬ G.2.2 ≤ b) (hD : 450 ≤ d)  (v4 : Int32)  (M : Mem)  (o : (Int32 × Mem) ⊕ ((Mem) ⊕ (Int32 × Mem))) (h : j_law_291_23 L xs v4 M = some o) (kc : ∀ s9 : Int32 × Mem, o = .inl s9 → V E (cs.1 + 1, cs.2 + 6) G 7 Q s9.2 23 [(0, .ref b), (1, .ref (G.2.2 + 0)), (2, .ref (G.2.2 + 162)), (3, .ref (G.2.2 + 192)), (4, .int s9.1)] []) (kx0 : ∀ x9 : Mem, o = .inr (Sum.inl x9) → V E (cs.1 + 1, cs.2 + 6) G 7 Q x9 1587 [] []) (kr : ∀ x9 : Int32 × Mem, o = .inr (Sum.inr x9) → False) : V E cs G 7 Q M 291 [(0, .ref b), (1, .ref (G.2.2 + 0)), (2, .ref (G.2.2 + 162)), (3, .ref (G.2.2 + 192)), (4, .int v4)] [] := by
  unfold j_law_291_23 at h
  refine V_aload_n (n := 1) X d_law_291 rfl rfl rfl ?_
  obtain ⟨x10, hx10, h⟩ := ob_s h
  refine V_ci (As := []) X hz0 ml_Lw_40 yq_Top_folk (c_Top_folk E.2.1 G  M x10 hx10 _ (Nat.le_refl _)) kd_0 rfl rfl (by omega) rfl (Nat.le_of_ble_eq_true rfl) d_law_292 rfl (fun r9 M9 hq => ?_)
  rw [hq.1, hq.2]
  refine V_pop X d_law_295 rfl rfl ?_
  refine V_aload_n (n := 2) X d_law_296 rfl rfl rfl ?_
  obtain ⟨x11, hx11, h⟩ := ob_s h
  refine V_ci (As := []) X hz0 ml_Lw_43 yq_Mod_folk (c_Mod_folk E.2.1 G  x10.2 x11 hx11 _ (Nat.le_refl _)) kd_162 rfl rfl (by omega) rfl (Nat.le_of_ble_eq_true rfl) d_law_297 rfl (fun r9 M9 hq => ?_)
  rw [hq.1, hq.2]
  refine V_pop X d_law_300 rfl rfl ?_
  refine V_goto (pc' := 1581) X d_law_301 (by decide) ?_
  refine V_iinc (n := 4) (v := (v4 + (5 : Int32))) (lv' := [(4, .int (v4 + (5 : Int32))), (0, .ref b), (1, .ref (G.2.2 + 0)), (2, .ref (G.2.2 + 162)), (3, .ref (G.2.2 + 192))]) X d_law_1581 rfl rfl (by decide) rfl rfl ?_
  refine V_goto (pc' := 23) X d_law_1584 (by decide) ?_
  refine V_wid (cs' := (cs.1 + 1, cs.2 + 6)) ⟨Nat.le_succ _, Nat.le_add_right _ _⟩ ?_
  refine V_sub (lv' := [(0, .ref b), (1, .ref (G.2.2 + 0)), (2, .ref (G.2.2 + 162)), (3, .ref (G.2.2 + 192)), (4, .int (v4 + (5 : Int32)))]) [1, 2, 3, 4, 0] rfl ?_
  exact kc ((v4 + (5 : Int32)), x11.2) (Option.some.inj h).symm
def j_law_304_23 (L : Nat) (xs : Nat → Int32) (v4 : Int32) (M : Mem) : Option ((Int32 × Mem) ⊕ ((Mem) ⊕ (Int32 × Mem))) :=
  Option.bind (f_Top_rule M) fun x13 =>
  Option.bind (f_Mod_rule x13.2) fun x14 =>
  some (.inl ((v4 + (5 : Int32)), x14.2))
theorem j_law_304_23_ok {E : Ev} {cs : Nat × Nat} {G : Gw} {d : Nat} {Q : State → Prop} {b L : Nat} {xs : Nat → Int32} (X : Cx E G code "WomenByTheRoofsLaw" 7 d ret) (hz0 : Zc E cs) (hz : Zc E (cs.1 + 1, cs.2 + 6)) (hT : Tw G E.2.2.2.2.1 E.2.2.2.2.1.heap) (hl9 : E.2.1.stackTraces = false) (hX : va_X b L xs E.2.2.2.2.1 E.2.2.2.2.1.heap) (hbl : b < E.2.2.2.2.1.heap.size) (hbA : ¬ G.2.2 ≤ b) (hD : 450 ≤ d)  (v4 : Int32)  (M : Mem)  (o : (Int32 × Mem) ⊕ ((Mem) ⊕ (Int32 × Mem))) (h : j_law_304_23 L xs v4 M = some o) (kc : ∀ s9 : Int32 × Mem, o = .inl s9 → V E (cs.1 + 1, cs.2 + 6) G 7 Q s9.2 23 [(0, .ref b), (1, .ref (G.2.2 + 0)), (2, .ref (G.2.2 + 162)), (3, .ref (G.2.2 + 192)), (4, .int s9.1)] []) (kx0 : ∀ x9 : Mem, o = .inr (Sum.inl x9) → V E (cs.1 + 1, cs.2 + 6) G 7 Q x9 1587 [] []) (kr : ∀ x9 : Int32 × Mem, o = .inr (Sum.inr x9) → False) : V E cs G 7 Q M 304 [(0, .ref b), (1, .ref (G.2.2 + 0)), (2, .ref (G.2.2 + 162)), (3, .ref (G.2.2 + 192)), (4, .int v4)] [] := by
  unfold j_law_304_23 at h
  refine V_aload_n (n := 1) X d_law_304 rfl rfl rfl ?_
  obtain ⟨x13, hx13, h⟩ := ob_s h
  refine V_ci (As := []) X hz0 ml_Lw_44 yq_Top_rule (c_Top_rule E.2.1 G  M x13 hx13 _ (Nat.le_refl _)) kd_0 rfl rfl (by omega) rfl (Nat.le_of_ble_eq_true rfl) d_law_305 rfl (fun r9 M9 hq => ?_)
  rw [hq.1, hq.2]
  refine V_pop X d_law_308 rfl rfl ?_
  refine V_aload_n (n := 2) X d_law_309 rfl rfl rfl ?_
  obtain ⟨x14, hx14, h⟩ := ob_s h
  refine V_ci (As := []) X hz0 ml_Lw_47 yq_Mod_rule (c_Mod_rule E.2.1 G  x13.2 x14 hx14 _ (Nat.le_refl _)) kd_162 rfl rfl (by omega) rfl (Nat.le_of_ble_eq_true rfl) d_law_310 rfl (fun r9 M9 hq => ?_)
  rw [hq.1, hq.2]
  refine V_pop X d_law_313 rfl rfl ?_
  refine V_goto (pc' := 1581) X d_law_314 (by decide) ?_
  refine V_iinc (n := 4) (v := (v4 + (5 : Int32))) (lv' := [(4, .int (v4 + (5 : Int32))), (0, .ref b), (1, .ref (G.2.2 + 0)), (2, .ref (G.2.2 + 162)), (3, .ref (G.2.2 + 192))]) X d_law_1581 rfl rfl (by decide) rfl rfl ?_
  refine V_goto (pc' := 23) X d_law_1584 (by decide) ?_
  refine V_wid (cs' := (cs.1 + 1, cs.2 + 6)) ⟨Nat.le_succ _, Nat.le_add_right _ _⟩ ?_
  refine V_sub (lv' := [(0, .ref b), (1, .ref (G.2.2 + 0)), (2, .ref (G.2.2 + 162)), (3, .ref (G.2.2 + 192)), (4, .int (v4 + (5 : Int32)))]) [1, 2, 3, 4, 0] rfl ?_
  exact kc ((v4 + (5 : Int32)), x14.2) (Option.some.inj h).symm
def j_law_317_23 (L : Nat) (xs : Nat → Int32) (v4 : Int32) (M : Mem) : Option ((Int32 × Mem) ⊕ ((Mem) ⊕ (Int32 × Mem))) :=
  if inb (v4 + (1 : Int32)) L = true then
  Option.bind (f_Top_route (xs (v4 + (1 : Int32)).toNatClampNeg) M) fun x16 =>
  if inb (v4 + (1 : Int32)) L = true then
  Option.bind (f_Mod_route (xs (v4 + (1 : Int32)).toNatClampNeg) x16.2) fun x17 =>
  some (.inl ((v4 + (5 : Int32)), x17.2))
  else none
  else none
theorem j_law_317_23_ok {E : Ev} {cs : Nat × Nat} {G : Gw} {d : Nat} {Q : State → Prop} {b L : Nat} {xs : Nat → Int32} (X : Cx E G code "WomenByTheRoofsLaw" 7 d ret) (hz0 : Zc E cs) (hz : Zc E (cs.1 + 1, cs.2 + 6)) (hT : Tw G E.2.2.2.2.1 E.2.2.2.2.1.heap) (hl9 : E.2.1.stackTraces = false) (hX : va_X b L xs E.2.2.2.2.1 E.2.2.2.2.1.heap) (hbl : b < E.2.2.2.2.1.heap.size) (hbA : ¬ G.2.2 ≤ b) (hD : 450 ≤ d)  (v4 : Int32)  (M : Mem)  (o : (Int32 × Mem) ⊕ ((Mem) ⊕ (Int32 × Mem))) (h : j_law_317_23 L xs v4 M = some o) (kc : ∀ s9 : Int32 × Mem, o = .inl s9 → V E (cs.1 + 1, cs.2 + 6) G 7 Q s9.2 23 [(0, .ref b), (1, .ref (G.2.2 + 0)), (2, .ref (G.2.2 + 162)), (3, .ref (G.2.2 + 192)), (4, .int s9.1)] []) (kx0 : ∀ x9 : Mem, o = .inr (Sum.inl x9) → V E (cs.1 + 1, cs.2 + 6) G 7 Q x9 1587 [] []) (kr : ∀ x9 : Int32 × Mem, o = .inr (Sum.inr x9) → False) : V E cs G 7 Q M 317 [(0, .ref b), (1, .ref (G.2.2 + 0)), (2, .ref (G.2.2 + 162)), (3, .ref (G.2.2 + 192)), (4, .int v4)] [] := by
  unfold j_law_317_23 at h
  refine V_aload_n (n := 1) X d_law_317 rfl rfl rfl ?_
  refine V_aload_n (n := 0) X d_law_318 rfl rfl rfl ?_
  refine V_iload (n := 4) X d_law_319 rfl rfl ?_
  refine V_iconst (v := 1) X d_law_321 (by decide) rfl ?_
  refine V_iadd X d_law_322 rfl ?_
  obtain ⟨hb, h⟩ := ifn h
  refine V_sld X hX hbl hbA hb d_law_323 rfl ?_
  obtain ⟨x16, hx16, h⟩ := ob_s h
  refine V_ci (As := [.int (xs (v4 + (1 : Int32)).toNatClampNeg)]) X hz0 ml_Lw_48 yq_Top_route (c_Top_route E.2.1 G (xs (v4 + (1 : Int32)).toNatClampNeg) M x16 hx16 _ (Nat.le_refl _)) kd_0 rfl rfl (by omega) rfl (Nat.le_of_ble_eq_true rfl) d_law_324 rfl (fun r9 M9 hq => ?_)
  rw [hq.1, hq.2]
  refine V_pop X d_law_327 rfl rfl ?_
  refine V_aload_n (n := 2) X d_law_328 rfl rfl rfl ?_
  refine V_aload_n (n := 0) X d_law_329 rfl rfl rfl ?_
  refine V_iload (n := 4) X d_law_330 rfl rfl ?_
  refine V_iconst (v := 1) X d_law_332 (by decide) rfl ?_
  refine V_iadd X d_law_333 rfl ?_
  obtain ⟨hb, h⟩ := ifn h
  refine V_sld X hX hbl hbA hb d_law_334 rfl ?_
  obtain ⟨x17, hx17, h⟩ := ob_s h
  refine V_ci (As := [.int (xs (v4 + (1 : Int32)).toNatClampNeg)]) X hz0 ml_Lw_51 yq_Mod_route (c_Mod_route E.2.1 G (xs (v4 + (1 : Int32)).toNatClampNeg) x16.2 x17 hx17 _ (Nat.le_refl _)) kd_162 rfl rfl (by omega) rfl (Nat.le_of_ble_eq_true rfl) d_law_335 rfl (fun r9 M9 hq => ?_)
  rw [hq.1, hq.2]
  refine V_pop X d_law_338 rfl rfl ?_
  refine V_goto (pc' := 1581) X d_law_339 (by decide) ?_
  refine V_iinc (n := 4) (v := (v4 + (5 : Int32))) (lv' := [(4, .int (v4 + (5 : Int32))), (0, .ref b), (1, .ref (G.2.2 + 0)), (2, .ref (G.2.2 + 162)), (3, .ref (G.2.2 + 192))]) X d_law_1581 rfl rfl (by decide) rfl rfl ?_
  refine V_goto (pc' := 23) X d_law_1584 (by decide) ?_
  refine V_wid (cs' := (cs.1 + 1, cs.2 + 6)) ⟨Nat.le_succ _, Nat.le_add_right _ _⟩ ?_
  refine V_sub (lv' := [(0, .ref b), (1, .ref (G.2.2 + 0)), (2, .ref (G.2.2 + 162)), (3, .ref (G.2.2 + 192)), (4, .int (v4 + (5 : Int32)))]) [1, 2, 3, 4, 0] rfl ?_
  exact kc ((v4 + (5 : Int32)), x17.2) (Option.some.inj h).symm
def j_law_342_23 (L : Nat) (xs : Nat → Int32) (v4 : Int32) (M : Mem) : Option ((Int32 × Mem) ⊕ ((Mem) ⊕ (Int32 × Mem))) :=
  if inb (v4 + (1 : Int32)) L = true then
  if inb (v4 + (2 : Int32)) L = true then
  Option.bind (f_Lw_cell (xs (v4 + (1 : Int32)).toNatClampNeg) (xs (v4 + (2 : Int32)).toNatClampNeg) M) fun x19 =>
  if inb (v4 + (1 : Int32)) L = true then
  if inb (v4 + (2 : Int32)) L = true then
  Option.bind (f_Mod_cell (xs (v4 + (1 : Int32)).toNatClampNeg) (xs (v4 + (2 : Int32)).toNatClampNeg) x19.2) fun x20 =>
  Option.bind (f_Mod_thrown x20.2) fun x21 =>
  if x21 = x19.1 then
  if x19.1 = 0 then
  if (lg_cmp (x20.2.2.1 192 (0 : Int32).toNatClampNeg) x20.1.toInt64) = 0 then
  some (.inl ((v4 + (5 : Int32)), x20.2))
  else
  some (.inr (Sum.inr ((0 : Int32), x20.2)))
  else
  some (.inl ((v4 + (5 : Int32)), x20.2))
  else
  some (.inr (Sum.inr ((0 : Int32), x20.2)))
  else none
  else none
  else none
  else none
theorem j_law_342_23_ok {E : Ev} {cs : Nat × Nat} {G : Gw} {d : Nat} {Q : State → Prop} {b L : Nat} {xs : Nat → Int32} (X : Cx E G code "WomenByTheRoofsLaw" 7 d ret) (hz0 : Zc E cs) (hz : Zc E (cs.1 + 1, cs.2 + 6)) (hT : Tw G E.2.2.2.2.1 E.2.2.2.2.1.heap) (hl9 : E.2.1.stackTraces = false) (hX : va_X b L xs E.2.2.2.2.1 E.2.2.2.2.1.heap) (hbl : b < E.2.2.2.2.1.heap.size) (hbA : ¬ G.2.2 ≤ b) (hD : 450 ≤ d)  (v4 : Int32)  (M : Mem)  (o : (Int32 × Mem) ⊕ ((Mem) ⊕ (Int32 × Mem))) (h : j_law_342_23 L xs v4 M = some o) (kc : ∀ s9 : Int32 × Mem, o = .inl s9 → V E (cs.1 + 1, cs.2 + 6) G 7 Q s9.2 23 [(0, .ref b), (1, .ref (G.2.2 + 0)), (2, .ref (G.2.2 + 162)), (3, .ref (G.2.2 + 192)), (4, .int s9.1)] []) (kx0 : ∀ x9 : Mem, o = .inr (Sum.inl x9) → V E (cs.1 + 1, cs.2 + 6) G 7 Q x9 1587 [] []) (kr : ∀ x9 : Int32 × Mem, o = .inr (Sum.inr x9) → False) : V E cs G 7 Q M 342 [(0, .ref b), (1, .ref (G.2.2 + 0)), (2, .ref (G.2.2 + 162)), (3, .ref (G.2.2 + 192)), (4, .int v4)] [] := by
  unfold j_law_342_23 at h
  refine V_aload_n (n := 1) X d_law_342 rfl rfl rfl ?_
  refine V_aload_n (n := 0) X d_law_343 rfl rfl rfl ?_
  refine V_iload (n := 4) X d_law_344 rfl rfl ?_
  refine V_iconst (v := 1) X d_law_346 (by decide) rfl ?_
  refine V_iadd X d_law_347 rfl ?_
  obtain ⟨hb, h⟩ := ifn h
  refine V_sld X hX hbl hbA hb d_law_348 rfl ?_
  refine V_aload_n (n := 0) X d_law_349 rfl rfl rfl ?_
  refine V_iload (n := 4) X d_law_350 rfl rfl ?_
  refine V_iconst (v := 2) X d_law_352 (by decide) rfl ?_
  refine V_iadd X d_law_353 rfl ?_
  obtain ⟨hb, h⟩ := ifn h
  refine V_sld X hX hbl hbA hb d_law_354 rfl ?_
  refine V_aload_n (n := 3) X d_law_355 rfl rfl rfl ?_
  obtain ⟨x19, hx19, h⟩ := ob_s h
  refine V_sh (As := [.ref (G.2.2 + 0), .int (xs (v4 + (1 : Int32)).toNatClampNeg), .int (xs (v4 + (2 : Int32)).toNatClampNeg), .ref (G.2.2 + 192)]) X hT hz rfl mh_52 yh_Lw_cell (by decide) (c_Lw_cell E.2.1 hl9 G (xs (v4 + (1 : Int32)).toNatClampNeg) (xs (v4 + (2 : Int32)).toNatClampNeg) M x19 hx19 _ (Nat.le_refl _)) rfl (by omega) rfl (Nat.le_of_ble_eq_true rfl) d_law_356 rfl (fun r9 M9 hq => ?_)
  rw [hq.1, hq.2]
  refine V_istore (lv' := [(5, .int x19.1), (0, .ref b), (1, .ref (G.2.2 + 0)), (2, .ref (G.2.2 + 162)), (3, .ref (G.2.2 + 192)), (4, .int v4)]) X d_law_359 (by decide) rfl rfl ?_
  refine V_aload_n (n := 3) X d_law_361 rfl rfl rfl ?_
  refine V_aload_n (n := 1) X d_law_362 rfl rfl rfl ?_
  refine V_iload (n := 5) X d_law_363 rfl rfl ?_
  refine V_iconst (v := 1) X d_law_365 (by decide) rfl ?_
  refine V_iadd X d_law_366 rfl ?_
  obtain ⟨hb, h⟩ := ifn h
  refine V_sld X hX hbl hbA hb d_law_367 rfl ?_
  refine V_aload_n (n := 1) X d_law_368 rfl rfl rfl ?_
  refine V_iload (n := 5) X d_law_369 rfl rfl ?_
  refine V_iconst (v := 2) X d_law_371 (by decide) rfl ?_
  refine V_iadd X d_law_372 rfl ?_
  obtain ⟨hb, h⟩ := ifn h
  refine V_sld X hX hbl hbA hb d_law_373 rfl ?_
  obtain ⟨x20, hx20, h⟩ := ob_s h
  refine V_ci (As := [.int (xs (v4 + (1 : Int32)).toNatClampNeg), .int (xs (v4 + (2 : Int32)).toNatClampNeg)]) X hz ml_Lw_57 yq_Mod_cell (c_Mod_cell E.2.1 G (xs (v4 + (1 : Int32)).toNatClampNeg) (xs (v4 + (2 : Int32)).toNatClampNeg) x19.2 x20 hx20 _ (Nat.le_refl _)) kd_162 rfl rfl (by omega) rfl (Nat.le_of_ble_eq_true rfl) d_law_374 rfl (fun r9 M9 hq => ?_)
  rw [hq.1, hq.2]
  refine V_istore (lv' := [(6, .int x20.1), (5, .int x19.1), (0, .ref b), (1, .ref (G.2.2 + 0)), (2, .ref (G.2.2 + 162)), (3, .ref (G.2.2 + 192)), (4, .int v4)]) X d_law_377 (by decide) rfl rfl ?_
  refine V_aload_n (n := 4) X d_law_379 rfl rfl rfl ?_
  obtain ⟨x21, hx21, h⟩ := ob_s h
  refine V_ci (As := []) X hz ml_Lw_58 yq_Mod_thrown (c_Mod_thrown E.2.1 G  x20.2 x21 hx21 _ (Nat.le_refl _)) kd_162 rfl rfl (by omega) rfl (Nat.le_of_ble_eq_true rfl) d_law_380 rfl (fun r9 M9 hq => ?_)
  rw [hq.1, hq.2]
  refine V_iload (n := 1) X d_law_383 rfl rfl ?_
  refine V_icmp_eq (tgt := 390) X d_law_385 (by decide) rfl (fun c24 => ?_) (fun c24 => ?_)
  · rw [if_pos c24] at h
    refine V_iload (n := 1) X d_law_390 rfl rfl ?_
    refine V_if_ne (tgt := 407) X d_law_392 (by decide) rfl (fun c23 => ?_) (fun c23 => ?_)
    · rw [if_neg c23] at h
      refine V_goto (pc' := 1581) X d_law_407 (by decide) ?_
      refine V_iinc (n := 6) (v := (v4 + (5 : Int32))) (lv' := [(4, .int (v4 + (5 : Int32))), (6, .int x20.1), (5, .int x19.1), (0, .ref b), (1, .ref (G.2.2 + 0)), (2, .ref (G.2.2 + 162)), (3, .ref (G.2.2 + 192))]) X d_law_1581 rfl rfl (by decide) rfl rfl ?_
      refine V_goto (pc' := 23) X d_law_1584 (by decide) ?_
      refine V_sub (lv' := [(0, .ref b), (1, .ref (G.2.2 + 0)), (2, .ref (G.2.2 + 162)), (3, .ref (G.2.2 + 192)), (4, .int (v4 + (5 : Int32)))]) [3, 4, 5, 6, 0] rfl ?_
      exact kc ((v4 + (5 : Int32)), x20.2) (Option.some.inj h).symm
    · rw [if_pos c23] at h
      refine V_aload_n (n := 5) X d_law_395 rfl rfl rfl ?_
      refine V_iconst (v := 0) X d_law_396 (by decide) rfl ?_
      refine V_lald X kd_192 (inb_in ln_192 (by decide)) d_law_397 rfl ?_
      refine V_iload (n := 0) X d_law_398 rfl rfl ?_
      refine V_i2l X d_law_400 rfl ?_
      refine V_lcmp X d_law_401 rfl ?_
      refine V_if_eq (tgt := 407) X d_law_402 (by decide) rfl (fun c22 => ?_) (fun c22 => ?_)
      · rw [if_pos c22] at h
        refine V_goto (pc' := 1581) X d_law_407 (by decide) ?_
        refine V_iinc (n := 6) (v := (v4 + (5 : Int32))) (lv' := [(4, .int (v4 + (5 : Int32))), (6, .int x20.1), (5, .int x19.1), (0, .ref b), (1, .ref (G.2.2 + 0)), (2, .ref (G.2.2 + 162)), (3, .ref (G.2.2 + 192))]) X d_law_1581 rfl rfl (by decide) rfl rfl ?_
        refine V_goto (pc' := 23) X d_law_1584 (by decide) ?_
        refine V_sub (lv' := [(0, .ref b), (1, .ref (G.2.2 + 0)), (2, .ref (G.2.2 + 162)), (3, .ref (G.2.2 + 192)), (4, .int (v4 + (5 : Int32)))]) [3, 4, 5, 6, 0] rfl ?_
        exact kc ((v4 + (5 : Int32)), x20.2) (Option.some.inj h).symm
      · rw [if_neg c22] at h
        refine V_iconst (v := 0) X d_law_405 (by decide) rfl ?_
        exact (kr ((0 : Int32), x20.2) (Option.some.inj h).symm).elim
  · rw [if_neg c24] at h
    refine V_iconst (v := 0) X d_law_388 (by decide) rfl ?_
    exact (kr ((0 : Int32), x20.2) (Option.some.inj h).symm).elim
def j_law_410_23 (L : Nat) (xs : Nat → Int32) (v4 : Int32) (M : Mem) : Option ((Int32 × Mem) ⊕ ((Mem) ⊕ (Int32 × Mem))) :=
  if inb (v4 + (1 : Int32)) L = true then
  if inb (v4 + (2 : Int32)) L = true then
  Option.bind (f_Lw_person (xs (v4 + (1 : Int32)).toNatClampNeg) (xs (v4 + (2 : Int32)).toNatClampNeg) M) fun x26 =>
  if inb (v4 + (1 : Int32)) L = true then
  if inb (v4 + (2 : Int32)) L = true then
  Option.bind (f_Mod_person (xs (v4 + (1 : Int32)).toNatClampNeg) (xs (v4 + (2 : Int32)).toNatClampNeg) x26.2) fun x27 =>
  some (.inl ((v4 + (5 : Int32)), x27.2))
  else none
  else none
  else none
  else none
theorem j_law_410_23_ok {E : Ev} {cs : Nat × Nat} {G : Gw} {d : Nat} {Q : State → Prop} {b L : Nat} {xs : Nat → Int32} (X : Cx E G code "WomenByTheRoofsLaw" 7 d ret) (hz0 : Zc E cs) (hz : Zc E (cs.1 + 1, cs.2 + 6)) (hT : Tw G E.2.2.2.2.1 E.2.2.2.2.1.heap) (hl9 : E.2.1.stackTraces = false) (hX : va_X b L xs E.2.2.2.2.1 E.2.2.2.2.1.heap) (hbl : b < E.2.2.2.2.1.heap.size) (hbA : ¬ G.2.2 ≤ b) (hD : 450 ≤ d)  (v4 : Int32)  (M : Mem)  (o : (Int32 × Mem) ⊕ ((Mem) ⊕ (Int32 × Mem))) (h : j_law_410_23 L xs v4 M = some o) (kc : ∀ s9 : Int32 × Mem, o = .inl s9 → V E (cs.1 + 1, cs.2 + 6) G 7 Q s9.2 23 [(0, .ref b), (1, .ref (G.2.2 + 0)), (2, .ref (G.2.2 + 162)), (3, .ref (G.2.2 + 192)), (4, .int s9.1)] []) (kx0 : ∀ x9 : Mem, o = .inr (Sum.inl x9) → V E (cs.1 + 1, cs.2 + 6) G 7 Q x9 1587 [] []) (kr : ∀ x9 : Int32 × Mem, o = .inr (Sum.inr x9) → False) : V E cs G 7 Q M 410 [(0, .ref b), (1, .ref (G.2.2 + 0)), (2, .ref (G.2.2 + 162)), (3, .ref (G.2.2 + 192)), (4, .int v4)] [] := by
  unfold j_law_410_23 at h
  refine V_aload_n (n := 1) X d_law_410 rfl rfl rfl ?_
  refine V_aload_n (n := 0) X d_law_411 rfl rfl rfl ?_
  refine V_iload (n := 4) X d_law_412 rfl rfl ?_
  refine V_iconst (v := 1) X d_law_414 (by decide) rfl ?_
  refine V_iadd X d_law_415 rfl ?_
  obtain ⟨hb, h⟩ := ifn h
  refine V_sld X hX hbl hbA hb d_law_416 rfl ?_
  refine V_aload_n (n := 0) X d_law_417 rfl rfl rfl ?_
  refine V_iload (n := 4) X d_law_418 rfl rfl ?_
  refine V_iconst (v := 2) X d_law_420 (by decide) rfl ?_
  refine V_iadd X d_law_421 rfl ?_
  obtain ⟨hb, h⟩ := ifn h
  refine V_sld X hX hbl hbA hb d_law_422 rfl ?_
  refine V_aload_n (n := 3) X d_law_423 rfl rfl rfl ?_
  obtain ⟨x26, hx26, h⟩ := ob_s h
  refine V_sh (As := [.ref (G.2.2 + 0), .int (xs (v4 + (1 : Int32)).toNatClampNeg), .int (xs (v4 + (2 : Int32)).toNatClampNeg), .ref (G.2.2 + 192)]) X hT hz rfl mh_61 yh_Lw_person (by decide) (c_Lw_person E.2.1 hl9 G (xs (v4 + (1 : Int32)).toNatClampNeg) (xs (v4 + (2 : Int32)).toNatClampNeg) M x26 hx26 _ (Nat.le_refl _)) rfl (by omega) rfl (Nat.le_of_ble_eq_true rfl) d_law_424 rfl (fun r9 M9 hq => ?_)
  rw [hq.1, hq.2]
  refine V_istore (lv' := [(5, .int x26.1), (0, .ref b), (1, .ref (G.2.2 + 0)), (2, .ref (G.2.2 + 162)), (3, .ref (G.2.2 + 192)), (4, .int v4)]) X d_law_427 (by decide) rfl rfl ?_
  refine V_aload_n (n := 3) X d_law_429 rfl rfl rfl ?_
  refine V_aload_n (n := 1) X d_law_430 rfl rfl rfl ?_
  refine V_iload (n := 5) X d_law_431 rfl rfl ?_
  refine V_iconst (v := 1) X d_law_433 (by decide) rfl ?_
  refine V_iadd X d_law_434 rfl ?_
  obtain ⟨hb, h⟩ := ifn h
  refine V_sld X hX hbl hbA hb d_law_435 rfl ?_
  refine V_aload_n (n := 1) X d_law_436 rfl rfl rfl ?_
  refine V_iload (n := 5) X d_law_437 rfl rfl ?_
  refine V_iconst (v := 2) X d_law_439 (by decide) rfl ?_
  refine V_iadd X d_law_440 rfl ?_
  obtain ⟨hb, h⟩ := ifn h
  refine V_sld X hX hbl hbA hb d_law_441 rfl ?_
  obtain ⟨x27, hx27, h⟩ := ob_s h
  refine V_ci (As := [.int (xs (v4 + (1 : Int32)).toNatClampNeg), .int (xs (v4 + (2 : Int32)).toNatClampNeg)]) X hz ml_Lw_63 yq_Mod_person (c_Mod_person E.2.1 G (xs (v4 + (1 : Int32)).toNatClampNeg) (xs (v4 + (2 : Int32)).toNatClampNeg) x26.2 x27 hx27 _ (Nat.le_refl _)) kd_162 rfl rfl (by omega) rfl (Nat.le_of_ble_eq_true rfl) d_law_442 rfl (fun r9 M9 hq => ?_)
  rw [hq.1, hq.2]
  refine V_istore (lv' := [(6, .int x27.1), (5, .int x26.1), (0, .ref b), (1, .ref (G.2.2 + 0)), (2, .ref (G.2.2 + 162)), (3, .ref (G.2.2 + 192)), (4, .int v4)]) X d_law_445 (by decide) rfl rfl ?_
  refine V_goto (pc' := 1581) X d_law_447 (by decide) ?_
  refine V_iinc (n := 6) (v := (v4 + (5 : Int32))) (lv' := [(4, .int (v4 + (5 : Int32))), (6, .int x27.1), (5, .int x26.1), (0, .ref b), (1, .ref (G.2.2 + 0)), (2, .ref (G.2.2 + 162)), (3, .ref (G.2.2 + 192))]) X d_law_1581 rfl rfl (by decide) rfl rfl ?_
  refine V_goto (pc' := 23) X d_law_1584 (by decide) ?_
  refine V_sub (lv' := [(0, .ref b), (1, .ref (G.2.2 + 0)), (2, .ref (G.2.2 + 162)), (3, .ref (G.2.2 + 192)), (4, .int (v4 + (5 : Int32)))]) [3, 4, 5, 6, 0] rfl ?_
  exact kc ((v4 + (5 : Int32)), x27.2) (Option.some.inj h).symm
def j_law_450_23 (L : Nat) (xs : Nat → Int32) (v4 : Int32) (M : Mem) : Option ((Int32 × Mem) ⊕ ((Mem) ⊕ (Int32 × Mem))) :=
  if inb (v4 + (1 : Int32)) L = true then
  if inb (v4 + (2 : Int32)) L = true then
  Option.bind (f_Top_build (xs (v4 + (1 : Int32)).toNatClampNeg) (xs (v4 + (2 : Int32)).toNatClampNeg) M) fun x29 =>
  if inb (v4 + (1 : Int32)) L = true then
  if inb (v4 + (2 : Int32)) L = true then
  Option.bind (f_Mod_build (xs (v4 + (1 : Int32)).toNatClampNeg) (xs (v4 + (2 : Int32)).toNatClampNeg) x29.2) fun x30 =>
  some (.inl ((v4 + (5 : Int32)), x30.2))
  else none
  else none
  else none
  else none
theorem j_law_450_23_ok {E : Ev} {cs : Nat × Nat} {G : Gw} {d : Nat} {Q : State → Prop} {b L : Nat} {xs : Nat → Int32} (X : Cx E G code "WomenByTheRoofsLaw" 7 d ret) (hz0 : Zc E cs) (hz : Zc E (cs.1 + 1, cs.2 + 6)) (hT : Tw G E.2.2.2.2.1 E.2.2.2.2.1.heap) (hl9 : E.2.1.stackTraces = false) (hX : va_X b L xs E.2.2.2.2.1 E.2.2.2.2.1.heap) (hbl : b < E.2.2.2.2.1.heap.size) (hbA : ¬ G.2.2 ≤ b) (hD : 450 ≤ d)  (v4 : Int32)  (M : Mem)  (o : (Int32 × Mem) ⊕ ((Mem) ⊕ (Int32 × Mem))) (h : j_law_450_23 L xs v4 M = some o) (kc : ∀ s9 : Int32 × Mem, o = .inl s9 → V E (cs.1 + 1, cs.2 + 6) G 7 Q s9.2 23 [(0, .ref b), (1, .ref (G.2.2 + 0)), (2, .ref (G.2.2 + 162)), (3, .ref (G.2.2 + 192)), (4, .int s9.1)] []) (kx0 : ∀ x9 : Mem, o = .inr (Sum.inl x9) → V E (cs.1 + 1, cs.2 + 6) G 7 Q x9 1587 [] []) (kr : ∀ x9 : Int32 × Mem, o = .inr (Sum.inr x9) → False) : V E cs G 7 Q M 450 [(0, .ref b), (1, .ref (G.2.2 + 0)), (2, .ref (G.2.2 + 162)), (3, .ref (G.2.2 + 192)), (4, .int v4)] [] := by
  unfold j_law_450_23 at h
  refine V_aload_n (n := 1) X d_law_450 rfl rfl rfl ?_
  refine V_aload_n (n := 0) X d_law_451 rfl rfl rfl ?_
  refine V_iload (n := 4) X d_law_452 rfl rfl ?_
  refine V_iconst (v := 1) X d_law_454 (by decide) rfl ?_
  refine V_iadd X d_law_455 rfl ?_
  obtain ⟨hb, h⟩ := ifn h
  refine V_sld X hX hbl hbA hb d_law_456 rfl ?_
  refine V_aload_n (n := 0) X d_law_457 rfl rfl rfl ?_
  refine V_iload (n := 4) X d_law_458 rfl rfl ?_
  refine V_iconst (v := 2) X d_law_460 (by decide) rfl ?_
  refine V_iadd X d_law_461 rfl ?_
  obtain ⟨hb, h⟩ := ifn h
  refine V_sld X hX hbl hbA hb d_law_462 rfl ?_
  obtain ⟨x29, hx29, h⟩ := ob_s h
  refine V_ci (As := [.int (xs (v4 + (1 : Int32)).toNatClampNeg), .int (xs (v4 + (2 : Int32)).toNatClampNeg)]) X hz0 ml_Lw_64 yq_Top_build (c_Top_build E.2.1 G (xs (v4 + (1 : Int32)).toNatClampNeg) (xs (v4 + (2 : Int32)).toNatClampNeg) M x29 hx29 _ (Nat.le_refl _)) kd_0 rfl rfl (by omega) rfl (Nat.le_of_ble_eq_true rfl) d_law_463 rfl (fun r9 M9 hq => ?_)
  rw [hq.1, hq.2]
  refine V_pop X d_law_466 rfl rfl ?_
  refine V_aload_n (n := 2) X d_law_467 rfl rfl rfl ?_
  refine V_aload_n (n := 0) X d_law_468 rfl rfl rfl ?_
  refine V_iload (n := 4) X d_law_469 rfl rfl ?_
  refine V_iconst (v := 1) X d_law_471 (by decide) rfl ?_
  refine V_iadd X d_law_472 rfl ?_
  obtain ⟨hb, h⟩ := ifn h
  refine V_sld X hX hbl hbA hb d_law_473 rfl ?_
  refine V_aload_n (n := 0) X d_law_474 rfl rfl rfl ?_
  refine V_iload (n := 4) X d_law_475 rfl rfl ?_
  refine V_iconst (v := 2) X d_law_477 (by decide) rfl ?_
  refine V_iadd X d_law_478 rfl ?_
  obtain ⟨hb, h⟩ := ifn h
  refine V_sld X hX hbl hbA hb d_law_479 rfl ?_
  obtain ⟨x30, hx30, h⟩ := ob_s h
  refine V_ci (As := [.int (xs (v4 + (1 : Int32)).toNatClampNeg), .int (xs (v4 + (2 : Int32)).toNatClampNeg)]) X hz0 ml_Lw_67 yq_Mod_build (c_Mod_build E.2.1 G (xs (v4 + (1 : Int32)).toNatClampNeg) (xs (v4 + (2 : Int32)).toNatClampNeg) x29.2 x30 hx30 _ (Nat.le_refl _)) kd_162 rfl rfl (by omega) rfl (Nat.le_of_ble_eq_true rfl) d_law_480 rfl (fun r9 M9 hq => ?_)
  rw [hq.1, hq.2]
  refine V_pop X d_law_483 rfl rfl ?_
  refine V_goto (pc' := 1581) X d_law_484 (by decide) ?_
  refine V_iinc (n := 4) (v := (v4 + (5 : Int32))) (lv' := [(4, .int (v4 + (5 : Int32))), (0, .ref b), (1, .ref (G.2.2 + 0)), (2, .ref (G.2.2 + 162)), (3, .ref (G.2.2 + 192))]) X d_law_1581 rfl rfl (by decide) rfl rfl ?_
  refine V_goto (pc' := 23) X d_law_1584 (by decide) ?_
  refine V_wid (cs' := (cs.1 + 1, cs.2 + 6)) ⟨Nat.le_succ _, Nat.le_add_right _ _⟩ ?_
  refine V_sub (lv' := [(0, .ref b), (1, .ref (G.2.2 + 0)), (2, .ref (G.2.2 + 162)), (3, .ref (G.2.2 + 192)), (4, .int (v4 + (5 : Int32)))]) [1, 2, 3, 4, 0] rfl ?_
  exact kc ((v4 + (5 : Int32)), x30.2) (Option.some.inj h).symm
def j_law_487_23 (L : Nat) (xs : Nat → Int32) (v4 : Int32) (M : Mem) : Option ((Int32 × Mem) ⊕ ((Mem) ⊕ (Int32 × Mem))) :=
  if inb (v4 + (1 : Int32)) L = true then
  if inb (v4 + (2 : Int32)) L = true then
  Option.bind (f_Top_plank (xs (v4 + (1 : Int32)).toNatClampNeg) (xs (v4 + (2 : Int32)).toNatClampNeg) M) fun x32 =>
  if inb (v4 + (1 : Int32)) L = true then
  if inb (v4 + (2 : Int32)) L = true then
  Option.bind (f_Mod_plank (xs (v4 + (1 : Int32)).toNatClampNeg) (xs (v4 + (2 : Int32)).toNatClampNeg) x32.2) fun x33 =>
  some (.inl ((v4 + (5 : Int32)), x33.2))
  else none
  else none
  else none
  else none
theorem j_law_487_23_ok {E : Ev} {cs : Nat × Nat} {G : Gw} {d : Nat} {Q : State → Prop} {b L : Nat} {xs : Nat → Int32} (X : Cx E G code "WomenByTheRoofsLaw" 7 d ret) (hz0 : Zc E cs) (hz : Zc E (cs.1 + 1, cs.2 + 6)) (hT : Tw G E.2.2.2.2.1 E.2.2.2.2.1.heap) (hl9 : E.2.1.stackTraces = false) (hX : va_X b L xs E.2.2.2.2.1 E.2.2.2.2.1.heap) (hbl : b < E.2.2.2.2.1.heap.size) (hbA : ¬ G.2.2 ≤ b) (hD : 450 ≤ d)  (v4 : Int32)  (M : Mem)  (o : (Int32 × Mem) ⊕ ((Mem) ⊕ (Int32 × Mem))) (h : j_law_487_23 L xs v4 M = some o) (kc : ∀ s9 : Int32 × Mem, o = .inl s9 → V E (cs.1 + 1, cs.2 + 6) G 7 Q s9.2 23 [(0, .ref b), (1, .ref (G.2.2 + 0)), (2, .ref (G.2.2 + 162)), (3, .ref (G.2.2 + 192)), (4, .int s9.1)] []) (kx0 : ∀ x9 : Mem, o = .inr (Sum.inl x9) → V E (cs.1 + 1, cs.2 + 6) G 7 Q x9 1587 [] []) (kr : ∀ x9 : Int32 × Mem, o = .inr (Sum.inr x9) → False) : V E cs G 7 Q M 487 [(0, .ref b), (1, .ref (G.2.2 + 0)), (2, .ref (G.2.2 + 162)), (3, .ref (G.2.2 + 192)), (4, .int v4)] [] := by
  unfold j_law_487_23 at h
  refine V_aload_n (n := 1) X d_law_487 rfl rfl rfl ?_
  refine V_aload_n (n := 0) X d_law_488 rfl rfl rfl ?_
  refine V_iload (n := 4) X d_law_489 rfl rfl ?_
  refine V_iconst (v := 1) X d_law_491 (by decide) rfl ?_
  refine V_iadd X d_law_492 rfl ?_
  obtain ⟨hb, h⟩ := ifn h
  refine V_sld X hX hbl hbA hb d_law_493 rfl ?_
  refine V_aload_n (n := 0) X d_law_494 rfl rfl rfl ?_
  refine V_iload (n := 4) X d_law_495 rfl rfl ?_
  refine V_iconst (v := 2) X d_law_497 (by decide) rfl ?_
  refine V_iadd X d_law_498 rfl ?_
  obtain ⟨hb, h⟩ := ifn h
  refine V_sld X hX hbl hbA hb d_law_499 rfl ?_
  obtain ⟨x32, hx32, h⟩ := ob_s h
  refine V_ci (As := [.int (xs (v4 + (1 : Int32)).toNatClampNeg), .int (xs (v4 + (2 : Int32)).toNatClampNeg)]) X hz0 ml_Lw_68 yq_Top_plank (c_Top_plank E.2.1 G (xs (v4 + (1 : Int32)).toNatClampNeg) (xs (v4 + (2 : Int32)).toNatClampNeg) M x32 hx32 _ (Nat.le_refl _)) kd_0 rfl rfl (by omega) rfl (Nat.le_of_ble_eq_true rfl) d_law_500 rfl (fun r9 M9 hq => ?_)
  rw [hq.1, hq.2]
  refine V_pop X d_law_503 rfl rfl ?_
  refine V_aload_n (n := 2) X d_law_504 rfl rfl rfl ?_
  refine V_aload_n (n := 0) X d_law_505 rfl rfl rfl ?_
  refine V_iload (n := 4) X d_law_506 rfl rfl ?_
  refine V_iconst (v := 1) X d_law_508 (by decide) rfl ?_
  refine V_iadd X d_law_509 rfl ?_
  obtain ⟨hb, h⟩ := ifn h
  refine V_sld X hX hbl hbA hb d_law_510 rfl ?_
  refine V_aload_n (n := 0) X d_law_511 rfl rfl rfl ?_
  refine V_iload (n := 4) X d_law_512 rfl rfl ?_
  refine V_iconst (v := 2) X d_law_514 (by decide) rfl ?_
  refine V_iadd X d_law_515 rfl ?_
  obtain ⟨hb, h⟩ := ifn h
  refine V_sld X hX hbl hbA hb d_law_516 rfl ?_
  obtain ⟨x33, hx33, h⟩ := ob_s h
  refine V_ci (As := [.int (xs (v4 + (1 : Int32)).toNatClampNeg), .int (xs (v4 + (2 : Int32)).toNatClampNeg)]) X hz0 ml_Lw_71 yq_Mod_plank (c_Mod_plank E.2.1 G (xs (v4 + (1 : Int32)).toNatClampNeg) (xs (v4 + (2 : Int32)).toNatClampNeg) x32.2 x33 hx33 _ (Nat.le_refl _)) kd_162 rfl rfl (by omega) rfl (Nat.le_of_ble_eq_true rfl) d_law_517 rfl (fun r9 M9 hq => ?_)
  rw [hq.1, hq.2]
  refine V_pop X d_law_520 rfl rfl ?_
  refine V_goto (pc' := 1581) X d_law_521 (by decide) ?_
  refine V_iinc (n := 4) (v := (v4 + (5 : Int32))) (lv' := [(4, .int (v4 + (5 : Int32))), (0, .ref b), (1, .ref (G.2.2 + 0)), (2, .ref (G.2.2 + 162)), (3, .ref (G.2.2 + 192))]) X d_law_1581 rfl rfl (by decide) rfl rfl ?_
  refine V_goto (pc' := 23) X d_law_1584 (by decide) ?_
  refine V_wid (cs' := (cs.1 + 1, cs.2 + 6)) ⟨Nat.le_succ _, Nat.le_add_right _ _⟩ ?_
  refine V_sub (lv' := [(0, .ref b), (1, .ref (G.2.2 + 0)), (2, .ref (G.2.2 + 162)), (3, .ref (G.2.2 + 192)), (4, .int (v4 + (5 : Int32)))]) [1, 2, 3, 4, 0] rfl ?_
  exact kc ((v4 + (5 : Int32)), x33.2) (Option.some.inj h).symm
def j_law_524_23 (L : Nat) (xs : Nat → Int32) (v4 : Int32) (M : Mem) : Option ((Int32 × Mem) ⊕ ((Mem) ⊕ (Int32 × Mem))) :=
  Option.bind (f_Top_take M) fun x35 =>
  Option.bind (f_Mod_take x35.2) fun x36 =>
  some (.inl ((v4 + (5 : Int32)), x36.2))
theorem j_law_524_23_ok {E : Ev} {cs : Nat × Nat} {G : Gw} {d : Nat} {Q : State → Prop} {b L : Nat} {xs : Nat → Int32} (X : Cx E G code "WomenByTheRoofsLaw" 7 d ret) (hz0 : Zc E cs) (hz : Zc E (cs.1 + 1, cs.2 + 6)) (hT : Tw G E.2.2.2.2.1 E.2.2.2.2.1.heap) (hl9 : E.2.1.stackTraces = false) (hX : va_X b L xs E.2.2.2.2.1 E.2.2.2.2.1.heap) (hbl : b < E.2.2.2.2.1.heap.size) (hbA : ¬ G.2.2 ≤ b) (hD : 450 ≤ d)  (v4 : Int32)  (M : Mem)  (o : (Int32 × Mem) ⊕ ((Mem) ⊕ (Int32 × Mem))) (h : j_law_524_23 L xs v4 M = some o) (kc : ∀ s9 : Int32 × Mem, o = .inl s9 → V E (cs.1 + 1, cs.2 + 6) G 7 Q s9.2 23 [(0, .ref b), (1, .ref (G.2.2 + 0)), (2, .ref (G.2.2 + 162)), (3, .ref (G.2.2 + 192)), (4, .int s9.1)] []) (kx0 : ∀ x9 : Mem, o = .inr (Sum.inl x9) → V E (cs.1 + 1, cs.2 + 6) G 7 Q x9 1587 [] []) (kr : ∀ x9 : Int32 × Mem, o = .inr (Sum.inr x9) → False) : V E cs G 7 Q M 524 [(0, .ref b), (1, .ref (G.2.2 + 0)), (2, .ref (G.2.2 + 162)), (3, .ref (G.2.2 + 192)), (4, .int v4)] [] := by
  unfold j_law_524_23 at h
  refine V_aload_n (n := 1) X d_law_524 rfl rfl rfl ?_
  obtain ⟨x35, hx35, h⟩ := ob_s h
  refine V_ci (As := []) X hz0 ml_Lw_72 yq_Top_take (c_Top_take E.2.1 G  M x35 hx35 _ (Nat.le_refl _)) kd_0 rfl rfl (by omega) rfl (Nat.le_of_ble_eq_true rfl) d_law_525 rfl (fun r9 M9 hq => ?_)
  rw [hq.1, hq.2]
  refine V_pop X d_law_528 rfl rfl ?_
  refine V_aload_n (n := 2) X d_law_529 rfl rfl rfl ?_
  obtain ⟨x36, hx36, h⟩ := ob_s h
  refine V_ci (As := []) X hz0 ml_Lw_75 yq_Mod_take (c_Mod_take E.2.1 G  x35.2 x36 hx36 _ (Nat.le_refl _)) kd_162 rfl rfl (by omega) rfl (Nat.le_of_ble_eq_true rfl) d_law_530 rfl (fun r9 M9 hq => ?_)
  rw [hq.1, hq.2]
  refine V_pop X d_law_533 rfl rfl ?_
  refine V_goto (pc' := 1581) X d_law_534 (by decide) ?_
  refine V_iinc (n := 4) (v := (v4 + (5 : Int32))) (lv' := [(4, .int (v4 + (5 : Int32))), (0, .ref b), (1, .ref (G.2.2 + 0)), (2, .ref (G.2.2 + 162)), (3, .ref (G.2.2 + 192))]) X d_law_1581 rfl rfl (by decide) rfl rfl ?_
  refine V_goto (pc' := 23) X d_law_1584 (by decide) ?_
  refine V_wid (cs' := (cs.1 + 1, cs.2 + 6)) ⟨Nat.le_succ _, Nat.le_add_right _ _⟩ ?_
  refine V_sub (lv' := [(0, .ref b), (1, .ref (G.2.2 + 0)), (2, .ref (G.2.2 + 162)), (3, .ref (G.2.2 + 192)), (4, .int (v4 + (5 : Int32)))]) [1, 2, 3, 4, 0] rfl ?_
  exact kc ((v4 + (5 : Int32)), x36.2) (Option.some.inj h).symm
def j_law_537_23 (L : Nat) (xs : Nat → Int32) (v4 : Int32) (M : Mem) : Option ((Int32 × Mem) ⊕ ((Mem) ⊕ (Int32 × Mem))) :=
  if inb (v4 + (1 : Int32)) L = true then
  if inb (v4 + (2 : Int32)) L = true then
  if inb (v4 + (3 : Int32)) L = true then
  if inb (v4 + (4 : Int32)) L = true then
  Option.bind (f_Top_sheet (xs (v4 + (1 : Int32)).toNatClampNeg) (xs (v4 + (2 : Int32)).toNatClampNeg) (xs (v4 + (3 : Int32)).toNatClampNeg) (xs (v4 + (4 : Int32)).toNatClampNeg) M) fun x38 =>
  if inb (v4 + (1 : Int32)) L = true then
  if inb (v4 + (2 : Int32)) L = true then
  if inb (v4 + (3 : Int32)) L = true then
  if inb (v4 + (4 : Int32)) L = true then
  Option.bind (f_Mod_sheet (xs (v4 + (1 : Int32)).toNatClampNeg) (xs (v4 + (2 : Int32)).toNatClampNeg) (xs (v4 + (3 : Int32)).toNatClampNeg) (xs (v4 + (4 : Int32)).toNatClampNeg) x38.2) fun x39 =>
  some (.inl ((v4 + (5 : Int32)), x39.2))
  else none
  else none
  else none
  else none
  else none
  else none
  else none
  else none
theorem j_law_537_23_ok {E : Ev} {cs : Nat × Nat} {G : Gw} {d : Nat} {Q : State → Prop} {b L : Nat} {xs : Nat → Int32} (X : Cx E G code "WomenByTheRoofsLaw" 7 d ret) (hz0 : Zc E cs) (hz : Zc E (cs.1 + 1, cs.2 + 6)) (hT : Tw G E.2.2.2.2.1 E.2.2.2.2.1.heap) (hl9 : E.2.1.stackTraces = false) (hX : va_X b L xs E.2.2.2.2.1 E.2.2.2.2.1.heap) (hbl : b < E.2.2.2.2.1.heap.size) (hbA : ¬ G.2.2 ≤ b) (hD : 450 ≤ d)  (v4 : Int32)  (M : Mem)  (o : (Int32 × Mem) ⊕ ((Mem) ⊕ (Int32 × Mem))) (h : j_law_537_23 L xs v4 M = some o) (kc : ∀ s9 : Int32 × Mem, o = .inl s9 → V E (cs.1 + 1, cs.2 + 6) G 7 Q s9.2 23 [(0, .ref b), (1, .ref (G.2.2 + 0)), (2, .ref (G.2.2 + 162)), (3, .ref (G.2.2 + 192)), (4, .int s9.1)] []) (kx0 : ∀ x9 : Mem, o = .inr (Sum.inl x9) → V E (cs.1 + 1, cs.2 + 6) G 7 Q x9 1587 [] []) (kr : ∀ x9 : Int32 × Mem, o = .inr (Sum.inr x9) → False) : V E cs G 7 Q M 537 [(0, .ref b), (1, .ref (G.2.2 + 0)), (2, .ref (G.2.2 + 162)), (3, .ref (G.2.2 + 192)), (4, .int v4)] [] := by
  unfold j_law_537_23 at h
  refine V_aload_n (n := 1) X d_law_537 rfl rfl rfl ?_
  refine V_aload_n (n := 0) X d_law_538 rfl rfl rfl ?_
  refine V_iload (n := 4) X d_law_539 rfl rfl ?_
  refine V_iconst (v := 1) X d_law_541 (by decide) rfl ?_
  refine V_iadd X d_law_542 rfl ?_
  obtain ⟨hb, h⟩ := ifn h
  refine V_sld X hX hbl hbA hb d_law_543 rfl ?_
  refine V_aload_n (n := 0) X d_law_544 rfl rfl rfl ?_
  refine V_iload (n := 4) X d_law_545 rfl rfl ?_
  refine V_iconst (v := 2) X d_law_547 (by decide) rfl ?_
  refine V_iadd X d_law_548 rfl ?_
  obtain ⟨hb, h⟩ := ifn h
  refine V_sld X hX hbl hbA hb d_law_549 rfl ?_
  refine V_aload_n (n := 0) X d_law_550 rfl rfl rfl ?_
  refine V_iload (n := 4) X d_law_551 rfl rfl ?_
  refine V_iconst (v := 3) X d_law_553 (by decide) rfl ?_
  refine V_iadd X d_law_554 rfl ?_
  obtain ⟨hb, h⟩ := ifn h
  refine V_sld X hX hbl hbA hb d_law_555 rfl ?_
  refine V_aload_n (n := 0) X d_law_556 rfl rfl rfl ?_
  refine V_iload (n := 4) X d_law_557 rfl rfl ?_
  refine V_iconst (v := 4) X d_law_559 (by decide) rfl ?_
  refine V_iadd X d_law_560 rfl ?_
  obtain ⟨hb, h⟩ := ifn h
  refine V_sld X hX hbl hbA hb d_law_561 rfl ?_
  obtain ⟨x38, hx38, h⟩ := ob_s h
  refine V_ci (As := [.int (xs (v4 + (1 : Int32)).toNatClampNeg), .int (xs (v4 + (2 : Int32)).toNatClampNeg), .int (xs (v4 + (3 : Int32)).toNatClampNeg), .int (xs (v4 + (4 : Int32)).toNatClampNeg)]) X hz0 ml_Lw_76 yq_Top_sheet (c_Top_sheet E.2.1 G (xs (v4 + (1 : Int32)).toNatClampNeg) (xs (v4 + (2 : Int32)).toNatClampNeg) (xs (v4 + (3 : Int32)).toNatClampNeg) (xs (v4 + (4 : Int32)).toNatClampNeg) M x38 hx38 _ (Nat.le_refl _)) kd_0 rfl rfl (by omega) rfl (Nat.le_of_ble_eq_true rfl) d_law_562 rfl (fun r9 M9 hq => ?_)
  rw [hq.1, hq.2]
  refine V_pop X d_law_565 rfl rfl ?_
  refine V_aload_n (n := 2) X d_law_566 rfl rfl rfl ?_
  refine V_aload_n (n := 0) X d_law_567 rfl rfl rfl ?_
  refine V_iload (n := 4) X d_law_568 rfl rfl ?_
  refine V_iconst (v := 1) X d_law_570 (by decide) rfl ?_
  refine V_iadd X d_law_571 rfl ?_
  obtain ⟨hb, h⟩ := ifn h
  refine V_sld X hX hbl hbA hb d_law_572 rfl ?_
  refine V_aload_n (n := 0) X d_law_573 rfl rfl rfl ?_
  refine V_iload (n := 4) X d_law_574 rfl rfl ?_
  refine V_iconst (v := 2) X d_law_576 (by decide) rfl ?_
  refine V_iadd X d_law_577 rfl ?_
  obtain ⟨hb, h⟩ := ifn h
  refine V_sld X hX hbl hbA hb d_law_578 rfl ?_
  refine V_aload_n (n := 0) X d_law_579 rfl rfl rfl ?_
  refine V_iload (n := 4) X d_law_580 rfl rfl ?_
  refine V_iconst (v := 3) X d_law_582 (by decide) rfl ?_
  refine V_iadd X d_law_583 rfl ?_
  obtain ⟨hb, h⟩ := ifn h
  refine V_sld X hX hbl hbA hb d_law_584 rfl ?_
  refine V_aload_n (n := 0) X d_law_585 rfl rfl rfl ?_
  refine V_iload (n := 4) X d_law_586 rfl rfl ?_
  refine V_iconst (v := 4) X d_law_588 (by decide) rfl ?_
  refine V_iadd X d_law_589 rfl ?_
  obtain ⟨hb, h⟩ := ifn h
  refine V_sld X hX hbl hbA hb d_law_590 rfl ?_
  obtain ⟨x39, hx39, h⟩ := ob_s h
  refine V_ci (As := [.int (xs (v4 + (1 : Int32)).toNatClampNeg), .int (xs (v4 + (2 : Int32)).toNatClampNeg), .int (xs (v4 + (3 : Int32)).toNatClampNeg), .int (xs (v4 + (4 : Int32)).toNatClampNeg)]) X hz0 ml_Lw_80 yq_Mod_sheet (c_Mod_sheet E.2.1 G (xs (v4 + (1 : Int32)).toNatClampNeg) (xs (v4 + (2 : Int32)).toNatClampNeg) (xs (v4 + (3 : Int32)).toNatClampNeg) (xs (v4 + (4 : Int32)).toNatClampNeg) x38.2 x39 hx39 _ (Nat.le_refl _)) kd_162 rfl rfl (by omega) rfl (Nat.le_of_ble_eq_true rfl) d_law_591 rfl (fun r9 M9 hq => ?_)
  rw [hq.1, hq.2]
  refine V_pop X d_law_594 rfl rfl ?_
  refine V_goto (pc' := 1581) X d_law_595 (by decide) ?_
  refine V_iinc (n := 4) (v := (v4 + (5 : Int32))) (lv' := [(4, .int (v4 + (5 : Int32))), (0, .ref b), (1, .ref (G.2.2 + 0)), (2, .ref (G.2.2 + 162)), (3, .ref (G.2.2 + 192))]) X d_law_1581 rfl rfl (by decide) rfl rfl ?_
  refine V_goto (pc' := 23) X d_law_1584 (by decide) ?_
  refine V_wid (cs' := (cs.1 + 1, cs.2 + 6)) ⟨Nat.le_succ _, Nat.le_add_right _ _⟩ ?_
  refine V_sub (lv' := [(0, .ref b), (1, .ref (G.2.2 + 0)), (2, .ref (G.2.2 + 162)), (3, .ref (G.2.2 + 192)), (4, .int (v4 + (5 : Int32)))]) [1, 2, 3, 4, 0] rfl ?_
  exact kc ((v4 + (5 : Int32)), x39.2) (Option.some.inj h).symm
def j_law_598_23 (L : Nat) (xs : Nat → Int32) (v4 : Int32) (M : Mem) : Option ((Int32 × Mem) ⊕ ((Mem) ⊕ (Int32 × Mem))) :=
  if inb (v4 + (1 : Int32)) L = true then
  Option.bind (f_Top_tell (xs (v4 + (1 : Int32)).toNatClampNeg) M) fun x41 =>
  if inb (v4 + (1 : Int32)) L = true then
  Option.bind (f_Mod_tell (xs (v4 + (1 : Int32)).toNatClampNeg) x41.2) fun x42 =>
  some (.inl ((v4 + (5 : Int32)), x42.2))
  else none
  else none
theorem j_law_598_23_ok {E : Ev} {cs : Nat × Nat} {G : Gw} {d : Nat} {Q : State → Prop} {b L : Nat} {xs : Nat → Int32} (X : Cx E G code "WomenByTheRoofsLaw" 7 d ret) (hz0 : Zc E cs) (hz : Zc E (cs.1 + 1, cs.2 + 6)) (hT : Tw G E.2.2.2.2.1 E.2.2.2.2.1.heap) (hl9 : E.2.1.stackTraces = false) (hX : va_X b L xs E.2.2.2.2.1 E.2.2.2.2.1.heap) (hbl : b < E.2.2.2.2.1.heap.size) (hbA : ¬ G.2.2 ≤ b) (hD : 450 ≤ d)  (v4 : Int32)  (M : Mem)  (o : (Int32 × Mem) ⊕ ((Mem) ⊕ (Int32 × Mem))) (h : j_law_598_23 L xs v4 M = some o) (kc : ∀ s9 : Int32 × Mem, o = .inl s9 → V E (cs.1 + 1, cs.2 + 6) G 7 Q s9.2 23 [(0, .ref b), (1, .ref (G.2.2 + 0)), (2, .ref (G.2.2 + 162)), (3, .ref (G.2.2 + 192)), (4, .int s9.1)] []) (kx0 : ∀ x9 : Mem, o = .inr (Sum.inl x9) → V E (cs.1 + 1, cs.2 + 6) G 7 Q x9 1587 [] []) (kr : ∀ x9 : Int32 × Mem, o = .inr (Sum.inr x9) → False) : V E cs G 7 Q M 598 [(0, .ref b), (1, .ref (G.2.2 + 0)), (2, .ref (G.2.2 + 162)), (3, .ref (G.2.2 + 192)), (4, .int v4)] [] := by
  unfold j_law_598_23 at h
  refine V_aload_n (n := 1) X d_law_598 rfl rfl rfl ?_
  refine V_aload_n (n := 0) X d_law_599 rfl rfl rfl ?_
  refine V_iload (n := 4) X d_law_600 rfl rfl ?_
  refine V_iconst (v := 1) X d_law_602 (by decide) rfl ?_
  refine V_iadd X d_law_603 rfl ?_
  obtain ⟨hb, h⟩ := ifn h
  refine V_sld X hX hbl hbA hb d_law_604 rfl ?_
  obtain ⟨x41, hx41, h⟩ := ob_s h
  refine V_ci (As := [.int (xs (v4 + (1 : Int32)).toNatClampNeg)]) X hz0 ml_Lw_81 yq_Top_tell (c_Top_tell E.2.1 G (xs (v4 + (1 : Int32)).toNatClampNeg) M x41 hx41 _ (Nat.le_refl _)) kd_0 rfl rfl (by omega) rfl (Nat.le_of_ble_eq_true rfl) d_law_605 rfl (fun r9 M9 hq => ?_)
  rw [hq.1, hq.2]
  refine V_pop X d_law_608 rfl rfl ?_
  refine V_aload_n (n := 2) X d_law_609 rfl rfl rfl ?_
  refine V_aload_n (n := 0) X d_law_610 rfl rfl rfl ?_
  refine V_iload (n := 4) X d_law_611 rfl rfl ?_
  refine V_iconst (v := 1) X d_law_613 (by decide) rfl ?_
  refine V_iadd X d_law_614 rfl ?_
  obtain ⟨hb, h⟩ := ifn h
  refine V_sld X hX hbl hbA hb d_law_615 rfl ?_
  obtain ⟨x42, hx42, h⟩ := ob_s h
  refine V_ci (As := [.int (xs (v4 + (1 : Int32)).toNatClampNeg)]) X hz0 ml_Lw_84 yq_Mod_tell (c_Mod_tell E.2.1 G (xs (v4 + (1 : Int32)).toNatClampNeg) x41.2 x42 hx42 _ (Nat.le_refl _)) kd_162 rfl rfl (by omega) rfl (Nat.le_of_ble_eq_true rfl) d_law_616 rfl (fun r9 M9 hq => ?_)
  rw [hq.1, hq.2]
  refine V_pop X d_law_619 rfl rfl ?_
  refine V_goto (pc' := 1581) X d_law_620 (by decide) ?_
  refine V_iinc (n := 4) (v := (v4 + (5 : Int32))) (lv' := [(4, .int (v4 + (5 : Int32))), (0, .ref b), (1, .ref (G.2.2 + 0)), (2, .ref (G.2.2 + 162)), (3, .ref (G.2.2 + 192))]) X d_law_1581 rfl rfl (by decide) rfl rfl ?_
  refine V_goto (pc' := 23) X d_law_1584 (by decide) ?_
  refine V_wid (cs' := (cs.1 + 1, cs.2 + 6)) ⟨Nat.le_succ _, Nat.le_add_right _ _⟩ ?_
  refine V_sub (lv' := [(0, .ref b), (1, .ref (G.2.2 + 0)), (2, .ref (G.2.2 + 162)), (3, .ref (G.2.2 + 192)), (4, .int (v4 + (5 : Int32)))]) [1, 2, 3, 4, 0] rfl ?_
  exact kc ((v4 + (5 : Int32)), x42.2) (Option.some.inj h).symm
def j_law_623_23 (L : Nat) (xs : Nat → Int32) (v4 : Int32) (M : Mem) : Option ((Int32 × Mem) ⊕ ((Mem) ⊕ (Int32 × Mem))) :=
  if inb (v4 + (1 : Int32)) L = true then
  Option.bind (f_Top_feast (xs (v4 + (1 : Int32)).toNatClampNeg) M) fun x44 =>
  if inb (v4 + (1 : Int32)) L = true then
  Option.bind (f_Mod_feast (xs (v4 + (1 : Int32)).toNatClampNeg) x44.2) fun x45 =>
  some (.inl ((v4 + (5 : Int32)), x45.2))
  else none
  else none
theorem j_law_623_23_ok {E : Ev} {cs : Nat × Nat} {G : Gw} {d : Nat} {Q : State → Prop} {b L : Nat} {xs : Nat → Int32} (X : Cx E G code "WomenByTheRoofsLaw" 7 d ret) (hz0 : Zc E cs) (hz : Zc E (cs.1 + 1, cs.2 + 6)) (hT : Tw G E.2.2.2.2.1 E.2.2.2.2.1.heap) (hl9 : E.2.1.stackTraces = false) (hX : va_X b L xs E.2.2.2.2.1 E.2.2.2.2.1.heap) (hbl : b < E.2.2.2.2.1.heap.size) (hbA : ¬ G.2.2 ≤ b) (hD : 450 ≤ d)  (v4 : Int32)  (M : Mem)  (o : (Int32 × Mem) ⊕ ((Mem) ⊕ (Int32 × Mem))) (h : j_law_623_23 L xs v4 M = some o) (kc : ∀ s9 : Int32 × Mem, o = .inl s9 → V E (cs.1 + 1, cs.2 + 6) G 7 Q s9.2 23 [(0, .ref b), (1, .ref (G.2.2 + 0)), (2, .ref (G.2.2 + 162)), (3, .ref (G.2.2 + 192)), (4, .int s9.1)] []) (kx0 : ∀ x9 : Mem, o = .inr (Sum.inl x9) → V E (cs.1 + 1, cs.2 + 6) G 7 Q x9 1587 [] []) (kr : ∀ x9 : Int32 × Mem, o = .inr (Sum.inr x9) → False) : V E cs G 7 Q M 623 [(0, .ref b), (1, .ref (G.2.2 + 0)), (2, .ref (G.2.2 + 162)), (3, .ref (G.2.2 + 192)), (4, .int v4)] [] := by
  unfold j_law_623_23 at h
  refine V_aload_n (n := 1) X d_law_623 rfl rfl rfl ?_
  refine V_aload_n (n := 0) X d_law_624 rfl rfl rfl ?_
  refine V_iload (n := 4) X d_law_625 rfl rfl ?_
  refine V_iconst (v := 1) X d_law_627 (by decide) rfl ?_
  refine V_iadd X d_law_628 rfl ?_
  obtain ⟨hb, h⟩ := ifn h
  refine V_sld X hX hbl hbA hb d_law_629 rfl ?_
  obtain ⟨x44, hx44, h⟩ := ob_s h
  refine V_ci (As := [.int (xs (v4 + (1 : Int32)).toNatClampNeg)]) X hz0 ml_Lw_85 yq_Top_feast (c_Top_feast E.2.1 G (xs (v4 + (1 : Int32)).toNatClampNeg) M x44 hx44 _ (Nat.le_refl _)) kd_0 rfl rfl (by omega) rfl (Nat.le_of_ble_eq_true rfl) d_law_630 rfl (fun r9 M9 hq => ?_)
  rw [hq.1, hq.2]
  refine V_pop X d_law_633 rfl rfl ?_
  refine V_aload_n (n := 2) X d_law_634 rfl rfl rfl ?_
  refine V_aload_n (n := 0) X d_law_635 rfl rfl rfl ?_
  refine V_iload (n := 4) X d_law_636 rfl rfl ?_
  refine V_iconst (v := 1) X d_law_638 (by decide) rfl ?_
  refine V_iadd X d_law_639 rfl ?_
  obtain ⟨hb, h⟩ := ifn h
  refine V_sld X hX hbl hbA hb d_law_640 rfl ?_
  obtain ⟨x45, hx45, h⟩ := ob_s h
  refine V_ci (As := [.int (xs (v4 + (1 : Int32)).toNatClampNeg)]) X hz0 ml_Lw_88 yq_Mod_feast (c_Mod_feast E.2.1 G (xs (v4 + (1 : Int32)).toNatClampNeg) x44.2 x45 hx45 _ (Nat.le_refl _)) kd_162 rfl rfl (by omega) rfl (Nat.le_of_ble_eq_true rfl) d_law_641 rfl (fun r9 M9 hq => ?_)
  rw [hq.1, hq.2]
  refine V_pop X d_law_644 rfl rfl ?_
  refine V_goto (pc' := 1581) X d_law_645 (by decide) ?_
  refine V_iinc (n := 4) (v := (v4 + (5 : Int32))) (lv' := [(4, .int (v4 + (5 : Int32))), (0, .ref b), (1, .ref (G.2.2 + 0)), (2, .ref (G.2.2 + 162)), (3, .ref (G.2.2 + 192))]) X d_law_1581 rfl rfl (by decide) rfl rfl ?_
  refine V_goto (pc' := 23) X d_law_1584 (by decide) ?_
  refine V_wid (cs' := (cs.1 + 1, cs.2 + 6)) ⟨Nat.le_succ _, Nat.le_add_right _ _⟩ ?_
  refine V_sub (lv' := [(0, .ref b), (1, .ref (G.2.2 + 0)), (2, .ref (G.2.2 + 162)), (3, .ref (G.2.2 + 192)), (4, .int (v4 + (5 : Int32)))]) [1, 2, 3, 4, 0] rfl ?_
  exact kc ((v4 + (5 : Int32)), x45.2) (Option.some.inj h).symm
def j_law_648_23 (L : Nat) (xs : Nat → Int32) (v4 : Int32) (M : Mem) : Option ((Int32 × Mem) ⊕ ((Mem) ⊕ (Int32 × Mem))) :=
  Option.bind (f_Top_minute M) fun x47 =>
  Option.bind (f_Mod_minute x47.2) fun x48 =>
  some (.inl ((v4 + (5 : Int32)), x48.2))
theorem j_law_648_23_ok {E : Ev} {cs : Nat × Nat} {G : Gw} {d : Nat} {Q : State → Prop} {b L : Nat} {xs : Nat → Int32} (X : Cx E G code "WomenByTheRoofsLaw" 7 d ret) (hz0 : Zc E cs) (hz : Zc E (cs.1 + 1, cs.2 + 6)) (hT : Tw G E.2.2.2.2.1 E.2.2.2.2.1.heap) (hl9 : E.2.1.stackTraces = false) (hX : va_X b L xs E.2.2.2.2.1 E.2.2.2.2.1.heap) (hbl : b < E.2.2.2.2.1.heap.size) (hbA : ¬ G.2.2 ≤ b) (hD : 450 ≤ d)  (v4 : Int32)  (M : Mem)  (o : (Int32 × Mem) ⊕ ((Mem) ⊕ (Int32 × Mem))) (h : j_law_648_23 L xs v4 M = some o) (kc : ∀ s9 : Int32 × Mem, o = .inl s9 → V E (cs.1 + 1, cs.2 + 6) G 7 Q s9.2 23 [(0, .ref b), (1, .ref (G.2.2 + 0)), (2, .ref (G.2.2 + 162)), (3, .ref (G.2.2 + 192)), (4, .int s9.1)] []) (kx0 : ∀ x9 : Mem, o = .inr (Sum.inl x9) → V E (cs.1 + 1, cs.2 + 6) G 7 Q x9 1587 [] []) (kr : ∀ x9 : Int32 × Mem, o = .inr (Sum.inr x9) → False) : V E cs G 7 Q M 648 [(0, .ref b), (1, .ref (G.2.2 + 0)), (2, .ref (G.2.2 + 162)), (3, .ref (G.2.2 + 192)), (4, .int v4)] [] := by
  unfold j_law_648_23 at h
  refine V_aload_n (n := 1) X d_law_648 rfl rfl rfl ?_
  obtain ⟨x47, hx47, h⟩ := ob_s h
  refine V_ci (As := []) X hz0 ml_Lw_89 yq_Top_minute (c_Top_minute E.2.1 G  M x47 hx47 _ (Nat.le_refl _)) kd_0 rfl rfl (by omega) rfl (Nat.le_of_ble_eq_true rfl) d_law_649 rfl (fun r9 M9 hq => ?_)
  rw [hq.1, hq.2]
  refine V_pop X d_law_652 rfl rfl ?_
  refine V_aload_n (n := 2) X d_law_653 rfl rfl rfl ?_
  obtain ⟨x48, hx48, h⟩ := ob_s h
  refine V_ci (As := []) X hz0 ml_Lw_92 yq_Mod_minute (c_Mod_minute E.2.1 G  x47.2 x48 hx48 _ (Nat.le_refl _)) kd_162 rfl rfl (by omega) rfl (Nat.le_of_ble_eq_true rfl) d_law_654 rfl (fun r9 M9 hq => ?_)
  rw [hq.1, hq.2]
  refine V_pop X d_law_657 rfl rfl ?_
  refine V_goto (pc' := 1581) X d_law_658 (by decide) ?_
  refine V_iinc (n := 4) (v := (v4 + (5 : Int32))) (lv' := [(4, .int (v4 + (5 : Int32))), (0, .ref b), (1, .ref (G.2.2 + 0)), (2, .ref (G.2.2 + 162)), (3, .ref (G.2.2 + 192))]) X d_law_1581 rfl rfl (by decide) rfl rfl ?_
  refine V_goto (pc' := 23) X d_law_1584 (by decide) ?_
  refine V_wid (cs' := (cs.1 + 1, cs.2 + 6)) ⟨Nat.le_succ _, Nat.le_add_right _ _⟩ ?_
  refine V_sub (lv' := [(0, .ref b), (1, .ref (G.2.2 + 0)), (2, .ref (G.2.2 + 162)), (3, .ref (G.2.2 + 192)), (4, .int (v4 + (5 : Int32)))]) [1, 2, 3, 4, 0] rfl ?_
  exact kc ((v4 + (5 : Int32)), x48.2) (Option.some.inj h).symm
def j_law_661_23 (L : Nat) (xs : Nat → Int32) (v4 : Int32) (M : Mem) : Option ((Int32 × Mem) ⊕ ((Mem) ⊕ (Int32 × Mem))) :=
  if inb (v4 + (1 : Int32)) L = true then
  Option.bind (f_Top_minutes (xs (v4 + (1 : Int32)).toNatClampNeg) M) fun x50 =>
  if inb (v4 + (1 : Int32)) L = true then
  Option.bind (f_Mod_minutes (xs (v4 + (1 : Int32)).toNatClampNeg) x50.2) fun x51 =>
  some (.inl ((v4 + (5 : Int32)), x51.2))
  else none
  else none
theorem j_law_661_23_ok {E : Ev} {cs : Nat × Nat} {G : Gw} {d : Nat} {Q : State → Prop} {b L : Nat} {xs : Nat → Int32} (X : Cx E G code "WomenByTheRoofsLaw" 7 d ret) (hz0 : Zc E cs) (hz : Zc E (cs.1 + 1, cs.2 + 6)) (hT : Tw G E.2.2.2.2.1 E.2.2.2.2.1.heap) (hl9 : E.2.1.stackTraces = false) (hX : va_X b L xs E.2.2.2.2.1 E.2.2.2.2.1.heap) (hbl : b < E.2.2.2.2.1.heap.size) (hbA : ¬ G.2.2 ≤ b) (hD : 450 ≤ d)  (v4 : Int32)  (M : Mem)  (o : (Int32 × Mem) ⊕ ((Mem) ⊕ (Int32 × Mem))) (h : j_law_661_23 L xs v4 M = some o) (kc : ∀ s9 : Int32 × Mem, o = .inl s9 → V E (cs.1 + 1, cs.2 + 6) G 7 Q s9.2 23 [(0, .ref b), (1, .ref (G.2.2 + 0)), (2, .ref (G.2.2 + 162)), (3, .ref (G.2.2 + 192)), (4, .int s9.1)] []) (kx0 : ∀ x9 : Mem, o = .inr (Sum.inl x9) → V E (cs.1 + 1, cs.2 + 6) G 7 Q x9 1587 [] []) (kr : ∀ x9 : Int32 × Mem, o = .inr (Sum.inr x9) → False) : V E cs G 7 Q M 661 [(0, .ref b), (1, .ref (G.2.2 + 0)), (2, .ref (G.2.2 + 162)), (3, .ref (G.2.2 + 192)), (4, .int v4)] [] := by
  unfold j_law_661_23 at h
  refine V_aload_n (n := 1) X d_law_661 rfl rfl rfl ?_
  refine V_aload_n (n := 0) X d_law_662 rfl rfl rfl ?_
  refine V_iload (n := 4) X d_law_663 rfl rfl ?_
  refine V_iconst (v := 1) X d_law_665 (by decide) rfl ?_
  refine V_iadd X d_law_666 rfl ?_
  obtain ⟨hb, h⟩ := ifn h
  refine V_sld X hX hbl hbA hb d_law_667 rfl ?_
  obtain ⟨x50, hx50, h⟩ := ob_s h
  refine V_ci (As := [.int (xs (v4 + (1 : Int32)).toNatClampNeg)]) X hz0 ml_Lw_93 yq_Top_minutes (c_Top_minutes E.2.1 G (xs (v4 + (1 : Int32)).toNatClampNeg) M x50 hx50 _ (Nat.le_refl _)) kd_0 rfl rfl (by omega) rfl (Nat.le_of_ble_eq_true rfl) d_law_668 rfl (fun r9 M9 hq => ?_)
  rw [hq.1, hq.2]
  refine V_pop X d_law_671 rfl rfl ?_
  refine V_aload_n (n := 2) X d_law_672 rfl rfl rfl ?_
  refine V_aload_n (n := 0) X d_law_673 rfl rfl rfl ?_
  refine V_iload (n := 4) X d_law_674 rfl rfl ?_
  refine V_iconst (v := 1) X d_law_676 (by decide) rfl ?_
  refine V_iadd X d_law_677 rfl ?_
  obtain ⟨hb, h⟩ := ifn h
  refine V_sld X hX hbl hbA hb d_law_678 rfl ?_
  obtain ⟨x51, hx51, h⟩ := ob_s h
  refine V_ci (As := [.int (xs (v4 + (1 : Int32)).toNatClampNeg)]) X hz0 ml_Lw_96 yq_Mod_minutes (c_Mod_minutes E.2.1 G (xs (v4 + (1 : Int32)).toNatClampNeg) x50.2 x51 hx51 _ (Nat.le_refl _)) kd_162 rfl rfl (by omega) rfl (Nat.le_of_ble_eq_true rfl) d_law_679 rfl (fun r9 M9 hq => ?_)
  rw [hq.1, hq.2]
  refine V_pop X d_law_682 rfl rfl ?_
  refine V_goto (pc' := 1581) X d_law_683 (by decide) ?_
  refine V_iinc (n := 4) (v := (v4 + (5 : Int32))) (lv' := [(4, .int (v4 + (5 : Int32))), (0, .ref b), (1, .ref (G.2.2 + 0)), (2, .ref (G.2.2 + 162)), (3, .ref (G.2.2 + 192))]) X d_law_1581 rfl rfl (by decide) rfl rfl ?_
  refine V_goto (pc' := 23) X d_law_1584 (by decide) ?_
  refine V_wid (cs' := (cs.1 + 1, cs.2 + 6)) ⟨Nat.le_succ _, Nat.le_add_right _ _⟩ ?_
  refine V_sub (lv' := [(0, .ref b), (1, .ref (G.2.2 + 0)), (2, .ref (G.2.2 + 162)), (3, .ref (G.2.2 + 192)), (4, .int (v4 + (5 : Int32)))]) [1, 2, 3, 4, 0] rfl ?_
  exact kc ((v4 + (5 : Int32)), x51.2) (Option.some.inj h).symm
def j_law_686_23 (L : Nat) (xs : Nat → Int32) (v4 : Int32) (M : Mem) : Option ((Int32 × Mem) ⊕ ((Mem) ⊕ (Int32 × Mem))) :=
  Option.bind (f_Top_evening M) fun x53 =>
  Option.bind (f_Mod_evening x53.2) fun x54 =>
  some (.inl ((v4 + (5 : Int32)), x54.2))
theorem j_law_686_23_ok {E : Ev} {cs : Nat × Nat} {G : Gw} {d : Nat} {Q : State → Prop} {b L : Nat} {xs : Nat → Int32} (X : Cx E G code "WomenByTheRoofsLaw" 7 d ret) (hz0 : Zc E cs) (hz : Zc E (cs.1 + 1, cs.2 + 6)) (hT : Tw G E.2.2.2.2.1 E.2.2.2.2.1.heap) (hl9 : E.2.1.stackTraces = false) (hX : va_X b L xs E.2.2.2.2.1 E.2.2.2.2.1.heap) (hbl : b < E.2.2.2.2.1.heap.size) (hbA : ¬ G.2.2 ≤ b) (hD : 450 ≤ d)  (v4 : Int32)  (M : Mem)  (o : (Int32 × Mem) ⊕ ((Mem) ⊕ (Int32 × Mem))) (h : j_law_686_23 L xs v4 M = some o) (kc : ∀ s9 : Int32 × Mem, o = .inl s9 → V E (cs.1 + 1, cs.2 + 6) G 7 Q s9.2 23 [(0, .ref b), (1, .ref (G.2.2 + 0)), (2, .ref (G.2.2 + 162)), (3, .ref (G.2.2 + 192)), (4, .int s9.1)] []) (kx0 : ∀ x9 : Mem, o = .inr (Sum.inl x9) → V E (cs.1 + 1, cs.2 + 6) G 7 Q x9 1587 [] []) (kr : ∀ x9 : Int32 × Mem, o = .inr (Sum.inr x9) → False) : V E cs G 7 Q M 686 [(0, .ref b), (1, .ref (G.2.2 + 0)), (2, .ref (G.2.2 + 162)), (3, .ref (G.2.2 + 192)), (4, .int v4)] [] := by
  unfold j_law_686_23 at h
  refine V_aload_n (n := 1) X d_law_686 rfl rfl rfl ?_
  obtain ⟨x53, hx53, h⟩ := ob_s h
  refine V_ci (As := []) X hz0 ml_Lw_97 yq_Top_evening (c_Top_evening E.2.1 G  M x53 hx53 _ (Nat.le_refl _)) kd_0 rfl rfl (by omega) rfl (Nat.le_of_ble_eq_true rfl) d_law_687 rfl (fun r9 M9 hq => ?_)
  rw [hq.1, hq.2]
  refine V_pop X d_law_690 rfl rfl ?_
  refine V_aload_n (n := 2) X d_law_691 rfl rfl rfl ?_
  obtain ⟨x54, hx54, h⟩ := ob_s h
  refine V_ci (As := []) X hz0 ml_Lw_100 yq_Mod_evening (c_Mod_evening E.2.1 G  x53.2 x54 hx54 _ (Nat.le_refl _)) kd_162 rfl rfl (by omega) rfl (Nat.le_of_ble_eq_true rfl) d_law_692 rfl (fun r9 M9 hq => ?_)
  rw [hq.1, hq.2]
  refine V_pop X d_law_695 rfl rfl ?_
  refine V_goto (pc' := 1581) X d_law_696 (by decide) ?_
  refine V_iinc (n := 4) (v := (v4 + (5 : Int32))) (lv' := [(4, .int (v4 + (5 : Int32))), (0, .ref b), (1, .ref (G.2.2 + 0)), (2, .ref (G.2.2 + 162)), (3, .ref (G.2.2 + 192))]) X d_law_1581 rfl rfl (by decide) rfl rfl ?_
  refine V_goto (pc' := 23) X d_law_1584 (by decide) ?_
  refine V_wid (cs' := (cs.1 + 1, cs.2 + 6)) ⟨Nat.le_succ _, Nat.le_add_right _ _⟩ ?_
  refine V_sub (lv' := [(0, .ref b), (1, .ref (G.2.2 + 0)), (2, .ref (G.2.2 + 162)), (3, .ref (G.2.2 + 192)), (4, .int (v4 + (5 : Int32)))]) [1, 2, 3, 4, 0] rfl ?_
  exact kc ((v4 + (5 : Int32)), x54.2) (Option.some.inj h).symm
def j_law_699_23 (L : Nat) (xs : Nat → Int32) (v4 : Int32) (M : Mem) : Option ((Int32 × Mem) ⊕ ((Mem) ⊕ (Int32 × Mem))) :=
  Option.bind (f_Top_undo M) fun x56 =>
  Option.bind (f_Mod_undo x56.2) fun x57 =>
  some (.inl ((v4 + (5 : Int32)), x57.2))
theorem j_law_699_23_ok {E : Ev} {cs : Nat × Nat} {G : Gw} {d : Nat} {Q : State → Prop} {b L : Nat} {xs : Nat → Int32} (X : Cx E G code "WomenByTheRoofsLaw" 7 d ret) (hz0 : Zc E cs) (hz : Zc E (cs.1 + 1, cs.2 + 6)) (hT : Tw G E.2.2.2.2.1 E.2.2.2.2.1.heap) (hl9 : E.2.1.stackTraces = false) (hX : va_X b L xs E.2.2.2.2.1 E.2.2.2.2.1.heap) (hbl : b < E.2.2.2.2.1.heap.size) (hbA : ¬ G.2.2 ≤ b) (hD : 450 ≤ d)  (v4 : Int32)  (M : Mem)  (o : (Int32 × Mem) ⊕ ((Mem) ⊕ (Int32 × Mem))) (h : j_law_699_23 L xs v4 M = some o) (kc : ∀ s9 : Int32 × Mem, o = .inl s9 → V E (cs.1 + 1, cs.2 + 6) G 7 Q s9.2 23 [(0, .ref b), (1, .ref (G.2.2 + 0)), (2, .ref (G.2.2 + 162)), (3, .ref (G.2.2 + 192)), (4, .int s9.1)] []) (kx0 : ∀ x9 : Mem, o = .inr (Sum.inl x9) → V E (cs.1 + 1, cs.2 + 6) G 7 Q x9 1587 [] []) (kr : ∀ x9 : Int32 × Mem, o = .inr (Sum.inr x9) → False) : V E cs G 7 Q M 699 [(0, .ref b), (1, .ref (G.2.2 + 0)), (2, .ref (G.2.2 + 162)), (3, .ref (G.2.2 + 192)), (4, .int v4)] [] := by
  unfold j_law_699_23 at h
  refine V_aload_n (n := 1) X d_law_699 rfl rfl rfl ?_
  obtain ⟨x56, hx56, h⟩ := ob_s h
  refine V_ci (As := []) X hz0 ml_Lw_101 yq_Top_undo (c_Top_undo E.2.1 G  M x56 hx56 _ (Nat.le_refl _)) kd_0 rfl rfl (by omega) rfl (Nat.le_of_ble_eq_true rfl) d_law_700 rfl (fun r9 M9 hq => ?_)
  rw [hq.1, hq.2]
  refine V_pop X d_law_703 rfl rfl ?_
  refine V_aload_n (n := 2) X d_law_704 rfl rfl rfl ?_
  obtain ⟨x57, hx57, h⟩ := ob_s h
  refine V_ci (As := []) X hz0 ml_Lw_104 yq_Mod_undo (c_Mod_undo E.2.1 G  x56.2 x57 hx57 _ (Nat.le_refl _)) kd_162 rfl rfl (by omega) rfl (Nat.le_of_ble_eq_true rfl) d_law_705 rfl (fun r9 M9 hq => ?_)
  rw [hq.1, hq.2]
  refine V_pop X d_law_708 rfl rfl ?_
  refine V_goto (pc' := 1581) X d_law_709 (by decide) ?_
  refine V_iinc (n := 4) (v := (v4 + (5 : Int32))) (lv' := [(4, .int (v4 + (5 : Int32))), (0, .ref b), (1, .ref (G.2.2 + 0)), (2, .ref (G.2.2 + 162)), (3, .ref (G.2.2 + 192))]) X d_law_1581 rfl rfl (by decide) rfl rfl ?_
  refine V_goto (pc' := 23) X d_law_1584 (by decide) ?_
  refine V_wid (cs' := (cs.1 + 1, cs.2 + 6)) ⟨Nat.le_succ _, Nat.le_add_right _ _⟩ ?_
  refine V_sub (lv' := [(0, .ref b), (1, .ref (G.2.2 + 0)), (2, .ref (G.2.2 + 162)), (3, .ref (G.2.2 + 192)), (4, .int (v4 + (5 : Int32)))]) [1, 2, 3, 4, 0] rfl ?_
  exact kc ((v4 + (5 : Int32)), x57.2) (Option.some.inj h).symm
def j_law_712_23 (L : Nat) (xs : Nat → Int32) (v4 : Int32) (M : Mem) : Option ((Int32 × Mem) ⊕ ((Mem) ⊕ (Int32 × Mem))) :=
  if inb (v4 + (1 : Int32)) L = true then
  if inb (v4 + (2 : Int32)) L = true then
  Option.bind (f_Top_met (xs (v4 + (1 : Int32)).toNatClampNeg) (xs (v4 + (2 : Int32)).toNatClampNeg) M) fun x59 =>
  if inb (v4 + (1 : Int32)) L = true then
  if inb (v4 + (2 : Int32)) L = true then
  Option.bind (f_Mod_met (xs (v4 + (1 : Int32)).toNatClampNeg) (xs (v4 + (2 : Int32)).toNatClampNeg) M) fun x60 =>
  some (.inl ((v4 + (5 : Int32)), x60.2))
  else none
  else none
  else none
  else none
theorem j_law_712_23_ok {E : Ev} {cs : Nat × Nat} {G : Gw} {d : Nat} {Q : State → Prop} {b L : Nat} {xs : Nat → Int32} (X : Cx E G code "WomenByTheRoofsLaw" 7 d ret) (hz0 : Zc E cs) (hz : Zc E (cs.1 + 1, cs.2 + 6)) (hT : Tw G E.2.2.2.2.1 E.2.2.2.2.1.heap) (hl9 : E.2.1.stackTraces = false) (hX : va_X b L xs E.2.2.2.2.1 E.2.2.2.2.1.heap) (hbl : b < E.2.2.2.2.1.heap.size) (hbA : ¬ G.2.2 ≤ b) (hD : 450 ≤ d)  (v4 : Int32)  (M : Mem)  (o : (Int32 × Mem) ⊕ ((Mem) ⊕ (Int32 × Mem))) (h : j_law_712_23 L xs v4 M = some o) (kc : ∀ s9 : Int32 × Mem, o = .inl s9 → V E (cs.1 + 1, cs.2 + 6) G 7 Q s9.2 23 [(0, .ref b), (1, .ref (G.2.2 + 0)), (2, .ref (G.2.2 + 162)), (3, .ref (G.2.2 + 192)), (4, .int s9.1)] []) (kx0 : ∀ x9 : Mem, o = .inr (Sum.inl x9) → V E (cs.1 + 1, cs.2 + 6) G 7 Q x9 1587 [] []) (kr : ∀ x9 : Int32 × Mem, o = .inr (Sum.inr x9) → False) : V E cs G 7 Q M 712 [(0, .ref b), (1, .ref (G.2.2 + 0)), (2, .ref (G.2.2 + 162)), (3, .ref (G.2.2 + 192)), (4, .int v4)] [] := by
  unfold j_law_712_23 at h
  refine V_aload_n (n := 1) X d_law_712 rfl rfl rfl ?_
  refine V_aload_n (n := 0) X d_law_713 rfl rfl rfl ?_
  refine V_iload (n := 4) X d_law_714 rfl rfl ?_
  refine V_iconst (v := 1) X d_law_716 (by decide) rfl ?_
  refine V_iadd X d_law_717 rfl ?_
  obtain ⟨hb, h⟩ := ifn h
  refine V_sld X hX hbl hbA hb d_law_718 rfl ?_
  refine V_aload_n (n := 0) X d_law_719 rfl rfl rfl ?_
  refine V_iload (n := 4) X d_law_720 rfl rfl ?_
  refine V_iconst (v := 2) X d_law_722 (by decide) rfl ?_
  refine V_iadd X d_law_723 rfl ?_
  obtain ⟨hb, h⟩ := ifn h
  refine V_sld X hX hbl hbA hb d_law_724 rfl ?_
  obtain ⟨x59, hx59, h⟩ := ob_s h
  refine V_ci (As := [.int (xs (v4 + (1 : Int32)).toNatClampNeg), .int (xs (v4 + (2 : Int32)).toNatClampNeg)]) X hz0 ml_Lw_105 yq_Top_met (c_Top_met E.2.1 G (xs (v4 + (1 : Int32)).toNatClampNeg) (xs (v4 + (2 : Int32)).toNatClampNeg) M x59 hx59 _ (Nat.le_refl _)) kd_0 rfl rfl (by omega) rfl (Nat.le_of_ble_eq_true rfl) d_law_725 rfl (fun r9 M9 hq => ?_)
  rw [hq.1, hq.2]
  refine V_pop X d_law_728 rfl rfl ?_
  refine V_aload_n (n := 2) X d_law_729 rfl rfl rfl ?_
  refine V_aload_n (n := 0) X d_law_730 rfl rfl rfl ?_
  refine V_iload (n := 4) X d_law_731 rfl rfl ?_
  refine V_iconst (v := 1) X d_law_733 (by decide) rfl ?_
  refine V_iadd X d_law_734 rfl ?_
  obtain ⟨hb, h⟩ := ifn h
  refine V_sld X hX hbl hbA hb d_law_735 rfl ?_
  refine V_aload_n (n := 0) X d_law_736 rfl rfl rfl ?_
  refine V_iload (n := 4) X d_law_737 rfl rfl ?_
  refine V_iconst (v := 2) X d_law_739 (by decide) rfl ?_
  refine V_iadd X d_law_740 rfl ?_
  obtain ⟨hb, h⟩ := ifn h
  refine V_sld X hX hbl hbA hb d_law_741 rfl ?_
  obtain ⟨x60, hx60, h⟩ := ob_s h
  refine V_ci (As := [.int (xs (v4 + (1 : Int32)).toNatClampNeg), .int (xs (v4 + (2 : Int32)).toNatClampNeg)]) X hz0 ml_Lw_108 yq_Mod_met (c_Mod_met E.2.1 G (xs (v4 + (1 : Int32)).toNatClampNeg) (xs (v4 + (2 : Int32)).toNatClampNeg) M x60 hx60 _ (Nat.le_refl _)) kd_162 rfl rfl (by omega) rfl (Nat.le_of_ble_eq_true rfl) d_law_742 rfl (fun r9 M9 hq => ?_)
  rw [hq.1, hq.2]
  refine V_pop X d_law_745 rfl rfl ?_
  refine V_goto (pc' := 1581) X d_law_746 (by decide) ?_
  refine V_iinc (n := 4) (v := (v4 + (5 : Int32))) (lv' := [(4, .int (v4 + (5 : Int32))), (0, .ref b), (1, .ref (G.2.2 + 0)), (2, .ref (G.2.2 + 162)), (3, .ref (G.2.2 + 192))]) X d_law_1581 rfl rfl (by decide) rfl rfl ?_
  refine V_goto (pc' := 23) X d_law_1584 (by decide) ?_
  refine V_wid (cs' := (cs.1 + 1, cs.2 + 6)) ⟨Nat.le_succ _, Nat.le_add_right _ _⟩ ?_
  refine V_sub (lv' := [(0, .ref b), (1, .ref (G.2.2 + 0)), (2, .ref (G.2.2 + 162)), (3, .ref (G.2.2 + 192)), (4, .int (v4 + (5 : Int32)))]) [1, 2, 3, 4, 0] rfl ?_
  exact kc ((v4 + (5 : Int32)), x60.2) (Option.some.inj h).symm
def j_law_749_23 (L : Nat) (xs : Nat → Int32) (v4 : Int32) (M : Mem) : Option ((Int32 × Mem) ⊕ ((Mem) ⊕ (Int32 × Mem))) :=
  if inb (v4 + (1 : Int32)) L = true then
  Option.bind (f_Top_ahead (xs (v4 + (1 : Int32)).toNatClampNeg) M) fun x62 =>
  if inb (v4 + (1 : Int32)) L = true then
  Option.bind (f_Mod_ahead (xs (v4 + (1 : Int32)).toNatClampNeg) x62.2) fun x63 =>
  some (.inl ((v4 + (5 : Int32)), x63.2))
  else none
  else none
theorem j_law_749_23_ok {E : Ev} {cs : Nat × Nat} {G : Gw} {d : Nat} {Q : State → Prop} {b L : Nat} {xs : Nat → Int32} (X : Cx E G code "WomenByTheRoofsLaw" 7 d ret) (hz0 : Zc E cs) (hz : Zc E (cs.1 + 1, cs.2 + 6)) (hT : Tw G E.2.2.2.2.1 E.2.2.2.2.1.heap) (hl9 : E.2.1.stackTraces = false) (hX : va_X b L xs E.2.2.2.2.1 E.2.2.2.2.1.heap) (hbl : b < E.2.2.2.2.1.heap.size) (hbA : ¬ G.2.2 ≤ b) (hD : 450 ≤ d)  (v4 : Int32)  (M : Mem)  (o : (Int32 × Mem) ⊕ ((Mem) ⊕ (Int32 × Mem))) (h : j_law_749_23 L xs v4 M = some o) (kc : ∀ s9 : Int32 × Mem, o = .inl s9 → V E (cs.1 + 1, cs.2 + 6) G 7 Q s9.2 23 [(0, .ref b), (1, .ref (G.2.2 + 0)), (2, .ref (G.2.2 + 162)), (3, .ref (G.2.2 + 192)), (4, .int s9.1)] []) (kx0 : ∀ x9 : Mem, o = .inr (Sum.inl x9) → V E (cs.1 + 1, cs.2 + 6) G 7 Q x9 1587 [] []) (kr : ∀ x9 : Int32 × Mem, o = .inr (Sum.inr x9) → False) : V E cs G 7 Q M 749 [(0, .ref b), (1, .ref (G.2.2 + 0)), (2, .ref (G.2.2 + 162)), (3, .ref (G.2.2 + 192)), (4, .int v4)] [] := by
  unfold j_law_749_23 at h
  refine V_aload_n (n := 1) X d_law_749 rfl rfl rfl ?_
  refine V_aload_n (n := 0) X d_law_750 rfl rfl rfl ?_
  refine V_iload (n := 4) X d_law_751 rfl rfl ?_
  refine V_iconst (v := 1) X d_law_753 (by decide) rfl ?_
  refine V_iadd X d_law_754 rfl ?_
  obtain ⟨hb, h⟩ := ifn h
  refine V_sld X hX hbl hbA hb d_law_755 rfl ?_
  obtain ⟨x62, hx62, h⟩ := ob_s h
  refine V_ci (As := [.int (xs (v4 + (1 : Int32)).toNatClampNeg)]) X hz0 ml_Lw_109 yq_Top_ahead (c_Top_ahead E.2.1 G (xs (v4 + (1 : Int32)).toNatClampNeg) M x62 hx62 _ (Nat.le_refl _)) kd_0 rfl rfl (by omega) rfl (Nat.le_of_ble_eq_true rfl) d_law_756 rfl (fun r9 M9 hq => ?_)
  rw [hq.1, hq.2]
  refine V_pop X d_law_759 rfl rfl ?_
  refine V_aload_n (n := 2) X d_law_760 rfl rfl rfl ?_
  refine V_aload_n (n := 0) X d_law_761 rfl rfl rfl ?_
  refine V_iload (n := 4) X d_law_762 rfl rfl ?_
  refine V_iconst (v := 1) X d_law_764 (by decide) rfl ?_
  refine V_iadd X d_law_765 rfl ?_
  obtain ⟨hb, h⟩ := ifn h
  refine V_sld X hX hbl hbA hb d_law_766 rfl ?_
  obtain ⟨x63, hx63, h⟩ := ob_s h
  refine V_ci (As := [.int (xs (v4 + (1 : Int32)).toNatClampNeg)]) X hz0 ml_Lw_112 yq_Mod_ahead (c_Mod_ahead E.2.1 G (xs (v4 + (1 : Int32)).toNatClampNeg) x62.2 x63 hx63 _ (Nat.le_refl _)) kd_162 rfl rfl (by omega) rfl (Nat.le_of_ble_eq_true rfl) d_law_767 rfl (fun r9 M9 hq => ?_)
  rw [hq.1, hq.2]
  refine V_pop X d_law_770 rfl rfl ?_
  refine V_goto (pc' := 1581) X d_law_771 (by decide) ?_
  refine V_iinc (n := 4) (v := (v4 + (5 : Int32))) (lv' := [(4, .int (v4 + (5 : Int32))), (0, .ref b), (1, .ref (G.2.2 + 0)), (2, .ref (G.2.2 + 162)), (3, .ref (G.2.2 + 192))]) X d_law_1581 rfl rfl (by decide) rfl rfl ?_
  refine V_goto (pc' := 23) X d_law_1584 (by decide) ?_
  refine V_wid (cs' := (cs.1 + 1, cs.2 + 6)) ⟨Nat.le_succ _, Nat.le_add_right _ _⟩ ?_
  refine V_sub (lv' := [(0, .ref b), (1, .ref (G.2.2 + 0)), (2, .ref (G.2.2 + 162)), (3, .ref (G.2.2 + 192)), (4, .int (v4 + (5 : Int32)))]) [1, 2, 3, 4, 0] rfl ?_
  exact kc ((v4 + (5 : Int32)), x63.2) (Option.some.inj h).symm
def j_law_774_23 (L : Nat) (xs : Nat → Int32) (v4 : Int32) (M : Mem) : Option ((Int32 × Mem) ⊕ ((Mem) ⊕ (Int32 × Mem))) :=
  if inb (v4 + (1 : Int32)) L = true then
  if inb (v4 + (2 : Int32)) L = true then
  Option.bind (f_Top_meet (xs (v4 + (1 : Int32)).toNatClampNeg) (xs (v4 + (2 : Int32)).toNatClampNeg) M) fun x65 =>
  if inb (v4 + (1 : Int32)) L = true then
  if inb (v4 + (2 : Int32)) L = true then
  Option.bind (f_Mod_meet (xs (v4 + (1 : Int32)).toNatClampNeg) (xs (v4 + (2 : Int32)).toNatClampNeg) x65.2) fun x66 =>
  some (.inl ((v4 + (5 : Int32)), x66.2))
  else none
  else none
  else none
  else none
theorem j_law_774_23_ok {E : Ev} {cs : Nat × Nat} {G : Gw} {d : Nat} {Q : State → Prop} {b L : Nat} {xs : Nat → Int32} (X : Cx E G code "WomenByTheRoofsLaw" 7 d ret) (hz0 : Zc E cs) (hz : Zc E (cs.1 + 1, cs.2 + 6)) (hT : Tw G E.2.2.2.2.1 E.2.2.2.2.1.heap) (hl9 : E.2.1.stackTraces = false) (hX : va_X b L xs E.2.2.2.2.1 E.2.2.2.2.1.heap) (hbl : b < E.2.2.2.2.1.heap.size) (hbA : ¬ G.2.2 ≤ b) (hD : 450 ≤ d)  (v4 : Int32)  (M : Mem)  (o : (Int32 × Mem) ⊕ ((Mem) ⊕ (Int32 × Mem))) (h : j_law_774_23 L xs v4 M = some o) (kc : ∀ s9 : Int32 × Mem, o = .inl s9 → V E (cs.1 + 1, cs.2 + 6) G 7 Q s9.2 23 [(0, .ref b), (1, .ref (G.2.2 + 0)), (2, .ref (G.2.2 + 162)), (3, .ref (G.2.2 + 192)), (4, .int s9.1)] []) (kx0 : ∀ x9 : Mem, o = .inr (Sum.inl x9) → V E (cs.1 + 1, cs.2 + 6) G 7 Q x9 1587 [] []) (kr : ∀ x9 : Int32 × Mem, o = .inr (Sum.inr x9) → False) : V E cs G 7 Q M 774 [(0, .ref b), (1, .ref (G.2.2 + 0)), (2, .ref (G.2.2 + 162)), (3, .ref (G.2.2 + 192)), (4, .int v4)] [] := by
  unfold j_law_774_23 at h
  refine V_aload_n (n := 1) X d_law_774 rfl rfl rfl ?_
  refine V_aload_n (n := 0) X d_law_775 rfl rfl rfl ?_
  refine V_iload (n := 4) X d_law_776 rfl rfl ?_
  refine V_iconst (v := 1) X d_law_778 (by decide) rfl ?_
  refine V_iadd X d_law_779 rfl ?_
  obtain ⟨hb, h⟩ := ifn h
  refine V_sld X hX hbl hbA hb d_law_780 rfl ?_
  refine V_aload_n (n := 0) X d_law_781 rfl rfl rfl ?_
  refine V_iload (n := 4) X d_law_782 rfl rfl ?_
  refine V_iconst (v := 2) X d_law_784 (by decide) rfl ?_
  refine V_iadd X d_law_785 rfl ?_
  obtain ⟨hb, h⟩ := ifn h
  refine V_sld X hX hbl hbA hb d_law_786 rfl ?_
  obtain ⟨x65, hx65, h⟩ := ob_s h
  refine V_ci (As := [.int (xs (v4 + (1 : Int32)).toNatClampNeg), .int (xs (v4 + (2 : Int32)).toNatClampNeg)]) X hz0 ml_Lw_113 yq_Top_meet (c_Top_meet E.2.1 G (xs (v4 + (1 : Int32)).toNatClampNeg) (xs (v4 + (2 : Int32)).toNatClampNeg) M x65 hx65 _ (Nat.le_refl _)) kd_0 rfl rfl (by omega) rfl (Nat.le_of_ble_eq_true rfl) d_law_787 rfl (fun r9 M9 hq => ?_)
  rw [hq.1, hq.2]
  refine V_pop X d_law_790 rfl rfl ?_
  refine V_aload_n (n := 2) X d_law_791 rfl rfl rfl ?_
  refine V_aload_n (n := 0) X d_law_792 rfl rfl rfl ?_
  refine V_iload (n := 4) X d_law_793 rfl rfl ?_
  refine V_iconst (v := 1) X d_law_795 (by decide) rfl ?_
  refine V_iadd X d_law_796 rfl ?_
  obtain ⟨hb, h⟩ := ifn h
  refine V_sld X hX hbl hbA hb d_law_797 rfl ?_
  refine V_aload_n (n := 0) X d_law_798 rfl rfl rfl ?_
  refine V_iload (n := 4) X d_law_799 rfl rfl ?_
  refine V_iconst (v := 2) X d_law_801 (by decide) rfl ?_
  refine V_iadd X d_law_802 rfl ?_
  obtain ⟨hb, h⟩ := ifn h
  refine V_sld X hX hbl hbA hb d_law_803 rfl ?_
  obtain ⟨x66, hx66, h⟩ := ob_s h
  refine V_ci (As := [.int (xs (v4 + (1 : Int32)).toNatClampNeg), .int (xs (v4 + (2 : Int32)).toNatClampNeg)]) X hz0 ml_Lw_116 yq_Mod_meet (c_Mod_meet E.2.1 G (xs (v4 + (1 : Int32)).toNatClampNeg) (xs (v4 + (2 : Int32)).toNatClampNeg) x65.2 x66 hx66 _ (Nat.le_refl _)) kd_162 rfl rfl (by omega) rfl (Nat.le_of_ble_eq_true rfl) d_law_804 rfl (fun r9 M9 hq => ?_)
  rw [hq.1, hq.2]
  refine V_pop X d_law_807 rfl rfl ?_
  refine V_goto (pc' := 1581) X d_law_808 (by decide) ?_
  refine V_iinc (n := 4) (v := (v4 + (5 : Int32))) (lv' := [(4, .int (v4 + (5 : Int32))), (0, .ref b), (1, .ref (G.2.2 + 0)), (2, .ref (G.2.2 + 162)), (3, .ref (G.2.2 + 192))]) X d_law_1581 rfl rfl (by decide) rfl rfl ?_
  refine V_goto (pc' := 23) X d_law_1584 (by decide) ?_
  refine V_wid (cs' := (cs.1 + 1, cs.2 + 6)) ⟨Nat.le_succ _, Nat.le_add_right _ _⟩ ?_
  refine V_sub (lv' := [(0, .ref b), (1, .ref (G.2.2 + 0)), (2, .ref (G.2.2 + 162)), (3, .ref (G.2.2 + 192)), (4, .int (v4 + (5 : Int32)))]) [1, 2, 3, 4, 0] rfl ?_
  exact kc ((v4 + (5 : Int32)), x66.2) (Option.some.inj h).symm
def j_law_811_23 (L : Nat) (xs : Nat → Int32) (v4 : Int32) (M : Mem) : Option ((Int32 × Mem) ⊕ ((Mem) ⊕ (Int32 × Mem))) :=
  Option.bind (f_Top_known M) fun x68 =>
  Option.bind (f_Mod_known x68.2) fun x69 =>
  some (.inl ((v4 + (5 : Int32)), x69.2))
theorem j_law_811_23_ok {E : Ev} {cs : Nat × Nat} {G : Gw} {d : Nat} {Q : State → Prop} {b L : Nat} {xs : Nat → Int32} (X : Cx E G code "WomenByTheRoofsLaw" 7 d ret) (hz0 : Zc E cs) (hz : Zc E (cs.1 + 1, cs.2 + 6)) (hT : Tw G E.2.2.2.2.1 E.2.2.2.2.1.heap) (hl9 : E.2.1.stackTraces = false) (hX : va_X b L xs E.2.2.2.2.1 E.2.2.2.2.1.heap) (hbl : b < E.2.2.2.2.1.heap.size) (hbA : ¬ G.2.2 ≤ b) (hD : 450 ≤ d)  (v4 : Int32)  (M : Mem)  (o : (Int32 × Mem) ⊕ ((Mem) ⊕ (Int32 × Mem))) (h : j_law_811_23 L xs v4 M = some o) (kc : ∀ s9 : Int32 × Mem, o = .inl s9 → V E (cs.1 + 1, cs.2 + 6) G 7 Q s9.2 23 [(0, .ref b), (1, .ref (G.2.2 + 0)), (2, .ref (G.2.2 + 162)), (3, .ref (G.2.2 + 192)), (4, .int s9.1)] []) (kx0 : ∀ x9 : Mem, o = .inr (Sum.inl x9) → V E (cs.1 + 1, cs.2 + 6) G 7 Q x9 1587 [] []) (kr : ∀ x9 : Int32 × Mem, o = .inr (Sum.inr x9) → False) : V E cs G 7 Q M 811 [(0, .ref b), (1, .ref (G.2.2 + 0)), (2, .ref (G.2.2 + 162)), (3, .ref (G.2.2 + 192)), (4, .int v4)] [] := by
  unfold j_law_811_23 at h
  refine V_aload_n (n := 1) X d_law_811 rfl rfl rfl ?_
  obtain ⟨x68, hx68, h⟩ := ob_s h
  refine V_ci (As := []) X hz0 ml_Lw_117 yq_Top_known (c_Top_known E.2.1 G  M x68 hx68 _ (Nat.le_refl _)) kd_0 rfl rfl (by omega) rfl (Nat.le_of_ble_eq_true rfl) d_law_812 rfl (fun r9 M9 hq => ?_)
  rw [hq.1, hq.2]
  refine V_pop X d_law_815 rfl rfl ?_
  refine V_aload_n (n := 2) X d_law_816 rfl rfl rfl ?_
  obtain ⟨x69, hx69, h⟩ := ob_s h
  refine V_ci (As := []) X hz0 ml_Lw_120 yq_Mod_known (c_Mod_known E.2.1 G  x68.2 x69 hx69 _ (Nat.le_refl _)) kd_162 rfl rfl (by omega) rfl (Nat.le_of_ble_eq_true rfl) d_law_817 rfl (fun r9 M9 hq => ?_)
  rw [hq.1, hq.2]
  refine V_pop X d_law_820 rfl rfl ?_
  refine V_goto (pc' := 1581) X d_law_821 (by decide) ?_
  refine V_iinc (n := 4) (v := (v4 + (5 : Int32))) (lv' := [(4, .int (v4 + (5 : Int32))), (0, .ref b), (1, .ref (G.2.2 + 0)), (2, .ref (G.2.2 + 162)), (3, .ref (G.2.2 + 192))]) X d_law_1581 rfl rfl (by decide) rfl rfl ?_
  refine V_goto (pc' := 23) X d_law_1584 (by decide) ?_
  refine V_wid (cs' := (cs.1 + 1, cs.2 + 6)) ⟨Nat.le_succ _, Nat.le_add_right _ _⟩ ?_
  refine V_sub (lv' := [(0, .ref b), (1, .ref (G.2.2 + 0)), (2, .ref (G.2.2 + 162)), (3, .ref (G.2.2 + 192)), (4, .int (v4 + (5 : Int32)))]) [1, 2, 3, 4, 0] rfl ?_
  exact kc ((v4 + (5 : Int32)), x69.2) (Option.some.inj h).symm
def j_law_824_23 (L : Nat) (xs : Nat → Int32) (v4 : Int32) (M : Mem) : Option ((Int32 × Mem) ⊕ ((Mem) ⊕ (Int32 × Mem))) :=
  if inb (v4 + (1 : Int32)) L = true then
  Option.bind (f_Top_gossip (xs (v4 + (1 : Int32)).toNatClampNeg) M) fun x71 =>
  if inb (v4 + (1 : Int32)) L = true then
  Option.bind (f_Mod_gossip (xs (v4 + (1 : Int32)).toNatClampNeg) x71.2) fun x72 =>
  some (.inl ((v4 + (5 : Int32)), x72.2))
  else none
  else none
theorem j_law_824_23_ok {E : Ev} {cs : Nat × Nat} {G : Gw} {d : Nat} {Q : State → Prop} {b L : Nat} {xs : Nat → Int32} (X : Cx E G code "WomenByTheRoofsLaw" 7 d ret) (hz0 : Zc E cs) (hz : Zc E (cs.1 + 1, cs.2 + 6)) (hT : Tw G E.2.2.2.2.1 E.2.2.2.2.1.heap) (hl9 : E.2.1.stackTraces = false) (hX : va_X b L xs E.2.2.2.2.1 E.2.2.2.2.1.heap) (hbl : b < E.2.2.2.2.1.heap.size) (hbA : ¬ G.2.2 ≤ b) (hD : 450 ≤ d)  (v4 : Int32)  (M : Mem)  (o : (Int32 × Mem) ⊕ ((Mem) ⊕ (Int32 × Mem))) (h : j_law_824_23 L xs v4 M = some o) (kc : ∀ s9 : Int32 × Mem, o = .inl s9 → V E (cs.1 + 1, cs.2 + 6) G 7 Q s9.2 23 [(0, .ref b), (1, .ref (G.2.2 + 0)), (2, .ref (G.2.2 + 162)), (3, .ref (G.2.2 + 192)), (4, .int s9.1)] []) (kx0 : ∀ x9 : Mem, o = .inr (Sum.inl x9) → V E (cs.1 + 1, cs.2 + 6) G 7 Q x9 1587 [] []) (kr : ∀ x9 : Int32 × Mem, o = .inr (Sum.inr x9) → False) : V E cs G 7 Q M 824 [(0, .ref b), (1, .ref (G.2.2 + 0)), (2, .ref (G.2.2 + 162)), (3, .ref (G.2.2 + 192)), (4, .int v4)] [] := by
  unfold j_law_824_23 at h
  refine V_aload_n (n := 1) X d_law_824 rfl rfl rfl ?_
  refine V_aload_n (n := 0) X d_law_825 rfl rfl rfl ?_
  refine V_iload (n := 4) X d_law_826 rfl rfl ?_
  refine V_iconst (v := 1) X d_law_828 (by decide) rfl ?_
  refine V_iadd X d_law_829 rfl ?_
  obtain ⟨hb, h⟩ := ifn h
  refine V_sld X hX hbl hbA hb d_law_830 rfl ?_
  obtain ⟨x71, hx71, h⟩ := ob_s h
  refine V_ci (As := [.int (xs (v4 + (1 : Int32)).toNatClampNeg)]) X hz0 ml_Lw_121 yq_Top_gossip (c_Top_gossip E.2.1 G (xs (v4 + (1 : Int32)).toNatClampNeg) M x71 hx71 _ (Nat.le_refl _)) kd_0 rfl rfl (by omega) rfl (Nat.le_of_ble_eq_true rfl) d_law_831 rfl (fun r9 M9 hq => ?_)
  rw [hq.1, hq.2]
  refine V_pop X d_law_834 rfl rfl ?_
  refine V_aload_n (n := 2) X d_law_835 rfl rfl rfl ?_
  refine V_aload_n (n := 0) X d_law_836 rfl rfl rfl ?_
  refine V_iload (n := 4) X d_law_837 rfl rfl ?_
  refine V_iconst (v := 1) X d_law_839 (by decide) rfl ?_
  refine V_iadd X d_law_840 rfl ?_
  obtain ⟨hb, h⟩ := ifn h
  refine V_sld X hX hbl hbA hb d_law_841 rfl ?_
  obtain ⟨x72, hx72, h⟩ := ob_s h
  refine V_ci (As := [.int (xs (v4 + (1 : Int32)).toNatClampNeg)]) X hz0 ml_Lw_124 yq_Mod_gossip (c_Mod_gossip E.2.1 G (xs (v4 + (1 : Int32)).toNatClampNeg) x71.2 x72 hx72 _ (Nat.le_refl _)) kd_162 rfl rfl (by omega) rfl (Nat.le_of_ble_eq_true rfl) d_law_842 rfl (fun r9 M9 hq => ?_)
  rw [hq.1, hq.2]
  refine V_pop X d_law_845 rfl rfl ?_
  refine V_goto (pc' := 1581) X d_law_846 (by decide) ?_
  refine V_iinc (n := 4) (v := (v4 + (5 : Int32))) (lv' := [(4, .int (v4 + (5 : Int32))), (0, .ref b), (1, .ref (G.2.2 + 0)), (2, .ref (G.2.2 + 162)), (3, .ref (G.2.2 + 192))]) X d_law_1581 rfl rfl (by decide) rfl rfl ?_
  refine V_goto (pc' := 23) X d_law_1584 (by decide) ?_
  refine V_wid (cs' := (cs.1 + 1, cs.2 + 6)) ⟨Nat.le_succ _, Nat.le_add_right _ _⟩ ?_
  refine V_sub (lv' := [(0, .ref b), (1, .ref (G.2.2 + 0)), (2, .ref (G.2.2 + 162)), (3, .ref (G.2.2 + 192)), (4, .int (v4 + (5 : Int32)))]) [1, 2, 3, 4, 0] rfl ?_
  exact kc ((v4 + (5 : Int32)), x72.2) (Option.some.inj h).symm
def j_law_849_23 (L : Nat) (xs : Nat → Int32) (v4 : Int32) (M : Mem) : Option ((Int32 × Mem) ⊕ ((Mem) ⊕ (Int32 × Mem))) :=
  if inb (v4 + (1 : Int32)) L = true then
  Option.bind (f_Top_pieces (xs (v4 + (1 : Int32)).toNatClampNeg) M) fun x74 =>
  if inb (v4 + (1 : Int32)) L = true then
  Option.bind (f_Mod_pieces (xs (v4 + (1 : Int32)).toNatClampNeg) x74.2) fun x75 =>
  some (.inl ((v4 + (5 : Int32)), x75.2))
  else none
  else none
theorem j_law_849_23_ok {E : Ev} {cs : Nat × Nat} {G : Gw} {d : Nat} {Q : State → Prop} {b L : Nat} {xs : Nat → Int32} (X : Cx E G code "WomenByTheRoofsLaw" 7 d ret) (hz0 : Zc E cs) (hz : Zc E (cs.1 + 1, cs.2 + 6)) (hT : Tw G E.2.2.2.2.1 E.2.2.2.2.1.heap) (hl9 : E.2.1.stackTraces = false) (hX : va_X b L xs E.2.2.2.2.1 E.2.2.2.2.1.heap) (hbl : b < E.2.2.2.2.1.heap.size) (hbA : ¬ G.2.2 ≤ b) (hD : 450 ≤ d)  (v4 : Int32)  (M : Mem)  (o : (Int32 × Mem) ⊕ ((Mem) ⊕ (Int32 × Mem))) (h : j_law_849_23 L xs v4 M = some o) (kc : ∀ s9 : Int32 × Mem, o = .inl s9 → V E (cs.1 + 1, cs.2 + 6) G 7 Q s9.2 23 [(0, .ref b), (1, .ref (G.2.2 + 0)), (2, .ref (G.2.2 + 162)), (3, .ref (G.2.2 + 192)), (4, .int s9.1)] []) (kx0 : ∀ x9 : Mem, o = .inr (Sum.inl x9) → V E (cs.1 + 1, cs.2 + 6) G 7 Q x9 1587 [] []) (kr : ∀ x9 : Int32 × Mem, o = .inr (Sum.inr x9) → False) : V E cs G 7 Q M 849 [(0, .ref b), (1, .ref (G.2.2 + 0)), (2, .ref (G.2.2 + 162)), (3, .ref (G.2.2 + 192)), (4, .int v4)] [] := by
  unfold j_law_849_23 at h
  refine V_aload_n (n := 1) X d_law_849 rfl rfl rfl ?_
  refine V_aload_n (n := 0) X d_law_850 rfl rfl rfl ?_
  refine V_iload (n := 4) X d_law_851 rfl rfl ?_
  refine V_iconst (v := 1) X d_law_853 (by decide) rfl ?_
  refine V_iadd X d_law_854 rfl ?_
  obtain ⟨hb, h⟩ := ifn h
  refine V_sld X hX hbl hbA hb d_law_855 rfl ?_
  obtain ⟨x74, hx74, h⟩ := ob_s h
  refine V_ci (As := [.int (xs (v4 + (1 : Int32)).toNatClampNeg)]) X hz0 ml_Lw_125 yq_Top_pieces (c_Top_pieces E.2.1 G (xs (v4 + (1 : Int32)).toNatClampNeg) M x74 hx74 _ (Nat.le_refl _)) kd_0 rfl rfl (by omega) rfl (Nat.le_of_ble_eq_true rfl) d_law_856 rfl (fun r9 M9 hq => ?_)
  rw [hq.1, hq.2]
  refine V_pop X d_law_859 rfl rfl ?_
  refine V_aload_n (n := 2) X d_law_860 rfl rfl rfl ?_
  refine V_aload_n (n := 0) X d_law_861 rfl rfl rfl ?_
  refine V_iload (n := 4) X d_law_862 rfl rfl ?_
  refine V_iconst (v := 1) X d_law_864 (by decide) rfl ?_
  refine V_iadd X d_law_865 rfl ?_
  obtain ⟨hb, h⟩ := ifn h
  refine V_sld X hX hbl hbA hb d_law_866 rfl ?_
  obtain ⟨x75, hx75, h⟩ := ob_s h
  refine V_ci (As := [.int (xs (v4 + (1 : Int32)).toNatClampNeg)]) X hz0 ml_Lw_128 yq_Mod_pieces (c_Mod_pieces E.2.1 G (xs (v4 + (1 : Int32)).toNatClampNeg) x74.2 x75 hx75 _ (Nat.le_refl _)) kd_162 rfl rfl (by omega) rfl (Nat.le_of_ble_eq_true rfl) d_law_867 rfl (fun r9 M9 hq => ?_)
  rw [hq.1, hq.2]
  refine V_pop X d_law_870 rfl rfl ?_
  refine V_goto (pc' := 1581) X d_law_871 (by decide) ?_
  refine V_iinc (n := 4) (v := (v4 + (5 : Int32))) (lv' := [(4, .int (v4 + (5 : Int32))), (0, .ref b), (1, .ref (G.2.2 + 0)), (2, .ref (G.2.2 + 162)), (3, .ref (G.2.2 + 192))]) X d_law_1581 rfl rfl (by decide) rfl rfl ?_
  refine V_goto (pc' := 23) X d_law_1584 (by decide) ?_
  refine V_wid (cs' := (cs.1 + 1, cs.2 + 6)) ⟨Nat.le_succ _, Nat.le_add_right _ _⟩ ?_
  refine V_sub (lv' := [(0, .ref b), (1, .ref (G.2.2 + 0)), (2, .ref (G.2.2 + 162)), (3, .ref (G.2.2 + 192)), (4, .int (v4 + (5 : Int32)))]) [1, 2, 3, 4, 0] rfl ?_
  exact kc ((v4 + (5 : Int32)), x75.2) (Option.some.inj h).symm
def j_law_874_23 (L : Nat) (xs : Nat → Int32) (v4 : Int32) (M : Mem) : Option ((Int32 × Mem) ⊕ ((Mem) ⊕ (Int32 × Mem))) :=
  if inb (v4 + (1 : Int32)) L = true then
  if inb (v4 + (2 : Int32)) L = true then
  Option.bind (f_Top_reach (xs (v4 + (1 : Int32)).toNatClampNeg) (xs (v4 + (2 : Int32)).toNatClampNeg) M) fun x77 =>
  if inb (v4 + (1 : Int32)) L = true then
  if inb (v4 + (2 : Int32)) L = true then
  Option.bind (f_Mod_reach (xs (v4 + (1 : Int32)).toNatClampNeg) (xs (v4 + (2 : Int32)).toNatClampNeg) x77.2) fun x78 =>
  some (.inl ((v4 + (5 : Int32)), x78.2))
  else none
  else none
  else none
  else none
theorem j_law_874_23_ok {E : Ev} {cs : Nat × Nat} {G : Gw} {d : Nat} {Q : State → Prop} {b L : Nat} {xs : Nat → Int32} (X : Cx E G code "WomenByTheRoofsLaw" 7 d ret) (hz0 : Zc E cs) (hz : Zc E (cs.1 + 1, cs.2 + 6)) (hT : Tw G E.2.2.2.2.1 E.2.2.2.2.1.heap) (hl9 : E.2.1.stackTraces = false) (hX : va_X b L xs E.2.2.2.2.1 E.2.2.2.2.1.heap) (hbl : b < E.2.2.2.2.1.heap.size) (hbA : ¬ G.2.2 ≤ b) (hD : 450 ≤ d)  (v4 : Int32)  (M : Mem)  (o : (Int32 × Mem) ⊕ ((Mem) ⊕ (Int32 × Mem))) (h : j_law_874_23 L xs v4 M = some o) (kc : ∀ s9 : Int32 × Mem, o = .inl s9 → V E (cs.1 + 1, cs.2 + 6) G 7 Q s9.2 23 [(0, .ref b), (1, .ref (G.2.2 + 0)), (2, .ref (G.2.2 + 162)), (3, .ref (G.2.2 + 192)), (4, .int s9.1)] []) (kx0 : ∀ x9 : Mem, o = .inr (Sum.inl x9) → V E (cs.1 + 1, cs.2 + 6) G 7 Q x9 1587 [] []) (kr : ∀ x9 : Int32 × Mem, o = .inr (Sum.inr x9) → False) : V E cs G 7 Q M 874 [(0, .ref b), (1, .ref (G.2.2 + 0)), (2, .ref (G.2.2 + 162)), (3, .ref (G.2.2 + 192)), (4, .int v4)] [] := by
  unfold j_law_874_23 at h
  refine V_aload_n (n := 1) X d_law_874 rfl rfl rfl ?_
  refine V_aload_n (n := 0) X d_law_875 rfl rfl rfl ?_
  refine V_iload (n := 4) X d_law_876 rfl rfl ?_
  refine V_iconst (v := 1) X d_law_878 (by decide) rfl ?_
  refine V_iadd X d_law_879 rfl ?_
  obtain ⟨hb, h⟩ := ifn h
  refine V_sld X hX hbl hbA hb d_law_880 rfl ?_
  refine V_aload_n (n := 0) X d_law_881 rfl rfl rfl ?_
  refine V_iload (n := 4) X d_law_882 rfl rfl ?_
  refine V_iconst (v := 2) X d_law_884 (by decide) rfl ?_
  refine V_iadd X d_law_885 rfl ?_
  obtain ⟨hb, h⟩ := ifn h
  refine V_sld X hX hbl hbA hb d_law_886 rfl ?_
  obtain ⟨x77, hx77, h⟩ := ob_s h
  refine V_ci (As := [.int (xs (v4 + (1 : Int32)).toNatClampNeg), .int (xs (v4 + (2 : Int32)).toNatClampNeg)]) X hz0 ml_Lw_129 yq_Top_reach (c_Top_reach E.2.1 G (xs (v4 + (1 : Int32)).toNatClampNeg) (xs (v4 + (2 : Int32)).toNatClampNeg) M x77 hx77 _ (Nat.le_refl _)) kd_0 rfl rfl (by omega) rfl (Nat.le_of_ble_eq_true rfl) d_law_887 rfl (fun r9 M9 hq => ?_)
  rw [hq.1, hq.2]
  refine V_pop X d_law_890 rfl rfl ?_
  refine V_aload_n (n := 2) X d_law_891 rfl rfl rfl ?_
  refine V_aload_n (n := 0) X d_law_892 rfl rfl rfl ?_
  refine V_iload (n := 4) X d_law_893 rfl rfl ?_
  refine V_iconst (v := 1) X d_law_895 (by decide) rfl ?_
  refine V_iadd X d_law_896 rfl ?_
  obtain ⟨hb, h⟩ := ifn h
  refine V_sld X hX hbl hbA hb d_law_897 rfl ?_
  refine V_aload_n (n := 0) X d_law_898 rfl rfl rfl ?_
  refine V_iload (n := 4) X d_law_899 rfl rfl ?_
  refine V_iconst (v := 2) X d_law_901 (by decide) rfl ?_
  refine V_iadd X d_law_902 rfl ?_
  obtain ⟨hb, h⟩ := ifn h
  refine V_sld X hX hbl hbA hb d_law_903 rfl ?_
  obtain ⟨x78, hx78, h⟩ := ob_s h
  refine V_ci (As := [.int (xs (v4 + (1 : Int32)).toNatClampNeg), .int (xs (v4 + (2 : Int32)).toNatClampNeg)]) X hz0 ml_Lw_132 yq_Mod_reach (c_Mod_reach E.2.1 G (xs (v4 + (1 : Int32)).toNatClampNeg) (xs (v4 + (2 : Int32)).toNatClampNeg) x77.2 x78 hx78 _ (Nat.le_refl _)) kd_162 rfl rfl (by omega) rfl (Nat.le_of_ble_eq_true rfl) d_law_904 rfl (fun r9 M9 hq => ?_)
  rw [hq.1, hq.2]
  refine V_pop X d_law_907 rfl rfl ?_
  refine V_goto (pc' := 1581) X d_law_908 (by decide) ?_
  refine V_iinc (n := 4) (v := (v4 + (5 : Int32))) (lv' := [(4, .int (v4 + (5 : Int32))), (0, .ref b), (1, .ref (G.2.2 + 0)), (2, .ref (G.2.2 + 162)), (3, .ref (G.2.2 + 192))]) X d_law_1581 rfl rfl (by decide) rfl rfl ?_
  refine V_goto (pc' := 23) X d_law_1584 (by decide) ?_
  refine V_wid (cs' := (cs.1 + 1, cs.2 + 6)) ⟨Nat.le_succ _, Nat.le_add_right _ _⟩ ?_
  refine V_sub (lv' := [(0, .ref b), (1, .ref (G.2.2 + 0)), (2, .ref (G.2.2 + 162)), (3, .ref (G.2.2 + 192)), (4, .int (v4 + (5 : Int32)))]) [1, 2, 3, 4, 0] rfl ?_
  exact kc ((v4 + (5 : Int32)), x78.2) (Option.some.inj h).symm
def j_law_911_23 (L : Nat) (xs : Nat → Int32) (v4 : Int32) (M : Mem) : Option ((Int32 × Mem) ⊕ ((Mem) ⊕ (Int32 × Mem))) :=
  if inb (v4 + (1 : Int32)) L = true then
  if inb (v4 + (2 : Int32)) L = true then
  if inb (v4 + (3 : Int32)) L = true then
  Option.bind (f_Top_path (xs (v4 + (1 : Int32)).toNatClampNeg) (xs (v4 + (2 : Int32)).toNatClampNeg) (xs (v4 + (3 : Int32)).toNatClampNeg) M) fun x80 =>
  if inb (v4 + (1 : Int32)) L = true then
  if inb (v4 + (2 : Int32)) L = true then
  if inb (v4 + (3 : Int32)) L = true then
  Option.bind (f_Mod_path (xs (v4 + (1 : Int32)).toNatClampNeg) (xs (v4 + (2 : Int32)).toNatClampNeg) (xs (v4 + (3 : Int32)).toNatClampNeg) x80.2) fun x81 =>
  some (.inl ((v4 + (5 : Int32)), x81.2))
  else none
  else none
  else none
  else none
  else none
  else none
theorem j_law_911_23_ok {E : Ev} {cs : Nat × Nat} {G : Gw} {d : Nat} {Q : State → Prop} {b L : Nat} {xs : Nat → Int32} (X : Cx E G code "WomenByTheRoofsLaw" 7 d ret) (hz0 : Zc E cs) (hz : Zc E (cs.1 + 1, cs.2 + 6)) (hT : Tw G E.2.2.2.2.1 E.2.2.2.2.1.heap) (hl9 : E.2.1.stackTraces = false) (hX : va_X b L xs E.2.2.2.2.1 E.2.2.2.2.1.heap) (hbl : b < E.2.2.2.2.1.heap.size) (hbA : ¬ G.2.2 ≤ b) (hD : 450 ≤ d)  (v4 : Int32)  (M : Mem)  (o : (Int32 × Mem) ⊕ ((Mem) ⊕ (Int32 × Mem))) (h : j_law_911_23 L xs v4 M = some o) (kc : ∀ s9 : Int32 × Mem, o = .inl s9 → V E (cs.1 + 1, cs.2 + 6) G 7 Q s9.2 23 [(0, .ref b), (1, .ref (G.2.2 + 0)), (2, .ref (G.2.2 + 162)), (3, .ref (G.2.2 + 192)), (4, .int s9.1)] []) (kx0 : ∀ x9 : Mem, o = .inr (Sum.inl x9) → V E (cs.1 + 1, cs.2 + 6) G 7 Q x9 1587 [] []) (kr : ∀ x9 : Int32 × Mem, o = .inr (Sum.inr x9) → False) : V E cs G 7 Q M 911 [(0, .ref b), (1, .ref (G.2.2 + 0)), (2, .ref (G.2.2 + 162)), (3, .ref (G.2.2 + 192)), (4, .int v4)] [] := by
  unfold j_law_911_23 at h
  refine V_aload_n (n := 1) X d_law_911 rfl rfl rfl ?_
  refine V_aload_n (n := 0) X d_law_912 rfl rfl rfl ?_
  refine V_iload (n := 4) X d_law_913 rfl rfl ?_
  refine V_iconst (v := 1) X d_law_915 (by decide) rfl ?_
  refine V_iadd X d_law_916 rfl ?_
  obtain ⟨hb, h⟩ := ifn h
  refine V_sld X hX hbl hbA hb d_law_917 rfl ?_
  refine V_aload_n (n := 0) X d_law_918 rfl rfl rfl ?_
  refine V_iload (n := 4) X d_law_919 rfl rfl ?_
  refine V_iconst (v := 2) X d_law_921 (by decide) rfl ?_
  refine V_iadd X d_law_922 rfl ?_
  obtain ⟨hb, h⟩ := ifn h
  refine V_sld X hX hbl hbA hb d_law_923 rfl ?_
  refine V_aload_n (n := 0) X d_law_924 rfl rfl rfl ?_
  refine V_iload (n := 4) X d_law_925 rfl rfl ?_
  refine V_iconst (v := 3) X d_law_927 (by decide) rfl ?_
  refine V_iadd X d_law_928 rfl ?_
  obtain ⟨hb, h⟩ := ifn h
  refine V_sld X hX hbl hbA hb d_law_929 rfl ?_
  obtain ⟨x80, hx80, h⟩ := ob_s h
  refine V_ci (As := [.int (xs (v4 + (1 : Int32)).toNatClampNeg), .int (xs (v4 + (2 : Int32)).toNatClampNeg), .int (xs (v4 + (3 : Int32)).toNatClampNeg)]) X hz0 ml_Lw_133 yq_Top_path (c_Top_path E.2.1 G (xs (v4 + (1 : Int32)).toNatClampNeg) (xs (v4 + (2 : Int32)).toNatClampNeg) (xs (v4 + (3 : Int32)).toNatClampNeg) M x80 hx80 _ (Nat.le_refl _)) kd_0 rfl rfl (by omega) rfl (Nat.le_of_ble_eq_true rfl) d_law_930 rfl (fun r9 M9 hq => ?_)
  rw [hq.1, hq.2]
  refine V_pop X d_law_933 rfl rfl ?_
  refine V_aload_n (n := 2) X d_law_934 rfl rfl rfl ?_
  refine V_aload_n (n := 0) X d_law_935 rfl rfl rfl ?_
  refine V_iload (n := 4) X d_law_936 rfl rfl ?_
  refine V_iconst (v := 1) X d_law_938 (by decide) rfl ?_
  refine V_iadd X d_law_939 rfl ?_
  obtain ⟨hb, h⟩ := ifn h
  refine V_sld X hX hbl hbA hb d_law_940 rfl ?_
  refine V_aload_n (n := 0) X d_law_941 rfl rfl rfl ?_
  refine V_iload (n := 4) X d_law_942 rfl rfl ?_
  refine V_iconst (v := 2) X d_law_944 (by decide) rfl ?_
  refine V_iadd X d_law_945 rfl ?_
  obtain ⟨hb, h⟩ := ifn h
  refine V_sld X hX hbl hbA hb d_law_946 rfl ?_
  refine V_aload_n (n := 0) X d_law_947 rfl rfl rfl ?_
  refine V_iload (n := 4) X d_law_948 rfl rfl ?_
  refine V_iconst (v := 3) X d_law_950 (by decide) rfl ?_
  refine V_iadd X d_law_951 rfl ?_
  obtain ⟨hb, h⟩ := ifn h
  refine V_sld X hX hbl hbA hb d_law_952 rfl ?_
  obtain ⟨x81, hx81, h⟩ := ob_s h
  refine V_ci (As := [.int (xs (v4 + (1 : Int32)).toNatClampNeg), .int (xs (v4 + (2 : Int32)).toNatClampNeg), .int (xs (v4 + (3 : Int32)).toNatClampNeg)]) X hz0 ml_Lw_137 yq_Mod_path (c_Mod_path E.2.1 G (xs (v4 + (1 : Int32)).toNatClampNeg) (xs (v4 + (2 : Int32)).toNatClampNeg) (xs (v4 + (3 : Int32)).toNatClampNeg) x80.2 x81 hx81 _ (Nat.le_refl _)) kd_162 rfl rfl (by omega) rfl (Nat.le_of_ble_eq_true rfl) d_law_953 rfl (fun r9 M9 hq => ?_)
  rw [hq.1, hq.2]
  refine V_pop X d_law_956 rfl rfl ?_
  refine V_goto (pc' := 1581) X d_law_957 (by decide) ?_
  refine V_iinc (n := 4) (v := (v4 + (5 : Int32))) (lv' := [(4, .int (v4 + (5 : Int32))), (0, .ref b), (1, .ref (G.2.2 + 0)), (2, .ref (G.2.2 + 162)), (3, .ref (G.2.2 + 192))]) X d_law_1581 rfl rfl (by decide) rfl rfl ?_
  refine V_goto (pc' := 23) X d_law_1584 (by decide) ?_
  refine V_wid (cs' := (cs.1 + 1, cs.2 + 6)) ⟨Nat.le_succ _, Nat.le_add_right _ _⟩ ?_
  refine V_sub (lv' := [(0, .ref b), (1, .ref (G.2.2 + 0)), (2, .ref (G.2.2 + 162)), (3, .ref (G.2.2 + 192)), (4, .int (v4 + (5 : Int32)))]) [1, 2, 3, 4, 0] rfl ?_
  exact kc ((v4 + (5 : Int32)), x81.2) (Option.some.inj h).symm
def j_law_960_23 (L : Nat) (xs : Nat → Int32) (v4 : Int32) (M : Mem) : Option ((Int32 × Mem) ⊕ ((Mem) ⊕ (Int32 × Mem))) :=
  if inb (v4 + (1 : Int32)) L = true then
  if inb (v4 + (2 : Int32)) L = true then
  if inb (v4 + (3 : Int32)) L = true then
  if inb (v4 + (4 : Int32)) L = true then
  Option.bind (f_Top_both (xs (v4 + (1 : Int32)).toNatClampNeg) (xs (v4 + (2 : Int32)).toNatClampNeg) (xs (v4 + (3 : Int32)).toNatClampNeg) (xs (v4 + (4 : Int32)).toNatClampNeg) M) fun x83 =>
  if inb (v4 + (1 : Int32)) L = true then
  if inb (v4 + (2 : Int32)) L = true then
  if inb (v4 + (3 : Int32)) L = true then
  if inb (v4 + (4 : Int32)) L = true then
  Option.bind (f_Mod_both (xs (v4 + (1 : Int32)).toNatClampNeg) (xs (v4 + (2 : Int32)).toNatClampNeg) (xs (v4 + (3 : Int32)).toNatClampNeg) (xs (v4 + (4 : Int32)).toNatClampNeg) x83.2) fun x84 =>
  some (.inl ((v4 + (5 : Int32)), x84.2))
  else none
  else none
  else none
  else none
  else none
  else none
  else none
  else none
theorem j_law_960_23_ok {E : Ev} {cs : Nat × Nat} {G : Gw} {d : Nat} {Q : State → Prop} {b L : Nat} {xs : Nat → Int32} (X : Cx E G code "WomenByTheRoofsLaw" 7 d ret) (hz0 : Zc E cs) (hz : Zc E (cs.1 + 1, cs.2 + 6)) (hT : Tw G E.2.2.2.2.1 E.2.2.2.2.1.heap) (hl9 : E.2.1.stackTraces = false) (hX : va_X b L xs E.2.2.2.2.1 E.2.2.2.2.1.heap) (hbl : b < E.2.2.2.2.1.heap.size) (hbA : ¬ G.2.2 ≤ b) (hD : 450 ≤ d)  (v4 : Int32)  (M : Mem)  (o : (Int32 × Mem) ⊕ ((Mem) ⊕ (Int32 × Mem))) (h : j_law_960_23 L xs v4 M = some o) (kc : ∀ s9 : Int32 × Mem, o = .inl s9 → V E (cs.1 + 1, cs.2 + 6) G 7 Q s9.2 23 [(0, .ref b), (1, .ref (G.2.2 + 0)), (2, .ref (G.2.2 + 162)), (3, .ref (G.2.2 + 192)), (4, .int s9.1)] []) (kx0 : ∀ x9 : Mem, o = .inr (Sum.inl x9) → V E (cs.1 + 1, cs.2 + 6) G 7 Q x9 1587 [] []) (kr : ∀ x9 : Int32 × Mem, o = .inr (Sum.inr x9) → False) : V E cs G 7 Q M 960 [(0, .ref b), (1, .ref (G.2.2 + 0)), (2, .ref (G.2.2 + 162)), (3, .ref (G.2.2 + 192)), (4, .int v4)] [] := by
  unfold j_law_960_23 at h
  refine V_aload_n (n := 1) X d_law_960 rfl rfl rfl ?_
  refine V_aload_n (n := 0) X d_law_961 rfl rfl rfl ?_
  refine V_iload (n := 4) X d_law_962 rfl rfl ?_
  refine V_iconst (v := 1) X d_law_964 (by decide) rfl ?_
  refine V_iadd X d_law_965 rfl ?_
  obtain ⟨hb, h⟩ := ifn h
  refine V_sld X hX hbl hbA hb d_law_966 rfl ?_
  refine V_aload_n (n := 0) X d_law_967 rfl rfl rfl ?_
  refine V_iload (n := 4) X d_law_968 rfl rfl ?_
  refine V_iconst (v := 2) X d_law_970 (by decide) rfl ?_
  refine V_iadd X d_law_971 rfl ?_
  obtain ⟨hb, h⟩ := ifn h
  refine V_sld X hX hbl hbA hb d_law_972 rfl ?_
  refine V_aload_n (n := 0) X d_law_973 rfl rfl rfl ?_
  refine V_iload (n := 4) X d_law_974 rfl rfl ?_
  refine V_iconst (v := 3) X d_law_976 (by decide) rfl ?_
  refine V_iadd X d_law_977 rfl ?_
  obtain ⟨hb, h⟩ := ifn h
  refine V_sld X hX hbl hbA hb d_law_978 rfl ?_
  refine V_aload_n (n := 0) X d_law_979 rfl rfl rfl ?_
  refine V_iload (n := 4) X d_law_980 rfl rfl ?_
  refine V_iconst (v := 4) X d_law_982 (by decide) rfl ?_
  refine V_iadd X d_law_983 rfl ?_
  obtain ⟨hb, h⟩ := ifn h
  refine V_sld X hX hbl hbA hb d_law_984 rfl ?_
  obtain ⟨x83, hx83, h⟩ := ob_s h
  refine V_ci (As := [.int (xs (v4 + (1 : Int32)).toNatClampNeg), .int (xs (v4 + (2 : Int32)).toNatClampNeg), .int (xs (v4 + (3 : Int32)).toNatClampNeg), .int (xs (v4 + (4 : Int32)).toNatClampNeg)]) X hz0 ml_Lw_138 yq_Top_both (c_Top_both E.2.1 G (xs (v4 + (1 : Int32)).toNatClampNeg) (xs (v4 + (2 : Int32)).toNatClampNeg) (xs (v4 + (3 : Int32)).toNatClampNeg) (xs (v4 + (4 : Int32)).toNatClampNeg) M x83 hx83 _ (Nat.le_refl _)) kd_0 rfl rfl (by omega) rfl (Nat.le_of_ble_eq_true rfl) d_law_985 rfl (fun r9 M9 hq => ?_)
  rw [hq.1, hq.2]
  refine V_pop X d_law_988 rfl rfl ?_
  refine V_aload_n (n := 2) X d_law_989 rfl rfl rfl ?_
  refine V_aload_n (n := 0) X d_law_990 rfl rfl rfl ?_
  refine V_iload (n := 4) X d_law_991 rfl rfl ?_
  refine V_iconst (v := 1) X d_law_993 (by decide) rfl ?_
  refine V_iadd X d_law_994 rfl ?_
  obtain ⟨hb, h⟩ := ifn h
  refine V_sld X hX hbl hbA hb d_law_995 rfl ?_
  refine V_aload_n (n := 0) X d_law_996 rfl rfl rfl ?_
  refine V_iload (n := 4) X d_law_997 rfl rfl ?_
  refine V_iconst (v := 2) X d_law_999 (by decide) rfl ?_
  refine V_iadd X d_law_1000 rfl ?_
  obtain ⟨hb, h⟩ := ifn h
  refine V_sld X hX hbl hbA hb d_law_1001 rfl ?_
  refine V_aload_n (n := 0) X d_law_1002 rfl rfl rfl ?_
  refine V_iload (n := 4) X d_law_1003 rfl rfl ?_
  refine V_iconst (v := 3) X d_law_1005 (by decide) rfl ?_
  refine V_iadd X d_law_1006 rfl ?_
  obtain ⟨hb, h⟩ := ifn h
  refine V_sld X hX hbl hbA hb d_law_1007 rfl ?_
  refine V_aload_n (n := 0) X d_law_1008 rfl rfl rfl ?_
  refine V_iload (n := 4) X d_law_1009 rfl rfl ?_
  refine V_iconst (v := 4) X d_law_1011 (by decide) rfl ?_
  refine V_iadd X d_law_1012 rfl ?_
  obtain ⟨hb, h⟩ := ifn h
  refine V_sld X hX hbl hbA hb d_law_1013 rfl ?_
  obtain ⟨x84, hx84, h⟩ := ob_s h
  refine V_ci (As := [.int (xs (v4 + (1 : Int32)).toNatClampNeg), .int (xs (v4 + (2 : Int32)).toNatClampNeg), .int (xs (v4 + (3 : Int32)).toNatClampNeg), .int (xs (v4 + (4 : Int32)).toNatClampNeg)]) X hz0 ml_Lw_141 yq_Mod_both (c_Mod_both E.2.1 G (xs (v4 + (1 : Int32)).toNatClampNeg) (xs (v4 + (2 : Int32)).toNatClampNeg) (xs (v4 + (3 : Int32)).toNatClampNeg) (xs (v4 + (4 : Int32)).toNatClampNeg) x83.2 x84 hx84 _ (Nat.le_refl _)) kd_162 rfl rfl (by omega) rfl (Nat.le_of_ble_eq_true rfl) d_law_1014 rfl (fun r9 M9 hq => ?_)
  rw [hq.1, hq.2]
  refine V_pop X d_law_1017 rfl rfl ?_
  refine V_goto (pc' := 1581) X d_law_1018 (by decide) ?_
  refine V_iinc (n := 4) (v := (v4 + (5 : Int32))) (lv' := [(4, .int (v4 + (5 : Int32))), (0, .ref b), (1, .ref (G.2.2 + 0)), (2, .ref (G.2.2 + 162)), (3, .ref (G.2.2 + 192))]) X d_law_1581 rfl rfl (by decide) rfl rfl ?_
  refine V_goto (pc' := 23) X d_law_1584 (by decide) ?_
  refine V_wid (cs' := (cs.1 + 1, cs.2 + 6)) ⟨Nat.le_succ _, Nat.le_add_right _ _⟩ ?_
  refine V_sub (lv' := [(0, .ref b), (1, .ref (G.2.2 + 0)), (2, .ref (G.2.2 + 162)), (3, .ref (G.2.2 + 192)), (4, .int (v4 + (5 : Int32)))]) [1, 2, 3, 4, 0] rfl ?_
  exact kc ((v4 + (5 : Int32)), x84.2) (Option.some.inj h).symm
def j_law_1021_23 (L : Nat) (xs : Nat → Int32) (v4 : Int32) (M : Mem) : Option ((Int32 × Mem) ⊕ ((Mem) ⊕ (Int32 × Mem))) :=
  if inb (v4 + (1 : Int32)) L = true then
  if inb (v4 + (2 : Int32)) L = true then
  Option.bind (f_Top_errand (xs (v4 + (1 : Int32)).toNatClampNeg) (xs (v4 + (2 : Int32)).toNatClampNeg) M) fun x86 =>
  if inb (v4 + (1 : Int32)) L = true then
  if inb (v4 + (2 : Int32)) L = true then
  Option.bind (f_Mod_errand (xs (v4 + (1 : Int32)).toNatClampNeg) (xs (v4 + (2 : Int32)).toNatClampNeg) x86.2) fun x87 =>
  some (.inl ((v4 + (5 : Int32)), x87.2))
  else none
  else none
  else none
  else none
theorem j_law_1021_23_ok {E : Ev} {cs : Nat × Nat} {G : Gw} {d : Nat} {Q : State → Prop} {b L : Nat} {xs : Nat → Int32} (X : Cx E G code "WomenByTheRoofsLaw" 7 d ret) (hz0 : Zc E cs) (hz : Zc E (cs.1 + 1, cs.2 + 6)) (hT : Tw G E.2.2.2.2.1 E.2.2.2.2.1.heap) (hl9 : E.2.1.stackTraces = false) (hX : va_X b L xs E.2.2.2.2.1 E.2.2.2.2.1.heap) (hbl : b < E.2.2.2.2.1.heap.size) (hbA : ¬ G.2.2 ≤ b) (hD : 450 ≤ d)  (v4 : Int32)  (M : Mem)  (o : (Int32 × Mem) ⊕ ((Mem) ⊕ (Int32 × Mem))) (h : j_law_1021_23 L xs v4 M = some o) (kc : ∀ s9 : Int32 × Mem, o = .inl s9 → V E (cs.1 + 1, cs.2 + 6) G 7 Q s9.2 23 [(0, .ref b), (1, .ref (G.2.2 + 0)), (2, .ref (G.2.2 + 162)), (3, .ref (G.2.2 + 192)), (4, .int s9.1)] []) (kx0 : ∀ x9 : Mem, o = .inr (Sum.inl x9) → V E (cs.1 + 1, cs.2 + 6) G 7 Q x9 1587 [] []) (kr : ∀ x9 : Int32 × Mem, o = .inr (Sum.inr x9) → False) : V E cs G 7 Q M 1021 [(0, .ref b), (1, .ref (G.2.2 + 0)), (2, .ref (G.2.2 + 162)), (3, .ref (G.2.2 + 192)), (4, .int v4)] [] := by
  unfold j_law_1021_23 at h
  refine V_aload_n (n := 1) X d_law_1021 rfl rfl rfl ?_
  refine V_aload_n (n := 0) X d_law_1022 rfl rfl rfl ?_
  refine V_iload (n := 4) X d_law_1023 rfl rfl ?_
  refine V_iconst (v := 1) X d_law_1025 (by decide) rfl ?_
  refine V_iadd X d_law_1026 rfl ?_
  obtain ⟨hb, h⟩ := ifn h
  refine V_sld X hX hbl hbA hb d_law_1027 rfl ?_
  refine V_aload_n (n := 0) X d_law_1028 rfl rfl rfl ?_
  refine V_iload (n := 4) X d_law_1029 rfl rfl ?_
  refine V_iconst (v := 2) X d_law_1031 (by decide) rfl ?_
  refine V_iadd X d_law_1032 rfl ?_
  obtain ⟨hb, h⟩ := ifn h
  refine V_sld X hX hbl hbA hb d_law_1033 rfl ?_
  obtain ⟨x86, hx86, h⟩ := ob_s h
  refine V_ci (As := [.int (xs (v4 + (1 : Int32)).toNatClampNeg), .int (xs (v4 + (2 : Int32)).toNatClampNeg)]) X hz0 ml_Lw_142 yq_Top_errand (c_Top_errand E.2.1 G (xs (v4 + (1 : Int32)).toNatClampNeg) (xs (v4 + (2 : Int32)).toNatClampNeg) M x86 hx86 _ (Nat.le_refl _)) kd_0 rfl rfl (by omega) rfl (Nat.le_of_ble_eq_true rfl) d_law_1034 rfl (fun r9 M9 hq => ?_)
  rw [hq.1, hq.2]
  refine V_pop X d_law_1037 rfl rfl ?_
  refine V_aload_n (n := 2) X d_law_1038 rfl rfl rfl ?_
  refine V_aload_n (n := 0) X d_law_1039 rfl rfl rfl ?_
  refine V_iload (n := 4) X d_law_1040 rfl rfl ?_
  refine V_iconst (v := 1) X d_law_1042 (by decide) rfl ?_
  refine V_iadd X d_law_1043 rfl ?_
  obtain ⟨hb, h⟩ := ifn h
  refine V_sld X hX hbl hbA hb d_law_1044 rfl ?_
  refine V_aload_n (n := 0) X d_law_1045 rfl rfl rfl ?_
  refine V_iload (n := 4) X d_law_1046 rfl rfl ?_
  refine V_iconst (v := 2) X d_law_1048 (by decide) rfl ?_
  refine V_iadd X d_law_1049 rfl ?_
  obtain ⟨hb, h⟩ := ifn h
  refine V_sld X hX hbl hbA hb d_law_1050 rfl ?_
  obtain ⟨x87, hx87, h⟩ := ob_s h
  refine V_ci (As := [.int (xs (v4 + (1 : Int32)).toNatClampNeg), .int (xs (v4 + (2 : Int32)).toNatClampNeg)]) X hz0 ml_Lw_145 yq_Mod_errand (c_Mod_errand E.2.1 G (xs (v4 + (1 : Int32)).toNatClampNeg) (xs (v4 + (2 : Int32)).toNatClampNeg) x86.2 x87 hx87 _ (Nat.le_refl _)) kd_162 rfl rfl (by omega) rfl (Nat.le_of_ble_eq_true rfl) d_law_1051 rfl (fun r9 M9 hq => ?_)
  rw [hq.1, hq.2]
  refine V_pop X d_law_1054 rfl rfl ?_
  refine V_goto (pc' := 1581) X d_law_1055 (by decide) ?_
  refine V_iinc (n := 4) (v := (v4 + (5 : Int32))) (lv' := [(4, .int (v4 + (5 : Int32))), (0, .ref b), (1, .ref (G.2.2 + 0)), (2, .ref (G.2.2 + 162)), (3, .ref (G.2.2 + 192))]) X d_law_1581 rfl rfl (by decide) rfl rfl ?_
  refine V_goto (pc' := 23) X d_law_1584 (by decide) ?_
  refine V_wid (cs' := (cs.1 + 1, cs.2 + 6)) ⟨Nat.le_succ _, Nat.le_add_right _ _⟩ ?_
  refine V_sub (lv' := [(0, .ref b), (1, .ref (G.2.2 + 0)), (2, .ref (G.2.2 + 162)), (3, .ref (G.2.2 + 192)), (4, .int (v4 + (5 : Int32)))]) [1, 2, 3, 4, 0] rfl ?_
  exact kc ((v4 + (5 : Int32)), x87.2) (Option.some.inj h).symm
def j_law_1058_23 (L : Nat) (xs : Nat → Int32) (v4 : Int32) (M : Mem) : Option ((Int32 × Mem) ⊕ ((Mem) ⊕ (Int32 × Mem))) :=
  if inb (v4 + (1 : Int32)) L = true then
  if inb (v4 + (2 : Int32)) L = true then
  Option.bind (f_Top_tryst (xs (v4 + (1 : Int32)).toNatClampNeg) (xs (v4 + (2 : Int32)).toNatClampNeg) M) fun x89 =>
  if inb (v4 + (1 : Int32)) L = true then
  if inb (v4 + (2 : Int32)) L = true then
  Option.bind (f_Mod_tryst (xs (v4 + (1 : Int32)).toNatClampNeg) (xs (v4 + (2 : Int32)).toNatClampNeg) x89.2) fun x90 =>
  some (.inl ((v4 + (5 : Int32)), x90.2))
  else none
  else none
  else none
  else none
theorem j_law_1058_23_ok {E : Ev} {cs : Nat × Nat} {G : Gw} {d : Nat} {Q : State → Prop} {b L : Nat} {xs : Nat → Int32} (X : Cx E G code "WomenByTheRoofsLaw" 7 d ret) (hz0 : Zc E cs) (hz : Zc E (cs.1 + 1, cs.2 + 6)) (hT : Tw G E.2.2.2.2.1 E.2.2.2.2.1.heap) (hl9 : E.2.1.stackTraces = false) (hX : va_X b L xs E.2.2.2.2.1 E.2.2.2.2.1.heap) (hbl : b < E.2.2.2.2.1.heap.size) (hbA : ¬ G.2.2 ≤ b) (hD : 450 ≤ d)  (v4 : Int32)  (M : Mem)  (o : (Int32 × Mem) ⊕ ((Mem) ⊕ (Int32 × Mem))) (h : j_law_1058_23 L xs v4 M = some o) (kc : ∀ s9 : Int32 × Mem, o = .inl s9 → V E (cs.1 + 1, cs.2 + 6) G 7 Q s9.2 23 [(0, .ref b), (1, .ref (G.2.2 + 0)), (2, .ref (G.2.2 + 162)), (3, .ref (G.2.2 + 192)), (4, .int s9.1)] []) (kx0 : ∀ x9 : Mem, o = .inr (Sum.inl x9) → V E (cs.1 + 1, cs.2 + 6) G 7 Q x9 1587 [] []) (kr : ∀ x9 : Int32 × Mem, o = .inr (Sum.inr x9) → False) : V E cs G 7 Q M 1058 [(0, .ref b), (1, .ref (G.2.2 + 0)), (2, .ref (G.2.2 + 162)), (3, .ref (G.2.2 + 192)), (4, .int v4)] [] := by
  unfold j_law_1058_23 at h
  refine V_aload_n (n := 1) X d_law_1058 rfl rfl rfl ?_
  refine V_aload_n (n := 0) X d_law_1059 rfl rfl rfl ?_
  refine V_iload (n := 4) X d_law_1060 rfl rfl ?_
  refine V_iconst (v := 1) X d_law_1062 (by decide) rfl ?_
  refine V_iadd X d_law_1063 rfl ?_
  obtain ⟨hb, h⟩ := ifn h
  refine V_sld X hX hbl hbA hb d_law_1064 rfl ?_
  refine V_aload_n (n := 0) X d_law_1065 rfl rfl rfl ?_
  refine V_iload (n := 4) X d_law_1066 rfl rfl ?_
  refine V_iconst (v := 2) X d_law_1068 (by decide) rfl ?_
  refine V_iadd X d_law_1069 rfl ?_
  obtain ⟨hb, h⟩ := ifn h
  refine V_sld X hX hbl hbA hb d_law_1070 rfl ?_
  obtain ⟨x89, hx89, h⟩ := ob_s h
  refine V_ci (As := [.int (xs (v4 + (1 : Int32)).toNatClampNeg), .int (xs (v4 + (2 : Int32)).toNatClampNeg)]) X hz0 ml_Lw_146 yq_Top_tryst (c_Top_tryst E.2.1 G (xs (v4 + (1 : Int32)).toNatClampNeg) (xs (v4 + (2 : Int32)).toNatClampNeg) M x89 hx89 _ (Nat.le_refl _)) kd_0 rfl rfl (by omega) rfl (Nat.le_of_ble_eq_true rfl) d_law_1071 rfl (fun r9 M9 hq => ?_)
  rw [hq.1, hq.2]
  refine V_pop X d_law_1074 rfl rfl ?_
  refine V_aload_n (n := 2) X d_law_1075 rfl rfl rfl ?_
  refine V_aload_n (n := 0) X d_law_1076 rfl rfl rfl ?_
  refine V_iload (n := 4) X d_law_1077 rfl rfl ?_
  refine V_iconst (v := 1) X d_law_1079 (by decide) rfl ?_
  refine V_iadd X d_law_1080 rfl ?_
  obtain ⟨hb, h⟩ := ifn h
  refine V_sld X hX hbl hbA hb d_law_1081 rfl ?_
  refine V_aload_n (n := 0) X d_law_1082 rfl rfl rfl ?_
  refine V_iload (n := 4) X d_law_1083 rfl rfl ?_
  refine V_iconst (v := 2) X d_law_1085 (by decide) rfl ?_
  refine V_iadd X d_law_1086 rfl ?_
  obtain ⟨hb, h⟩ := ifn h
  refine V_sld X hX hbl hbA hb d_law_1087 rfl ?_
  obtain ⟨x90, hx90, h⟩ := ob_s h
  refine V_ci (As := [.int (xs (v4 + (1 : Int32)).toNatClampNeg), .int (xs (v4 + (2 : Int32)).toNatClampNeg)]) X hz0 ml_Lw_149 yq_Mod_tryst (c_Mod_tryst E.2.1 G (xs (v4 + (1 : Int32)).toNatClampNeg) (xs (v4 + (2 : Int32)).toNatClampNeg) x89.2 x90 hx90 _ (Nat.le_refl _)) kd_162 rfl rfl (by omega) rfl (Nat.le_of_ble_eq_true rfl) d_law_1088 rfl (fun r9 M9 hq => ?_)
  rw [hq.1, hq.2]
  refine V_pop X d_law_1091 rfl rfl ?_
  refine V_goto (pc' := 1581) X d_law_1092 (by decide) ?_
  refine V_iinc (n := 4) (v := (v4 + (5 : Int32))) (lv' := [(4, .int (v4 + (5 : Int32))), (0, .ref b), (1, .ref (G.2.2 + 0)), (2, .ref (G.2.2 + 162)), (3, .ref (G.2.2 + 192))]) X d_law_1581 rfl rfl (by decide) rfl rfl ?_
  refine V_goto (pc' := 23) X d_law_1584 (by decide) ?_
  refine V_wid (cs' := (cs.1 + 1, cs.2 + 6)) ⟨Nat.le_succ _, Nat.le_add_right _ _⟩ ?_
  refine V_sub (lv' := [(0, .ref b), (1, .ref (G.2.2 + 0)), (2, .ref (G.2.2 + 162)), (3, .ref (G.2.2 + 192)), (4, .int (v4 + (5 : Int32)))]) [1, 2, 3, 4, 0] rfl ?_
  exact kc ((v4 + (5 : Int32)), x90.2) (Option.some.inj h).symm
def j_law_1095_23 (L : Nat) (xs : Nat → Int32) (v4 : Int32) (M : Mem) : Option ((Int32 × Mem) ⊕ ((Mem) ⊕ (Int32 × Mem))) :=
  if inb (v4 + (1 : Int32)) L = true then
  if inb (v4 + (2 : Int32)) L = true then
  Option.bind (f_Top_open (xs (v4 + (1 : Int32)).toNatClampNeg) (xs (v4 + (2 : Int32)).toNatClampNeg) M) fun x92 =>
  if inb (v4 + (1 : Int32)) L = true then
  if inb (v4 + (2 : Int32)) L = true then
  Option.bind (f_Mod_open (xs (v4 + (1 : Int32)).toNatClampNeg) (xs (v4 + (2 : Int32)).toNatClampNeg) x92.2) fun x93 =>
  some (.inl ((v4 + (5 : Int32)), x93.2))
  else none
  else none
  else none
  else none
theorem j_law_1095_23_ok {E : Ev} {cs : Nat × Nat} {G : Gw} {d : Nat} {Q : State → Prop} {b L : Nat} {xs : Nat → Int32} (X : Cx E G code "WomenByTheRoofsLaw" 7 d ret) (hz0 : Zc E cs) (hz : Zc E (cs.1 + 1, cs.2 + 6)) (hT : Tw G E.2.2.2.2.1 E.2.2.2.2.1.heap) (hl9 : E.2.1.stackTraces = false) (hX : va_X b L xs E.2.2.2.2.1 E.2.2.2.2.1.heap) (hbl : b < E.2.2.2.2.1.heap.size) (hbA : ¬ G.2.2 ≤ b) (hD : 450 ≤ d)  (v4 : Int32)  (M : Mem)  (o : (Int32 × Mem) ⊕ ((Mem) ⊕ (Int32 × Mem))) (h : j_law_1095_23 L xs v4 M = some o) (kc : ∀ s9 : Int32 × Mem, o = .inl s9 → V E (cs.1 + 1, cs.2 + 6) G 7 Q s9.2 23 [(0, .ref b), (1, .ref (G.2.2 + 0)), (2, .ref (G.2.2 + 162)), (3, .ref (G.2.2 + 192)), (4, .int s9.1)] []) (kx0 : ∀ x9 : Mem, o = .inr (Sum.inl x9) → V E (cs.1 + 1, cs.2 + 6) G 7 Q x9 1587 [] []) (kr : ∀ x9 : Int32 × Mem, o = .inr (Sum.inr x9) → False) : V E cs G 7 Q M 1095 [(0, .ref b), (1, .ref (G.2.2 + 0)), (2, .ref (G.2.2 + 162)), (3, .ref (G.2.2 + 192)), (4, .int v4)] [] := by
  unfold j_law_1095_23 at h
  refine V_aload_n (n := 1) X d_law_1095 rfl rfl rfl ?_
  refine V_aload_n (n := 0) X d_law_1096 rfl rfl rfl ?_
  refine V_iload (n := 4) X d_law_1097 rfl rfl ?_
  refine V_iconst (v := 1) X d_law_1099 (by decide) rfl ?_
  refine V_iadd X d_law_1100 rfl ?_
  obtain ⟨hb, h⟩ := ifn h
  refine V_sld X hX hbl hbA hb d_law_1101 rfl ?_
  refine V_aload_n (n := 0) X d_law_1102 rfl rfl rfl ?_
  refine V_iload (n := 4) X d_law_1103 rfl rfl ?_
  refine V_iconst (v := 2) X d_law_1105 (by decide) rfl ?_
  refine V_iadd X d_law_1106 rfl ?_
  obtain ⟨hb, h⟩ := ifn h
  refine V_sld X hX hbl hbA hb d_law_1107 rfl ?_
  obtain ⟨x92, hx92, h⟩ := ob_s h
  refine V_ci (As := [.int (xs (v4 + (1 : Int32)).toNatClampNeg), .int (xs (v4 + (2 : Int32)).toNatClampNeg)]) X hz0 ml_Lw_150 yq_Top_open (c_Top_open E.2.1 G (xs (v4 + (1 : Int32)).toNatClampNeg) (xs (v4 + (2 : Int32)).toNatClampNeg) M x92 hx92 _ (Nat.le_refl _)) kd_0 rfl rfl (by omega) rfl (Nat.le_of_ble_eq_true rfl) d_law_1108 rfl (fun r9 M9 hq => ?_)
  rw [hq.1, hq.2]
  refine V_pop X d_law_1111 rfl rfl ?_
  refine V_aload_n (n := 2) X d_law_1112 rfl rfl rfl ?_
  refine V_aload_n (n := 0) X d_law_1113 rfl rfl rfl ?_
  refine V_iload (n := 4) X d_law_1114 rfl rfl ?_
  refine V_iconst (v := 1) X d_law_1116 (by decide) rfl ?_
  refine V_iadd X d_law_1117 rfl ?_
  obtain ⟨hb, h⟩ := ifn h
  refine V_sld X hX hbl hbA hb d_law_1118 rfl ?_
  refine V_aload_n (n := 0) X d_law_1119 rfl rfl rfl ?_
  refine V_iload (n := 4) X d_law_1120 rfl rfl ?_
  refine V_iconst (v := 2) X d_law_1122 (by decide) rfl ?_
  refine V_iadd X d_law_1123 rfl ?_
  obtain ⟨hb, h⟩ := ifn h
  refine V_sld X hX hbl hbA hb d_law_1124 rfl ?_
  obtain ⟨x93, hx93, h⟩ := ob_s h
  refine V_ci (As := [.int (xs (v4 + (1 : Int32)).toNatClampNeg), .int (xs (v4 + (2 : Int32)).toNatClampNeg)]) X hz0 ml_Lw_153 yq_Mod_open (c_Mod_open E.2.1 G (xs (v4 + (1 : Int32)).toNatClampNeg) (xs (v4 + (2 : Int32)).toNatClampNeg) x92.2 x93 hx93 _ (Nat.le_refl _)) kd_162 rfl rfl (by omega) rfl (Nat.le_of_ble_eq_true rfl) d_law_1125 rfl (fun r9 M9 hq => ?_)
  rw [hq.1, hq.2]
  refine V_pop X d_law_1128 rfl rfl ?_
  refine V_goto (pc' := 1581) X d_law_1129 (by decide) ?_
  refine V_iinc (n := 4) (v := (v4 + (5 : Int32))) (lv' := [(4, .int (v4 + (5 : Int32))), (0, .ref b), (1, .ref (G.2.2 + 0)), (2, .ref (G.2.2 + 162)), (3, .ref (G.2.2 + 192))]) X d_law_1581 rfl rfl (by decide) rfl rfl ?_
  refine V_goto (pc' := 23) X d_law_1584 (by decide) ?_
  refine V_wid (cs' := (cs.1 + 1, cs.2 + 6)) ⟨Nat.le_succ _, Nat.le_add_right _ _⟩ ?_
  refine V_sub (lv' := [(0, .ref b), (1, .ref (G.2.2 + 0)), (2, .ref (G.2.2 + 162)), (3, .ref (G.2.2 + 192)), (4, .int (v4 + (5 : Int32)))]) [1, 2, 3, 4, 0] rfl ?_
  exact kc ((v4 + (5 : Int32)), x93.2) (Option.some.inj h).symm
def j_law_1132_23 (L : Nat) (xs : Nat → Int32) (v4 : Int32) (M : Mem) : Option ((Int32 × Mem) ⊕ ((Mem) ⊕ (Int32 × Mem))) :=
  if inb (v4 + (1 : Int32)) L = true then
  if inb (v4 + (2 : Int32)) L = true then
  Option.bind (f_Top_part (xs (v4 + (1 : Int32)).toNatClampNeg) (xs (v4 + (2 : Int32)).toNatClampNeg) M) fun x95 =>
  if inb (v4 + (1 : Int32)) L = true then
  if inb (v4 + (2 : Int32)) L = true then
  Option.bind (f_Mod_part (xs (v4 + (1 : Int32)).toNatClampNeg) (xs (v4 + (2 : Int32)).toNatClampNeg) x95.2) fun x96 =>
  some (.inl ((v4 + (5 : Int32)), x96.2))
  else none
  else none
  else none
  else none
theorem j_law_1132_23_ok {E : Ev} {cs : Nat × Nat} {G : Gw} {d : Nat} {Q : State → Prop} {b L : Nat} {xs : Nat → Int32} (X : Cx E G code "WomenByTheRoofsLaw" 7 d ret) (hz0 : Zc E cs) (hz : Zc E (cs.1 + 1, cs.2 + 6)) (hT : Tw G E.2.2.2.2.1 E.2.2.2.2.1.heap) (hl9 : E.2.1.stackTraces = false) (hX : va_X b L xs E.2.2.2.2.1 E.2.2.2.2.1.heap) (hbl : b < E.2.2.2.2.1.heap.size) (hbA : ¬ G.2.2 ≤ b) (hD : 450 ≤ d)  (v4 : Int32)  (M : Mem)  (o : (Int32 × Mem) ⊕ ((Mem) ⊕ (Int32 × Mem))) (h : j_law_1132_23 L xs v4 M = some o) (kc : ∀ s9 : Int32 × Mem, o = .inl s9 → V E (cs.1 + 1, cs.2 + 6) G 7 Q s9.2 23 [(0, .ref b), (1, .ref (G.2.2 + 0)), (2, .ref (G.2.2 + 162)), (3, .ref (G.2.2 + 192)), (4, .int s9.1)] []) (kx0 : ∀ x9 : Mem, o = .inr (Sum.inl x9) → V E (cs.1 + 1, cs.2 + 6) G 7 Q x9 1587 [] []) (kr : ∀ x9 : Int32 × Mem, o = .inr (Sum.inr x9) → False) : V E cs G 7 Q M 1132 [(0, .ref b), (1, .ref (G.2.2 + 0)), (2, .ref (G.2.2 + 162)), (3, .ref (G.2.2 + 192)), (4, .int v4)] [] := by
  unfold j_law_1132_23 at h
  refine V_aload_n (n := 1) X d_law_1132 rfl rfl rfl ?_
  refine V_aload_n (n := 0) X d_law_1133 rfl rfl rfl ?_
  refine V_iload (n := 4) X d_law_1134 rfl rfl ?_
  refine V_iconst (v := 1) X d_law_1136 (by decide) rfl ?_
  refine V_iadd X d_law_1137 rfl ?_
  obtain ⟨hb, h⟩ := ifn h
  refine V_sld X hX hbl hbA hb d_law_1138 rfl ?_
  refine V_aload_n (n := 0) X d_law_1139 rfl rfl rfl ?_
  refine V_iload (n := 4) X d_law_1140 rfl rfl ?_
  refine V_iconst (v := 2) X d_law_1142 (by decide) rfl ?_
  refine V_iadd X d_law_1143 rfl ?_
  obtain ⟨hb, h⟩ := ifn h
  refine V_sld X hX hbl hbA hb d_law_1144 rfl ?_
  obtain ⟨x95, hx95, h⟩ := ob_s h
  refine V_ci (As := [.int (xs (v4 + (1 : Int32)).toNatClampNeg), .int (xs (v4 + (2 : Int32)).toNatClampNeg)]) X hz0 ml_Lw_154 yq_Top_part (c_Top_part E.2.1 G (xs (v4 + (1 : Int32)).toNatClampNeg) (xs (v4 + (2 : Int32)).toNatClampNeg) M x95 hx95 _ (Nat.le_refl _)) kd_0 rfl rfl (by omega) rfl (Nat.le_of_ble_eq_true rfl) d_law_1145 rfl (fun r9 M9 hq => ?_)
  rw [hq.1, hq.2]
  refine V_pop X d_law_1148 rfl rfl ?_
  refine V_aload_n (n := 2) X d_law_1149 rfl rfl rfl ?_
  refine V_aload_n (n := 0) X d_law_1150 rfl rfl rfl ?_
  refine V_iload (n := 4) X d_law_1151 rfl rfl ?_
  refine V_iconst (v := 1) X d_law_1153 (by decide) rfl ?_
  refine V_iadd X d_law_1154 rfl ?_
  obtain ⟨hb, h⟩ := ifn h
  refine V_sld X hX hbl hbA hb d_law_1155 rfl ?_
  refine V_aload_n (n := 0) X d_law_1156 rfl rfl rfl ?_
  refine V_iload (n := 4) X d_law_1157 rfl rfl ?_
  refine V_iconst (v := 2) X d_law_1159 (by decide) rfl ?_
  refine V_iadd X d_law_1160 rfl ?_
  obtain ⟨hb, h⟩ := ifn h
  refine V_sld X hX hbl hbA hb d_law_1161 rfl ?_
  obtain ⟨x96, hx96, h⟩ := ob_s h
  refine V_ci (As := [.int (xs (v4 + (1 : Int32)).toNatClampNeg), .int (xs (v4 + (2 : Int32)).toNatClampNeg)]) X hz0 ml_Lw_157 yq_Mod_part (c_Mod_part E.2.1 G (xs (v4 + (1 : Int32)).toNatClampNeg) (xs (v4 + (2 : Int32)).toNatClampNeg) x95.2 x96 hx96 _ (Nat.le_refl _)) kd_162 rfl rfl (by omega) rfl (Nat.le_of_ble_eq_true rfl) d_law_1162 rfl (fun r9 M9 hq => ?_)
  rw [hq.1, hq.2]
  refine V_pop X d_law_1165 rfl rfl ?_
  refine V_goto (pc' := 1581) X d_law_1166 (by decide) ?_
  refine V_iinc (n := 4) (v := (v4 + (5 : Int32))) (lv' := [(4, .int (v4 + (5 : Int32))), (0, .ref b), (1, .ref (G.2.2 + 0)), (2, .ref (G.2.2 + 162)), (3, .ref (G.2.2 + 192))]) X d_law_1581 rfl rfl (by decide) rfl rfl ?_
  refine V_goto (pc' := 23) X d_law_1584 (by decide) ?_
  refine V_wid (cs' := (cs.1 + 1, cs.2 + 6)) ⟨Nat.le_succ _, Nat.le_add_right _ _⟩ ?_
  refine V_sub (lv' := [(0, .ref b), (1, .ref (G.2.2 + 0)), (2, .ref (G.2.2 + 162)), (3, .ref (G.2.2 + 192)), (4, .int (v4 + (5 : Int32)))]) [1, 2, 3, 4, 0] rfl ?_
  exact kc ((v4 + (5 : Int32)), x96.2) (Option.some.inj h).symm
def j_law_1169_23 (L : Nat) (xs : Nat → Int32) (v4 : Int32) (M : Mem) : Option ((Int32 × Mem) ⊕ ((Mem) ⊕ (Int32 × Mem))) :=
  if inb (v4 + (1 : Int32)) L = true then
  if inb (v4 + (2 : Int32)) L = true then
  Option.bind (f_Top_planks (xs (v4 + (1 : Int32)).toNatClampNeg) (xs (v4 + (2 : Int32)).toNatClampNeg) M) fun x98 =>
  if inb (v4 + (1 : Int32)) L = true then
  if inb (v4 + (2 : Int32)) L = true then
  Option.bind (f_Mod_planks (xs (v4 + (1 : Int32)).toNatClampNeg) (xs (v4 + (2 : Int32)).toNatClampNeg) x98.2) fun x99 =>
  some (.inl ((v4 + (5 : Int32)), x99.2))
  else none
  else none
  else none
  else none
theorem j_law_1169_23_ok {E : Ev} {cs : Nat × Nat} {G : Gw} {d : Nat} {Q : State → Prop} {b L : Nat} {xs : Nat → Int32} (X : Cx E G code "WomenByTheRoofsLaw" 7 d ret) (hz0 : Zc E cs) (hz : Zc E (cs.1 + 1, cs.2 + 6)) (hT : Tw G E.2.2.2.2.1 E.2.2.2.2.1.heap) (hl9 : E.2.1.stackTraces = false) (hX : va_X b L xs E.2.2.2.2.1 E.2.2.2.2.1.heap) (hbl : b < E.2.2.2.2.1.heap.size) (hbA : ¬ G.2.2 ≤ b) (hD : 450 ≤ d)  (v4 : Int32)  (M : Mem)  (o : (Int32 × Mem) ⊕ ((Mem) ⊕ (Int32 × Mem))) (h : j_law_1169_23 L xs v4 M = some o) (kc : ∀ s9 : Int32 × Mem, o = .inl s9 → V E (cs.1 + 1, cs.2 + 6) G 7 Q s9.2 23 [(0, .ref b), (1, .ref (G.2.2 + 0)), (2, .ref (G.2.2 + 162)), (3, .ref (G.2.2 + 192)), (4, .int s9.1)] []) (kx0 : ∀ x9 : Mem, o = .inr (Sum.inl x9) → V E (cs.1 + 1, cs.2 + 6) G 7 Q x9 1587 [] []) (kr : ∀ x9 : Int32 × Mem, o = .inr (Sum.inr x9) → False) : V E cs G 7 Q M 1169 [(0, .ref b), (1, .ref (G.2.2 + 0)), (2, .ref (G.2.2 + 162)), (3, .ref (G.2.2 + 192)), (4, .int v4)] [] := by
  unfold j_law_1169_23 at h
  refine V_aload_n (n := 1) X d_law_1169 rfl rfl rfl ?_
  refine V_aload_n (n := 0) X d_law_1170 rfl rfl rfl ?_
  refine V_iload (n := 4) X d_law_1171 rfl rfl ?_
  refine V_iconst (v := 1) X d_law_1173 (by decide) rfl ?_
  refine V_iadd X d_law_1174 rfl ?_
  obtain ⟨hb, h⟩ := ifn h
  refine V_sld X hX hbl hbA hb d_law_1175 rfl ?_
  refine V_aload_n (n := 0) X d_law_1176 rfl rfl rfl ?_
  refine V_iload (n := 4) X d_law_1177 rfl rfl ?_
  refine V_iconst (v := 2) X d_law_1179 (by decide) rfl ?_
  refine V_iadd X d_law_1180 rfl ?_
  obtain ⟨hb, h⟩ := ifn h
  refine V_sld X hX hbl hbA hb d_law_1181 rfl ?_
  obtain ⟨x98, hx98, h⟩ := ob_s h
  refine V_ci (As := [.int (xs (v4 + (1 : Int32)).toNatClampNeg), .int (xs (v4 + (2 : Int32)).toNatClampNeg)]) X hz0 ml_Lw_158 yq_Top_planks (c_Top_planks E.2.1 G (xs (v4 + (1 : Int32)).toNatClampNeg) (xs (v4 + (2 : Int32)).toNatClampNeg) M x98 hx98 _ (Nat.le_refl _)) kd_0 rfl rfl (by omega) rfl (Nat.le_of_ble_eq_true rfl) d_law_1182 rfl (fun r9 M9 hq => ?_)
  rw [hq.1, hq.2]
  refine V_pop X d_law_1185 rfl rfl ?_
  refine V_aload_n (n := 2) X d_law_1186 rfl rfl rfl ?_
  refine V_aload_n (n := 0) X d_law_1187 rfl rfl rfl ?_
  refine V_iload (n := 4) X d_law_1188 rfl rfl ?_
  refine V_iconst (v := 1) X d_law_1190 (by decide) rfl ?_
  refine V_iadd X d_law_1191 rfl ?_
  obtain ⟨hb, h⟩ := ifn h
  refine V_sld X hX hbl hbA hb d_law_1192 rfl ?_
  refine V_aload_n (n := 0) X d_law_1193 rfl rfl rfl ?_
  refine V_iload (n := 4) X d_law_1194 rfl rfl ?_
  refine V_iconst (v := 2) X d_law_1196 (by decide) rfl ?_
  refine V_iadd X d_law_1197 rfl ?_
  obtain ⟨hb, h⟩ := ifn h
  refine V_sld X hX hbl hbA hb d_law_1198 rfl ?_
  obtain ⟨x99, hx99, h⟩ := ob_s h
  refine V_ci (As := [.int (xs (v4 + (1 : Int32)).toNatClampNeg), .int (xs (v4 + (2 : Int32)).toNatClampNeg)]) X hz0 ml_Lw_161 yq_Mod_planks (c_Mod_planks E.2.1 G (xs (v4 + (1 : Int32)).toNatClampNeg) (xs (v4 + (2 : Int32)).toNatClampNeg) x98.2 x99 hx99 _ (Nat.le_refl _)) kd_162 rfl rfl (by omega) rfl (Nat.le_of_ble_eq_true rfl) d_law_1199 rfl (fun r9 M9 hq => ?_)
  rw [hq.1, hq.2]
  refine V_pop X d_law_1202 rfl rfl ?_
  refine V_goto (pc' := 1581) X d_law_1203 (by decide) ?_
  refine V_iinc (n := 4) (v := (v4 + (5 : Int32))) (lv' := [(4, .int (v4 + (5 : Int32))), (0, .ref b), (1, .ref (G.2.2 + 0)), (2, .ref (G.2.2 + 162)), (3, .ref (G.2.2 + 192))]) X d_law_1581 rfl rfl (by decide) rfl rfl ?_
  refine V_goto (pc' := 23) X d_law_1584 (by decide) ?_
  refine V_wid (cs' := (cs.1 + 1, cs.2 + 6)) ⟨Nat.le_succ _, Nat.le_add_right _ _⟩ ?_
  refine V_sub (lv' := [(0, .ref b), (1, .ref (G.2.2 + 0)), (2, .ref (G.2.2 + 162)), (3, .ref (G.2.2 + 192)), (4, .int (v4 + (5 : Int32)))]) [1, 2, 3, 4, 0] rfl ?_
  exact kc ((v4 + (5 : Int32)), x99.2) (Option.some.inj h).symm
def j_law_1206_23 (L : Nat) (xs : Nat → Int32) (v4 : Int32) (M : Mem) : Option ((Int32 × Mem) ⊕ ((Mem) ⊕ (Int32 × Mem))) :=
  if inb (v4 + (1 : Int32)) L = true then
  Option.bind (f_Top_fire (xs (v4 + (1 : Int32)).toNatClampNeg) M) fun x101 =>
  if inb (v4 + (1 : Int32)) L = true then
  Option.bind (f_Mod_fire (xs (v4 + (1 : Int32)).toNatClampNeg) x101.2) fun x102 =>
  some (.inl ((v4 + (5 : Int32)), x102.2))
  else none
  else none
theorem j_law_1206_23_ok {E : Ev} {cs : Nat × Nat} {G : Gw} {d : Nat} {Q : State → Prop} {b L : Nat} {xs : Nat → Int32} (X : Cx E G code "WomenByTheRoofsLaw" 7 d ret) (hz0 : Zc E cs) (hz : Zc E (cs.1 + 1, cs.2 + 6)) (hT : Tw G E.2.2.2.2.1 E.2.2.2.2.1.heap) (hl9 : E.2.1.stackTraces = false) (hX : va_X b L xs E.2.2.2.2.1 E.2.2.2.2.1.heap) (hbl : b < E.2.2.2.2.1.heap.size) (hbA : ¬ G.2.2 ≤ b) (hD : 450 ≤ d)  (v4 : Int32)  (M : Mem)  (o : (Int32 × Mem) ⊕ ((Mem) ⊕ (Int32 × Mem))) (h : j_law_1206_23 L xs v4 M = some o) (kc : ∀ s9 : Int32 × Mem, o = .inl s9 → V E (cs.1 + 1, cs.2 + 6) G 7 Q s9.2 23 [(0, .ref b), (1, .ref (G.2.2 + 0)), (2, .ref (G.2.2 + 162)), (3, .ref (G.2.2 + 192)), (4, .int s9.1)] []) (kx0 : ∀ x9 : Mem, o = .inr (Sum.inl x9) → V E (cs.1 + 1, cs.2 + 6) G 7 Q x9 1587 [] []) (kr : ∀ x9 : Int32 × Mem, o = .inr (Sum.inr x9) → False) : V E cs G 7 Q M 1206 [(0, .ref b), (1, .ref (G.2.2 + 0)), (2, .ref (G.2.2 + 162)), (3, .ref (G.2.2 + 192)), (4, .int v4)] [] := by
  unfold j_law_1206_23 at h
  refine V_aload_n (n := 1) X d_law_1206 rfl rfl rfl ?_
  refine V_aload_n (n := 0) X d_law_1207 rfl rfl rfl ?_
  refine V_iload (n := 4) X d_law_1208 rfl rfl ?_
  refine V_iconst (v := 1) X d_law_1210 (by decide) rfl ?_
  refine V_iadd X d_law_1211 rfl ?_
  obtain ⟨hb, h⟩ := ifn h
  refine V_sld X hX hbl hbA hb d_law_1212 rfl ?_
  obtain ⟨x101, hx101, h⟩ := ob_s h
  refine V_ci (As := [.int (xs (v4 + (1 : Int32)).toNatClampNeg)]) X hz0 ml_Lw_162 yq_Top_fire (c_Top_fire E.2.1 G (xs (v4 + (1 : Int32)).toNatClampNeg) M x101 hx101 _ (Nat.le_refl _)) kd_0 rfl rfl (by omega) rfl (Nat.le_of_ble_eq_true rfl) d_law_1213 rfl (fun r9 M9 hq => ?_)
  rw [hq.1, hq.2]
  refine V_pop X d_law_1216 rfl rfl ?_
  refine V_aload_n (n := 2) X d_law_1217 rfl rfl rfl ?_
  refine V_aload_n (n := 0) X d_law_1218 rfl rfl rfl ?_
  refine V_iload (n := 4) X d_law_1219 rfl rfl ?_
  refine V_iconst (v := 1) X d_law_1221 (by decide) rfl ?_
  refine V_iadd X d_law_1222 rfl ?_
  obtain ⟨hb, h⟩ := ifn h
  refine V_sld X hX hbl hbA hb d_law_1223 rfl ?_
  obtain ⟨x102, hx102, h⟩ := ob_s h
  refine V_ci (As := [.int (xs (v4 + (1 : Int32)).toNatClampNeg)]) X hz0 ml_Lw_165 yq_Mod_fire (c_Mod_fire E.2.1 G (xs (v4 + (1 : Int32)).toNatClampNeg) x101.2 x102 hx102 _ (Nat.le_refl _)) kd_162 rfl rfl (by omega) rfl (Nat.le_of_ble_eq_true rfl) d_law_1224 rfl (fun r9 M9 hq => ?_)
  rw [hq.1, hq.2]
  refine V_pop X d_law_1227 rfl rfl ?_
  refine V_goto (pc' := 1581) X d_law_1228 (by decide) ?_
  refine V_iinc (n := 4) (v := (v4 + (5 : Int32))) (lv' := [(4, .int (v4 + (5 : Int32))), (0, .ref b), (1, .ref (G.2.2 + 0)), (2, .ref (G.2.2 + 162)), (3, .ref (G.2.2 + 192))]) X d_law_1581 rfl rfl (by decide) rfl rfl ?_
  refine V_goto (pc' := 23) X d_law_1584 (by decide) ?_
  refine V_wid (cs' := (cs.1 + 1, cs.2 + 6)) ⟨Nat.le_succ _, Nat.le_add_right _ _⟩ ?_
  refine V_sub (lv' := [(0, .ref b), (1, .ref (G.2.2 + 0)), (2, .ref (G.2.2 + 162)), (3, .ref (G.2.2 + 192)), (4, .int (v4 + (5 : Int32)))]) [1, 2, 3, 4, 0] rfl ?_
  exact kc ((v4 + (5 : Int32)), x102.2) (Option.some.inj h).symm
def j_law_1231_23 (L : Nat) (xs : Nat → Int32) (v4 : Int32) (M : Mem) : Option ((Int32 × Mem) ⊕ ((Mem) ⊕ (Int32 × Mem))) :=
  if inb (v4 + (1 : Int32)) L = true then
  Option.bind (f_Top_fights (xs (v4 + (1 : Int32)).toNatClampNeg) M) fun x104 =>
  if inb (v4 + (1 : Int32)) L = true then
  Option.bind (f_Mod_fights (xs (v4 + (1 : Int32)).toNatClampNeg) x104.2) fun x105 =>
  some (.inl ((v4 + (5 : Int32)), x105.2))
  else none
  else none
theorem j_law_1231_23_ok {E : Ev} {cs : Nat × Nat} {G : Gw} {d : Nat} {Q : State → Prop} {b L : Nat} {xs : Nat → Int32} (X : Cx E G code "WomenByTheRoofsLaw" 7 d ret) (hz0 : Zc E cs) (hz : Zc E (cs.1 + 1, cs.2 + 6)) (hT : Tw G E.2.2.2.2.1 E.2.2.2.2.1.heap) (hl9 : E.2.1.stackTraces = false) (hX : va_X b L xs E.2.2.2.2.1 E.2.2.2.2.1.heap) (hbl : b < E.2.2.2.2.1.heap.size) (hbA : ¬ G.2.2 ≤ b) (hD : 450 ≤ d)  (v4 : Int32)  (M : Mem)  (o : (Int32 × Mem) ⊕ ((Mem) ⊕ (Int32 × Mem))) (h : j_law_1231_23 L xs v4 M = some o) (kc : ∀ s9 : Int32 × Mem, o = .inl s9 → V E (cs.1 + 1, cs.2 + 6) G 7 Q s9.2 23 [(0, .ref b), (1, .ref (G.2.2 + 0)), (2, .ref (G.2.2 + 162)), (3, .ref (G.2.2 + 192)), (4, .int s9.1)] []) (kx0 : ∀ x9 : Mem, o = .inr (Sum.inl x9) → V E (cs.1 + 1, cs.2 + 6) G 7 Q x9 1587 [] []) (kr : ∀ x9 : Int32 × Mem, o = .inr (Sum.inr x9) → False) : V E cs G 7 Q M 1231 [(0, .ref b), (1, .ref (G.2.2 + 0)), (2, .ref (G.2.2 + 162)), (3, .ref (G.2.2 + 192)), (4, .int v4)] [] := by
  unfold j_law_1231_23 at h
  refine V_aload_n (n := 1) X d_law_1231 rfl rfl rfl ?_
  refine V_aload_n (n := 0) X d_law_1232 rfl rfl rfl ?_
  refine V_iload (n := 4) X d_law_1233 rfl rfl ?_
  refine V_iconst (v := 1) X d_law_1235 (by decide) rfl ?_
  refine V_iadd X d_law_1236 rfl ?_
  obtain ⟨hb, h⟩ := ifn h
  refine V_sld X hX hbl hbA hb d_law_1237 rfl ?_
  obtain ⟨x104, hx104, h⟩ := ob_s h
  refine V_ci (As := [.int (xs (v4 + (1 : Int32)).toNatClampNeg)]) X hz0 ml_Lw_166 yq_Top_fights (c_Top_fights E.2.1 G (xs (v4 + (1 : Int32)).toNatClampNeg) M x104 hx104 _ (Nat.le_refl _)) kd_0 rfl rfl (by omega) rfl (Nat.le_of_ble_eq_true rfl) d_law_1238 rfl (fun r9 M9 hq => ?_)
  rw [hq.1, hq.2]
  refine V_pop X d_law_1241 rfl rfl ?_
  refine V_aload_n (n := 2) X d_law_1242 rfl rfl rfl ?_
  refine V_aload_n (n := 0) X d_law_1243 rfl rfl rfl ?_
  refine V_iload (n := 4) X d_law_1244 rfl rfl ?_
  refine V_iconst (v := 1) X d_law_1246 (by decide) rfl ?_
  refine V_iadd X d_law_1247 rfl ?_
  obtain ⟨hb, h⟩ := ifn h
  refine V_sld X hX hbl hbA hb d_law_1248 rfl ?_
  obtain ⟨x105, hx105, h⟩ := ob_s h
  refine V_ci (As := [.int (xs (v4 + (1 : Int32)).toNatClampNeg)]) X hz0 ml_Lw_169 yq_Mod_fights (c_Mod_fights E.2.1 G (xs (v4 + (1 : Int32)).toNatClampNeg) x104.2 x105 hx105 _ (Nat.le_refl _)) kd_162 rfl rfl (by omega) rfl (Nat.le_of_ble_eq_true rfl) d_law_1249 rfl (fun r9 M9 hq => ?_)
  rw [hq.1, hq.2]
  refine V_pop X d_law_1252 rfl rfl ?_
  refine V_goto (pc' := 1581) X d_law_1253 (by decide) ?_
  refine V_iinc (n := 4) (v := (v4 + (5 : Int32))) (lv' := [(4, .int (v4 + (5 : Int32))), (0, .ref b), (1, .ref (G.2.2 + 0)), (2, .ref (G.2.2 + 162)), (3, .ref (G.2.2 + 192))]) X d_law_1581 rfl rfl (by decide) rfl rfl ?_
  refine V_goto (pc' := 23) X d_law_1584 (by decide) ?_
  refine V_wid (cs' := (cs.1 + 1, cs.2 + 6)) ⟨Nat.le_succ _, Nat.le_add_right _ _⟩ ?_
  refine V_sub (lv' := [(0, .ref b), (1, .ref (G.2.2 + 0)), (2, .ref (G.2.2 + 162)), (3, .ref (G.2.2 + 192)), (4, .int (v4 + (5 : Int32)))]) [1, 2, 3, 4, 0] rfl ?_
  exact kc ((v4 + (5 : Int32)), x105.2) (Option.some.inj h).symm
def j_law_1256_23 (L : Nat) (xs : Nat → Int32) (v4 : Int32) (M : Mem) : Option ((Int32 × Mem) ⊕ ((Mem) ⊕ (Int32 × Mem))) :=
  Option.bind (f_Top_saved M) fun x107 =>
  Option.bind (f_Mod_saved x107.2) fun x108 =>
  some (.inl ((v4 + (5 : Int32)), x108.2))
theorem j_law_1256_23_ok {E : Ev} {cs : Nat × Nat} {G : Gw} {d : Nat} {Q : State → Prop} {b L : Nat} {xs : Nat → Int32} (X : Cx E G code "WomenByTheRoofsLaw" 7 d ret) (hz0 : Zc E cs) (hz : Zc E (cs.1 + 1, cs.2 + 6)) (hT : Tw G E.2.2.2.2.1 E.2.2.2.2.1.heap) (hl9 : E.2.1.stackTraces = false) (hX : va_X b L xs E.2.2.2.2.1 E.2.2.2.2.1.heap) (hbl : b < E.2.2.2.2.1.heap.size) (hbA : ¬ G.2.2 ≤ b) (hD : 450 ≤ d)  (v4 : Int32)  (M : Mem)  (o : (Int32 × Mem) ⊕ ((Mem) ⊕ (Int32 × Mem))) (h : j_law_1256_23 L xs v4 M = some o) (kc : ∀ s9 : Int32 × Mem, o = .inl s9 → V E (cs.1 + 1, cs.2 + 6) G 7 Q s9.2 23 [(0, .ref b), (1, .ref (G.2.2 + 0)), (2, .ref (G.2.2 + 162)), (3, .ref (G.2.2 + 192)), (4, .int s9.1)] []) (kx0 : ∀ x9 : Mem, o = .inr (Sum.inl x9) → V E (cs.1 + 1, cs.2 + 6) G 7 Q x9 1587 [] []) (kr : ∀ x9 : Int32 × Mem, o = .inr (Sum.inr x9) → False) : V E cs G 7 Q M 1256 [(0, .ref b), (1, .ref (G.2.2 + 0)), (2, .ref (G.2.2 + 162)), (3, .ref (G.2.2 + 192)), (4, .int v4)] [] := by
  unfold j_law_1256_23 at h
  refine V_aload_n (n := 1) X d_law_1256 rfl rfl rfl ?_
  obtain ⟨x107, hx107, h⟩ := ob_s h
  refine V_ci (As := []) X hz0 ml_Lw_170 yq_Top_saved (c_Top_saved E.2.1 G  M x107 hx107 _ (Nat.le_refl _)) kd_0 rfl rfl (by omega) rfl (Nat.le_of_ble_eq_true rfl) d_law_1257 rfl (fun r9 M9 hq => ?_)
  rw [hq.1, hq.2]
  refine V_pop X d_law_1260 rfl rfl ?_
  refine V_aload_n (n := 2) X d_law_1261 rfl rfl rfl ?_
  obtain ⟨x108, hx108, h⟩ := ob_s h
  refine V_ci (As := []) X hz0 ml_Lw_173 yq_Mod_saved (c_Mod_saved E.2.1 G  x107.2 x108 hx108 _ (Nat.le_refl _)) kd_162 rfl rfl (by omega) rfl (Nat.le_of_ble_eq_true rfl) d_law_1262 rfl (fun r9 M9 hq => ?_)
  rw [hq.1, hq.2]
  refine V_pop X d_law_1265 rfl rfl ?_
  refine V_goto (pc' := 1581) X d_law_1266 (by decide) ?_
  refine V_iinc (n := 4) (v := (v4 + (5 : Int32))) (lv' := [(4, .int (v4 + (5 : Int32))), (0, .ref b), (1, .ref (G.2.2 + 0)), (2, .ref (G.2.2 + 162)), (3, .ref (G.2.2 + 192))]) X d_law_1581 rfl rfl (by decide) rfl rfl ?_
  refine V_goto (pc' := 23) X d_law_1584 (by decide) ?_
  refine V_wid (cs' := (cs.1 + 1, cs.2 + 6)) ⟨Nat.le_succ _, Nat.le_add_right _ _⟩ ?_
  refine V_sub (lv' := [(0, .ref b), (1, .ref (G.2.2 + 0)), (2, .ref (G.2.2 + 162)), (3, .ref (G.2.2 + 192)), (4, .int (v4 + (5 : Int32)))]) [1, 2, 3, 4, 0] rfl ?_
  exact kc ((v4 + (5 : Int32)), x108.2) (Option.some.inj h).symm
def j_law_1269_23 (L : Nat) (xs : Nat → Int32) (v4 : Int32) (M : Mem) : Option ((Int32 × Mem) ⊕ ((Mem) ⊕ (Int32 × Mem))) :=
  if inb (v4 + (1 : Int32)) L = true then
  if inb (v4 + (2 : Int32)) L = true then
  Option.bind (f_Top_wardrobe (xs (v4 + (1 : Int32)).toNatClampNeg) (xs (v4 + (2 : Int32)).toNatClampNeg) M) fun x110 =>
  if inb (v4 + (1 : Int32)) L = true then
  if inb (v4 + (2 : Int32)) L = true then
  Option.bind (f_Mod_wardrobe (xs (v4 + (1 : Int32)).toNatClampNeg) (xs (v4 + (2 : Int32)).toNatClampNeg) x110.2) fun x111 =>
  some (.inl ((v4 + (5 : Int32)), x111.2))
  else none
  else none
  else none
  else none
theorem j_law_1269_23_ok {E : Ev} {cs : Nat × Nat} {G : Gw} {d : Nat} {Q : State → Prop} {b L : Nat} {xs : Nat → Int32} (X : Cx E G code "WomenByTheRoofsLaw" 7 d ret) (hz0 : Zc E cs) (hz : Zc E (cs.1 + 1, cs.2 + 6)) (hT : Tw G E.2.2.2.2.1 E.2.2.2.2.1.heap) (hl9 : E.2.1.stackTraces = false) (hX : va_X b L xs E.2.2.2.2.1 E.2.2.2.2.1.heap) (hbl : b < E.2.2.2.2.1.heap.size) (hbA : ¬ G.2.2 ≤ b) (hD : 450 ≤ d)  (v4 : Int32)  (M : Mem)  (o : (Int32 × Mem) ⊕ ((Mem) ⊕ (Int32 × Mem))) (h : j_law_1269_23 L xs v4 M = some o) (kc : ∀ s9 : Int32 × Mem, o = .inl s9 → V E (cs.1 + 1, cs.2 + 6) G 7 Q s9.2 23 [(0, .ref b), (1, .ref (G.2.2 + 0)), (2, .ref (G.2.2 + 162)), (3, .ref (G.2.2 + 192)), (4, .int s9.1)] []) (kx0 : ∀ x9 : Mem, o = .inr (Sum.inl x9) → V E (cs.1 + 1, cs.2 + 6) G 7 Q x9 1587 [] []) (kr : ∀ x9 : Int32 × Mem, o = .inr (Sum.inr x9) → False) : V E cs G 7 Q M 1269 [(0, .ref b), (1, .ref (G.2.2 + 0)), (2, .ref (G.2.2 + 162)), (3, .ref (G.2.2 + 192)), (4, .int v4)] [] := by
  unfold j_law_1269_23 at h
  refine V_aload_n (n := 1) X d_law_1269 rfl rfl rfl ?_
  refine V_aload_n (n := 0) X d_law_1270 rfl rfl rfl ?_
  refine V_iload (n := 4) X d_law_1271 rfl rfl ?_
  refine V_iconst (v := 1) X d_law_1273 (by decide) rfl ?_
  refine V_iadd X d_law_1274 rfl ?_
  obtain ⟨hb, h⟩ := ifn h
  refine V_sld X hX hbl hbA hb d_law_1275 rfl ?_
  refine V_aload_n (n := 0) X d_law_1276 rfl rfl rfl ?_
  refine V_iload (n := 4) X d_law_1277 rfl rfl ?_
  refine V_iconst (v := 2) X d_law_1279 (by decide) rfl ?_
  refine V_iadd X d_law_1280 rfl ?_
  obtain ⟨hb, h⟩ := ifn h
  refine V_sld X hX hbl hbA hb d_law_1281 rfl ?_
  obtain ⟨x110, hx110, h⟩ := ob_s h
  refine V_ci (As := [.int (xs (v4 + (1 : Int32)).toNatClampNeg), .int (xs (v4 + (2 : Int32)).toNatClampNeg)]) X hz0 ml_Lw_174 yq_Top_wardrobe (c_Top_wardrobe E.2.1 G (xs (v4 + (1 : Int32)).toNatClampNeg) (xs (v4 + (2 : Int32)).toNatClampNeg) M x110 hx110 _ (Nat.le_refl _)) kd_0 rfl rfl (by omega) rfl (Nat.le_of_ble_eq_true rfl) d_law_1282 rfl (fun r9 M9 hq => ?_)
  rw [hq.1, hq.2]
  refine V_pop X d_law_1285 rfl rfl ?_
  refine V_aload_n (n := 2) X d_law_1286 rfl rfl rfl ?_
  refine V_aload_n (n := 0) X d_law_1287 rfl rfl rfl ?_
  refine V_iload (n := 4) X d_law_1288 rfl rfl ?_
  refine V_iconst (v := 1) X d_law_1290 (by decide) rfl ?_
  refine V_iadd X d_law_1291 rfl ?_
  obtain ⟨hb, h⟩ := ifn h
  refine V_sld X hX hbl hbA hb d_law_1292 rfl ?_
  refine V_aload_n (n := 0) X d_law_1293 rfl rfl rfl ?_
  refine V_iload (n := 4) X d_law_1294 rfl rfl ?_
  refine V_iconst (v := 2) X d_law_1296 (by decide) rfl ?_
  refine V_iadd X d_law_1297 rfl ?_
  obtain ⟨hb, h⟩ := ifn h
  refine V_sld X hX hbl hbA hb d_law_1298 rfl ?_
  obtain ⟨x111, hx111, h⟩ := ob_s h
  refine V_ci (As := [.int (xs (v4 + (1 : Int32)).toNatClampNeg), .int (xs (v4 + (2 : Int32)).toNatClampNeg)]) X hz0 ml_Lw_177 yq_Mod_wardrobe (c_Mod_wardrobe E.2.1 G (xs (v4 + (1 : Int32)).toNatClampNeg) (xs (v4 + (2 : Int32)).toNatClampNeg) x110.2 x111 hx111 _ (Nat.le_refl _)) kd_162 rfl rfl (by omega) rfl (Nat.le_of_ble_eq_true rfl) d_law_1299 rfl (fun r9 M9 hq => ?_)
  rw [hq.1, hq.2]
  refine V_pop X d_law_1302 rfl rfl ?_
  refine V_goto (pc' := 1581) X d_law_1303 (by decide) ?_
  refine V_iinc (n := 4) (v := (v4 + (5 : Int32))) (lv' := [(4, .int (v4 + (5 : Int32))), (0, .ref b), (1, .ref (G.2.2 + 0)), (2, .ref (G.2.2 + 162)), (3, .ref (G.2.2 + 192))]) X d_law_1581 rfl rfl (by decide) rfl rfl ?_
  refine V_goto (pc' := 23) X d_law_1584 (by decide) ?_
  refine V_wid (cs' := (cs.1 + 1, cs.2 + 6)) ⟨Nat.le_succ _, Nat.le_add_right _ _⟩ ?_
  refine V_sub (lv' := [(0, .ref b), (1, .ref (G.2.2 + 0)), (2, .ref (G.2.2 + 162)), (3, .ref (G.2.2 + 192)), (4, .int (v4 + (5 : Int32)))]) [1, 2, 3, 4, 0] rfl ?_
  exact kc ((v4 + (5 : Int32)), x111.2) (Option.some.inj h).symm
def j_law_1306_23 (L : Nat) (xs : Nat → Int32) (v4 : Int32) (M : Mem) : Option ((Int32 × Mem) ⊕ ((Mem) ⊕ (Int32 × Mem))) :=
  if inb (v4 + (1 : Int32)) L = true then
  if inb (v4 + (2 : Int32)) L = true then
  if inb (v4 + (3 : Int32)) L = true then
  Option.bind (f_Top_flees (xs (v4 + (1 : Int32)).toNatClampNeg) (xs (v4 + (2 : Int32)).toNatClampNeg) (xs (v4 + (3 : Int32)).toNatClampNeg) M) fun x113 =>
  if inb (v4 + (1 : Int32)) L = true then
  if inb (v4 + (2 : Int32)) L = true then
  if inb (v4 + (3 : Int32)) L = true then
  Option.bind (f_Mod_flees (xs (v4 + (1 : Int32)).toNatClampNeg) (xs (v4 + (2 : Int32)).toNatClampNeg) (xs (v4 + (3 : Int32)).toNatClampNeg) x113.2) fun x114 =>
  some (.inl ((v4 + (5 : Int32)), x114.2))
  else none
  else none
  else none
  else none
  else none
  else none
theorem j_law_1306_23_ok {E : Ev} {cs : Nat × Nat} {G : Gw} {d : Nat} {Q : State → Prop} {b L : Nat} {xs : Nat → Int32} (X : Cx E G code "WomenByTheRoofsLaw" 7 d ret) (hz0 : Zc E cs) (hz : Zc E (cs.1 + 1, cs.2 + 6)) (hT : Tw G E.2.2.2.2.1 E.2.2.2.2.1.heap) (hl9 : E.2.1.stackTraces = false) (hX : va_X b L xs E.2.2.2.2.1 E.2.2.2.2.1.heap) (hbl : b < E.2.2.2.2.1.heap.size) (hbA : ¬ G.2.2 ≤ b) (hD : 450 ≤ d)  (v4 : Int32)  (M : Mem)  (o : (Int32 × Mem) ⊕ ((Mem) ⊕ (Int32 × Mem))) (h : j_law_1306_23 L xs v4 M = some o) (kc : ∀ s9 : Int32 × Mem, o = .inl s9 → V E (cs.1 + 1, cs.2 + 6) G 7 Q s9.2 23 [(0, .ref b), (1, .ref (G.2.2 + 0)), (2, .ref (G.2.2 + 162)), (3, .ref (G.2.2 + 192)), (4, .int s9.1)] []) (kx0 : ∀ x9 : Mem, o = .inr (Sum.inl x9) → V E (cs.1 + 1, cs.2 + 6) G 7 Q x9 1587 [] []) (kr : ∀ x9 : Int32 × Mem, o = .inr (Sum.inr x9) → False) : V E cs G 7 Q M 1306 [(0, .ref b), (1, .ref (G.2.2 + 0)), (2, .ref (G.2.2 + 162)), (3, .ref (G.2.2 + 192)), (4, .int v4)] [] := by
  unfold j_law_1306_23 at h
  refine V_aload_n (n := 1) X d_law_1306 rfl rfl rfl ?_
  refine V_aload_n (n := 0) X d_law_1307 rfl rfl rfl ?_
  refine V_iload (n := 4) X d_law_1308 rfl rfl ?_
  refine V_iconst (v := 1) X d_law_1310 (by decide) rfl ?_
  refine V_iadd X d_law_1311 rfl ?_
  obtain ⟨hb, h⟩ := ifn h
  refine V_sld X hX hbl hbA hb d_law_1312 rfl ?_
  refine V_aload_n (n := 0) X d_law_1313 rfl rfl rfl ?_
  refine V_iload (n := 4) X d_law_1314 rfl rfl ?_
  refine V_iconst (v := 2) X d_law_1316 (by decide) rfl ?_
  refine V_iadd X d_law_1317 rfl ?_
  obtain ⟨hb, h⟩ := ifn h
  refine V_sld X hX hbl hbA hb d_law_1318 rfl ?_
  refine V_aload_n (n := 0) X d_law_1319 rfl rfl rfl ?_
  refine V_iload (n := 4) X d_law_1320 rfl rfl ?_
  refine V_iconst (v := 3) X d_law_1322 (by decide) rfl ?_
  refine V_iadd X d_law_1323 rfl ?_
  obtain ⟨hb, h⟩ := ifn h
  refine V_sld X hX hbl hbA hb d_law_1324 rfl ?_
  obtain ⟨x113, hx113, h⟩ := ob_s h
  refine V_ci (As := [.int (xs (v4 + (1 : Int32)).toNatClampNeg), .int (xs (v4 + (2 : Int32)).toNatClampNeg), .int (xs (v4 + (3 : Int32)).toNatClampNeg)]) X hz0 ml_Lw_178 yq_Top_flees (c_Top_flees E.2.1 G (xs (v4 + (1 : Int32)).toNatClampNeg) (xs (v4 + (2 : Int32)).toNatClampNeg) (xs (v4 + (3 : Int32)).toNatClampNeg) M x113 hx113 _ (Nat.le_refl _)) kd_0 rfl rfl (by omega) rfl (Nat.le_of_ble_eq_true rfl) d_law_1325 rfl (fun r9 M9 hq => ?_)
  rw [hq.1, hq.2]
  refine V_pop X d_law_1328 rfl rfl ?_
  refine V_aload_n (n := 2) X d_law_1329 rfl rfl rfl ?_
  refine V_aload_n (n := 0) X d_law_1330 rfl rfl rfl ?_
  refine V_iload (n := 4) X d_law_1331 rfl rfl ?_
  refine V_iconst (v := 1) X d_law_1333 (by decide) rfl ?_
  refine V_iadd X d_law_1334 rfl ?_
  obtain ⟨hb, h⟩ := ifn h
  refine V_sld X hX hbl hbA hb d_law_1335 rfl ?_
  refine V_aload_n (n := 0) X d_law_1336 rfl rfl rfl ?_
  refine V_iload (n := 4) X d_law_1337 rfl rfl ?_
  refine V_iconst (v := 2) X d_law_1339 (by decide) rfl ?_
  refine V_iadd X d_law_1340 rfl ?_
  obtain ⟨hb, h⟩ := ifn h
  refine V_sld X hX hbl hbA hb d_law_1341 rfl ?_
  refine V_aload_n (n := 0) X d_law_1342 rfl rfl rfl ?_
  refine V_iload (n := 4) X d_law_1343 rfl rfl ?_
  refine V_iconst (v := 3) X d_law_1345 (by decide) rfl ?_
  refine V_iadd X d_law_1346 rfl ?_
  obtain ⟨hb, h⟩ := ifn h
  refine V_sld X hX hbl hbA hb d_law_1347 rfl ?_
  obtain ⟨x114, hx114, h⟩ := ob_s h
  refine V_ci (As := [.int (xs (v4 + (1 : Int32)).toNatClampNeg), .int (xs (v4 + (2 : Int32)).toNatClampNeg), .int (xs (v4 + (3 : Int32)).toNatClampNeg)]) X hz0 ml_Lw_181 yq_Mod_flees (c_Mod_flees E.2.1 G (xs (v4 + (1 : Int32)).toNatClampNeg) (xs (v4 + (2 : Int32)).toNatClampNeg) (xs (v4 + (3 : Int32)).toNatClampNeg) x113.2 x114 hx114 _ (Nat.le_refl _)) kd_162 rfl rfl (by omega) rfl (Nat.le_of_ble_eq_true rfl) d_law_1348 rfl (fun r9 M9 hq => ?_)
  rw [hq.1, hq.2]
  refine V_pop X d_law_1351 rfl rfl ?_
  refine V_goto (pc' := 1581) X d_law_1352 (by decide) ?_
  refine V_iinc (n := 4) (v := (v4 + (5 : Int32))) (lv' := [(4, .int (v4 + (5 : Int32))), (0, .ref b), (1, .ref (G.2.2 + 0)), (2, .ref (G.2.2 + 162)), (3, .ref (G.2.2 + 192))]) X d_law_1581 rfl rfl (by decide) rfl rfl ?_
  refine V_goto (pc' := 23) X d_law_1584 (by decide) ?_
  refine V_wid (cs' := (cs.1 + 1, cs.2 + 6)) ⟨Nat.le_succ _, Nat.le_add_right _ _⟩ ?_
  refine V_sub (lv' := [(0, .ref b), (1, .ref (G.2.2 + 0)), (2, .ref (G.2.2 + 162)), (3, .ref (G.2.2 + 192)), (4, .int (v4 + (5 : Int32)))]) [1, 2, 3, 4, 0] rfl ?_
  exact kc ((v4 + (5 : Int32)), x114.2) (Option.some.inj h).symm
def j_law_1355_23 (L : Nat) (xs : Nat → Int32) (v4 : Int32) (M : Mem) : Option ((Int32 × Mem) ⊕ ((Mem) ⊕ (Int32 × Mem))) :=
  if inb (v4 + (1 : Int32)) L = true then
  Option.bind (f_Top_lairs (xs (v4 + (1 : Int32)).toNatClampNeg) M) fun x116 =>
  if inb (v4 + (1 : Int32)) L = true then
  Option.bind (f_Mod_lairs (xs (v4 + (1 : Int32)).toNatClampNeg) x116.2) fun x117 =>
  some (.inl ((v4 + (5 : Int32)), x117.2))
  else none
  else none
theorem j_law_1355_23_ok {E : Ev} {cs : Nat × Nat} {G : Gw} {d : Nat} {Q : State → Prop} {b L : Nat} {xs : Nat → Int32} (X : Cx E G code "WomenByTheRoofsLaw" 7 d ret) (hz0 : Zc E cs) (hz : Zc E (cs.1 + 1, cs.2 + 6)) (hT : Tw G E.2.2.2.2.1 E.2.2.2.2.1.heap) (hl9 : E.2.1.stackTraces = false) (hX : va_X b L xs E.2.2.2.2.1 E.2.2.2.2.1.heap) (hbl : b < E.2.2.2.2.1.heap.size) (hbA : ¬ G.2.2 ≤ b) (hD : 450 ≤ d)  (v4 : Int32)  (M : Mem)  (o : (Int32 × Mem) ⊕ ((Mem) ⊕ (Int32 × Mem))) (h : j_law_1355_23 L xs v4 M = some o) (kc : ∀ s9 : Int32 × Mem, o = .inl s9 → V E (cs.1 + 1, cs.2 + 6) G 7 Q s9.2 23 [(0, .ref b), (1, .ref (G.2.2 + 0)), (2, .ref (G.2.2 + 162)), (3, .ref (G.2.2 + 192)), (4, .int s9.1)] []) (kx0 : ∀ x9 : Mem, o = .inr (Sum.inl x9) → V E (cs.1 + 1, cs.2 + 6) G 7 Q x9 1587 [] []) (kr : ∀ x9 : Int32 × Mem, o = .inr (Sum.inr x9) → False) : V E cs G 7 Q M 1355 [(0, .ref b), (1, .ref (G.2.2 + 0)), (2, .ref (G.2.2 + 162)), (3, .ref (G.2.2 + 192)), (4, .int v4)] [] := by
  unfold j_law_1355_23 at h
  refine V_aload_n (n := 1) X d_law_1355 rfl rfl rfl ?_
  refine V_aload_n (n := 0) X d_law_1356 rfl rfl rfl ?_
  refine V_iload (n := 4) X d_law_1357 rfl rfl ?_
  refine V_iconst (v := 1) X d_law_1359 (by decide) rfl ?_
  refine V_iadd X d_law_1360 rfl ?_
  obtain ⟨hb, h⟩ := ifn h
  refine V_sld X hX hbl hbA hb d_law_1361 rfl ?_
  obtain ⟨x116, hx116, h⟩ := ob_s h
  refine V_ci (As := [.int (xs (v4 + (1 : Int32)).toNatClampNeg)]) X hz0 ml_Lw_182 yq_Top_lairs (c_Top_lairs E.2.1 G (xs (v4 + (1 : Int32)).toNatClampNeg) M x116 hx116 _ (Nat.le_refl _)) kd_0 rfl rfl (by omega) rfl (Nat.le_of_ble_eq_true rfl) d_law_1362 rfl (fun r9 M9 hq => ?_)
  rw [hq.1, hq.2]
  refine V_pop X d_law_1365 rfl rfl ?_
  refine V_aload_n (n := 2) X d_law_1366 rfl rfl rfl ?_
  refine V_aload_n (n := 0) X d_law_1367 rfl rfl rfl ?_
  refine V_iload (n := 4) X d_law_1368 rfl rfl ?_
  refine V_iconst (v := 1) X d_law_1370 (by decide) rfl ?_
  refine V_iadd X d_law_1371 rfl ?_
  obtain ⟨hb, h⟩ := ifn h
  refine V_sld X hX hbl hbA hb d_law_1372 rfl ?_
  obtain ⟨x117, hx117, h⟩ := ob_s h
  refine V_ci (As := [.int (xs (v4 + (1 : Int32)).toNatClampNeg)]) X hz0 ml_Lw_185 yq_Mod_lairs (c_Mod_lairs E.2.1 G (xs (v4 + (1 : Int32)).toNatClampNeg) x116.2 x117 hx117 _ (Nat.le_refl _)) kd_162 rfl rfl (by omega) rfl (Nat.le_of_ble_eq_true rfl) d_law_1373 rfl (fun r9 M9 hq => ?_)
  rw [hq.1, hq.2]
  refine V_pop X d_law_1376 rfl rfl ?_
  refine V_goto (pc' := 1581) X d_law_1377 (by decide) ?_
  refine V_iinc (n := 4) (v := (v4 + (5 : Int32))) (lv' := [(4, .int (v4 + (5 : Int32))), (0, .ref b), (1, .ref (G.2.2 + 0)), (2, .ref (G.2.2 + 162)), (3, .ref (G.2.2 + 192))]) X d_law_1581 rfl rfl (by decide) rfl rfl ?_
  refine V_goto (pc' := 23) X d_law_1584 (by decide) ?_
  refine V_wid (cs' := (cs.1 + 1, cs.2 + 6)) ⟨Nat.le_succ _, Nat.le_add_right _ _⟩ ?_
  refine V_sub (lv' := [(0, .ref b), (1, .ref (G.2.2 + 0)), (2, .ref (G.2.2 + 162)), (3, .ref (G.2.2 + 192)), (4, .int (v4 + (5 : Int32)))]) [1, 2, 3, 4, 0] rfl ?_
  exact kc ((v4 + (5 : Int32)), x117.2) (Option.some.inj h).symm
def j_law_1380_23 (L : Nat) (xs : Nat → Int32) (v4 : Int32) (M : Mem) : Option ((Int32 × Mem) ⊕ ((Mem) ⊕ (Int32 × Mem))) :=
  if inb (v4 + (1 : Int32)) L = true then
  if inb (v4 + (2 : Int32)) L = true then
  Option.bind (f_Top_caught (xs (v4 + (1 : Int32)).toNatClampNeg) (xs (v4 + (2 : Int32)).toNatClampNeg) M) fun x119 =>
  if inb (v4 + (1 : Int32)) L = true then
  if inb (v4 + (2 : Int32)) L = true then
  Option.bind (f_Mod_caught (xs (v4 + (1 : Int32)).toNatClampNeg) (xs (v4 + (2 : Int32)).toNatClampNeg) x119.2) fun x120 =>
  some (.inl ((v4 + (5 : Int32)), x120.2))
  else none
  else none
  else none
  else none
theorem j_law_1380_23_ok {E : Ev} {cs : Nat × Nat} {G : Gw} {d : Nat} {Q : State → Prop} {b L : Nat} {xs : Nat → Int32} (X : Cx E G code "WomenByTheRoofsLaw" 7 d ret) (hz0 : Zc E cs) (hz : Zc E (cs.1 + 1, cs.2 + 6)) (hT : Tw G E.2.2.2.2.1 E.2.2.2.2.1.heap) (hl9 : E.2.1.stackTraces = false) (hX : va_X b L xs E.2.2.2.2.1 E.2.2.2.2.1.heap) (hbl : b < E.2.2.2.2.1.heap.size) (hbA : ¬ G.2.2 ≤ b) (hD : 450 ≤ d)  (v4 : Int32)  (M : Mem)  (o : (Int32 × Mem) ⊕ ((Mem) ⊕ (Int32 × Mem))) (h : j_law_1380_23 L xs v4 M = some o) (kc : ∀ s9 : Int32 × Mem, o = .inl s9 → V E (cs.1 + 1, cs.2 + 6) G 7 Q s9.2 23 [(0, .ref b), (1, .ref (G.2.2 + 0)), (2, .ref (G.2.2 + 162)), (3, .ref (G.2.2 + 192)), (4, .int s9.1)] []) (kx0 : ∀ x9 : Mem, o = .inr (Sum.inl x9) → V E (cs.1 + 1, cs.2 + 6) G 7 Q x9 1587 [] []) (kr : ∀ x9 : Int32 × Mem, o = .inr (Sum.inr x9) → False) : V E cs G 7 Q M 1380 [(0, .ref b), (1, .ref (G.2.2 + 0)), (2, .ref (G.2.2 + 162)), (3, .ref (G.2.2 + 192)), (4, .int v4)] [] := by
  unfold j_law_1380_23 at h
  refine V_aload_n (n := 1) X d_law_1380 rfl rfl rfl ?_
  refine V_aload_n (n := 0) X d_law_1381 rfl rfl rfl ?_
  refine V_iload (n := 4) X d_law_1382 rfl rfl ?_
  refine V_iconst (v := 1) X d_law_1384 (by decide) rfl ?_
  refine V_iadd X d_law_1385 rfl ?_
  obtain ⟨hb, h⟩ := ifn h
  refine V_sld X hX hbl hbA hb d_law_1386 rfl ?_
  refine V_aload_n (n := 0) X d_law_1387 rfl rfl rfl ?_
  refine V_iload (n := 4) X d_law_1388 rfl rfl ?_
  refine V_iconst (v := 2) X d_law_1390 (by decide) rfl ?_
  refine V_iadd X d_law_1391 rfl ?_
  obtain ⟨hb, h⟩ := ifn h
  refine V_sld X hX hbl hbA hb d_law_1392 rfl ?_
  obtain ⟨x119, hx119, h⟩ := ob_s h
  refine V_ci (As := [.int (xs (v4 + (1 : Int32)).toNatClampNeg), .int (xs (v4 + (2 : Int32)).toNatClampNeg)]) X hz0 ml_Lw_186 yq_Top_caught (c_Top_caught E.2.1 G (xs (v4 + (1 : Int32)).toNatClampNeg) (xs (v4 + (2 : Int32)).toNatClampNeg) M x119 hx119 _ (Nat.le_refl _)) kd_0 rfl rfl (by omega) rfl (Nat.le_of_ble_eq_true rfl) d_law_1393 rfl (fun r9 M9 hq => ?_)
  rw [hq.1, hq.2]
  refine V_pop X d_law_1396 rfl rfl ?_
  refine V_aload_n (n := 2) X d_law_1397 rfl rfl rfl ?_
  refine V_aload_n (n := 0) X d_law_1398 rfl rfl rfl ?_
  refine V_iload (n := 4) X d_law_1399 rfl rfl ?_
  refine V_iconst (v := 1) X d_law_1401 (by decide) rfl ?_
  refine V_iadd X d_law_1402 rfl ?_
  obtain ⟨hb, h⟩ := ifn h
  refine V_sld X hX hbl hbA hb d_law_1403 rfl ?_
  refine V_aload_n (n := 0) X d_law_1404 rfl rfl rfl ?_
  refine V_iload (n := 4) X d_law_1405 rfl rfl ?_
  refine V_iconst (v := 2) X d_law_1407 (by decide) rfl ?_
  refine V_iadd X d_law_1408 rfl ?_
  obtain ⟨hb, h⟩ := ifn h
  refine V_sld X hX hbl hbA hb d_law_1409 rfl ?_
  obtain ⟨x120, hx120, h⟩ := ob_s h
  refine V_ci (As := [.int (xs (v4 + (1 : Int32)).toNatClampNeg), .int (xs (v4 + (2 : Int32)).toNatClampNeg)]) X hz0 ml_Lw_189 yq_Mod_caught (c_Mod_caught E.2.1 G (xs (v4 + (1 : Int32)).toNatClampNeg) (xs (v4 + (2 : Int32)).toNatClampNeg) x119.2 x120 hx120 _ (Nat.le_refl _)) kd_162 rfl rfl (by omega) rfl (Nat.le_of_ble_eq_true rfl) d_law_1410 rfl (fun r9 M9 hq => ?_)
  rw [hq.1, hq.2]
  refine V_pop X d_law_1413 rfl rfl ?_
  refine V_goto (pc' := 1581) X d_law_1414 (by decide) ?_
  refine V_iinc (n := 4) (v := (v4 + (5 : Int32))) (lv' := [(4, .int (v4 + (5 : Int32))), (0, .ref b), (1, .ref (G.2.2 + 0)), (2, .ref (G.2.2 + 162)), (3, .ref (G.2.2 + 192))]) X d_law_1581 rfl rfl (by decide) rfl rfl ?_
  refine V_goto (pc' := 23) X d_law_1584 (by decide) ?_
  refine V_wid (cs' := (cs.1 + 1, cs.2 + 6)) ⟨Nat.le_succ _, Nat.le_add_right _ _⟩ ?_
  refine V_sub (lv' := [(0, .ref b), (1, .ref (G.2.2 + 0)), (2, .ref (G.2.2 + 162)), (3, .ref (G.2.2 + 192)), (4, .int (v4 + (5 : Int32)))]) [1, 2, 3, 4, 0] rfl ?_
  exact kc ((v4 + (5 : Int32)), x120.2) (Option.some.inj h).symm
def j_law_1417_23 (L : Nat) (xs : Nat → Int32) (v4 : Int32) (M : Mem) : Option ((Int32 × Mem) ⊕ ((Mem) ⊕ (Int32 × Mem))) :=
  if inb (v4 + (1 : Int32)) L = true then
  if inb (v4 + (2 : Int32)) L = true then
  if inb (v4 + (3 : Int32)) L = true then
  if inb (v4 + (4 : Int32)) L = true then
  Option.bind (f_Top_watch (xs (v4 + (1 : Int32)).toNatClampNeg) (xs (v4 + (2 : Int32)).toNatClampNeg) (xs (v4 + (3 : Int32)).toNatClampNeg) (xs (v4 + (4 : Int32)).toNatClampNeg) M) fun x122 =>
  if inb (v4 + (1 : Int32)) L = true then
  if inb (v4 + (2 : Int32)) L = true then
  if inb (v4 + (3 : Int32)) L = true then
  if inb (v4 + (4 : Int32)) L = true then
  Option.bind (f_Mod_watch (xs (v4 + (1 : Int32)).toNatClampNeg) (xs (v4 + (2 : Int32)).toNatClampNeg) (xs (v4 + (3 : Int32)).toNatClampNeg) (xs (v4 + (4 : Int32)).toNatClampNeg) x122.2) fun x123 =>
  some (.inl ((v4 + (5 : Int32)), x123.2))
  else none
  else none
  else none
  else none
  else none
  else none
  else none
  else none
theorem j_law_1417_23_ok {E : Ev} {cs : Nat × Nat} {G : Gw} {d : Nat} {Q : State → Prop} {b L : Nat} {xs : Nat → Int32} (X : Cx E G code "WomenByTheRoofsLaw" 7 d ret) (hz0 : Zc E cs) (hz : Zc E (cs.1 + 1, cs.2 + 6)) (hT : Tw G E.2.2.2.2.1 E.2.2.2.2.1.heap) (hl9 : E.2.1.stackTraces = false) (hX : va_X b L xs E.2.2.2.2.1 E.2.2.2.2.1.heap) (hbl : b < E.2.2.2.2.1.heap.size) (hbA : ¬ G.2.2 ≤ b) (hD : 450 ≤ d)  (v4 : Int32)  (M : Mem)  (o : (Int32 × Mem) ⊕ ((Mem) ⊕ (Int32 × Mem))) (h : j_law_1417_23 L xs v4 M = some o) (kc : ∀ s9 : Int32 × Mem, o = .inl s9 → V E (cs.1 + 1, cs.2 + 6) G 7 Q s9.2 23 [(0, .ref b), (1, .ref (G.2.2 + 0)), (2, .ref (G.2.2 + 162)), (3, .ref (G.2.2 + 192)), (4, .int s9.1)] []) (kx0 : ∀ x9 : Mem, o = .inr (Sum.inl x9) → V E (cs.1 + 1, cs.2 + 6) G 7 Q x9 1587 [] []) (kr : ∀ x9 : Int32 × Mem, o = .inr (Sum.inr x9) → False) : V E cs G 7 Q M 1417 [(0, .ref b), (1, .ref (G.2.2 + 0)), (2, .ref (G.2.2 + 162)), (3, .ref (G.2.2 + 192)), (4, .int v4)] [] := by
  unfold j_law_1417_23 at h
  refine V_aload_n (n := 1) X d_law_1417 rfl rfl rfl ?_
  refine V_aload_n (n := 0) X d_law_1418 rfl rfl rfl ?_
  refine V_iload (n := 4) X d_law_1419 rfl rfl ?_
  refine V_iconst (v := 1) X d_law_1421 (by decide) rfl ?_
  refine V_iadd X d_law_1422 rfl ?_
  obtain ⟨hb, h⟩ := ifn h
  refine V_sld X hX hbl hbA hb d_law_1423 rfl ?_
  refine V_aload_n (n := 0) X d_law_1424 rfl rfl rfl ?_
  refine V_iload (n := 4) X d_law_1425 rfl rfl ?_
  refine V_iconst (v := 2) X d_law_1427 (by decide) rfl ?_
  refine V_iadd X d_law_1428 rfl ?_
  obtain ⟨hb, h⟩ := ifn h
  refine V_sld X hX hbl hbA hb d_law_1429 rfl ?_
  refine V_aload_n (n := 0) X d_law_1430 rfl rfl rfl ?_
  refine V_iload (n := 4) X d_law_1431 rfl rfl ?_
  refine V_iconst (v := 3) X d_law_1433 (by decide) rfl ?_
  refine V_iadd X d_law_1434 rfl ?_
  obtain ⟨hb, h⟩ := ifn h
  refine V_sld X hX hbl hbA hb d_law_1435 rfl ?_
  refine V_aload_n (n := 0) X d_law_1436 rfl rfl rfl ?_
  refine V_iload (n := 4) X d_law_1437 rfl rfl ?_
  refine V_iconst (v := 4) X d_law_1439 (by decide) rfl ?_
  refine V_iadd X d_law_1440 rfl ?_
  obtain ⟨hb, h⟩ := ifn h
  refine V_sld X hX hbl hbA hb d_law_1441 rfl ?_
  obtain ⟨x122, hx122, h⟩ := ob_s h
  refine V_ci (As := [.int (xs (v4 + (1 : Int32)).toNatClampNeg), .int (xs (v4 + (2 : Int32)).toNatClampNeg), .int (xs (v4 + (3 : Int32)).toNatClampNeg), .int (xs (v4 + (4 : Int32)).toNatClampNeg)]) X hz0 ml_Lw_190 yq_Top_watch (c_Top_watch E.2.1 G (xs (v4 + (1 : Int32)).toNatClampNeg) (xs (v4 + (2 : Int32)).toNatClampNeg) (xs (v4 + (3 : Int32)).toNatClampNeg) (xs (v4 + (4 : Int32)).toNatClampNeg) M x122 hx122 _ (Nat.le_refl _)) kd_0 rfl rfl (by omega) rfl (Nat.le_of_ble_eq_true rfl) d_law_1442 rfl (fun r9 M9 hq => ?_)
  rw [hq.1, hq.2]
  refine V_pop X d_law_1445 rfl rfl ?_
  refine V_aload_n (n := 2) X d_law_1446 rfl rfl rfl ?_
  refine V_aload_n (n := 0) X d_law_1447 rfl rfl rfl ?_
  refine V_iload (n := 4) X d_law_1448 rfl rfl ?_
  refine V_iconst (v := 1) X d_law_1450 (by decide) rfl ?_
  refine V_iadd X d_law_1451 rfl ?_
  obtain ⟨hb, h⟩ := ifn h
  refine V_sld X hX hbl hbA hb d_law_1452 rfl ?_
  refine V_aload_n (n := 0) X d_law_1453 rfl rfl rfl ?_
  refine V_iload (n := 4) X d_law_1454 rfl rfl ?_
  refine V_iconst (v := 2) X d_law_1456 (by decide) rfl ?_
  refine V_iadd X d_law_1457 rfl ?_
  obtain ⟨hb, h⟩ := ifn h
  refine V_sld X hX hbl hbA hb d_law_1458 rfl ?_
  refine V_aload_n (n := 0) X d_law_1459 rfl rfl rfl ?_
  refine V_iload (n := 4) X d_law_1460 rfl rfl ?_
  refine V_iconst (v := 3) X d_law_1462 (by decide) rfl ?_
  refine V_iadd X d_law_1463 rfl ?_
  obtain ⟨hb, h⟩ := ifn h
  refine V_sld X hX hbl hbA hb d_law_1464 rfl ?_
  refine V_aload_n (n := 0) X d_law_1465 rfl rfl rfl ?_
  refine V_iload (n := 4) X d_law_1466 rfl rfl ?_
  refine V_iconst (v := 4) X d_law_1468 (by decide) rfl ?_
  refine V_iadd X d_law_1469 rfl ?_
  obtain ⟨hb, h⟩ := ifn h
  refine V_sld X hX hbl hbA hb d_law_1470 rfl ?_
  obtain ⟨x123, hx123, h⟩ := ob_s h
  refine V_ci (As := [.int (xs (v4 + (1 : Int32)).toNatClampNeg), .int (xs (v4 + (2 : Int32)).toNatClampNeg), .int (xs (v4 + (3 : Int32)).toNatClampNeg), .int (xs (v4 + (4 : Int32)).toNatClampNeg)]) X hz0 ml_Lw_193 yq_Mod_watch (c_Mod_watch E.2.1 G (xs (v4 + (1 : Int32)).toNatClampNeg) (xs (v4 + (2 : Int32)).toNatClampNeg) (xs (v4 + (3 : Int32)).toNatClampNeg) (xs (v4 + (4 : Int32)).toNatClampNeg) x122.2 x123 hx123 _ (Nat.le_refl _)) kd_162 rfl rfl (by omega) rfl (Nat.le_of_ble_eq_true rfl) d_law_1471 rfl (fun r9 M9 hq => ?_)
  rw [hq.1, hq.2]
  refine V_pop X d_law_1474 rfl rfl ?_
  refine V_goto (pc' := 1581) X d_law_1475 (by decide) ?_
  refine V_iinc (n := 4) (v := (v4 + (5 : Int32))) (lv' := [(4, .int (v4 + (5 : Int32))), (0, .ref b), (1, .ref (G.2.2 + 0)), (2, .ref (G.2.2 + 162)), (3, .ref (G.2.2 + 192))]) X d_law_1581 rfl rfl (by decide) rfl rfl ?_
  refine V_goto (pc' := 23) X d_law_1584 (by decide) ?_
  refine V_wid (cs' := (cs.1 + 1, cs.2 + 6)) ⟨Nat.le_succ _, Nat.le_add_right _ _⟩ ?_
  refine V_sub (lv' := [(0, .ref b), (1, .ref (G.2.2 + 0)), (2, .ref (G.2.2 + 162)), (3, .ref (G.2.2 + 192)), (4, .int (v4 + (5 : Int32)))]) [1, 2, 3, 4, 0] rfl ?_
  exact kc ((v4 + (5 : Int32)), x123.2) (Option.some.inj h).symm
def j_law_1478_23 (L : Nat) (xs : Nat → Int32) (v4 : Int32) (M : Mem) : Option ((Int32 × Mem) ⊕ ((Mem) ⊕ (Int32 × Mem))) :=
  if inb (v4 + (1 : Int32)) L = true then
  Option.bind (f_Top_keep (xs (v4 + (1 : Int32)).toNatClampNeg) M) fun x125 =>
  if inb (v4 + (1 : Int32)) L = true then
  Option.bind (f_Mod_keep (xs (v4 + (1 : Int32)).toNatClampNeg) x125.2) fun x126 =>
  some (.inl ((v4 + (5 : Int32)), x126.2))
  else none
  else none
theorem j_law_1478_23_ok {E : Ev} {cs : Nat × Nat} {G : Gw} {d : Nat} {Q : State → Prop} {b L : Nat} {xs : Nat → Int32} (X : Cx E G code "WomenByTheRoofsLaw" 7 d ret) (hz0 : Zc E cs) (hz : Zc E (cs.1 + 1, cs.2 + 6)) (hT : Tw G E.2.2.2.2.1 E.2.2.2.2.1.heap) (hl9 : E.2.1.stackTraces = false) (hX : va_X b L xs E.2.2.2.2.1 E.2.2.2.2.1.heap) (hbl : b < E.2.2.2.2.1.heap.size) (hbA : ¬ G.2.2 ≤ b) (hD : 450 ≤ d)  (v4 : Int32)  (M : Mem)  (o : (Int32 × Mem) ⊕ ((Mem) ⊕ (Int32 × Mem))) (h : j_law_1478_23 L xs v4 M = some o) (kc : ∀ s9 : Int32 × Mem, o = .inl s9 → V E (cs.1 + 1, cs.2 + 6) G 7 Q s9.2 23 [(0, .ref b), (1, .ref (G.2.2 + 0)), (2, .ref (G.2.2 + 162)), (3, .ref (G.2.2 + 192)), (4, .int s9.1)] []) (kx0 : ∀ x9 : Mem, o = .inr (Sum.inl x9) → V E (cs.1 + 1, cs.2 + 6) G 7 Q x9 1587 [] []) (kr : ∀ x9 : Int32 × Mem, o = .inr (Sum.inr x9) → False) : V E cs G 7 Q M 1478 [(0, .ref b), (1, .ref (G.2.2 + 0)), (2, .ref (G.2.2 + 162)), (3, .ref (G.2.2 + 192)), (4, .int v4)] [] := by
  unfold j_law_1478_23 at h
  refine V_aload_n (n := 1) X d_law_1478 rfl rfl rfl ?_
  refine V_aload_n (n := 0) X d_law_1479 rfl rfl rfl ?_
  refine V_iload (n := 4) X d_law_1480 rfl rfl ?_
  refine V_iconst (v := 1) X d_law_1482 (by decide) rfl ?_
  refine V_iadd X d_law_1483 rfl ?_
  obtain ⟨hb, h⟩ := ifn h
  refine V_sld X hX hbl hbA hb d_law_1484 rfl ?_
  obtain ⟨x125, hx125, h⟩ := ob_s h
  refine V_ci (As := [.int (xs (v4 + (1 : Int32)).toNatClampNeg)]) X hz0 ml_Lw_194 yq_Top_keep (c_Top_keep E.2.1 G (xs (v4 + (1 : Int32)).toNatClampNeg) M x125 hx125 _ (Nat.le_refl _)) kd_0 rfl rfl (by omega) rfl (Nat.le_of_ble_eq_true rfl) d_law_1485 rfl (fun r9 M9 hq => ?_)
  rw [hq.1, hq.2]
  refine V_pop X d_law_1488 rfl rfl ?_
  refine V_aload_n (n := 2) X d_law_1489 rfl rfl rfl ?_
  refine V_aload_n (n := 0) X d_law_1490 rfl rfl rfl ?_
  refine V_iload (n := 4) X d_law_1491 rfl rfl ?_
  refine V_iconst (v := 1) X d_law_1493 (by decide) rfl ?_
  refine V_iadd X d_law_1494 rfl ?_
  obtain ⟨hb, h⟩ := ifn h
  refine V_sld X hX hbl hbA hb d_law_1495 rfl ?_
  obtain ⟨x126, hx126, h⟩ := ob_s h
  refine V_ci (As := [.int (xs (v4 + (1 : Int32)).toNatClampNeg)]) X hz0 ml_Lw_197 yq_Mod_keep (c_Mod_keep E.2.1 G (xs (v4 + (1 : Int32)).toNatClampNeg) x125.2 x126 hx126 _ (Nat.le_refl _)) kd_162 rfl rfl (by omega) rfl (Nat.le_of_ble_eq_true rfl) d_law_1496 rfl (fun r9 M9 hq => ?_)
  rw [hq.1, hq.2]
  refine V_pop X d_law_1499 rfl rfl ?_
  refine V_goto (pc' := 1581) X d_law_1500 (by decide) ?_
  refine V_iinc (n := 4) (v := (v4 + (5 : Int32))) (lv' := [(4, .int (v4 + (5 : Int32))), (0, .ref b), (1, .ref (G.2.2 + 0)), (2, .ref (G.2.2 + 162)), (3, .ref (G.2.2 + 192))]) X d_law_1581 rfl rfl (by decide) rfl rfl ?_
  refine V_goto (pc' := 23) X d_law_1584 (by decide) ?_
  refine V_wid (cs' := (cs.1 + 1, cs.2 + 6)) ⟨Nat.le_succ _, Nat.le_add_right _ _⟩ ?_
  refine V_sub (lv' := [(0, .ref b), (1, .ref (G.2.2 + 0)), (2, .ref (G.2.2 + 162)), (3, .ref (G.2.2 + 192)), (4, .int (v4 + (5 : Int32)))]) [1, 2, 3, 4, 0] rfl ?_
  exact kc ((v4 + (5 : Int32)), x126.2) (Option.some.inj h).symm
def j_law_1503_23 (L : Nat) (xs : Nat → Int32) (v4 : Int32) (M : Mem) : Option ((Int32 × Mem) ⊕ ((Mem) ⊕ (Int32 × Mem))) :=
  if inb (v4 + (1 : Int32)) L = true then
  Option.bind (f_Top_again (xs (v4 + (1 : Int32)).toNatClampNeg) M) fun x128 =>
  if inb (v4 + (1 : Int32)) L = true then
  Option.bind (f_Mod_again (xs (v4 + (1 : Int32)).toNatClampNeg) x128.2) fun x129 =>
  some (.inl ((v4 + (5 : Int32)), x129.2))
  else none
  else none
theorem j_law_1503_23_ok {E : Ev} {cs : Nat × Nat} {G : Gw} {d : Nat} {Q : State → Prop} {b L : Nat} {xs : Nat → Int32} (X : Cx E G code "WomenByTheRoofsLaw" 7 d ret) (hz0 : Zc E cs) (hz : Zc E (cs.1 + 1, cs.2 + 6)) (hT : Tw G E.2.2.2.2.1 E.2.2.2.2.1.heap) (hl9 : E.2.1.stackTraces = false) (hX : va_X b L xs E.2.2.2.2.1 E.2.2.2.2.1.heap) (hbl : b < E.2.2.2.2.1.heap.size) (hbA : ¬ G.2.2 ≤ b) (hD : 450 ≤ d)  (v4 : Int32)  (M : Mem)  (o : (Int32 × Mem) ⊕ ((Mem) ⊕ (Int32 × Mem))) (h : j_law_1503_23 L xs v4 M = some o) (kc : ∀ s9 : Int32 × Mem, o = .inl s9 → V E (cs.1 + 1, cs.2 + 6) G 7 Q s9.2 23 [(0, .ref b), (1, .ref (G.2.2 + 0)), (2, .ref (G.2.2 + 162)), (3, .ref (G.2.2 + 192)), (4, .int s9.1)] []) (kx0 : ∀ x9 : Mem, o = .inr (Sum.inl x9) → V E (cs.1 + 1, cs.2 + 6) G 7 Q x9 1587 [] []) (kr : ∀ x9 : Int32 × Mem, o = .inr (Sum.inr x9) → False) : V E cs G 7 Q M 1503 [(0, .ref b), (1, .ref (G.2.2 + 0)), (2, .ref (G.2.2 + 162)), (3, .ref (G.2.2 + 192)), (4, .int v4)] [] := by
  unfold j_law_1503_23 at h
  refine V_aload_n (n := 1) X d_law_1503 rfl rfl rfl ?_
  refine V_aload_n (n := 0) X d_law_1504 rfl rfl rfl ?_
  refine V_iload (n := 4) X d_law_1505 rfl rfl ?_
  refine V_iconst (v := 1) X d_law_1507 (by decide) rfl ?_
  refine V_iadd X d_law_1508 rfl ?_
  obtain ⟨hb, h⟩ := ifn h
  refine V_sld X hX hbl hbA hb d_law_1509 rfl ?_
  obtain ⟨x128, hx128, h⟩ := ob_s h
  refine V_ci (As := [.int (xs (v4 + (1 : Int32)).toNatClampNeg)]) X hz0 ml_Lw_198 yq_Top_again (c_Top_again E.2.1 G (xs (v4 + (1 : Int32)).toNatClampNeg) M x128 hx128 _ (Nat.le_refl _)) kd_0 rfl rfl (by omega) rfl (Nat.le_of_ble_eq_true rfl) d_law_1510 rfl (fun r9 M9 hq => ?_)
  rw [hq.1, hq.2]
  refine V_pop X d_law_1513 rfl rfl ?_
  refine V_aload_n (n := 2) X d_law_1514 rfl rfl rfl ?_
  refine V_aload_n (n := 0) X d_law_1515 rfl rfl rfl ?_
  refine V_iload (n := 4) X d_law_1516 rfl rfl ?_
  refine V_iconst (v := 1) X d_law_1518 (by decide) rfl ?_
  refine V_iadd X d_law_1519 rfl ?_
  obtain ⟨hb, h⟩ := ifn h
  refine V_sld X hX hbl hbA hb d_law_1520 rfl ?_
  obtain ⟨x129, hx129, h⟩ := ob_s h
  refine V_ci (As := [.int (xs (v4 + (1 : Int32)).toNatClampNeg)]) X hz0 ml_Lw_201 yq_Mod_again (c_Mod_again E.2.1 G (xs (v4 + (1 : Int32)).toNatClampNeg) x128.2 x129 hx129 _ (Nat.le_refl _)) kd_162 rfl rfl (by omega) rfl (Nat.le_of_ble_eq_true rfl) d_law_1521 rfl (fun r9 M9 hq => ?_)
  rw [hq.1, hq.2]
  refine V_pop X d_law_1524 rfl rfl ?_
  refine V_goto (pc' := 1581) X d_law_1525 (by decide) ?_
  refine V_iinc (n := 4) (v := (v4 + (5 : Int32))) (lv' := [(4, .int (v4 + (5 : Int32))), (0, .ref b), (1, .ref (G.2.2 + 0)), (2, .ref (G.2.2 + 162)), (3, .ref (G.2.2 + 192))]) X d_law_1581 rfl rfl (by decide) rfl rfl ?_
  refine V_goto (pc' := 23) X d_law_1584 (by decide) ?_
  refine V_wid (cs' := (cs.1 + 1, cs.2 + 6)) ⟨Nat.le_succ _, Nat.le_add_right _ _⟩ ?_
  refine V_sub (lv' := [(0, .ref b), (1, .ref (G.2.2 + 0)), (2, .ref (G.2.2 + 162)), (3, .ref (G.2.2 + 192)), (4, .int (v4 + (5 : Int32)))]) [1, 2, 3, 4, 0] rfl ?_
  exact kc ((v4 + (5 : Int32)), x129.2) (Option.some.inj h).symm
def j_law_1528_23 (L : Nat) (xs : Nat → Int32) (v4 : Int32) (M : Mem) : Option ((Int32 × Mem) ⊕ ((Mem) ⊕ (Int32 × Mem))) :=
  if inb (v4 + (1 : Int32)) L = true then
  Option.bind (f_Top_count (xs (v4 + (1 : Int32)).toNatClampNeg) M) fun x131 =>
  if inb (v4 + (1 : Int32)) L = true then
  Option.bind (f_Mod_count (xs (v4 + (1 : Int32)).toNatClampNeg) M) fun x132 =>
  some (.inl ((v4 + (5 : Int32)), x132.2))
  else none
  else none
theorem j_law_1528_23_ok {E : Ev} {cs : Nat × Nat} {G : Gw} {d : Nat} {Q : State → Prop} {b L : Nat} {xs : Nat → Int32} (X : Cx E G code "WomenByTheRoofsLaw" 7 d ret) (hz0 : Zc E cs) (hz : Zc E (cs.1 + 1, cs.2 + 6)) (hT : Tw G E.2.2.2.2.1 E.2.2.2.2.1.heap) (hl9 : E.2.1.stackTraces = false) (hX : va_X b L xs E.2.2.2.2.1 E.2.2.2.2.1.heap) (hbl : b < E.2.2.2.2.1.heap.size) (hbA : ¬ G.2.2 ≤ b) (hD : 450 ≤ d)  (v4 : Int32)  (M : Mem)  (o : (Int32 × Mem) ⊕ ((Mem) ⊕ (Int32 × Mem))) (h : j_law_1528_23 L xs v4 M = some o) (kc : ∀ s9 : Int32 × Mem, o = .inl s9 → V E (cs.1 + 1, cs.2 + 6) G 7 Q s9.2 23 [(0, .ref b), (1, .ref (G.2.2 + 0)), (2, .ref (G.2.2 + 162)), (3, .ref (G.2.2 + 192)), (4, .int s9.1)] []) (kx0 : ∀ x9 : Mem, o = .inr (Sum.inl x9) → V E (cs.1 + 1, cs.2 + 6) G 7 Q x9 1587 [] []) (kr : ∀ x9 : Int32 × Mem, o = .inr (Sum.inr x9) → False) : V E cs G 7 Q M 1528 [(0, .ref b), (1, .ref (G.2.2 + 0)), (2, .ref (G.2.2 + 162)), (3, .ref (G.2.2 + 192)), (4, .int v4)] [] := by
  unfold j_law_1528_23 at h
  refine V_aload_n (n := 1) X d_law_1528 rfl rfl rfl ?_
  refine V_aload_n (n := 0) X d_law_1529 rfl rfl rfl ?_
  refine V_iload (n := 4) X d_law_1530 rfl rfl ?_
  refine V_iconst (v := 1) X d_law_1532 (by decide) rfl ?_
  refine V_iadd X d_law_1533 rfl ?_
  obtain ⟨hb, h⟩ := ifn h
  refine V_sld X hX hbl hbA hb d_law_1534 rfl ?_
  obtain ⟨x131, hx131, h⟩ := ob_s h
  refine V_ci (As := [.int (xs (v4 + (1 : Int32)).toNatClampNeg)]) X hz0 ml_Lw_202 yq_Top_count (c_Top_count E.2.1 G (xs (v4 + (1 : Int32)).toNatClampNeg) M x131 hx131 _ (Nat.le_refl _)) kd_0 rfl rfl (by omega) rfl (Nat.le_of_ble_eq_true rfl) d_law_1535 rfl (fun r9 M9 hq => ?_)
  rw [hq.1, hq.2]
  refine V_pop X d_law_1538 rfl rfl ?_
  refine V_aload_n (n := 2) X d_law_1539 rfl rfl rfl ?_
  refine V_aload_n (n := 0) X d_law_1540 rfl rfl rfl ?_
  refine V_iload (n := 4) X d_law_1541 rfl rfl ?_
  refine V_iconst (v := 1) X d_law_1543 (by decide) rfl ?_
  refine V_iadd X d_law_1544 rfl ?_
  obtain ⟨hb, h⟩ := ifn h
  refine V_sld X hX hbl hbA hb d_law_1545 rfl ?_
  obtain ⟨x132, hx132, h⟩ := ob_s h
  refine V_ci (As := [.int (xs (v4 + (1 : Int32)).toNatClampNeg)]) X hz0 ml_Lw_205 yq_Mod_count (c_Mod_count E.2.1 G (xs (v4 + (1 : Int32)).toNatClampNeg) M x132 hx132 _ (Nat.le_refl _)) kd_162 rfl rfl (by omega) rfl (Nat.le_of_ble_eq_true rfl) d_law_1546 rfl (fun r9 M9 hq => ?_)
  rw [hq.1, hq.2]
  refine V_pop X d_law_1549 rfl rfl ?_
  refine V_goto (pc' := 1581) X d_law_1550 (by decide) ?_
  refine V_iinc (n := 4) (v := (v4 + (5 : Int32))) (lv' := [(4, .int (v4 + (5 : Int32))), (0, .ref b), (1, .ref (G.2.2 + 0)), (2, .ref (G.2.2 + 162)), (3, .ref (G.2.2 + 192))]) X d_law_1581 rfl rfl (by decide) rfl rfl ?_
  refine V_goto (pc' := 23) X d_law_1584 (by decide) ?_
  refine V_wid (cs' := (cs.1 + 1, cs.2 + 6)) ⟨Nat.le_succ _, Nat.le_add_right _ _⟩ ?_
  refine V_sub (lv' := [(0, .ref b), (1, .ref (G.2.2 + 0)), (2, .ref (G.2.2 + 162)), (3, .ref (G.2.2 + 192)), (4, .int (v4 + (5 : Int32)))]) [1, 2, 3, 4, 0] rfl ?_
  exact kc ((v4 + (5 : Int32)), x132.2) (Option.some.inj h).symm
def j_law_1553_23 (L : Nat) (xs : Nat → Int32) (v4 : Int32) (M : Mem) : Option ((Int32 × Mem) ⊕ ((Mem) ⊕ (Int32 × Mem))) :=
  if inb (v4 + (1 : Int32)) L = true then
  Option.bind (f_Lw_row (xs (v4 + (1 : Int32)).toNatClampNeg) M) fun x134 =>
  if inb (v4 + (1 : Int32)) L = true then
  Option.bind (f_Mod_row (xs (v4 + (1 : Int32)).toNatClampNeg) x134.2) fun x135 =>
  some (.inl ((v4 + (5 : Int32)), x135.2))
  else none
  else none
theorem j_law_1553_23_ok {E : Ev} {cs : Nat × Nat} {G : Gw} {d : Nat} {Q : State → Prop} {b L : Nat} {xs : Nat → Int32} (X : Cx E G code "WomenByTheRoofsLaw" 7 d ret) (hz0 : Zc E cs) (hz : Zc E (cs.1 + 1, cs.2 + 6)) (hT : Tw G E.2.2.2.2.1 E.2.2.2.2.1.heap) (hl9 : E.2.1.stackTraces = false) (hX : va_X b L xs E.2.2.2.2.1 E.2.2.2.2.1.heap) (hbl : b < E.2.2.2.2.1.heap.size) (hbA : ¬ G.2.2 ≤ b) (hD : 450 ≤ d)  (v4 : Int32)  (M : Mem)  (o : (Int32 × Mem) ⊕ ((Mem) ⊕ (Int32 × Mem))) (h : j_law_1553_23 L xs v4 M = some o) (kc : ∀ s9 : Int32 × Mem, o = .inl s9 → V E (cs.1 + 1, cs.2 + 6) G 7 Q s9.2 23 [(0, .ref b), (1, .ref (G.2.2 + 0)), (2, .ref (G.2.2 + 162)), (3, .ref (G.2.2 + 192)), (4, .int s9.1)] []) (kx0 : ∀ x9 : Mem, o = .inr (Sum.inl x9) → V E (cs.1 + 1, cs.2 + 6) G 7 Q x9 1587 [] []) (kr : ∀ x9 : Int32 × Mem, o = .inr (Sum.inr x9) → False) : V E cs G 7 Q M 1553 [(0, .ref b), (1, .ref (G.2.2 + 0)), (2, .ref (G.2.2 + 162)), (3, .ref (G.2.2 + 192)), (4, .int v4)] [] := by
  unfold j_law_1553_23 at h
  refine V_aload_n (n := 1) X d_law_1553 rfl rfl rfl ?_
  refine V_aload_n (n := 0) X d_law_1554 rfl rfl rfl ?_
  refine V_iload (n := 4) X d_law_1555 rfl rfl ?_
  refine V_iconst (v := 1) X d_law_1557 (by decide) rfl ?_
  refine V_iadd X d_law_1558 rfl ?_
  obtain ⟨hb, h⟩ := ifn h
  refine V_sld X hX hbl hbA hb d_law_1559 rfl ?_
  refine V_aload_n (n := 3) X d_law_1560 rfl rfl rfl ?_
  obtain ⟨x134, hx134, h⟩ := ob_s h
  refine V_sh (As := [.ref (G.2.2 + 0), .int (xs (v4 + (1 : Int32)).toNatClampNeg), .ref (G.2.2 + 192)]) X hT hz rfl mh_206 yh_Lw_row (by decide) (c_Lw_row E.2.1 hl9 G (xs (v4 + (1 : Int32)).toNatClampNeg) M x134 hx134 _ (Nat.le_refl _)) rfl (by omega) rfl (Nat.le_of_ble_eq_true rfl) d_law_1561 rfl (fun r9 M9 hq => ?_)
  rw [hq.1, hq.2]
  refine V_istore (lv' := [(5, .int x134.1), (0, .ref b), (1, .ref (G.2.2 + 0)), (2, .ref (G.2.2 + 162)), (3, .ref (G.2.2 + 192)), (4, .int v4)]) X d_law_1564 (by decide) rfl rfl ?_
  refine V_aload_n (n := 3) X d_law_1566 rfl rfl rfl ?_
  refine V_aload_n (n := 1) X d_law_1567 rfl rfl rfl ?_
  refine V_iload (n := 5) X d_law_1568 rfl rfl ?_
  refine V_iconst (v := 1) X d_law_1570 (by decide) rfl ?_
  refine V_iadd X d_law_1571 rfl ?_
  obtain ⟨hb, h⟩ := ifn h
  refine V_sld X hX hbl hbA hb d_law_1572 rfl ?_
  obtain ⟨x135, hx135, h⟩ := ob_s h
  refine V_ci (As := [.int (xs (v4 + (1 : Int32)).toNatClampNeg)]) X hz ml_Lw_209 yq_Mod_row (c_Mod_row E.2.1 G (xs (v4 + (1 : Int32)).toNatClampNeg) x134.2 x135 hx135 _ (Nat.le_refl _)) kd_162 rfl rfl (by omega) rfl (Nat.le_of_ble_eq_true rfl) d_law_1573 rfl (fun r9 M9 hq => ?_)
  rw [hq.1, hq.2]
  refine V_istore (lv' := [(6, .int x135.1), (5, .int x134.1), (0, .ref b), (1, .ref (G.2.2 + 0)), (2, .ref (G.2.2 + 162)), (3, .ref (G.2.2 + 192)), (4, .int v4)]) X d_law_1576 (by decide) rfl rfl ?_
  refine V_goto (pc' := 1581) X d_law_1578 (by decide) ?_
  refine V_iinc (n := 6) (v := (v4 + (5 : Int32))) (lv' := [(4, .int (v4 + (5 : Int32))), (6, .int x135.1), (5, .int x134.1), (0, .ref b), (1, .ref (G.2.2 + 0)), (2, .ref (G.2.2 + 162)), (3, .ref (G.2.2 + 192))]) X d_law_1581 rfl rfl (by decide) rfl rfl ?_
  refine V_goto (pc' := 23) X d_law_1584 (by decide) ?_
  refine V_sub (lv' := [(0, .ref b), (1, .ref (G.2.2 + 0)), (2, .ref (G.2.2 + 162)), (3, .ref (G.2.2 + 192)), (4, .int (v4 + (5 : Int32)))]) [3, 4, 5, 6, 0] rfl ?_
  exact kc ((v4 + (5 : Int32)), x135.2) (Option.some.inj h).symm
def lb_law (L : Nat) (xs : Nat → Int32) (s : Int32 × Mem) : Option ((Int32 × Mem) ⊕ ((Mem) ⊕ (Int32 × Mem))) :=
  if ((Int32.ofNat L) - (5 : Int32)) < s.1 then
  some (.inr (Sum.inl s.2))
  else
  if inb s.1 L = true then
  if ((xs s.1.toNatClampNeg) &&& (63 : Int32)) = (0 : Int32) then
  j_law_228_23 L xs s.1 s.2
  else if ((xs s.1.toNatClampNeg) &&& (63 : Int32)) = (1 : Int32) then
  j_law_253_23 L xs s.1 s.2
  else if ((xs s.1.toNatClampNeg) &&& (63 : Int32)) = (2 : Int32) then
  j_law_278_23 L xs s.1 s.2
  else if ((xs s.1.toNatClampNeg) &&& (63 : Int32)) = (3 : Int32) then
  j_law_291_23 L xs s.1 s.2
  else if ((xs s.1.toNatClampNeg) &&& (63 : Int32)) = (4 : Int32) then
  j_law_304_23 L xs s.1 s.2
  else if ((xs s.1.toNatClampNeg) &&& (63 : Int32)) = (5 : Int32) then
  j_law_317_23 L xs s.1 s.2
  else if ((xs s.1.toNatClampNeg) &&& (63 : Int32)) = (6 : Int32) then
  j_law_342_23 L xs s.1 s.2
  else if ((xs s.1.toNatClampNeg) &&& (63 : Int32)) = (7 : Int32) then
  j_law_410_23 L xs s.1 s.2
  else if ((xs s.1.toNatClampNeg) &&& (63 : Int32)) = (8 : Int32) then
  j_law_450_23 L xs s.1 s.2
  else if ((xs s.1.toNatClampNeg) &&& (63 : Int32)) = (9 : Int32) then
  j_law_487_23 L xs s.1 s.2
  else if ((xs s.1.toNatClampNeg) &&& (63 : Int32)) = (10 : Int32) then
  j_law_524_23 L xs s.1 s.2
  else if ((xs s.1.toNatClampNeg) &&& (63 : Int32)) = (11 : Int32) then
  j_law_537_23 L xs s.1 s.2
  else if ((xs s.1.toNatClampNeg) &&& (63 : Int32)) = (12 : Int32) then
  j_law_598_23 L xs s.1 s.2
  else if ((xs s.1.toNatClampNeg) &&& (63 : Int32)) = (13 : Int32) then
  j_law_623_23 L xs s.1 s.2
  else if ((xs s.1.toNatClampNeg) &&& (63 : Int32)) = (14 : Int32) then
  j_law_648_23 L xs s.1 s.2
  else if ((xs s.1.toNatClampNeg) &&& (63 : Int32)) = (15 : Int32) then
  j_law_661_23 L xs s.1 s.2
  else if ((xs s.1.toNatClampNeg) &&& (63 : Int32)) = (16 : Int32) then
  j_law_686_23 L xs s.1 s.2
  else if ((xs s.1.toNatClampNeg) &&& (63 : Int32)) = (17 : Int32) then
  j_law_699_23 L xs s.1 s.2
  else if ((xs s.1.toNatClampNeg) &&& (63 : Int32)) = (18 : Int32) then
  j_law_712_23 L xs s.1 s.2
  else if ((xs s.1.toNatClampNeg) &&& (63 : Int32)) = (19 : Int32) then
  j_law_749_23 L xs s.1 s.2
  else if ((xs s.1.toNatClampNeg) &&& (63 : Int32)) = (20 : Int32) then
  j_law_774_23 L xs s.1 s.2
  else if ((xs s.1.toNatClampNeg) &&& (63 : Int32)) = (21 : Int32) then
  j_law_811_23 L xs s.1 s.2
  else if ((xs s.1.toNatClampNeg) &&& (63 : Int32)) = (22 : Int32) then
  j_law_824_23 L xs s.1 s.2
  else if ((xs s.1.toNatClampNeg) &&& (63 : Int32)) = (23 : Int32) then
  j_law_849_23 L xs s.1 s.2
  else if ((xs s.1.toNatClampNeg) &&& (63 : Int32)) = (24 : Int32) then
  j_law_874_23 L xs s.1 s.2
  else if ((xs s.1.toNatClampNeg) &&& (63 : Int32)) = (25 : Int32) then
  j_law_911_23 L xs s.1 s.2
  else if ((xs s.1.toNatClampNeg) &&& (63 : Int32)) = (26 : Int32) then
  j_law_960_23 L xs s.1 s.2
  else if ((xs s.1.toNatClampNeg) &&& (63 : Int32)) = (27 : Int32) then
  j_law_1021_23 L xs s.1 s.2
  else if ((xs s.1.toNatClampNeg) &&& (63 : Int32)) = (28 : Int32) then
  j_law_1058_23 L xs s.1 s.2
  else if ((xs s.1.toNatClampNeg) &&& (63 : Int32)) = (29 : Int32) then
  j_law_1095_23 L xs s.1 s.2
  else if ((xs s.1.toNatClampNeg) &&& (63 : Int32)) = (30 : Int32) then
  j_law_1132_23 L xs s.1 s.2
  else if ((xs s.1.toNatClampNeg) &&& (63 : Int32)) = (31 : Int32) then
  j_law_1169_23 L xs s.1 s.2
  else if ((xs s.1.toNatClampNeg) &&& (63 : Int32)) = (32 : Int32) then
  j_law_1206_23 L xs s.1 s.2
  else if ((xs s.1.toNatClampNeg) &&& (63 : Int32)) = (33 : Int32) then
  j_law_1231_23 L xs s.1 s.2
  else if ((xs s.1.toNatClampNeg) &&& (63 : Int32)) = (34 : Int32) then
  j_law_1256_23 L xs s.1 s.2
  else if ((xs s.1.toNatClampNeg) &&& (63 : Int32)) = (35 : Int32) then
  j_law_1269_23 L xs s.1 s.2
  else if ((xs s.1.toNatClampNeg) &&& (63 : Int32)) = (36 : Int32) then
  j_law_1306_23 L xs s.1 s.2
  else if ((xs s.1.toNatClampNeg) &&& (63 : Int32)) = (37 : Int32) then
  j_law_1355_23 L xs s.1 s.2
  else if ((xs s.1.toNatClampNeg) &&& (63 : Int32)) = (38 : Int32) then
  j_law_1380_23 L xs s.1 s.2
  else if ((xs s.1.toNatClampNeg) &&& (63 : Int32)) = (39 : Int32) then
  j_law_1417_23 L xs s.1 s.2
  else if ((xs s.1.toNatClampNeg) &&& (63 : Int32)) = (40 : Int32) then
  j_law_1478_23 L xs s.1 s.2
  else if ((xs s.1.toNatClampNeg) &&& (63 : Int32)) = (41 : Int32) then
  j_law_1503_23 L xs s.1 s.2
  else if ((xs s.1.toNatClampNeg) &&& (63 : Int32)) = (42 : Int32) then
  j_law_1528_23 L xs s.1 s.2
  else if ((xs s.1.toNatClampNeg) &&& (63 : Int32)) = (43 : Int32) then
  j_law_1553_23 L xs s.1 s.2
  else some (.inl ((s.1 + (5 : Int32)), s.2))
  else none
set_option maxRecDepth 20000 in
theorem lb_law_ok {E : Ev} {cs : Nat × Nat} {G : Gw} {d : Nat} {Q : State → Prop} {b L : Nat} {xs : Nat → Int32} (X : Cx E G code "WomenByTheRoofsLaw" 7 d ret) (hz0 : Zc E cs) (hz : Zc E (cs.1 + 1, cs.2 + 6)) (hT : Tw G E.2.2.2.2.1 E.2.2.2.2.1.heap) (hl9 : E.2.1.stackTraces = false) (hX : va_X b L xs E.2.2.2.2.1 E.2.2.2.2.1.heap) (hbl : b < E.2.2.2.2.1.heap.size) (hbA : ¬ G.2.2 ≤ b) (hD : 450 ≤ d) (s : Int32 × Mem) (o : (Int32 × Mem) ⊕ ((Mem) ⊕ (Int32 × Mem))) (h : lb_law L xs s = some o) (kc : ∀ s9 : Int32 × Mem, o = .inl s9 → V E (cs.1 + 1, cs.2 + 6) G 7 Q s9.2 23 [(0, .ref b), (1, .ref (G.2.2 + 0)), (2, .ref (G.2.2 + 162)), (3, .ref (G.2.2 + 192)), (4, .int s9.1)] []) (kx0 : ∀ x9 : Mem, o = .inr (Sum.inl x9) → V E (cs.1 + 1, cs.2 + 6) G 7 Q x9 1587 [] []) (kr : ∀ x9 : Int32 × Mem, o = .inr (Sum.inr x9) → False) : V E cs G 7 Q s.2 23 [(0, .ref b), (1, .ref (G.2.2 + 0)), (2, .ref (G.2.2 + 162)), (3, .ref (G.2.2 + 192)), (4, .int s.1)] [] := by
  unfold lb_law at h
  refine V_iload (n := 4) X d_law_23 rfl rfl ?_
  refine V_aload_n (n := 0) X d_law_25 rfl rfl rfl ?_
  refine V_slen X hX hbl hbA d_law_26 rfl ?_
  refine V_iconst (v := 5) X d_law_27 (by decide) rfl ?_
  refine V_isub X d_law_28 rfl ?_
  refine V_icmp_gt (tgt := 1587) X d_law_29 (by decide) rfl (fun c137 => ?_) (fun c137 => ?_)
  · rw [if_pos c137] at h
    refine V_wid (cs' := (cs.1 + 1, cs.2 + 6)) ⟨Nat.le_succ _, Nat.le_add_right _ _⟩ ?_
    refine V_sub (lv' := []) [] rfl ?_
    exact kx0 s.2 (Option.some.inj h).symm
  · rw [if_neg c137] at h
    refine V_aload_n (n := 0) X d_law_32 rfl rfl rfl ?_
    refine V_iload (n := 4) X d_law_33 rfl rfl ?_
    obtain ⟨hb, h⟩ := ifn h
    refine V_sld X hX hbl hbA hb d_law_35 rfl ?_
    refine V_bipush (v := 63) X d_law_36 (by decide) rfl ?_
    refine V_iand X d_law_38 rfl ?_
    by_cases c3 : ((xs s.1.toNatClampNeg) &&& (63 : Int32)) = (0 : Int32)
    · rw [if_pos c3] at h
      refine V_tbl (v := 0) (pc' := 228) (off := 189) X d_law_39 c3 (by decide) (by decide) (by decide +kernel) (by decide) ?_
      exact j_law_228_23_ok X hz0 hz hT hl9 hX hbl hbA hD s.1 s.2 _ h kc kx0 kr
    · rw [if_neg c3] at h
      by_cases c6 : ((xs s.1.toNatClampNeg) &&& (63 : Int32)) = (1 : Int32)
      · rw [if_pos c6] at h
        refine V_tbl (v := 1) (pc' := 253) (off := 214) X d_law_39 c6 (by decide) (by decide) (by decide +kernel) (by decide) ?_
        exact j_law_253_23_ok X hz0 hz hT hl9 hX hbl hbA hD s.1 s.2 _ h kc kx0 kr
      · rw [if_neg c6] at h
        by_cases c9 : ((xs s.1.toNatClampNeg) &&& (63 : Int32)) = (2 : Int32)
        · rw [if_pos c9] at h
          refine V_tbl (v := 2) (pc' := 278) (off := 239) X d_law_39 c9 (by decide) (by decide) (by decide +kernel) (by decide) ?_
          exact j_law_278_23_ok X hz0 hz hT hl9 hX hbl hbA hD s.1 s.2 _ h kc kx0 kr
        · rw [if_neg c9] at h
          by_cases c12 : ((xs s.1.toNatClampNeg) &&& (63 : Int32)) = (3 : Int32)
          · rw [if_pos c12] at h
            refine V_tbl (v := 3) (pc' := 291) (off := 252) X d_law_39 c12 (by decide) (by decide) (by decide +kernel) (by decide) ?_
            exact j_law_291_23_ok X hz0 hz hT hl9 hX hbl hbA hD s.1 s.2 _ h kc kx0 kr
          · rw [if_neg c12] at h
            by_cases c15 : ((xs s.1.toNatClampNeg) &&& (63 : Int32)) = (4 : Int32)
            · rw [if_pos c15] at h
              refine V_tbl (v := 4) (pc' := 304) (off := 265) X d_law_39 c15 (by decide) (by decide) (by decide +kernel) (by decide) ?_
              exact j_law_304_23_ok X hz0 hz hT hl9 hX hbl hbA hD s.1 s.2 _ h kc kx0 kr
            · rw [if_neg c15] at h
              by_cases c18 : ((xs s.1.toNatClampNeg) &&& (63 : Int32)) = (5 : Int32)
              · rw [if_pos c18] at h
                refine V_tbl (v := 5) (pc' := 317) (off := 278) X d_law_39 c18 (by decide) (by decide) (by decide +kernel) (by decide) ?_
                exact j_law_317_23_ok X hz0 hz hT hl9 hX hbl hbA hD s.1 s.2 _ h kc kx0 kr
              · rw [if_neg c18] at h
                by_cases c25 : ((xs s.1.toNatClampNeg) &&& (63 : Int32)) = (6 : Int32)
                · rw [if_pos c25] at h
                  refine V_tbl (v := 6) (pc' := 342) (off := 303) X d_law_39 c25 (by decide) (by decide) (by decide +kernel) (by decide) ?_
                  exact j_law_342_23_ok X hz0 hz hT hl9 hX hbl hbA hD s.1 s.2 _ h kc kx0 kr
                · rw [if_neg c25] at h
                  by_cases c28 : ((xs s.1.toNatClampNeg) &&& (63 : Int32)) = (7 : Int32)
                  · rw [if_pos c28] at h
                    refine V_tbl (v := 7) (pc' := 410) (off := 371) X d_law_39 c28 (by decide) (by decide) (by decide +kernel) (by decide) ?_
                    exact j_law_410_23_ok X hz0 hz hT hl9 hX hbl hbA hD s.1 s.2 _ h kc kx0 kr
                  · rw [if_neg c28] at h
                    by_cases c31 : ((xs s.1.toNatClampNeg) &&& (63 : Int32)) = (8 : Int32)
                    · rw [if_pos c31] at h
                      refine V_tbl (v := 8) (pc' := 450) (off := 411) X d_law_39 c31 (by decide) (by decide) (by decide +kernel) (by decide) ?_
                      exact j_law_450_23_ok X hz0 hz hT hl9 hX hbl hbA hD s.1 s.2 _ h kc kx0 kr
                    · rw [if_neg c31] at h
                      by_cases c34 : ((xs s.1.toNatClampNeg) &&& (63 : Int32)) = (9 : Int32)
                      · rw [if_pos c34] at h
                        refine V_tbl (v := 9) (pc' := 487) (off := 448) X d_law_39 c34 (by decide) (by decide) (by decide +kernel) (by decide) ?_
                        exact j_law_487_23_ok X hz0 hz hT hl9 hX hbl hbA hD s.1 s.2 _ h kc kx0 kr
                      · rw [if_neg c34] at h
                        by_cases c37 : ((xs s.1.toNatClampNeg) &&& (63 : Int32)) = (10 : Int32)
                        · rw [if_pos c37] at h
                          refine V_tbl (v := 10) (pc' := 524) (off := 485) X d_law_39 c37 (by decide) (by decide) (by decide +kernel) (by decide) ?_
                          exact j_law_524_23_ok X hz0 hz hT hl9 hX hbl hbA hD s.1 s.2 _ h kc kx0 kr
                        · rw [if_neg c37] at h
                          by_cases c40 : ((xs s.1.toNatClampNeg) &&& (63 : Int32)) = (11 : Int32)
                          · rw [if_pos c40] at h
                            refine V_tbl (v := 11) (pc' := 537) (off := 498) X d_law_39 c40 (by decide) (by decide) (by decide +kernel) (by decide) ?_
                            exact j_law_537_23_ok X hz0 hz hT hl9 hX hbl hbA hD s.1 s.2 _ h kc kx0 kr
                          · rw [if_neg c40] at h
                            by_cases c43 : ((xs s.1.toNatClampNeg) &&& (63 : Int32)) = (12 : Int32)
                            · rw [if_pos c43] at h
                              refine V_tbl (v := 12) (pc' := 598) (off := 559) X d_law_39 c43 (by decide) (by decide) (by decide +kernel) (by decide) ?_
                              exact j_law_598_23_ok X hz0 hz hT hl9 hX hbl hbA hD s.1 s.2 _ h kc kx0 kr
                            · rw [if_neg c43] at h
                              by_cases c46 : ((xs s.1.toNatClampNeg) &&& (63 : Int32)) = (13 : Int32)
                              · rw [if_pos c46] at h
                                refine V_tbl (v := 13) (pc' := 623) (off := 584) X d_law_39 c46 (by decide) (by decide) (by decide +kernel) (by decide) ?_
                                exact j_law_623_23_ok X hz0 hz hT hl9 hX hbl hbA hD s.1 s.2 _ h kc kx0 kr
                              · rw [if_neg c46] at h
                                by_cases c49 : ((xs s.1.toNatClampNeg) &&& (63 : Int32)) = (14 : Int32)
                                · rw [if_pos c49] at h
                                  refine V_tbl (v := 14) (pc' := 648) (off := 609) X d_law_39 c49 (by decide) (by decide) (by decide +kernel) (by decide) ?_
                                  exact j_law_648_23_ok X hz0 hz hT hl9 hX hbl hbA hD s.1 s.2 _ h kc kx0 kr
                                · rw [if_neg c49] at h
                                  by_cases c52 : ((xs s.1.toNatClampNeg) &&& (63 : Int32)) = (15 : Int32)
                                  · rw [if_pos c52] at h
                                    refine V_tbl (v := 15) (pc' := 661) (off := 622) X d_law_39 c52 (by decide) (by decide) (by decide +kernel) (by decide) ?_
                                    exact j_law_661_23_ok X hz0 hz hT hl9 hX hbl hbA hD s.1 s.2 _ h kc kx0 kr
                                  · rw [if_neg c52] at h
                                    by_cases c55 : ((xs s.1.toNatClampNeg) &&& (63 : Int32)) = (16 : Int32)
                                    · rw [if_pos c55] at h
                                      refine V_tbl (v := 16) (pc' := 686) (off := 647) X d_law_39 c55 (by decide) (by decide) (by decide +kernel) (by decide) ?_
                                      exact j_law_686_23_ok X hz0 hz hT hl9 hX hbl hbA hD s.1 s.2 _ h kc kx0 kr
                                    · rw [if_neg c55] at h
                                      by_cases c58 : ((xs s.1.toNatClampNeg) &&& (63 : Int32)) = (17 : Int32)
                                      · rw [if_pos c58] at h
                                        refine V_tbl (v := 17) (pc' := 699) (off := 660) X d_law_39 c58 (by decide) (by decide) (by decide +kernel) (by decide) ?_
                                        exact j_law_699_23_ok X hz0 hz hT hl9 hX hbl hbA hD s.1 s.2 _ h kc kx0 kr
                                      · rw [if_neg c58] at h
                                        by_cases c61 : ((xs s.1.toNatClampNeg) &&& (63 : Int32)) = (18 : Int32)
                                        · rw [if_pos c61] at h
                                          refine V_tbl (v := 18) (pc' := 712) (off := 673) X d_law_39 c61 (by decide) (by decide) (by decide +kernel) (by decide) ?_
                                          exact j_law_712_23_ok X hz0 hz hT hl9 hX hbl hbA hD s.1 s.2 _ h kc kx0 kr
                                        · rw [if_neg c61] at h
                                          by_cases c64 : ((xs s.1.toNatClampNeg) &&& (63 : Int32)) = (19 : Int32)
                                          · rw [if_pos c64] at h
                                            refine V_tbl (v := 19) (pc' := 749) (off := 710) X d_law_39 c64 (by decide) (by decide) (by decide +kernel) (by decide) ?_
                                            exact j_law_749_23_ok X hz0 hz hT hl9 hX hbl hbA hD s.1 s.2 _ h kc kx0 kr
                                          · rw [if_neg c64] at h
                                            by_cases c67 : ((xs s.1.toNatClampNeg) &&& (63 : Int32)) = (20 : Int32)
                                            · rw [if_pos c67] at h
                                              refine V_tbl (v := 20) (pc' := 774) (off := 735) X d_law_39 c67 (by decide) (by decide) (by decide +kernel) (by decide) ?_
                                              exact j_law_774_23_ok X hz0 hz hT hl9 hX hbl hbA hD s.1 s.2 _ h kc kx0 kr
                                            · rw [if_neg c67] at h
                                              by_cases c70 : ((xs s.1.toNatClampNeg) &&& (63 : Int32)) = (21 : Int32)
                                              · rw [if_pos c70] at h
                                                refine V_tbl (v := 21) (pc' := 811) (off := 772) X d_law_39 c70 (by decide) (by decide) (by decide +kernel) (by decide) ?_
                                                exact j_law_811_23_ok X hz0 hz hT hl9 hX hbl hbA hD s.1 s.2 _ h kc kx0 kr
                                              · rw [if_neg c70] at h
                                                by_cases c73 : ((xs s.1.toNatClampNeg) &&& (63 : Int32)) = (22 : Int32)
                                                · rw [if_pos c73] at h
                                                  refine V_tbl (v := 22) (pc' := 824) (off := 785) X d_law_39 c73 (by decide) (by decide) (by decide +kernel) (by decide) ?_
                                                  exact j_law_824_23_ok X hz0 hz hT hl9 hX hbl hbA hD s.1 s.2 _ h kc kx0 kr
                                                · rw [if_neg c73] at h
                                                  by_cases c76 : ((xs s.1.toNatClampNeg) &&& (63 : Int32)) = (23 : Int32)
                                                  · rw [if_pos c76] at h
                                                    refine V_tbl (v := 23) (pc' := 849) (off := 810) X d_law_39 c76 (by decide) (by decide) (by decide +kernel) (by decide) ?_
                                                    exact j_law_849_23_ok X hz0 hz hT hl9 hX hbl hbA hD s.1 s.2 _ h kc kx0 kr
                                                  · rw [if_neg c76] at h
                                                    by_cases c79 : ((xs s.1.toNatClampNeg) &&& (63 : Int32)) = (24 : Int32)
                                                    · rw [if_pos c79] at h
                                                      refine V_tbl (v := 24) (pc' := 874) (off := 835) X d_law_39 c79 (by decide) (by decide) (by decide +kernel) (by decide) ?_
                                                      exact j_law_874_23_ok X hz0 hz hT hl9 hX hbl hbA hD s.1 s.2 _ h kc kx0 kr
                                                    · rw [if_neg c79] at h
                                                      by_cases c82 : ((xs s.1.toNatClampNeg) &&& (63 : Int32)) = (25 : Int32)
                                                      · rw [if_pos c82] at h
                                                        refine V_tbl (v := 25) (pc' := 911) (off := 872) X d_law_39 c82 (by decide) (by decide) (by decide +kernel) (by decide) ?_
                                                        exact j_law_911_23_ok X hz0 hz hT hl9 hX hbl hbA hD s.1 s.2 _ h kc kx0 kr
                                                      · rw [if_neg c82] at h
                                                        by_cases c85 : ((xs s.1.toNatClampNeg) &&& (63 : Int32)) = (26 : Int32)
                                                        · rw [if_pos c85] at h
                                                          refine V_tbl (v := 26) (pc' := 960) (off := 921) X d_law_39 c85 (by decide) (by decide) (by decide +kernel) (by decide) ?_
                                                          exact j_law_960_23_ok X hz0 hz hT hl9 hX hbl hbA hD s.1 s.2 _ h kc kx0 kr
                                                        · rw [if_neg c85] at h
                                                          by_cases c88 : ((xs s.1.toNatClampNeg) &&& (63 : Int32)) = (27 : Int32)
                                                          · rw [if_pos c88] at h
                                                            refine V_tbl (v := 27) (pc' := 1021) (off := 982) X d_law_39 c88 (by decide) (by decide) (by decide +kernel) (by decide) ?_
                                                            exact j_law_1021_23_ok X hz0 hz hT hl9 hX hbl hbA hD s.1 s.2 _ h kc kx0 kr
                                                          · rw [if_neg c88] at h
                                                            by_cases c91 : ((xs s.1.toNatClampNeg) &&& (63 : Int32)) = (28 : Int32)
                                                            · rw [if_pos c91] at h
                                                              refine V_tbl (v := 28) (pc' := 1058) (off := 1019) X d_law_39 c91 (by decide) (by decide) (by decide +kernel) (by decide) ?_
                                                              exact j_law_1058_23_ok X hz0 hz hT hl9 hX hbl hbA hD s.1 s.2 _ h kc kx0 kr
                                                            · rw [if_neg c91] at h
                                                              by_cases c94 : ((xs s.1.toNatClampNeg) &&& (63 : Int32)) = (29 : Int32)
                                                              · rw [if_pos c94] at h
                                                                refine V_tbl (v := 29) (pc' := 1095) (off := 1056) X d_law_39 c94 (by decide) (by decide) (by decide +kernel) (by decide) ?_
                                                                exact j_law_1095_23_ok X hz0 hz hT hl9 hX hbl hbA hD s.1 s.2 _ h kc kx0 kr
                                                              · rw [if_neg c94] at h
                                                                by_cases c97 : ((xs s.1.toNatClampNeg) &&& (63 : Int32)) = (30 : Int32)
                                                                · rw [if_pos c97] at h
                                                                  refine V_tbl (v := 30) (pc' := 1132) (off := 1093) X d_law_39 c97 (by decide) (by decide) (by decide +kernel) (by decide) ?_
                                                                  exact j_law_1132_23_ok X hz0 hz hT hl9 hX hbl hbA hD s.1 s.2 _ h kc kx0 kr
                                                                · rw [if_neg c97] at h
                                                                  by_cases c100 : ((xs s.1.toNatClampNeg) &&& (63 : Int32)) = (31 : Int32)
                                                                  · rw [if_pos c100] at h
                                                                    refine V_tbl (v := 31) (pc' := 1169) (off := 1130) X d_law_39 c100 (by decide) (by decide) (by decide +kernel) (by decide) ?_
                                                                    exact j_law_1169_23_ok X hz0 hz hT hl9 hX hbl hbA hD s.1 s.2 _ h kc kx0 kr
                                                                  · rw [if_neg c100] at h
                                                                    by_cases c103 : ((xs s.1.toNatClampNeg) &&& (63 : Int32)) = (32 : Int32)
                                                                    · rw [if_pos c103] at h
                                                                      refine V_tbl (v := 32) (pc' := 1206) (off := 1167) X d_law_39 c103 (by decide) (by decide) (by decide +kernel) (by decide) ?_
                                                                      exact j_law_1206_23_ok X hz0 hz hT hl9 hX hbl hbA hD s.1 s.2 _ h kc kx0 kr
                                                                    · rw [if_neg c103] at h
                                                                      by_cases c106 : ((xs s.1.toNatClampNeg) &&& (63 : Int32)) = (33 : Int32)
                                                                      · rw [if_pos c106] at h
                                                                        refine V_tbl (v := 33) (pc' := 1231) (off := 1192) X d_law_39 c106 (by decide) (by decide) (by decide +kernel) (by decide) ?_
                                                                        exact j_law_1231_23_ok X hz0 hz hT hl9 hX hbl hbA hD s.1 s.2 _ h kc kx0 kr
                                                                      · rw [if_neg c106] at h
                                                                        by_cases c109 : ((xs s.1.toNatClampNeg) &&& (63 : Int32)) = (34 : Int32)
                                                                        · rw [if_pos c109] at h
                                                                          refine V_tbl (v := 34) (pc' := 1256) (off := 1217) X d_law_39 c109 (by decide) (by decide) (by decide +kernel) (by decide) ?_
                                                                          exact j_law_1256_23_ok X hz0 hz hT hl9 hX hbl hbA hD s.1 s.2 _ h kc kx0 kr
                                                                        · rw [if_neg c109] at h
                                                                          by_cases c112 : ((xs s.1.toNatClampNeg) &&& (63 : Int32)) = (35 : Int32)
                                                                          · rw [if_pos c112] at h
                                                                            refine V_tbl (v := 35) (pc' := 1269) (off := 1230) X d_law_39 c112 (by decide) (by decide) (by decide +kernel) (by decide) ?_
                                                                            exact j_law_1269_23_ok X hz0 hz hT hl9 hX hbl hbA hD s.1 s.2 _ h kc kx0 kr
                                                                          · rw [if_neg c112] at h
                                                                            by_cases c115 : ((xs s.1.toNatClampNeg) &&& (63 : Int32)) = (36 : Int32)
                                                                            · rw [if_pos c115] at h
                                                                              refine V_tbl (v := 36) (pc' := 1306) (off := 1267) X d_law_39 c115 (by decide) (by decide) (by decide +kernel) (by decide) ?_
                                                                              exact j_law_1306_23_ok X hz0 hz hT hl9 hX hbl hbA hD s.1 s.2 _ h kc kx0 kr
                                                                            · rw [if_neg c115] at h
                                                                              by_cases c118 : ((xs s.1.toNatClampNeg) &&& (63 : Int32)) = (37 : Int32)
                                                                              · rw [if_pos c118] at h
                                                                                refine V_tbl (v := 37) (pc' := 1355) (off := 1316) X d_law_39 c118 (by decide) (by decide) (by decide +kernel) (by decide) ?_
                                                                                exact j_law_1355_23_ok X hz0 hz hT hl9 hX hbl hbA hD s.1 s.2 _ h kc kx0 kr
                                                                              · rw [if_neg c118] at h
                                                                                by_cases c121 : ((xs s.1.toNatClampNeg) &&& (63 : Int32)) = (38 : Int32)
                                                                                · rw [if_pos c121] at h
                                                                                  refine V_tbl (v := 38) (pc' := 1380) (off := 1341) X d_law_39 c121 (by decide) (by decide) (by decide +kernel) (by decide) ?_
                                                                                  exact j_law_1380_23_ok X hz0 hz hT hl9 hX hbl hbA hD s.1 s.2 _ h kc kx0 kr
                                                                                · rw [if_neg c121] at h
                                                                                  by_cases c124 : ((xs s.1.toNatClampNeg) &&& (63 : Int32)) = (39 : Int32)
                                                                                  · rw [if_pos c124] at h
                                                                                    refine V_tbl (v := 39) (pc' := 1417) (off := 1378) X d_law_39 c124 (by decide) (by decide) (by decide +kernel) (by decide) ?_
                                                                                    exact j_law_1417_23_ok X hz0 hz hT hl9 hX hbl hbA hD s.1 s.2 _ h kc kx0 kr
                                                                                  · rw [if_neg c124] at h
                                                                                    by_cases c127 : ((xs s.1.toNatClampNeg) &&& (63 : Int32)) = (40 : Int32)
                                                                                    · rw [if_pos c127] at h
                                                                                      refine V_tbl (v := 40) (pc' := 1478) (off := 1439) X d_law_39 c127 (by decide) (by decide) (by decide +kernel) (by decide) ?_
                                                                                      exact j_law_1478_23_ok X hz0 hz hT hl9 hX hbl hbA hD s.1 s.2 _ h kc kx0 kr
                                                                                    · rw [if_neg c127] at h
                                                                                      by_cases c130 : ((xs s.1.toNatClampNeg) &&& (63 : Int32)) = (41 : Int32)
                                                                                      · rw [if_pos c130] at h
                                                                                        refine V_tbl (v := 41) (pc' := 1503) (off := 1464) X d_law_39 c130 (by decide) (by decide) (by decide +kernel) (by decide) ?_
                                                                                        exact j_law_1503_23_ok X hz0 hz hT hl9 hX hbl hbA hD s.1 s.2 _ h kc kx0 kr
                                                                                      · rw [if_neg c130] at h
                                                                                        by_cases c133 : ((xs s.1.toNatClampNeg) &&& (63 : Int32)) = (42 : Int32)
                                                                                        · rw [if_pos c133] at h
                                                                                          refine V_tbl (v := 42) (pc' := 1528) (off := 1489) X d_law_39 c133 (by decide) (by decide) (by decide +kernel) (by decide) ?_
                                                                                          exact j_law_1528_23_ok X hz0 hz hT hl9 hX hbl hbA hD s.1 s.2 _ h kc kx0 kr
                                                                                        · rw [if_neg c133] at h
                                                                                          by_cases c136 : ((xs s.1.toNatClampNeg) &&& (63 : Int32)) = (43 : Int32)
                                                                                          · rw [if_pos c136] at h
                                                                                            refine V_tbl (v := 43) (pc' := 1553) (off := 1514) X d_law_39 c136 (by decide) (by decide) (by decide +kernel) (by decide) ?_
                                                                                            exact j_law_1553_23_ok X hz0 hz hT hl9 hX hbl hbA hD s.1 s.2 _ h kc kx0 kr
                                                                                          · rw [if_neg c136] at h
                                                                                            refine V_tableOut (pc' := 1581) X d_law_39 (by have g0 := neT c3 (z := 0) (by decide); have g1 := neT c6 (z := 1) (by decide); have g2 := neT c9 (z := 2) (by decide); have g3 := neT c12 (z := 3) (by decide); have g4 := neT c15 (z := 4) (by decide); have g5 := neT c18 (z := 5) (by decide); have g6 := neT c25 (z := 6) (by decide); have g7 := neT c28 (z := 7) (by decide); have g8 := neT c31 (z := 8) (by decide); have g9 := neT c34 (z := 9) (by decide); have g10 := neT c37 (z := 10) (by decide); have g11 := neT c40 (z := 11) (by decide); have g12 := neT c43 (z := 12) (by decide); have g13 := neT c46 (z := 13) (by decide); have g14 := neT c49 (z := 14) (by decide); have g15 := neT c52 (z := 15) (by decide); have g16 := neT c55 (z := 16) (by decide); have g17 := neT c58 (z := 17) (by decide); have g18 := neT c61 (z := 18) (by decide); have g19 := neT c64 (z := 19) (by decide); have g20 := neT c67 (z := 20) (by decide); have g21 := neT c70 (z := 21) (by decide); have g22 := neT c73 (z := 22) (by decide); have g23 := neT c76 (z := 23) (by decide); have g24 := neT c79 (z := 24) (by decide); have g25 := neT c82 (z := 25) (by decide); have g26 := neT c85 (z := 26) (by decide); have g27 := neT c88 (z := 27) (by decide); have g28 := neT c91 (z := 28) (by decide); have g29 := neT c94 (z := 29) (by decide); have g30 := neT c97 (z := 30) (by decide); have g31 := neT c100 (z := 31) (by decide); have g32 := neT c103 (z := 32) (by decide); have g33 := neT c106 (z := 33) (by decide); have g34 := neT c109 (z := 34) (by decide); have g35 := neT c112 (z := 35) (by decide); have g36 := neT c115 (z := 36) (by decide); have g37 := neT c118 (z := 37) (by decide); have g38 := neT c121 (z := 38) (by decide); have g39 := neT c124 (z := 39) (by decide); have g40 := neT c127 (z := 40) (by decide); have g41 := neT c130 (z := 41) (by decide); have g42 := neT c133 (z := 42) (by decide); have g43 := neT c136 (z := 43) (by decide); omega) (by decide) ?_
                                                                                            refine V_iinc (n := 4) (v := (s.1 + (5 : Int32))) (lv' := [(4, .int (s.1 + (5 : Int32))), (0, .ref b), (1, .ref (G.2.2 + 0)), (2, .ref (G.2.2 + 162)), (3, .ref (G.2.2 + 192))]) X d_law_1581 rfl rfl (by decide) rfl rfl ?_
                                                                                            refine V_goto (pc' := 23) X d_law_1584 (by decide) ?_
                                                                                            refine V_wid (cs' := (cs.1 + 1, cs.2 + 6)) ⟨Nat.le_succ _, Nat.le_add_right _ _⟩ ?_
                                                                                            refine V_sub (lv' := [(0, .ref b), (1, .ref (G.2.2 + 0)), (2, .ref (G.2.2 + 162)), (3, .ref (G.2.2 + 192)), (4, .int (s.1 + (5 : Int32)))]) [1, 2, 3, 4, 0] rfl ?_
                                                                                            exact kc ((s.1 + (5 : Int32)), s.2) (Option.some.inj h).symm
