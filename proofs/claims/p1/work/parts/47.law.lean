/-! THE LAW: one turn of its loop -/
section VLAW
variable {E : Ev} {cs cs' : Nat × Nat} {G : Gw} {cc : ByteArray} {own : String} {nL d : Nat} {ret9 : Option FieldType} {Q : State → Prop} {M : Mem} {pc pc' : Nat} {lv lv' : List (Nat × Value)} {st rest : List Value}
theorem V_wid (h : cs.1 ≤ cs'.1 ∧ cs.2 ≤ cs'.2) (k : V E cs' G nL Q M pc lv st) : V E cs G nL Q M pc lv st := fun H locs ls hP hS hl => W.widen (k := cs'.1) (n := cs'.2) h.1 h.2 (k H locs ls hP hS hl)
theorem inb_v {i : Int32} {n : Nat} (hb : inb i n = true) : vp_in i n := by
  intro hc
  rcases hc with hc | hc <;> simp [inb, hc] at hb
theorem V_sld {b L : Nat} {xs : Nat → Int32} {i : Int32} (X : Cx E G cc own nL d ret9) (hX : va_X b L xs E.2.2.2.2.1 E.2.2.2.2.1.heap) (hbl : b < E.2.2.2.2.1.heap.size) (hbA : ¬ G.2.2 ≤ b) (hi : inb i L = true) (hd : decode cc pc = .ok (.iaload, 1)) (hp : pc + 1 = pc') (k : V E cs G nL Q M pc' lv (.int (xs i.toNatClampNeg) :: st)) : V E cs G nL Q M pc lv (.int i :: .ref b :: st) := by
  subst hp
  exact fun H locs ls hP hS hl => va_sld X.1 X.2.1 hX hbl hbA hS (inb_v hi) hd (k H locs ls hP hS hl)
theorem V_slen {b L : Nat} {xs : Nat → Int32} (X : Cx E G cc own nL d ret9) (hX : va_X b L xs E.2.2.2.2.1 E.2.2.2.2.1.heap) (hbl : b < E.2.2.2.2.1.heap.size) (hbA : ¬ G.2.2 ≤ b) (hd : decode cc pc = .ok (.arraylength, 1)) (hp : pc + 1 = pc') (k : V E cs G nL Q M pc' lv (.int (Int32.ofNat L) :: st)) : V E cs G nL Q M pc lv (.ref b :: st) := by
  subst hp
  exact fun H locs ls hP hS hl => va_slen X.1 X.2.1 hX hbl hbA hS hd (k H locs ls hP hS hl)
theorem goodH {own : String} {idx maxL : Nat} {y : MethodName} {cc : ByteArray} {ret : Option FieldType} {hh : List (Nat × Nat × Nat × Nat)} (hl : Cond.methodLink own idx y ∈ gw) (h1 : Cond.static y ∈ gw) (h2 : Cond.initialized y.cls ∈ gw) (h3 : Cond.codeWith y cc maxL ret hh ∈ gw) : GoodIn gw (va_wsS own idx y (Cond.codeWith y cc maxL ret hh :: gw)) := by
  intro w hw
  have : w ∈ gw := by
    simp only [va_wsS, List.mem_append, List.mem_cons, List.not_mem_nil, or_false] at hw
    rcases hw with (rfl | rfl | rfl) | rfl | hw
    · exact hl
    · exact h1
    · exact h2
    · exact h3
    · exact hw
  exact ⟨this, gw_good this⟩
theorem V_sh {idx n d2 maxL : Nat} {y : MethodName} {b2 : ByteArray} {ret2 : Option FieldType} {hh : List (Nat × Nat × Nat × Nat)} {As : List Value} {post : Int32 → Mem → Prop} (X : Cx E G cc own nL d ret9) (hT : Tw G E.2.2.2.2.1 E.2.2.2.2.1.heap) (hz : Zc E (cs.1 + 1, cs.2 + 6)) (hc9 : (cs.1 + 1, cs.2 + 6) = cs') (hl : Cond.methodLink own idx y ∈ gw) (hy : Cond.static y ∈ gw ∧ Cond.initialized y.cls ∈ gw ∧ Cond.codeWith y b2 maxL ret2 hh ∈ gw ∧ (y.cls ≠ "java/lang/invoke/MethodHandle" ∧ y.cls ≠ "java/lang/invoke/VarHandle" ∧ (parseMethodDescriptor y.desc).map (fun d => d.parameters.length) = some n)) (hml : maxL ≤ 21) (hM : Ch E.2.1 G y b2 maxL ret2 hh d2 As M post) (hn : As.length = n) (hd2 : d2 + 1 ≤ d) (hs : st = As.reverse ++ rest) (hw : (rest.map fun v => v.category).sum ≤ 8) (hd : decode cc pc = .ok (.invokestatic idx, 3)) (hp : pc + 3 = pc')
    (kk : ∀ (r : Int32) (M' : Mem), post r M' → V E cs' G nL Q M' pc' lv (.int r :: rest)) : V E cs G nL Q M pc lv st := by
  subst hp; subst hs; subst hc9
  intro H locs ls hP hS hl9
  obtain ⟨h1, h2, h3, h5⟩ := hy
  refine va_calli (A0 := fun q => G.2.2 ≤ q) (vx_runSW (As := As) (rest := rest) ⟨X.1, X.2.1, X.2.2.1, X.2.2.2.1, X.2.2.2.2.1⟩ hM (vx_cwSW n X.2.2.2.2.1 (goodH hl h1 h2 h3) rfl rfl rfl h5 ⟨by have := X.2.2.2.2.2.2.2.1.1; show d2 + 1 ≤ _; omega, by have := X.2.2.2.2.2.2.2.1.2; show 8 + (maxL + 11) + 40 * d2 ≤ _; omega⟩) ⟨PcT_blind G M _, fun U hU hW => ⟨rfl, by rw [hU]; exact hP, va_K.moved hW.alike X.2.2.2.2.2.1, hT.warm hS hU hW⟩⟩ rfl hn hl9.1 rfl (lv_room hw) hd ⟨hz.1, hz.2⟩) hS (fun q _ h => h) (fun q h => h) (fun r u t H1 locs1 ht hvm hpost hB hz1 hk1 hS1 => ?_)
  exact kk r u hpost H1 locs1 ls (by rw [← ht]; exact hB) hS1 hl9
end VLAW
theorem mh_52 : Cond.methodLink "WomenByTheRoofsLaw" 52 y_Lw_cell ∈ gw := gt_5 184 rfl rfl
theorem mh_61 : Cond.methodLink "WomenByTheRoofsLaw" 61 y_Lw_person ∈ gw := gt_6 13 rfl rfl
theorem mh_206 : Cond.methodLink "WomenByTheRoofsLaw" 206 y_Lw_row ∈ gw := gt_6 26 rfl rfl
def j_law_228_23 (L : Nat) (xs : Nat → Int32) (v4 : Int32) (M : Mem) : Option ((Int32 × Mem) ⊕ ((Mem) ⊕ (Int32 × Mem))) :=
  if inb (v4 + (1 : Int32)) L = true then
  Option.bind (f_Top_sign (xs (v4 + (1 : Int32)).toNatClampNeg) M) fun x1 =>
  if inb (v4 + (1 : Int32)) L = true then
  Option.bind (f_Mod_sign (xs (v4 + (1 : Int32)).toNatClampNeg) x1.2) fun x2 =>
  if x1.1 = x2.1 then
  some (.inl ((v4 + (5 : Int32)), x2.2))
  else
  some (.inr (Sum.inr ((0 : Int32), x2.2)))
  else none
  else none
theorem j_law_228_23_ok {E : Ev} {cs : Nat × Nat} {G : Gw} {d : Nat} {Q : State → Prop} {b L : Nat} {xs : Nat → Int32} (X : Cx E G code "WomenByTheRoofsLaw" 7 d ret) (hz0 : Zc E cs) (hz : Zc E (cs.1 + 1, cs.2 + 6)) (hT : Tw G E.2.2.2.2.1 E.2.2.2.2.1.heap) (hl9 : E.2.1.stackTraces = false) (hX : va_X b L xs E.2.2.2.2.1 E.2.2.2.2.1.heap) (hbl : b < E.2.2.2.2.1.heap.size) (hbA : ¬ G.2.2 ≤ b) (hD : 450 ≤ d)  (v4 : Int32)  (M : Mem)  (o : (Int32 × Mem) ⊕ ((Mem) ⊕ (Int32 × Mem))) (h : j_law_228_23 L xs v4 M = some o) (kc : ∀ s9 : Int32 × Mem, o = .inl s9 → V E (cs.1 + 1, cs.2 + 6) G 7 Q s9.2 23 [(0, .ref b), (1, .ref (G.2.2 + 0)), (2, .ref (G.2.2 + 162)), (3, .ref (G.2.2 + 192)), (4, .int s9.1)] []) (kx0 : ∀ x9 : Mem, o = .inr (Sum.inl x9) → V E (cs.1 + 1, cs.2 + 6) G 7 Q x9 1643 [] []) (kr : ∀ x9 : Int32 × Mem, o = .inr (Sum.inr x9) → False) : V E cs G 7 Q M 228 [(0, .ref b), (1, .ref (G.2.2 + 0)), (2, .ref (G.2.2 + 162)), (3, .ref (G.2.2 + 192)), (4, .int v4)] [] := by
  unfold j_law_228_23 at h
  refine V_aload_n (n := 1) X d_law_228 rfl rfl rfl ?_
  refine V_aload_n (n := 0) X d_law_229 rfl rfl rfl ?_
  refine V_iload (n := 4) X d_law_230 rfl rfl ?_
  refine V_iconst (v := 1) X d_law_232 (by decide) rfl ?_
  refine V_iadd X d_law_233 rfl ?_
  obtain ⟨hb, h⟩ := ifn h
  refine V_sld X hX hbl hbA hb d_law_234 rfl ?_
  obtain ⟨x1, hx1, h⟩ := ob_s h
  refine V_ci (As := [.int (xs (v4 + (1 : Int32)).toNatClampNeg)]) X hz0 ml_Lw_26 yq_Top_sign (c_Top_sign E.2.1 G (xs (v4 + (1 : Int32)).toNatClampNeg) M x1 hx1 _ (Nat.le_refl _)) kd_0 rfl rfl (by omega) rfl (Nat.le_of_ble_eq_true rfl) d_law_235 rfl (fun r9 M9 hq => ?_)
  rw [hq.1, hq.2]
  refine V_aload_n (n := 2) X d_law_238 rfl rfl rfl ?_
  refine V_aload_n (n := 0) X d_law_239 rfl rfl rfl ?_
  refine V_iload (n := 4) X d_law_240 rfl rfl ?_
  refine V_iconst (v := 1) X d_law_242 (by decide) rfl ?_
  refine V_iadd X d_law_243 rfl ?_
  obtain ⟨hb, h⟩ := ifn h
  refine V_sld X hX hbl hbA hb d_law_244 rfl ?_
  obtain ⟨x2, hx2, h⟩ := ob_s h
  refine V_ci (As := [.int (xs (v4 + (1 : Int32)).toNatClampNeg)]) X hz0 ml_Lw_29 yq_Mod_sign (c_Mod_sign E.2.1 G (xs (v4 + (1 : Int32)).toNatClampNeg) x1.2 x2 hx2 _ (Nat.le_refl _)) kd_162 rfl rfl (by omega) rfl (Nat.le_of_ble_eq_true rfl) d_law_245 rfl (fun r9 M9 hq => ?_)
  rw [hq.1, hq.2]
  refine V_icmp_eq (tgt := 1637) X d_law_248 (by decide) rfl (fun c3 => ?_) (fun c3 => ?_)
  · rw [if_pos c3] at h
    refine V_iinc (n := 4) (v := (v4 + (5 : Int32))) (lv' := [(4, .int (v4 + (5 : Int32))), (0, .ref b), (1, .ref (G.2.2 + 0)), (2, .ref (G.2.2 + 162)), (3, .ref (G.2.2 + 192))]) X d_law_1637 rfl rfl (by decide) rfl rfl ?_
    refine V_goto (pc' := 23) X d_law_1640 (by decide) ?_
    refine V_wid (cs' := (cs.1 + 1, cs.2 + 6)) ⟨Nat.le_succ _, Nat.le_add_right _ _⟩ ?_
    refine V_sub (lv' := [(0, .ref b), (1, .ref (G.2.2 + 0)), (2, .ref (G.2.2 + 162)), (3, .ref (G.2.2 + 192)), (4, .int (v4 + (5 : Int32)))]) [1, 2, 3, 4, 0] rfl ?_
    exact kc ((v4 + (5 : Int32)), x2.2) (Option.some.inj h).symm
  · rw [if_neg c3] at h
    refine V_iconst (v := 0) X d_law_251 (by decide) rfl ?_
    exact (kr ((0 : Int32), x2.2) (Option.some.inj h).symm).elim
def j_law_253_23 (L : Nat) (xs : Nat → Int32) (v4 : Int32) (M : Mem) : Option ((Int32 × Mem) ⊕ ((Mem) ⊕ (Int32 × Mem))) :=
  if inb (v4 + (1 : Int32)) L = true then
  Option.bind (f_Top_end (xs (v4 + (1 : Int32)).toNatClampNeg) M) fun x5 =>
  if inb (v4 + (1 : Int32)) L = true then
  Option.bind (f_Mod_end (xs (v4 + (1 : Int32)).toNatClampNeg) x5.2) fun x6 =>
  if x5.1 = x6.1 then
  some (.inl ((v4 + (5 : Int32)), x6.2))
  else
  some (.inr (Sum.inr ((0 : Int32), x6.2)))
  else none
  else none
theorem j_law_253_23_ok {E : Ev} {cs : Nat × Nat} {G : Gw} {d : Nat} {Q : State → Prop} {b L : Nat} {xs : Nat → Int32} (X : Cx E G code "WomenByTheRoofsLaw" 7 d ret) (hz0 : Zc E cs) (hz : Zc E (cs.1 + 1, cs.2 + 6)) (hT : Tw G E.2.2.2.2.1 E.2.2.2.2.1.heap) (hl9 : E.2.1.stackTraces = false) (hX : va_X b L xs E.2.2.2.2.1 E.2.2.2.2.1.heap) (hbl : b < E.2.2.2.2.1.heap.size) (hbA : ¬ G.2.2 ≤ b) (hD : 450 ≤ d)  (v4 : Int32)  (M : Mem)  (o : (Int32 × Mem) ⊕ ((Mem) ⊕ (Int32 × Mem))) (h : j_law_253_23 L xs v4 M = some o) (kc : ∀ s9 : Int32 × Mem, o = .inl s9 → V E (cs.1 + 1, cs.2 + 6) G 7 Q s9.2 23 [(0, .ref b), (1, .ref (G.2.2 + 0)), (2, .ref (G.2.2 + 162)), (3, .ref (G.2.2 + 192)), (4, .int s9.1)] []) (kx0 : ∀ x9 : Mem, o = .inr (Sum.inl x9) → V E (cs.1 + 1, cs.2 + 6) G 7 Q x9 1643 [] []) (kr : ∀ x9 : Int32 × Mem, o = .inr (Sum.inr x9) → False) : V E cs G 7 Q M 253 [(0, .ref b), (1, .ref (G.2.2 + 0)), (2, .ref (G.2.2 + 162)), (3, .ref (G.2.2 + 192)), (4, .int v4)] [] := by
  unfold j_law_253_23 at h
  refine V_aload_n (n := 1) X d_law_253 rfl rfl rfl ?_
  refine V_aload_n (n := 0) X d_law_254 rfl rfl rfl ?_
  refine V_iload (n := 4) X d_law_255 rfl rfl ?_
  refine V_iconst (v := 1) X d_law_257 (by decide) rfl ?_
  refine V_iadd X d_law_258 rfl ?_
  obtain ⟨hb, h⟩ := ifn h
  refine V_sld X hX hbl hbA hb d_law_259 rfl ?_
  obtain ⟨x5, hx5, h⟩ := ob_s h
  refine V_ci (As := [.int (xs (v4 + (1 : Int32)).toNatClampNeg)]) X hz0 ml_Lw_30 yq_Top_end (c_Top_end E.2.1 G (xs (v4 + (1 : Int32)).toNatClampNeg) M x5 hx5 _ (Nat.le_refl _)) kd_0 rfl rfl (by omega) rfl (Nat.le_of_ble_eq_true rfl) d_law_260 rfl (fun r9 M9 hq => ?_)
  rw [hq.1, hq.2]
  refine V_aload_n (n := 2) X d_law_263 rfl rfl rfl ?_
  refine V_aload_n (n := 0) X d_law_264 rfl rfl rfl ?_
  refine V_iload (n := 4) X d_law_265 rfl rfl ?_
  refine V_iconst (v := 1) X d_law_267 (by decide) rfl ?_
  refine V_iadd X d_law_268 rfl ?_
  obtain ⟨hb, h⟩ := ifn h
  refine V_sld X hX hbl hbA hb d_law_269 rfl ?_
  obtain ⟨x6, hx6, h⟩ := ob_s h
  refine V_ci (As := [.int (xs (v4 + (1 : Int32)).toNatClampNeg)]) X hz0 ml_Lw_34 yq_Mod_end (c_Mod_end E.2.1 G (xs (v4 + (1 : Int32)).toNatClampNeg) x5.2 x6 hx6 _ (Nat.le_refl _)) kd_162 rfl rfl (by omega) rfl (Nat.le_of_ble_eq_true rfl) d_law_270 rfl (fun r9 M9 hq => ?_)
  rw [hq.1, hq.2]
  refine V_icmp_eq (tgt := 1637) X d_law_273 (by decide) rfl (fun c7 => ?_) (fun c7 => ?_)
  · rw [if_pos c7] at h
    refine V_iinc (n := 4) (v := (v4 + (5 : Int32))) (lv' := [(4, .int (v4 + (5 : Int32))), (0, .ref b), (1, .ref (G.2.2 + 0)), (2, .ref (G.2.2 + 162)), (3, .ref (G.2.2 + 192))]) X d_law_1637 rfl rfl (by decide) rfl rfl ?_
    refine V_goto (pc' := 23) X d_law_1640 (by decide) ?_
    refine V_wid (cs' := (cs.1 + 1, cs.2 + 6)) ⟨Nat.le_succ _, Nat.le_add_right _ _⟩ ?_
    refine V_sub (lv' := [(0, .ref b), (1, .ref (G.2.2 + 0)), (2, .ref (G.2.2 + 162)), (3, .ref (G.2.2 + 192)), (4, .int (v4 + (5 : Int32)))]) [1, 2, 3, 4, 0] rfl ?_
    exact kc ((v4 + (5 : Int32)), x6.2) (Option.some.inj h).symm
  · rw [if_neg c7] at h
    refine V_iconst (v := 0) X d_law_276 (by decide) rfl ?_
    exact (kr ((0 : Int32), x6.2) (Option.some.inj h).symm).elim
def j_law_278_23 (L : Nat) (xs : Nat → Int32) (v4 : Int32) (M : Mem) : Option ((Int32 × Mem) ⊕ ((Mem) ⊕ (Int32 × Mem))) :=
  Option.bind (f_Top_town M) fun x9 =>
  Option.bind (f_Mod_town x9.2) fun x10 =>
  if x9.1 = x10.1 then
  some (.inl ((v4 + (5 : Int32)), x10.2))
  else
  some (.inr (Sum.inr ((0 : Int32), x10.2)))
theorem j_law_278_23_ok {E : Ev} {cs : Nat × Nat} {G : Gw} {d : Nat} {Q : State → Prop} {b L : Nat} {xs : Nat → Int32} (X : Cx E G code "WomenByTheRoofsLaw" 7 d ret) (hz0 : Zc E cs) (hz : Zc E (cs.1 + 1, cs.2 + 6)) (hT : Tw G E.2.2.2.2.1 E.2.2.2.2.1.heap) (hl9 : E.2.1.stackTraces = false) (hX : va_X b L xs E.2.2.2.2.1 E.2.2.2.2.1.heap) (hbl : b < E.2.2.2.2.1.heap.size) (hbA : ¬ G.2.2 ≤ b) (hD : 450 ≤ d)  (v4 : Int32)  (M : Mem)  (o : (Int32 × Mem) ⊕ ((Mem) ⊕ (Int32 × Mem))) (h : j_law_278_23 L xs v4 M = some o) (kc : ∀ s9 : Int32 × Mem, o = .inl s9 → V E (cs.1 + 1, cs.2 + 6) G 7 Q s9.2 23 [(0, .ref b), (1, .ref (G.2.2 + 0)), (2, .ref (G.2.2 + 162)), (3, .ref (G.2.2 + 192)), (4, .int s9.1)] []) (kx0 : ∀ x9 : Mem, o = .inr (Sum.inl x9) → V E (cs.1 + 1, cs.2 + 6) G 7 Q x9 1643 [] []) (kr : ∀ x9 : Int32 × Mem, o = .inr (Sum.inr x9) → False) : V E cs G 7 Q M 278 [(0, .ref b), (1, .ref (G.2.2 + 0)), (2, .ref (G.2.2 + 162)), (3, .ref (G.2.2 + 192)), (4, .int v4)] [] := by
  unfold j_law_278_23 at h
  refine V_aload_n (n := 1) X d_law_278 rfl rfl rfl ?_
  obtain ⟨x9, hx9, h⟩ := ob_s h
  refine V_ci (As := []) X hz0 ml_Lw_35 yq_Top_town (c_Top_town E.2.1 G  M x9 hx9 _ (Nat.le_refl _)) kd_0 rfl rfl (by omega) rfl (Nat.le_of_ble_eq_true rfl) d_law_279 rfl (fun r9 M9 hq => ?_)
  rw [hq.1, hq.2]
  refine V_aload_n (n := 2) X d_law_282 rfl rfl rfl ?_
  obtain ⟨x10, hx10, h⟩ := ob_s h
  refine V_ci (As := []) X hz0 ml_Lw_39 yq_Mod_town (c_Mod_town E.2.1 G  x9.2 x10 hx10 _ (Nat.le_refl _)) kd_162 rfl rfl (by omega) rfl (Nat.le_of_ble_eq_true rfl) d_law_283 rfl (fun r9 M9 hq => ?_)
  rw [hq.1, hq.2]
  refine V_icmp_eq (tgt := 1637) X d_law_286 (by decide) rfl (fun c11 => ?_) (fun c11 => ?_)
  · rw [if_pos c11] at h
    refine V_iinc (n := 4) (v := (v4 + (5 : Int32))) (lv' := [(4, .int (v4 + (5 : Int32))), (0, .ref b), (1, .ref (G.2.2 + 0)), (2, .ref (G.2.2 + 162)), (3, .ref (G.2.2 + 192))]) X d_law_1637 rfl rfl (by decide) rfl rfl ?_
    refine V_goto (pc' := 23) X d_law_1640 (by decide) ?_
    refine V_wid (cs' := (cs.1 + 1, cs.2 + 6)) ⟨Nat.le_succ _, Nat.le_add_right _ _⟩ ?_
    refine V_sub (lv' := [(0, .ref b), (1, .ref (G.2.2 + 0)), (2, .ref (G.2.2 + 162)), (3, .ref (G.2.2 + 192)), (4, .int (v4 + (5 : Int32)))]) [1, 2, 3, 4, 0] rfl ?_
    exact kc ((v4 + (5 : Int32)), x10.2) (Option.some.inj h).symm
  · rw [if_neg c11] at h
    refine V_iconst (v := 0) X d_law_289 (by decide) rfl ?_
    exact (kr ((0 : Int32), x10.2) (Option.some.inj h).symm).elim
def j_law_291_23 (L : Nat) (xs : Nat → Int32) (v4 : Int32) (M : Mem) : Option ((Int32 × Mem) ⊕ ((Mem) ⊕ (Int32 × Mem))) :=
  Option.bind (f_Top_folk M) fun x13 =>
  Option.bind (f_Mod_folk x13.2) fun x14 =>
  if x13.1 = x14.1 then
  some (.inl ((v4 + (5 : Int32)), x14.2))
  else
  some (.inr (Sum.inr ((0 : Int32), x14.2)))
theorem j_law_291_23_ok {E : Ev} {cs : Nat × Nat} {G : Gw} {d : Nat} {Q : State → Prop} {b L : Nat} {xs : Nat → Int32} (X : Cx E G code "WomenByTheRoofsLaw" 7 d ret) (hz0 : Zc E cs) (hz : Zc E (cs.1 + 1, cs.2 + 6)) (hT : Tw G E.2.2.2.2.1 E.2.2.2.2.1.heap) (hl9 : E.2.1.stackTraces = false) (hX : va_X b L xs E.2.2.2.2.1 E.2.2.2.2.1.heap) (hbl : b < E.2.2.2.2.1.heap.size) (hbA : ¬ G.2.2 ≤ b) (hD : 450 ≤ d)  (v4 : Int32)  (M : Mem)  (o : (Int32 × Mem) ⊕ ((Mem) ⊕ (Int32 × Mem))) (h : j_law_291_23 L xs v4 M = some o) (kc : ∀ s9 : Int32 × Mem, o = .inl s9 → V E (cs.1 + 1, cs.2 + 6) G 7 Q s9.2 23 [(0, .ref b), (1, .ref (G.2.2 + 0)), (2, .ref (G.2.2 + 162)), (3, .ref (G.2.2 + 192)), (4, .int s9.1)] []) (kx0 : ∀ x9 : Mem, o = .inr (Sum.inl x9) → V E (cs.1 + 1, cs.2 + 6) G 7 Q x9 1643 [] []) (kr : ∀ x9 : Int32 × Mem, o = .inr (Sum.inr x9) → False) : V E cs G 7 Q M 291 [(0, .ref b), (1, .ref (G.2.2 + 0)), (2, .ref (G.2.2 + 162)), (3, .ref (G.2.2 + 192)), (4, .int v4)] [] := by
  unfold j_law_291_23 at h
  refine V_aload_n (n := 1) X d_law_291 rfl rfl rfl ?_
  obtain ⟨x13, hx13, h⟩ := ob_s h
  refine V_ci (As := []) X hz0 ml_Lw_40 yq_Top_folk (c_Top_folk E.2.1 G  M x13 hx13 _ (Nat.le_refl _)) kd_0 rfl rfl (by omega) rfl (Nat.le_of_ble_eq_true rfl) d_law_292 rfl (fun r9 M9 hq => ?_)
  rw [hq.1, hq.2]
  refine V_aload_n (n := 2) X d_law_295 rfl rfl rfl ?_
  obtain ⟨x14, hx14, h⟩ := ob_s h
  refine V_ci (As := []) X hz0 ml_Lw_43 yq_Mod_folk (c_Mod_folk E.2.1 G  x13.2 x14 hx14 _ (Nat.le_refl _)) kd_162 rfl rfl (by omega) rfl (Nat.le_of_ble_eq_true rfl) d_law_296 rfl (fun r9 M9 hq => ?_)
  rw [hq.1, hq.2]
  refine V_icmp_eq (tgt := 1637) X d_law_299 (by decide) rfl (fun c15 => ?_) (fun c15 => ?_)
  · rw [if_pos c15] at h
    refine V_iinc (n := 4) (v := (v4 + (5 : Int32))) (lv' := [(4, .int (v4 + (5 : Int32))), (0, .ref b), (1, .ref (G.2.2 + 0)), (2, .ref (G.2.2 + 162)), (3, .ref (G.2.2 + 192))]) X d_law_1637 rfl rfl (by decide) rfl rfl ?_
    refine V_goto (pc' := 23) X d_law_1640 (by decide) ?_
    refine V_wid (cs' := (cs.1 + 1, cs.2 + 6)) ⟨Nat.le_succ _, Nat.le_add_right _ _⟩ ?_
    refine V_sub (lv' := [(0, .ref b), (1, .ref (G.2.2 + 0)), (2, .ref (G.2.2 + 162)), (3, .ref (G.2.2 + 192)), (4, .int (v4 + (5 : Int32)))]) [1, 2, 3, 4, 0] rfl ?_
    exact kc ((v4 + (5 : Int32)), x14.2) (Option.some.inj h).symm
  · rw [if_neg c15] at h
    refine V_iconst (v := 0) X d_law_302 (by decide) rfl ?_
    exact (kr ((0 : Int32), x14.2) (Option.some.inj h).symm).elim
def j_law_304_23 (L : Nat) (xs : Nat → Int32) (v4 : Int32) (M : Mem) : Option ((Int32 × Mem) ⊕ ((Mem) ⊕ (Int32 × Mem))) :=
  Option.bind (f_Top_rule M) fun x17 =>
  Option.bind (f_Mod_rule x17.2) fun x18 =>
  if x17.1 = x18.1 then
  some (.inl ((v4 + (5 : Int32)), x18.2))
  else
  some (.inr (Sum.inr ((0 : Int32), x18.2)))
theorem j_law_304_23_ok {E : Ev} {cs : Nat × Nat} {G : Gw} {d : Nat} {Q : State → Prop} {b L : Nat} {xs : Nat → Int32} (X : Cx E G code "WomenByTheRoofsLaw" 7 d ret) (hz0 : Zc E cs) (hz : Zc E (cs.1 + 1, cs.2 + 6)) (hT : Tw G E.2.2.2.2.1 E.2.2.2.2.1.heap) (hl9 : E.2.1.stackTraces = false) (hX : va_X b L xs E.2.2.2.2.1 E.2.2.2.2.1.heap) (hbl : b < E.2.2.2.2.1.heap.size) (hbA : ¬ G.2.2 ≤ b) (hD : 450 ≤ d)  (v4 : Int32)  (M : Mem)  (o : (Int32 × Mem) ⊕ ((Mem) ⊕ (Int32 × Mem))) (h : j_law_304_23 L xs v4 M = some o) (kc : ∀ s9 : Int32 × Mem, o = .inl s9 → V E (cs.1 + 1, cs.2 + 6) G 7 Q s9.2 23 [(0, .ref b), (1, .ref (G.2.2 + 0)), (2, .ref (G.2.2 + 162)), (3, .ref (G.2.2 + 192)), (4, .int s9.1)] []) (kx0 : ∀ x9 : Mem, o = .inr (Sum.inl x9) → V E (cs.1 + 1, cs.2 + 6) G 7 Q x9 1643 [] []) (kr : ∀ x9 : Int32 × Mem, o = .inr (Sum.inr x9) → False) : V E cs G 7 Q M 304 [(0, .ref b), (1, .ref (G.2.2 + 0)), (2, .ref (G.2.2 + 162)), (3, .ref (G.2.2 + 192)), (4, .int v4)] [] := by
  unfold j_law_304_23 at h
  refine V_aload_n (n := 1) X d_law_304 rfl rfl rfl ?_
  obtain ⟨x17, hx17, h⟩ := ob_s h
  refine V_ci (As := []) X hz0 ml_Lw_44 yq_Top_rule (c_Top_rule E.2.1 G  M x17 hx17 _ (Nat.le_refl _)) kd_0 rfl rfl (by omega) rfl (Nat.le_of_ble_eq_true rfl) d_law_305 rfl (fun r9 M9 hq => ?_)
  rw [hq.1, hq.2]
  refine V_aload_n (n := 2) X d_law_308 rfl rfl rfl ?_
  obtain ⟨x18, hx18, h⟩ := ob_s h
  refine V_ci (As := []) X hz0 ml_Lw_47 yq_Mod_rule (c_Mod_rule E.2.1 G  x17.2 x18 hx18 _ (Nat.le_refl _)) kd_162 rfl rfl (by omega) rfl (Nat.le_of_ble_eq_true rfl) d_law_309 rfl (fun r9 M9 hq => ?_)
  rw [hq.1, hq.2]
  refine V_icmp_eq (tgt := 1637) X d_law_312 (by decide) rfl (fun c19 => ?_) (fun c19 => ?_)
  · rw [if_pos c19] at h
    refine V_iinc (n := 4) (v := (v4 + (5 : Int32))) (lv' := [(4, .int (v4 + (5 : Int32))), (0, .ref b), (1, .ref (G.2.2 + 0)), (2, .ref (G.2.2 + 162)), (3, .ref (G.2.2 + 192))]) X d_law_1637 rfl rfl (by decide) rfl rfl ?_
    refine V_goto (pc' := 23) X d_law_1640 (by decide) ?_
    refine V_wid (cs' := (cs.1 + 1, cs.2 + 6)) ⟨Nat.le_succ _, Nat.le_add_right _ _⟩ ?_
    refine V_sub (lv' := [(0, .ref b), (1, .ref (G.2.2 + 0)), (2, .ref (G.2.2 + 162)), (3, .ref (G.2.2 + 192)), (4, .int (v4 + (5 : Int32)))]) [1, 2, 3, 4, 0] rfl ?_
    exact kc ((v4 + (5 : Int32)), x18.2) (Option.some.inj h).symm
  · rw [if_neg c19] at h
    refine V_iconst (v := 0) X d_law_315 (by decide) rfl ?_
    exact (kr ((0 : Int32), x18.2) (Option.some.inj h).symm).elim
def j_law_317_23 (L : Nat) (xs : Nat → Int32) (v4 : Int32) (M : Mem) : Option ((Int32 × Mem) ⊕ ((Mem) ⊕ (Int32 × Mem))) :=
  if inb (v4 + (1 : Int32)) L = true then
  Option.bind (f_Top_route (xs (v4 + (1 : Int32)).toNatClampNeg) M) fun x21 =>
  if inb (v4 + (1 : Int32)) L = true then
  Option.bind (f_Mod_route (xs (v4 + (1 : Int32)).toNatClampNeg) x21.2) fun x22 =>
  if x21.1 = x22.1 then
  some (.inl ((v4 + (5 : Int32)), x22.2))
  else
  some (.inr (Sum.inr ((0 : Int32), x22.2)))
  else none
  else none
theorem j_law_317_23_ok {E : Ev} {cs : Nat × Nat} {G : Gw} {d : Nat} {Q : State → Prop} {b L : Nat} {xs : Nat → Int32} (X : Cx E G code "WomenByTheRoofsLaw" 7 d ret) (hz0 : Zc E cs) (hz : Zc E (cs.1 + 1, cs.2 + 6)) (hT : Tw G E.2.2.2.2.1 E.2.2.2.2.1.heap) (hl9 : E.2.1.stackTraces = false) (hX : va_X b L xs E.2.2.2.2.1 E.2.2.2.2.1.heap) (hbl : b < E.2.2.2.2.1.heap.size) (hbA : ¬ G.2.2 ≤ b) (hD : 450 ≤ d)  (v4 : Int32)  (M : Mem)  (o : (Int32 × Mem) ⊕ ((Mem) ⊕ (Int32 × Mem))) (h : j_law_317_23 L xs v4 M = some o) (kc : ∀ s9 : Int32 × Mem, o = .inl s9 → V E (cs.1 + 1, cs.2 + 6) G 7 Q s9.2 23 [(0, .ref b), (1, .ref (G.2.2 + 0)), (2, .ref (G.2.2 + 162)), (3, .ref (G.2.2 + 192)), (4, .int s9.1)] []) (kx0 : ∀ x9 : Mem, o = .inr (Sum.inl x9) → V E (cs.1 + 1, cs.2 + 6) G 7 Q x9 1643 [] []) (kr : ∀ x9 : Int32 × Mem, o = .inr (Sum.inr x9) → False) : V E cs G 7 Q M 317 [(0, .ref b), (1, .ref (G.2.2 + 0)), (2, .ref (G.2.2 + 162)), (3, .ref (G.2.2 + 192)), (4, .int v4)] [] := by
  unfold j_law_317_23 at h
  refine V_aload_n (n := 1) X d_law_317 rfl rfl rfl ?_
  refine V_aload_n (n := 0) X d_law_318 rfl rfl rfl ?_
  refine V_iload (n := 4) X d_law_319 rfl rfl ?_
  refine V_iconst (v := 1) X d_law_321 (by decide) rfl ?_
  refine V_iadd X d_law_322 rfl ?_
  obtain ⟨hb, h⟩ := ifn h
  refine V_sld X hX hbl hbA hb d_law_323 rfl ?_
  obtain ⟨x21, hx21, h⟩ := ob_s h
  refine V_ci (As := [.int (xs (v4 + (1 : Int32)).toNatClampNeg)]) X hz0 ml_Lw_48 yq_Top_route (c_Top_route E.2.1 G (xs (v4 + (1 : Int32)).toNatClampNeg) M x21 hx21 _ (Nat.le_refl _)) kd_0 rfl rfl (by omega) rfl (Nat.le_of_ble_eq_true rfl) d_law_324 rfl (fun r9 M9 hq => ?_)
  rw [hq.1, hq.2]
  refine V_aload_n (n := 2) X d_law_327 rfl rfl rfl ?_
  refine V_aload_n (n := 0) X d_law_328 rfl rfl rfl ?_
  refine V_iload (n := 4) X d_law_329 rfl rfl ?_
  refine V_iconst (v := 1) X d_law_331 (by decide) rfl ?_
  refine V_iadd X d_law_332 rfl ?_
  obtain ⟨hb, h⟩ := ifn h
  refine V_sld X hX hbl hbA hb d_law_333 rfl ?_
  obtain ⟨x22, hx22, h⟩ := ob_s h
  refine V_ci (As := [.int (xs (v4 + (1 : Int32)).toNatClampNeg)]) X hz0 ml_Lw_51 yq_Mod_route (c_Mod_route E.2.1 G (xs (v4 + (1 : Int32)).toNatClampNeg) x21.2 x22 hx22 _ (Nat.le_refl _)) kd_162 rfl rfl (by omega) rfl (Nat.le_of_ble_eq_true rfl) d_law_334 rfl (fun r9 M9 hq => ?_)
  rw [hq.1, hq.2]
  refine V_icmp_eq (tgt := 1637) X d_law_337 (by decide) rfl (fun c23 => ?_) (fun c23 => ?_)
  · rw [if_pos c23] at h
    refine V_iinc (n := 4) (v := (v4 + (5 : Int32))) (lv' := [(4, .int (v4 + (5 : Int32))), (0, .ref b), (1, .ref (G.2.2 + 0)), (2, .ref (G.2.2 + 162)), (3, .ref (G.2.2 + 192))]) X d_law_1637 rfl rfl (by decide) rfl rfl ?_
    refine V_goto (pc' := 23) X d_law_1640 (by decide) ?_
    refine V_wid (cs' := (cs.1 + 1, cs.2 + 6)) ⟨Nat.le_succ _, Nat.le_add_right _ _⟩ ?_
    refine V_sub (lv' := [(0, .ref b), (1, .ref (G.2.2 + 0)), (2, .ref (G.2.2 + 162)), (3, .ref (G.2.2 + 192)), (4, .int (v4 + (5 : Int32)))]) [1, 2, 3, 4, 0] rfl ?_
    exact kc ((v4 + (5 : Int32)), x22.2) (Option.some.inj h).symm
  · rw [if_neg c23] at h
    refine V_iconst (v := 0) X d_law_340 (by decide) rfl ?_
    exact (kr ((0 : Int32), x22.2) (Option.some.inj h).symm).elim
def j_law_342_23 (L : Nat) (xs : Nat → Int32) (v4 : Int32) (M : Mem) : Option ((Int32 × Mem) ⊕ ((Mem) ⊕ (Int32 × Mem))) :=
  if inb (v4 + (1 : Int32)) L = true then
  if inb (v4 + (2 : Int32)) L = true then
  Option.bind (f_Lw_cell (xs (v4 + (1 : Int32)).toNatClampNeg) (xs (v4 + (2 : Int32)).toNatClampNeg) M) fun x25 =>
  if inb (v4 + (1 : Int32)) L = true then
  if inb (v4 + (2 : Int32)) L = true then
  Option.bind (f_Mod_cell (xs (v4 + (1 : Int32)).toNatClampNeg) (xs (v4 + (2 : Int32)).toNatClampNeg) x25.2) fun x26 =>
  Option.bind (f_Mod_thrown x26.2) fun x27 =>
  if x27 = x25.1 then
  if x25.1 = 0 then
  if (lg_cmp (x26.2.2.1 192 (0 : Int32).toNatClampNeg) x26.1.toInt64) = 0 then
  some (.inl ((v4 + (5 : Int32)), x26.2))
  else
  some (.inr (Sum.inr ((0 : Int32), x26.2)))
  else
  some (.inl ((v4 + (5 : Int32)), x26.2))
  else
  some (.inr (Sum.inr ((0 : Int32), x26.2)))
  else none
  else none
  else none
  else none
theorem j_law_342_23_ok {E : Ev} {cs : Nat × Nat} {G : Gw} {d : Nat} {Q : State → Prop} {b L : Nat} {xs : Nat → Int32} (X : Cx E G code "WomenByTheRoofsLaw" 7 d ret) (hz0 : Zc E cs) (hz : Zc E (cs.1 + 1, cs.2 + 6)) (hT : Tw G E.2.2.2.2.1 E.2.2.2.2.1.heap) (hl9 : E.2.1.stackTraces = false) (hX : va_X b L xs E.2.2.2.2.1 E.2.2.2.2.1.heap) (hbl : b < E.2.2.2.2.1.heap.size) (hbA : ¬ G.2.2 ≤ b) (hD : 450 ≤ d)  (v4 : Int32)  (M : Mem)  (o : (Int32 × Mem) ⊕ ((Mem) ⊕ (Int32 × Mem))) (h : j_law_342_23 L xs v4 M = some o) (kc : ∀ s9 : Int32 × Mem, o = .inl s9 → V E (cs.1 + 1, cs.2 + 6) G 7 Q s9.2 23 [(0, .ref b), (1, .ref (G.2.2 + 0)), (2, .ref (G.2.2 + 162)), (3, .ref (G.2.2 + 192)), (4, .int s9.1)] []) (kx0 : ∀ x9 : Mem, o = .inr (Sum.inl x9) → V E (cs.1 + 1, cs.2 + 6) G 7 Q x9 1643 [] []) (kr : ∀ x9 : Int32 × Mem, o = .inr (Sum.inr x9) → False) : V E cs G 7 Q M 342 [(0, .ref b), (1, .ref (G.2.2 + 0)), (2, .ref (G.2.2 + 162)), (3, .ref (G.2.2 + 192)), (4, .int v4)] [] := by
  unfold j_law_342_23 at h
  refine V_aload_n (n := 1) X d_law_342 rfl rfl rfl ?_
  refine V_aload_n (n := 0) X d_law_343 rfl rfl rfl ?_
  refine V_iload (n := 4) X d_law_344 rfl rfl ?_
  refine V_iconst (v := 1) X d_law_346 (by decide) rfl ?_
  refine V_iadd X d_law_347 rfl ?_
  obtain ⟨hb, h⟩ := ifn h
  refine V_sld X hX hbl hbA hb d_law_348 rfl ?_
  refine V_aload_n (n := 0) X d_law_349 rfl rfl rfl ?_
  refine V_iload (n := 4) X d_law_350 rfl rfl ?_
  refine V_iconst (v := 2) X d_law_352 (by decide) rfl ?_
  refine V_iadd X d_law_353 rfl ?_
  obtain ⟨hb, h⟩ := ifn h
  refine V_sld X hX hbl hbA hb d_law_354 rfl ?_
  refine V_aload_n (n := 3) X d_law_355 rfl rfl rfl ?_
  obtain ⟨x25, hx25, h⟩ := ob_s h
  refine V_sh (As := [.ref (G.2.2 + 0), .int (xs (v4 + (1 : Int32)).toNatClampNeg), .int (xs (v4 + (2 : Int32)).toNatClampNeg), .ref (G.2.2 + 192)]) X hT hz rfl mh_52 yh_Lw_cell (by decide) (c_Lw_cell E.2.1 hl9 G (xs (v4 + (1 : Int32)).toNatClampNeg) (xs (v4 + (2 : Int32)).toNatClampNeg) M x25 hx25 _ (Nat.le_refl _)) rfl (by omega) rfl (Nat.le_of_ble_eq_true rfl) d_law_356 rfl (fun r9 M9 hq => ?_)
  rw [hq.1, hq.2]
  refine V_istore (lv' := [(5, .int x25.1), (0, .ref b), (1, .ref (G.2.2 + 0)), (2, .ref (G.2.2 + 162)), (3, .ref (G.2.2 + 192)), (4, .int v4)]) X d_law_359 (by decide) rfl rfl ?_
  refine V_aload_n (n := 3) X d_law_361 rfl rfl rfl ?_
  refine V_aload_n (n := 1) X d_law_362 rfl rfl rfl ?_
  refine V_iload (n := 5) X d_law_363 rfl rfl ?_
  refine V_iconst (v := 1) X d_law_365 (by decide) rfl ?_
  refine V_iadd X d_law_366 rfl ?_
  obtain ⟨hb, h⟩ := ifn h
  refine V_sld X hX hbl hbA hb d_law_367 rfl ?_
  refine V_aload_n (n := 1) X d_law_368 rfl rfl rfl ?_
  refine V_iload (n := 5) X d_law_369 rfl rfl ?_
  refine V_iconst (v := 2) X d_law_371 (by decide) rfl ?_
  refine V_iadd X d_law_372 rfl ?_
  obtain ⟨hb, h⟩ := ifn h
  refine V_sld X hX hbl hbA hb d_law_373 rfl ?_
  obtain ⟨x26, hx26, h⟩ := ob_s h
  refine V_ci (As := [.int (xs (v4 + (1 : Int32)).toNatClampNeg), .int (xs (v4 + (2 : Int32)).toNatClampNeg)]) X hz ml_Lw_57 yq_Mod_cell (c_Mod_cell E.2.1 G (xs (v4 + (1 : Int32)).toNatClampNeg) (xs (v4 + (2 : Int32)).toNatClampNeg) x25.2 x26 hx26 _ (Nat.le_refl _)) kd_162 rfl rfl (by omega) rfl (Nat.le_of_ble_eq_true rfl) d_law_374 rfl (fun r9 M9 hq => ?_)
  rw [hq.1, hq.2]
  refine V_istore (lv' := [(6, .int x26.1), (5, .int x25.1), (0, .ref b), (1, .ref (G.2.2 + 0)), (2, .ref (G.2.2 + 162)), (3, .ref (G.2.2 + 192)), (4, .int v4)]) X d_law_377 (by decide) rfl rfl ?_
  refine V_aload_n (n := 4) X d_law_379 rfl rfl rfl ?_
  obtain ⟨x27, hx27, h⟩ := ob_s h
  refine V_ci (As := []) X hz ml_Lw_58 yq_Mod_thrown (c_Mod_thrown E.2.1 G  x26.2 x27 hx27 _ (Nat.le_refl _)) kd_162 rfl rfl (by omega) rfl (Nat.le_of_ble_eq_true rfl) d_law_380 rfl (fun r9 M9 hq => ?_)
  rw [hq.1, hq.2]
  refine V_iload (n := 1) X d_law_383 rfl rfl ?_
  refine V_icmp_eq (tgt := 390) X d_law_385 (by decide) rfl (fun c30 => ?_) (fun c30 => ?_)
  · rw [if_pos c30] at h
    refine V_iload (n := 1) X d_law_390 rfl rfl ?_
    refine V_if_ne (tgt := 407) X d_law_392 (by decide) rfl (fun c29 => ?_) (fun c29 => ?_)
    · rw [if_neg c29] at h
      refine V_goto (pc' := 1637) X d_law_407 (by decide) ?_
      refine V_iinc (n := 6) (v := (v4 + (5 : Int32))) (lv' := [(4, .int (v4 + (5 : Int32))), (6, .int x26.1), (5, .int x25.1), (0, .ref b), (1, .ref (G.2.2 + 0)), (2, .ref (G.2.2 + 162)), (3, .ref (G.2.2 + 192))]) X d_law_1637 rfl rfl (by decide) rfl rfl ?_
      refine V_goto (pc' := 23) X d_law_1640 (by decide) ?_
      refine V_sub (lv' := [(0, .ref b), (1, .ref (G.2.2 + 0)), (2, .ref (G.2.2 + 162)), (3, .ref (G.2.2 + 192)), (4, .int (v4 + (5 : Int32)))]) [3, 4, 5, 6, 0] rfl ?_
      exact kc ((v4 + (5 : Int32)), x26.2) (Option.some.inj h).symm
    · rw [if_pos c29] at h
      refine V_aload_n (n := 5) X d_law_395 rfl rfl rfl ?_
      refine V_iconst (v := 0) X d_law_396 (by decide) rfl ?_
      refine V_lald X kd_192 (inb_in ln_192 (by decide)) d_law_397 rfl ?_
      refine V_iload (n := 0) X d_law_398 rfl rfl ?_
      refine V_i2l X d_law_400 rfl ?_
      refine V_lcmp X d_law_401 rfl ?_
      refine V_if_eq (tgt := 407) X d_law_402 (by decide) rfl (fun c28 => ?_) (fun c28 => ?_)
      · rw [if_pos c28] at h
        refine V_goto (pc' := 1637) X d_law_407 (by decide) ?_
        refine V_iinc (n := 6) (v := (v4 + (5 : Int32))) (lv' := [(4, .int (v4 + (5 : Int32))), (6, .int x26.1), (5, .int x25.1), (0, .ref b), (1, .ref (G.2.2 + 0)), (2, .ref (G.2.2 + 162)), (3, .ref (G.2.2 + 192))]) X d_law_1637 rfl rfl (by decide) rfl rfl ?_
        refine V_goto (pc' := 23) X d_law_1640 (by decide) ?_
        refine V_sub (lv' := [(0, .ref b), (1, .ref (G.2.2 + 0)), (2, .ref (G.2.2 + 162)), (3, .ref (G.2.2 + 192)), (4, .int (v4 + (5 : Int32)))]) [3, 4, 5, 6, 0] rfl ?_
        exact kc ((v4 + (5 : Int32)), x26.2) (Option.some.inj h).symm
      · rw [if_neg c28] at h
        refine V_iconst (v := 0) X d_law_405 (by decide) rfl ?_
        exact (kr ((0 : Int32), x26.2) (Option.some.inj h).symm).elim
  · rw [if_neg c30] at h
    refine V_iconst (v := 0) X d_law_388 (by decide) rfl ?_
    exact (kr ((0 : Int32), x26.2) (Option.some.inj h).symm).elim
def j_law_410_23 (L : Nat) (xs : Nat → Int32) (v4 : Int32) (M : Mem) : Option ((Int32 × Mem) ⊕ ((Mem) ⊕ (Int32 × Mem))) :=
  if inb (v4 + (1 : Int32)) L = true then
  if inb (v4 + (2 : Int32)) L = true then
  Option.bind (f_Lw_person (xs (v4 + (1 : Int32)).toNatClampNeg) (xs (v4 + (2 : Int32)).toNatClampNeg) M) fun x32 =>
  if inb (v4 + (1 : Int32)) L = true then
  if inb (v4 + (2 : Int32)) L = true then
  Option.bind (f_Mod_person (xs (v4 + (1 : Int32)).toNatClampNeg) (xs (v4 + (2 : Int32)).toNatClampNeg) x32.2) fun x33 =>
  Option.bind (f_Mod_thrown x33.2) fun x34 =>
  if x34 = x32.1 then
  if x32.1 = 0 then
  if (lg_cmp (x33.2.2.1 192 (0 : Int32).toNatClampNeg) x33.1.toInt64) = 0 then
  some (.inl ((v4 + (5 : Int32)), x33.2))
  else
  some (.inr (Sum.inr ((0 : Int32), x33.2)))
  else
  some (.inl ((v4 + (5 : Int32)), x33.2))
  else
  some (.inr (Sum.inr ((0 : Int32), x33.2)))
  else none
  else none
  else none
  else none
theorem j_law_410_23_ok {E : Ev} {cs : Nat × Nat} {G : Gw} {d : Nat} {Q : State → Prop} {b L : Nat} {xs : Nat → Int32} (X : Cx E G code "WomenByTheRoofsLaw" 7 d ret) (hz0 : Zc E cs) (hz : Zc E (cs.1 + 1, cs.2 + 6)) (hT : Tw G E.2.2.2.2.1 E.2.2.2.2.1.heap) (hl9 : E.2.1.stackTraces = false) (hX : va_X b L xs E.2.2.2.2.1 E.2.2.2.2.1.heap) (hbl : b < E.2.2.2.2.1.heap.size) (hbA : ¬ G.2.2 ≤ b) (hD : 450 ≤ d)  (v4 : Int32)  (M : Mem)  (o : (Int32 × Mem) ⊕ ((Mem) ⊕ (Int32 × Mem))) (h : j_law_410_23 L xs v4 M = some o) (kc : ∀ s9 : Int32 × Mem, o = .inl s9 → V E (cs.1 + 1, cs.2 + 6) G 7 Q s9.2 23 [(0, .ref b), (1, .ref (G.2.2 + 0)), (2, .ref (G.2.2 + 162)), (3, .ref (G.2.2 + 192)), (4, .int s9.1)] []) (kx0 : ∀ x9 : Mem, o = .inr (Sum.inl x9) → V E (cs.1 + 1, cs.2 + 6) G 7 Q x9 1643 [] []) (kr : ∀ x9 : Int32 × Mem, o = .inr (Sum.inr x9) → False) : V E cs G 7 Q M 410 [(0, .ref b), (1, .ref (G.2.2 + 0)), (2, .ref (G.2.2 + 162)), (3, .ref (G.2.2 + 192)), (4, .int v4)] [] := by
  unfold j_law_410_23 at h
  refine V_aload_n (n := 1) X d_law_410 rfl rfl rfl ?_
  refine V_aload_n (n := 0) X d_law_411 rfl rfl rfl ?_
  refine V_iload (n := 4) X d_law_412 rfl rfl ?_
  refine V_iconst (v := 1) X d_law_414 (by decide) rfl ?_
  refine V_iadd X d_law_415 rfl ?_
  obtain ⟨hb, h⟩ := ifn h
  refine V_sld X hX hbl hbA hb d_law_416 rfl ?_
  refine V_aload_n (n := 0) X d_law_417 rfl rfl rfl ?_
  refine V_iload (n := 4) X d_law_418 rfl rfl ?_
  refine V_iconst (v := 2) X d_law_420 (by decide) rfl ?_
  refine V_iadd X d_law_421 rfl ?_
  obtain ⟨hb, h⟩ := ifn h
  refine V_sld X hX hbl hbA hb d_law_422 rfl ?_
  refine V_aload_n (n := 3) X d_law_423 rfl rfl rfl ?_
  obtain ⟨x32, hx32, h⟩ := ob_s h
  refine V_sh (As := [.ref (G.2.2 + 0), .int (xs (v4 + (1 : Int32)).toNatClampNeg), .int (xs (v4 + (2 : Int32)).toNatClampNeg), .ref (G.2.2 + 192)]) X hT hz rfl mh_61 yh_Lw_person (by decide) (c_Lw_person E.2.1 hl9 G (xs (v4 + (1 : Int32)).toNatClampNeg) (xs (v4 + (2 : Int32)).toNatClampNeg) M x32 hx32 _ (Nat.le_refl _)) rfl (by omega) rfl (Nat.le_of_ble_eq_true rfl) d_law_424 rfl (fun r9 M9 hq => ?_)
  rw [hq.1, hq.2]
  refine V_istore (lv' := [(5, .int x32.1), (0, .ref b), (1, .ref (G.2.2 + 0)), (2, .ref (G.2.2 + 162)), (3, .ref (G.2.2 + 192)), (4, .int v4)]) X d_law_427 (by decide) rfl rfl ?_
  refine V_aload_n (n := 3) X d_law_429 rfl rfl rfl ?_
  refine V_aload_n (n := 1) X d_law_430 rfl rfl rfl ?_
  refine V_iload (n := 5) X d_law_431 rfl rfl ?_
  refine V_iconst (v := 1) X d_law_433 (by decide) rfl ?_
  refine V_iadd X d_law_434 rfl ?_
  obtain ⟨hb, h⟩ := ifn h
  refine V_sld X hX hbl hbA hb d_law_435 rfl ?_
  refine V_aload_n (n := 1) X d_law_436 rfl rfl rfl ?_
  refine V_iload (n := 5) X d_law_437 rfl rfl ?_
  refine V_iconst (v := 2) X d_law_439 (by decide) rfl ?_
  refine V_iadd X d_law_440 rfl ?_
  obtain ⟨hb, h⟩ := ifn h
  refine V_sld X hX hbl hbA hb d_law_441 rfl ?_
  obtain ⟨x33, hx33, h⟩ := ob_s h
  refine V_ci (As := [.int (xs (v4 + (1 : Int32)).toNatClampNeg), .int (xs (v4 + (2 : Int32)).toNatClampNeg)]) X hz ml_Lw_63 yq_Mod_person (c_Mod_person E.2.1 G (xs (v4 + (1 : Int32)).toNatClampNeg) (xs (v4 + (2 : Int32)).toNatClampNeg) x32.2 x33 hx33 _ (Nat.le_refl _)) kd_162 rfl rfl (by omega) rfl (Nat.le_of_ble_eq_true rfl) d_law_442 rfl (fun r9 M9 hq => ?_)
  rw [hq.1, hq.2]
  refine V_istore (lv' := [(6, .int x33.1), (5, .int x32.1), (0, .ref b), (1, .ref (G.2.2 + 0)), (2, .ref (G.2.2 + 162)), (3, .ref (G.2.2 + 192)), (4, .int v4)]) X d_law_445 (by decide) rfl rfl ?_
  refine V_aload_n (n := 4) X d_law_447 rfl rfl rfl ?_
  obtain ⟨x34, hx34, h⟩ := ob_s h
  refine V_ci (As := []) X hz ml_Lw_58 yq_Mod_thrown (c_Mod_thrown E.2.1 G  x33.2 x34 hx34 _ (Nat.le_refl _)) kd_162 rfl rfl (by omega) rfl (Nat.le_of_ble_eq_true rfl) d_law_448 rfl (fun r9 M9 hq => ?_)
  rw [hq.1, hq.2]
  refine V_iload (n := 1) X d_law_451 rfl rfl ?_
  refine V_icmp_eq (tgt := 458) X d_law_453 (by decide) rfl (fun c37 => ?_) (fun c37 => ?_)
  · rw [if_pos c37] at h
    refine V_iload (n := 1) X d_law_458 rfl rfl ?_
    refine V_if_ne (tgt := 475) X d_law_460 (by decide) rfl (fun c36 => ?_) (fun c36 => ?_)
    · rw [if_neg c36] at h
      refine V_goto (pc' := 1637) X d_law_475 (by decide) ?_
      refine V_iinc (n := 6) (v := (v4 + (5 : Int32))) (lv' := [(4, .int (v4 + (5 : Int32))), (6, .int x33.1), (5, .int x32.1), (0, .ref b), (1, .ref (G.2.2 + 0)), (2, .ref (G.2.2 + 162)), (3, .ref (G.2.2 + 192))]) X d_law_1637 rfl rfl (by decide) rfl rfl ?_
      refine V_goto (pc' := 23) X d_law_1640 (by decide) ?_
      refine V_sub (lv' := [(0, .ref b), (1, .ref (G.2.2 + 0)), (2, .ref (G.2.2 + 162)), (3, .ref (G.2.2 + 192)), (4, .int (v4 + (5 : Int32)))]) [3, 4, 5, 6, 0] rfl ?_
      exact kc ((v4 + (5 : Int32)), x33.2) (Option.some.inj h).symm
    · rw [if_pos c36] at h
      refine V_aload_n (n := 5) X d_law_463 rfl rfl rfl ?_
      refine V_iconst (v := 0) X d_law_464 (by decide) rfl ?_
      refine V_lald X kd_192 (inb_in ln_192 (by decide)) d_law_465 rfl ?_
      refine V_iload (n := 0) X d_law_466 rfl rfl ?_
      refine V_i2l X d_law_468 rfl ?_
      refine V_lcmp X d_law_469 rfl ?_
      refine V_if_eq (tgt := 475) X d_law_470 (by decide) rfl (fun c35 => ?_) (fun c35 => ?_)
      · rw [if_pos c35] at h
        refine V_goto (pc' := 1637) X d_law_475 (by decide) ?_
        refine V_iinc (n := 6) (v := (v4 + (5 : Int32))) (lv' := [(4, .int (v4 + (5 : Int32))), (6, .int x33.1), (5, .int x32.1), (0, .ref b), (1, .ref (G.2.2 + 0)), (2, .ref (G.2.2 + 162)), (3, .ref (G.2.2 + 192))]) X d_law_1637 rfl rfl (by decide) rfl rfl ?_
        refine V_goto (pc' := 23) X d_law_1640 (by decide) ?_
        refine V_sub (lv' := [(0, .ref b), (1, .ref (G.2.2 + 0)), (2, .ref (G.2.2 + 162)), (3, .ref (G.2.2 + 192)), (4, .int (v4 + (5 : Int32)))]) [3, 4, 5, 6, 0] rfl ?_
        exact kc ((v4 + (5 : Int32)), x33.2) (Option.some.inj h).symm
      · rw [if_neg c35] at h
        refine V_iconst (v := 0) X d_law_473 (by decide) rfl ?_
        exact (kr ((0 : Int32), x33.2) (Option.some.inj h).symm).elim
  · rw [if_neg c37] at h
    refine V_iconst (v := 0) X d_law_456 (by decide) rfl ?_
    exact (kr ((0 : Int32), x33.2) (Option.some.inj h).symm).elim
def j_law_478_23 (L : Nat) (xs : Nat → Int32) (v4 : Int32) (M : Mem) : Option ((Int32 × Mem) ⊕ ((Mem) ⊕ (Int32 × Mem))) :=
  if inb (v4 + (1 : Int32)) L = true then
  if inb (v4 + (2 : Int32)) L = true then
  Option.bind (f_Top_build (xs (v4 + (1 : Int32)).toNatClampNeg) (xs (v4 + (2 : Int32)).toNatClampNeg) M) fun x39 =>
  if inb (v4 + (1 : Int32)) L = true then
  if inb (v4 + (2 : Int32)) L = true then
  Option.bind (f_Mod_build (xs (v4 + (1 : Int32)).toNatClampNeg) (xs (v4 + (2 : Int32)).toNatClampNeg) x39.2) fun x40 =>
  if x39.1 = x40.1 then
  some (.inl ((v4 + (5 : Int32)), x40.2))
  else
  some (.inr (Sum.inr ((0 : Int32), x40.2)))
  else none
  else none
  else none
  else none
theorem j_law_478_23_ok {E : Ev} {cs : Nat × Nat} {G : Gw} {d : Nat} {Q : State → Prop} {b L : Nat} {xs : Nat → Int32} (X : Cx E G code "WomenByTheRoofsLaw" 7 d ret) (hz0 : Zc E cs) (hz : Zc E (cs.1 + 1, cs.2 + 6)) (hT : Tw G E.2.2.2.2.1 E.2.2.2.2.1.heap) (hl9 : E.2.1.stackTraces = false) (hX : va_X b L xs E.2.2.2.2.1 E.2.2.2.2.1.heap) (hbl : b < E.2.2.2.2.1.heap.size) (hbA : ¬ G.2.2 ≤ b) (hD : 450 ≤ d)  (v4 : Int32)  (M : Mem)  (o : (Int32 × Mem) ⊕ ((Mem) ⊕ (Int32 × Mem))) (h : j_law_478_23 L xs v4 M = some o) (kc : ∀ s9 : Int32 × Mem, o = .inl s9 → V E (cs.1 + 1, cs.2 + 6) G 7 Q s9.2 23 [(0, .ref b), (1, .ref (G.2.2 + 0)), (2, .ref (G.2.2 + 162)), (3, .ref (G.2.2 + 192)), (4, .int s9.1)] []) (kx0 : ∀ x9 : Mem, o = .inr (Sum.inl x9) → V E (cs.1 + 1, cs.2 + 6) G 7 Q x9 1643 [] []) (kr : ∀ x9 : Int32 × Mem, o = .inr (Sum.inr x9) → False) : V E cs G 7 Q M 478 [(0, .ref b), (1, .ref (G.2.2 + 0)), (2, .ref (G.2.2 + 162)), (3, .ref (G.2.2 + 192)), (4, .int v4)] [] := by
  unfold j_law_478_23 at h
  refine V_aload_n (n := 1) X d_law_478 rfl rfl rfl ?_
  refine V_aload_n (n := 0) X d_law_479 rfl rfl rfl ?_
  refine V_iload (n := 4) X d_law_480 rfl rfl ?_
  refine V_iconst (v := 1) X d_law_482 (by decide) rfl ?_
  refine V_iadd X d_law_483 rfl ?_
  obtain ⟨hb, h⟩ := ifn h
  refine V_sld X hX hbl hbA hb d_law_484 rfl ?_
  refine V_aload_n (n := 0) X d_law_485 rfl rfl rfl ?_
  refine V_iload (n := 4) X d_law_486 rfl rfl ?_
  refine V_iconst (v := 2) X d_law_488 (by decide) rfl ?_
  refine V_iadd X d_law_489 rfl ?_
  obtain ⟨hb, h⟩ := ifn h
  refine V_sld X hX hbl hbA hb d_law_490 rfl ?_
  obtain ⟨x39, hx39, h⟩ := ob_s h
  refine V_ci (As := [.int (xs (v4 + (1 : Int32)).toNatClampNeg), .int (xs (v4 + (2 : Int32)).toNatClampNeg)]) X hz0 ml_Lw_64 yq_Top_build (c_Top_build E.2.1 G (xs (v4 + (1 : Int32)).toNatClampNeg) (xs (v4 + (2 : Int32)).toNatClampNeg) M x39 hx39 _ (Nat.le_refl _)) kd_0 rfl rfl (by omega) rfl (Nat.le_of_ble_eq_true rfl) d_law_491 rfl (fun r9 M9 hq => ?_)
  rw [hq.1, hq.2]
  refine V_aload_n (n := 2) X d_law_494 rfl rfl rfl ?_
  refine V_aload_n (n := 0) X d_law_495 rfl rfl rfl ?_
  refine V_iload (n := 4) X d_law_496 rfl rfl ?_
  refine V_iconst (v := 1) X d_law_498 (by decide) rfl ?_
  refine V_iadd X d_law_499 rfl ?_
  obtain ⟨hb, h⟩ := ifn h
  refine V_sld X hX hbl hbA hb d_law_500 rfl ?_
  refine V_aload_n (n := 0) X d_law_501 rfl rfl rfl ?_
  refine V_iload (n := 4) X d_law_502 rfl rfl ?_
  refine V_iconst (v := 2) X d_law_504 (by decide) rfl ?_
  refine V_iadd X d_law_505 rfl ?_
  obtain ⟨hb, h⟩ := ifn h
  refine V_sld X hX hbl hbA hb d_law_506 rfl ?_
  obtain ⟨x40, hx40, h⟩ := ob_s h
  refine V_ci (As := [.int (xs (v4 + (1 : Int32)).toNatClampNeg), .int (xs (v4 + (2 : Int32)).toNatClampNeg)]) X hz0 ml_Lw_67 yq_Mod_build (c_Mod_build E.2.1 G (xs (v4 + (1 : Int32)).toNatClampNeg) (xs (v4 + (2 : Int32)).toNatClampNeg) x39.2 x40 hx40 _ (Nat.le_refl _)) kd_162 rfl rfl (by omega) rfl (Nat.le_of_ble_eq_true rfl) d_law_507 rfl (fun r9 M9 hq => ?_)
  rw [hq.1, hq.2]
  refine V_icmp_eq (tgt := 1637) X d_law_510 (by decide) rfl (fun c41 => ?_) (fun c41 => ?_)
  · rw [if_pos c41] at h
    refine V_iinc (n := 4) (v := (v4 + (5 : Int32))) (lv' := [(4, .int (v4 + (5 : Int32))), (0, .ref b), (1, .ref (G.2.2 + 0)), (2, .ref (G.2.2 + 162)), (3, .ref (G.2.2 + 192))]) X d_law_1637 rfl rfl (by decide) rfl rfl ?_
    refine V_goto (pc' := 23) X d_law_1640 (by decide) ?_
    refine V_wid (cs' := (cs.1 + 1, cs.2 + 6)) ⟨Nat.le_succ _, Nat.le_add_right _ _⟩ ?_
    refine V_sub (lv' := [(0, .ref b), (1, .ref (G.2.2 + 0)), (2, .ref (G.2.2 + 162)), (3, .ref (G.2.2 + 192)), (4, .int (v4 + (5 : Int32)))]) [1, 2, 3, 4, 0] rfl ?_
    exact kc ((v4 + (5 : Int32)), x40.2) (Option.some.inj h).symm
  · rw [if_neg c41] at h
    refine V_iconst (v := 0) X d_law_513 (by decide) rfl ?_
    exact (kr ((0 : Int32), x40.2) (Option.some.inj h).symm).elim
def j_law_515_23 (L : Nat) (xs : Nat → Int32) (v4 : Int32) (M : Mem) : Option ((Int32 × Mem) ⊕ ((Mem) ⊕ (Int32 × Mem))) :=
  if inb (v4 + (1 : Int32)) L = true then
  if inb (v4 + (2 : Int32)) L = true then
  Option.bind (f_Top_plank (xs (v4 + (1 : Int32)).toNatClampNeg) (xs (v4 + (2 : Int32)).toNatClampNeg) M) fun x43 =>
  if inb (v4 + (1 : Int32)) L = true then
  if inb (v4 + (2 : Int32)) L = true then
  Option.bind (f_Mod_plank (xs (v4 + (1 : Int32)).toNatClampNeg) (xs (v4 + (2 : Int32)).toNatClampNeg) x43.2) fun x44 =>
  if x43.1 = x44.1 then
  some (.inl ((v4 + (5 : Int32)), x44.2))
  else
  some (.inr (Sum.inr ((0 : Int32), x44.2)))
  else none
  else none
  else none
  else none
theorem j_law_515_23_ok {E : Ev} {cs : Nat × Nat} {G : Gw} {d : Nat} {Q : State → Prop} {b L : Nat} {xs : Nat → Int32} (X : Cx E G code "WomenByTheRoofsLaw" 7 d ret) (hz0 : Zc E cs) (hz : Zc E (cs.1 + 1, cs.2 + 6)) (hT : Tw G E.2.2.2.2.1 E.2.2.2.2.1.heap) (hl9 : E.2.1.stackTraces = false) (hX : va_X b L xs E.2.2.2.2.1 E.2.2.2.2.1.heap) (hbl : b < E.2.2.2.2.1.heap.size) (hbA : ¬ G.2.2 ≤ b) (hD : 450 ≤ d)  (v4 : Int32)  (M : Mem)  (o : (Int32 × Mem) ⊕ ((Mem) ⊕ (Int32 × Mem))) (h : j_law_515_23 L xs v4 M = some o) (kc : ∀ s9 : Int32 × Mem, o = .inl s9 → V E (cs.1 + 1, cs.2 + 6) G 7 Q s9.2 23 [(0, .ref b), (1, .ref (G.2.2 + 0)), (2, .ref (G.2.2 + 162)), (3, .ref (G.2.2 + 192)), (4, .int s9.1)] []) (kx0 : ∀ x9 : Mem, o = .inr (Sum.inl x9) → V E (cs.1 + 1, cs.2 + 6) G 7 Q x9 1643 [] []) (kr : ∀ x9 : Int32 × Mem, o = .inr (Sum.inr x9) → False) : V E cs G 7 Q M 515 [(0, .ref b), (1, .ref (G.2.2 + 0)), (2, .ref (G.2.2 + 162)), (3, .ref (G.2.2 + 192)), (4, .int v4)] [] := by
  unfold j_law_515_23 at h
  refine V_aload_n (n := 1) X d_law_515 rfl rfl rfl ?_
  refine V_aload_n (n := 0) X d_law_516 rfl rfl rfl ?_
  refine V_iload (n := 4) X d_law_517 rfl rfl ?_
  refine V_iconst (v := 1) X d_law_519 (by decide) rfl ?_
  refine V_iadd X d_law_520 rfl ?_
  obtain ⟨hb, h⟩ := ifn h
  refine V_sld X hX hbl hbA hb d_law_521 rfl ?_
  refine V_aload_n (n := 0) X d_law_522 rfl rfl rfl ?_
  refine V_iload (n := 4) X d_law_523 rfl rfl ?_
  refine V_iconst (v := 2) X d_law_525 (by decide) rfl ?_
  refine V_iadd X d_law_526 rfl ?_
  obtain ⟨hb, h⟩ := ifn h
  refine V_sld X hX hbl hbA hb d_law_527 rfl ?_
  obtain ⟨x43, hx43, h⟩ := ob_s h
  refine V_ci (As := [.int (xs (v4 + (1 : Int32)).toNatClampNeg), .int (xs (v4 + (2 : Int32)).toNatClampNeg)]) X hz0 ml_Lw_68 yq_Top_plank (c_Top_plank E.2.1 G (xs (v4 + (1 : Int32)).toNatClampNeg) (xs (v4 + (2 : Int32)).toNatClampNeg) M x43 hx43 _ (Nat.le_refl _)) kd_0 rfl rfl (by omega) rfl (Nat.le_of_ble_eq_true rfl) d_law_528 rfl (fun r9 M9 hq => ?_)
  rw [hq.1, hq.2]
  refine V_aload_n (n := 2) X d_law_531 rfl rfl rfl ?_
  refine V_aload_n (n := 0) X d_law_532 rfl rfl rfl ?_
  refine V_iload (n := 4) X d_law_533 rfl rfl ?_
  refine V_iconst (v := 1) X d_law_535 (by decide) rfl ?_
  refine V_iadd X d_law_536 rfl ?_
  obtain ⟨hb, h⟩ := ifn h
  refine V_sld X hX hbl hbA hb d_law_537 rfl ?_
  refine V_aload_n (n := 0) X d_law_538 rfl rfl rfl ?_
  refine V_iload (n := 4) X d_law_539 rfl rfl ?_
  refine V_iconst (v := 2) X d_law_541 (by decide) rfl ?_
  refine V_iadd X d_law_542 rfl ?_
  obtain ⟨hb, h⟩ := ifn h
  refine V_sld X hX hbl hbA hb d_law_543 rfl ?_
  obtain ⟨x44, hx44, h⟩ := ob_s h
  refine V_ci (As := [.int (xs (v4 + (1 : Int32)).toNatClampNeg), .int (xs (v4 + (2 : Int32)).toNatClampNeg)]) X hz0 ml_Lw_71 yq_Mod_plank (c_Mod_plank E.2.1 G (xs (v4 + (1 : Int32)).toNatClampNeg) (xs (v4 + (2 : Int32)).toNatClampNeg) x43.2 x44 hx44 _ (Nat.le_refl _)) kd_162 rfl rfl (by omega) rfl (Nat.le_of_ble_eq_true rfl) d_law_544 rfl (fun r9 M9 hq => ?_)
  rw [hq.1, hq.2]
  refine V_icmp_eq (tgt := 1637) X d_law_547 (by decide) rfl (fun c45 => ?_) (fun c45 => ?_)
  · rw [if_pos c45] at h
    refine V_iinc (n := 4) (v := (v4 + (5 : Int32))) (lv' := [(4, .int (v4 + (5 : Int32))), (0, .ref b), (1, .ref (G.2.2 + 0)), (2, .ref (G.2.2 + 162)), (3, .ref (G.2.2 + 192))]) X d_law_1637 rfl rfl (by decide) rfl rfl ?_
    refine V_goto (pc' := 23) X d_law_1640 (by decide) ?_
    refine V_wid (cs' := (cs.1 + 1, cs.2 + 6)) ⟨Nat.le_succ _, Nat.le_add_right _ _⟩ ?_
    refine V_sub (lv' := [(0, .ref b), (1, .ref (G.2.2 + 0)), (2, .ref (G.2.2 + 162)), (3, .ref (G.2.2 + 192)), (4, .int (v4 + (5 : Int32)))]) [1, 2, 3, 4, 0] rfl ?_
    exact kc ((v4 + (5 : Int32)), x44.2) (Option.some.inj h).symm
  · rw [if_neg c45] at h
    refine V_iconst (v := 0) X d_law_550 (by decide) rfl ?_
    exact (kr ((0 : Int32), x44.2) (Option.some.inj h).symm).elim
def j_law_552_23 (L : Nat) (xs : Nat → Int32) (v4 : Int32) (M : Mem) : Option ((Int32 × Mem) ⊕ ((Mem) ⊕ (Int32 × Mem))) :=
  Option.bind (f_Top_take M) fun x47 =>
  Option.bind (f_Mod_take x47.2) fun x48 =>
  if x47.1 = x48.1 then
  some (.inl ((v4 + (5 : Int32)), x48.2))
  else
  some (.inr (Sum.inr ((0 : Int32), x48.2)))
theorem j_law_552_23_ok {E : Ev} {cs : Nat × Nat} {G : Gw} {d : Nat} {Q : State → Prop} {b L : Nat} {xs : Nat → Int32} (X : Cx E G code "WomenByTheRoofsLaw" 7 d ret) (hz0 : Zc E cs) (hz : Zc E (cs.1 + 1, cs.2 + 6)) (hT : Tw G E.2.2.2.2.1 E.2.2.2.2.1.heap) (hl9 : E.2.1.stackTraces = false) (hX : va_X b L xs E.2.2.2.2.1 E.2.2.2.2.1.heap) (hbl : b < E.2.2.2.2.1.heap.size) (hbA : ¬ G.2.2 ≤ b) (hD : 450 ≤ d)  (v4 : Int32)  (M : Mem)  (o : (Int32 × Mem) ⊕ ((Mem) ⊕ (Int32 × Mem))) (h : j_law_552_23 L xs v4 M = some o) (kc : ∀ s9 : Int32 × Mem, o = .inl s9 → V E (cs.1 + 1, cs.2 + 6) G 7 Q s9.2 23 [(0, .ref b), (1, .ref (G.2.2 + 0)), (2, .ref (G.2.2 + 162)), (3, .ref (G.2.2 + 192)), (4, .int s9.1)] []) (kx0 : ∀ x9 : Mem, o = .inr (Sum.inl x9) → V E (cs.1 + 1, cs.2 + 6) G 7 Q x9 1643 [] []) (kr : ∀ x9 : Int32 × Mem, o = .inr (Sum.inr x9) → False) : V E cs G 7 Q M 552 [(0, .ref b), (1, .ref (G.2.2 + 0)), (2, .ref (G.2.2 + 162)), (3, .ref (G.2.2 + 192)), (4, .int v4)] [] := by
  unfold j_law_552_23 at h
  refine V_aload_n (n := 1) X d_law_552 rfl rfl rfl ?_
  obtain ⟨x47, hx47, h⟩ := ob_s h
  refine V_ci (As := []) X hz0 ml_Lw_72 yq_Top_take (c_Top_take E.2.1 G  M x47 hx47 _ (Nat.le_refl _)) kd_0 rfl rfl (by omega) rfl (Nat.le_of_ble_eq_true rfl) d_law_553 rfl (fun r9 M9 hq => ?_)
  rw [hq.1, hq.2]
  refine V_aload_n (n := 2) X d_law_556 rfl rfl rfl ?_
  obtain ⟨x48, hx48, h⟩ := ob_s h
  refine V_ci (As := []) X hz0 ml_Lw_75 yq_Mod_take (c_Mod_take E.2.1 G  x47.2 x48 hx48 _ (Nat.le_refl _)) kd_162 rfl rfl (by omega) rfl (Nat.le_of_ble_eq_true rfl) d_law_557 rfl (fun r9 M9 hq => ?_)
  rw [hq.1, hq.2]
  refine V_icmp_eq (tgt := 1637) X d_law_560 (by decide) rfl (fun c49 => ?_) (fun c49 => ?_)
  · rw [if_pos c49] at h
    refine V_iinc (n := 4) (v := (v4 + (5 : Int32))) (lv' := [(4, .int (v4 + (5 : Int32))), (0, .ref b), (1, .ref (G.2.2 + 0)), (2, .ref (G.2.2 + 162)), (3, .ref (G.2.2 + 192))]) X d_law_1637 rfl rfl (by decide) rfl rfl ?_
    refine V_goto (pc' := 23) X d_law_1640 (by decide) ?_
    refine V_wid (cs' := (cs.1 + 1, cs.2 + 6)) ⟨Nat.le_succ _, Nat.le_add_right _ _⟩ ?_
    refine V_sub (lv' := [(0, .ref b), (1, .ref (G.2.2 + 0)), (2, .ref (G.2.2 + 162)), (3, .ref (G.2.2 + 192)), (4, .int (v4 + (5 : Int32)))]) [1, 2, 3, 4, 0] rfl ?_
    exact kc ((v4 + (5 : Int32)), x48.2) (Option.some.inj h).symm
  · rw [if_neg c49] at h
    refine V_iconst (v := 0) X d_law_563 (by decide) rfl ?_
    exact (kr ((0 : Int32), x48.2) (Option.some.inj h).symm).elim
def j_law_565_23 (L : Nat) (xs : Nat → Int32) (v4 : Int32) (M : Mem) : Option ((Int32 × Mem) ⊕ ((Mem) ⊕ (Int32 × Mem))) :=
  if inb (v4 + (1 : Int32)) L = true then
  if inb (v4 + (2 : Int32)) L = true then
  if inb (v4 + (3 : Int32)) L = true then
  if inb (v4 + (4 : Int32)) L = true then
  Option.bind (f_Top_sheet (xs (v4 + (1 : Int32)).toNatClampNeg) (xs (v4 + (2 : Int32)).toNatClampNeg) (xs (v4 + (3 : Int32)).toNatClampNeg) (xs (v4 + (4 : Int32)).toNatClampNeg) M) fun x51 =>
  if inb (v4 + (1 : Int32)) L = true then
  if inb (v4 + (2 : Int32)) L = true then
  if inb (v4 + (3 : Int32)) L = true then
  if inb (v4 + (4 : Int32)) L = true then
  Option.bind (f_Mod_sheet (xs (v4 + (1 : Int32)).toNatClampNeg) (xs (v4 + (2 : Int32)).toNatClampNeg) (xs (v4 + (3 : Int32)).toNatClampNeg) (xs (v4 + (4 : Int32)).toNatClampNeg) x51.2) fun x52 =>
  if x51.1 = x52.1 then
  some (.inl ((v4 + (5 : Int32)), x52.2))
  else
  some (.inr (Sum.inr ((0 : Int32), x52.2)))
  else none
  else none
  else none
  else none
  else none
  else none
  else none
  else none
theorem j_law_565_23_ok {E : Ev} {cs : Nat × Nat} {G : Gw} {d : Nat} {Q : State → Prop} {b L : Nat} {xs : Nat → Int32} (X : Cx E G code "WomenByTheRoofsLaw" 7 d ret) (hz0 : Zc E cs) (hz : Zc E (cs.1 + 1, cs.2 + 6)) (hT : Tw G E.2.2.2.2.1 E.2.2.2.2.1.heap) (hl9 : E.2.1.stackTraces = false) (hX : va_X b L xs E.2.2.2.2.1 E.2.2.2.2.1.heap) (hbl : b < E.2.2.2.2.1.heap.size) (hbA : ¬ G.2.2 ≤ b) (hD : 450 ≤ d)  (v4 : Int32)  (M : Mem)  (o : (Int32 × Mem) ⊕ ((Mem) ⊕ (Int32 × Mem))) (h : j_law_565_23 L xs v4 M = some o) (kc : ∀ s9 : Int32 × Mem, o = .inl s9 → V E (cs.1 + 1, cs.2 + 6) G 7 Q s9.2 23 [(0, .ref b), (1, .ref (G.2.2 + 0)), (2, .ref (G.2.2 + 162)), (3, .ref (G.2.2 + 192)), (4, .int s9.1)] []) (kx0 : ∀ x9 : Mem, o = .inr (Sum.inl x9) → V E (cs.1 + 1, cs.2 + 6) G 7 Q x9 1643 [] []) (kr : ∀ x9 : Int32 × Mem, o = .inr (Sum.inr x9) → False) : V E cs G 7 Q M 565 [(0, .ref b), (1, .ref (G.2.2 + 0)), (2, .ref (G.2.2 + 162)), (3, .ref (G.2.2 + 192)), (4, .int v4)] [] := by
  unfold j_law_565_23 at h
  refine V_aload_n (n := 1) X d_law_565 rfl rfl rfl ?_
  refine V_aload_n (n := 0) X d_law_566 rfl rfl rfl ?_
  refine V_iload (n := 4) X d_law_567 rfl rfl ?_
  refine V_iconst (v := 1) X d_law_569 (by decide) rfl ?_
  refine V_iadd X d_law_570 rfl ?_
  obtain ⟨hb, h⟩ := ifn h
  refine V_sld X hX hbl hbA hb d_law_571 rfl ?_
  refine V_aload_n (n := 0) X d_law_572 rfl rfl rfl ?_
  refine V_iload (n := 4) X d_law_573 rfl rfl ?_
  refine V_iconst (v := 2) X d_law_575 (by decide) rfl ?_
  refine V_iadd X d_law_576 rfl ?_
  obtain ⟨hb, h⟩ := ifn h
  refine V_sld X hX hbl hbA hb d_law_577 rfl ?_
  refine V_aload_n (n := 0) X d_law_578 rfl rfl rfl ?_
  refine V_iload (n := 4) X d_law_579 rfl rfl ?_
  refine V_iconst (v := 3) X d_law_581 (by decide) rfl ?_
  refine V_iadd X d_law_582 rfl ?_
  obtain ⟨hb, h⟩ := ifn h
  refine V_sld X hX hbl hbA hb d_law_583 rfl ?_
  refine V_aload_n (n := 0) X d_law_584 rfl rfl rfl ?_
  refine V_iload (n := 4) X d_law_585 rfl rfl ?_
  refine V_iconst (v := 4) X d_law_587 (by decide) rfl ?_
  refine V_iadd X d_law_588 rfl ?_
  obtain ⟨hb, h⟩ := ifn h
  refine V_sld X hX hbl hbA hb d_law_589 rfl ?_
  obtain ⟨x51, hx51, h⟩ := ob_s h
  refine V_ci (As := [.int (xs (v4 + (1 : Int32)).toNatClampNeg), .int (xs (v4 + (2 : Int32)).toNatClampNeg), .int (xs (v4 + (3 : Int32)).toNatClampNeg), .int (xs (v4 + (4 : Int32)).toNatClampNeg)]) X hz0 ml_Lw_76 yq_Top_sheet (c_Top_sheet E.2.1 G (xs (v4 + (1 : Int32)).toNatClampNeg) (xs (v4 + (2 : Int32)).toNatClampNeg) (xs (v4 + (3 : Int32)).toNatClampNeg) (xs (v4 + (4 : Int32)).toNatClampNeg) M x51 hx51 _ (Nat.le_refl _)) kd_0 rfl rfl (by omega) rfl (Nat.le_of_ble_eq_true rfl) d_law_590 rfl (fun r9 M9 hq => ?_)
  rw [hq.1, hq.2]
  refine V_aload_n (n := 2) X d_law_593 rfl rfl rfl ?_
  refine V_aload_n (n := 0) X d_law_594 rfl rfl rfl ?_
  refine V_iload (n := 4) X d_law_595 rfl rfl ?_
  refine V_iconst (v := 1) X d_law_597 (by decide) rfl ?_
  refine V_iadd X d_law_598 rfl ?_
  obtain ⟨hb, h⟩ := ifn h
  refine V_sld X hX hbl hbA hb d_law_599 rfl ?_
  refine V_aload_n (n := 0) X d_law_600 rfl rfl rfl ?_
  refine V_iload (n := 4) X d_law_601 rfl rfl ?_
  refine V_iconst (v := 2) X d_law_603 (by decide) rfl ?_
  refine V_iadd X d_law_604 rfl ?_
  obtain ⟨hb, h⟩ := ifn h
  refine V_sld X hX hbl hbA hb d_law_605 rfl ?_
  refine V_aload_n (n := 0) X d_law_606 rfl rfl rfl ?_
  refine V_iload (n := 4) X d_law_607 rfl rfl ?_
  refine V_iconst (v := 3) X d_law_609 (by decide) rfl ?_
  refine V_iadd X d_law_610 rfl ?_
  obtain ⟨hb, h⟩ := ifn h
  refine V_sld X hX hbl hbA hb d_law_611 rfl ?_
  refine V_aload_n (n := 0) X d_law_612 rfl rfl rfl ?_
  refine V_iload (n := 4) X d_law_613 rfl rfl ?_
  refine V_iconst (v := 4) X d_law_615 (by decide) rfl ?_
  refine V_iadd X d_law_616 rfl ?_
  obtain ⟨hb, h⟩ := ifn h
  refine V_sld X hX hbl hbA hb d_law_617 rfl ?_
  obtain ⟨x52, hx52, h⟩ := ob_s h
  refine V_ci (As := [.int (xs (v4 + (1 : Int32)).toNatClampNeg), .int (xs (v4 + (2 : Int32)).toNatClampNeg), .int (xs (v4 + (3 : Int32)).toNatClampNeg), .int (xs (v4 + (4 : Int32)).toNatClampNeg)]) X hz0 ml_Lw_80 yq_Mod_sheet (c_Mod_sheet E.2.1 G (xs (v4 + (1 : Int32)).toNatClampNeg) (xs (v4 + (2 : Int32)).toNatClampNeg) (xs (v4 + (3 : Int32)).toNatClampNeg) (xs (v4 + (4 : Int32)).toNatClampNeg) x51.2 x52 hx52 _ (Nat.le_refl _)) kd_162 rfl rfl (by omega) rfl (Nat.le_of_ble_eq_true rfl) d_law_618 rfl (fun r9 M9 hq => ?_)
  rw [hq.1, hq.2]
  refine V_icmp_eq (tgt := 1637) X d_law_621 (by decide) rfl (fun c53 => ?_) (fun c53 => ?_)
  · rw [if_pos c53] at h
    refine V_iinc (n := 4) (v := (v4 + (5 : Int32))) (lv' := [(4, .int (v4 + (5 : Int32))), (0, .ref b), (1, .ref (G.2.2 + 0)), (2, .ref (G.2.2 + 162)), (3, .ref (G.2.2 + 192))]) X d_law_1637 rfl rfl (by decide) rfl rfl ?_
    refine V_goto (pc' := 23) X d_law_1640 (by decide) ?_
    refine V_wid (cs' := (cs.1 + 1, cs.2 + 6)) ⟨Nat.le_succ _, Nat.le_add_right _ _⟩ ?_
    refine V_sub (lv' := [(0, .ref b), (1, .ref (G.2.2 + 0)), (2, .ref (G.2.2 + 162)), (3, .ref (G.2.2 + 192)), (4, .int (v4 + (5 : Int32)))]) [1, 2, 3, 4, 0] rfl ?_
    exact kc ((v4 + (5 : Int32)), x52.2) (Option.some.inj h).symm
  · rw [if_neg c53] at h
    refine V_iconst (v := 0) X d_law_624 (by decide) rfl ?_
    exact (kr ((0 : Int32), x52.2) (Option.some.inj h).symm).elim
def j_law_626_23 (L : Nat) (xs : Nat → Int32) (v4 : Int32) (M : Mem) : Option ((Int32 × Mem) ⊕ ((Mem) ⊕ (Int32 × Mem))) :=
  if inb (v4 + (1 : Int32)) L = true then
  Option.bind (f_Top_tell (xs (v4 + (1 : Int32)).toNatClampNeg) M) fun x55 =>
  if inb (v4 + (1 : Int32)) L = true then
  Option.bind (f_Mod_tell (xs (v4 + (1 : Int32)).toNatClampNeg) x55.2) fun x56 =>
  if x55.1 = x56.1 then
  some (.inl ((v4 + (5 : Int32)), x56.2))
  else
  some (.inr (Sum.inr ((0 : Int32), x56.2)))
  else none
  else none
theorem j_law_626_23_ok {E : Ev} {cs : Nat × Nat} {G : Gw} {d : Nat} {Q : State → Prop} {b L : Nat} {xs : Nat → Int32} (X : Cx E G code "WomenByTheRoofsLaw" 7 d ret) (hz0 : Zc E cs) (hz : Zc E (cs.1 + 1, cs.2 + 6)) (hT : Tw G E.2.2.2.2.1 E.2.2.2.2.1.heap) (hl9 : E.2.1.stackTraces = false) (hX : va_X b L xs E.2.2.2.2.1 E.2.2.2.2.1.heap) (hbl : b < E.2.2.2.2.1.heap.size) (hbA : ¬ G.2.2 ≤ b) (hD : 450 ≤ d)  (v4 : Int32)  (M : Mem)  (o : (Int32 × Mem) ⊕ ((Mem) ⊕ (Int32 × Mem))) (h : j_law_626_23 L xs v4 M = some o) (kc : ∀ s9 : Int32 × Mem, o = .inl s9 → V E (cs.1 + 1, cs.2 + 6) G 7 Q s9.2 23 [(0, .ref b), (1, .ref (G.2.2 + 0)), (2, .ref (G.2.2 + 162)), (3, .ref (G.2.2 + 192)), (4, .int s9.1)] []) (kx0 : ∀ x9 : Mem, o = .inr (Sum.inl x9) → V E (cs.1 + 1, cs.2 + 6) G 7 Q x9 1643 [] []) (kr : ∀ x9 : Int32 × Mem, o = .inr (Sum.inr x9) → False) : V E cs G 7 Q M 626 [(0, .ref b), (1, .ref (G.2.2 + 0)), (2, .ref (G.2.2 + 162)), (3, .ref (G.2.2 + 192)), (4, .int v4)] [] := by
  unfold j_law_626_23 at h
  refine V_aload_n (n := 1) X d_law_626 rfl rfl rfl ?_
  refine V_aload_n (n := 0) X d_law_627 rfl rfl rfl ?_
  refine V_iload (n := 4) X d_law_628 rfl rfl ?_
  refine V_iconst (v := 1) X d_law_630 (by decide) rfl ?_
  refine V_iadd X d_law_631 rfl ?_
  obtain ⟨hb, h⟩ := ifn h
  refine V_sld X hX hbl hbA hb d_law_632 rfl ?_
  obtain ⟨x55, hx55, h⟩ := ob_s h
  refine V_ci (As := [.int (xs (v4 + (1 : Int32)).toNatClampNeg)]) X hz0 ml_Lw_81 yq_Top_tell (c_Top_tell E.2.1 G (xs (v4 + (1 : Int32)).toNatClampNeg) M x55 hx55 _ (Nat.le_refl _)) kd_0 rfl rfl (by omega) rfl (Nat.le_of_ble_eq_true rfl) d_law_633 rfl (fun r9 M9 hq => ?_)
  rw [hq.1, hq.2]
  refine V_aload_n (n := 2) X d_law_636 rfl rfl rfl ?_
  refine V_aload_n (n := 0) X d_law_637 rfl rfl rfl ?_
  refine V_iload (n := 4) X d_law_638 rfl rfl ?_
  refine V_iconst (v := 1) X d_law_640 (by decide) rfl ?_
  refine V_iadd X d_law_641 rfl ?_
  obtain ⟨hb, h⟩ := ifn h
  refine V_sld X hX hbl hbA hb d_law_642 rfl ?_
  obtain ⟨x56, hx56, h⟩ := ob_s h
  refine V_ci (As := [.int (xs (v4 + (1 : Int32)).toNatClampNeg)]) X hz0 ml_Lw_84 yq_Mod_tell (c_Mod_tell E.2.1 G (xs (v4 + (1 : Int32)).toNatClampNeg) x55.2 x56 hx56 _ (Nat.le_refl _)) kd_162 rfl rfl (by omega) rfl (Nat.le_of_ble_eq_true rfl) d_law_643 rfl (fun r9 M9 hq => ?_)
  rw [hq.1, hq.2]
  refine V_icmp_eq (tgt := 1637) X d_law_646 (by decide) rfl (fun c57 => ?_) (fun c57 => ?_)
  · rw [if_pos c57] at h
    refine V_iinc (n := 4) (v := (v4 + (5 : Int32))) (lv' := [(4, .int (v4 + (5 : Int32))), (0, .ref b), (1, .ref (G.2.2 + 0)), (2, .ref (G.2.2 + 162)), (3, .ref (G.2.2 + 192))]) X d_law_1637 rfl rfl (by decide) rfl rfl ?_
    refine V_goto (pc' := 23) X d_law_1640 (by decide) ?_
    refine V_wid (cs' := (cs.1 + 1, cs.2 + 6)) ⟨Nat.le_succ _, Nat.le_add_right _ _⟩ ?_
    refine V_sub (lv' := [(0, .ref b), (1, .ref (G.2.2 + 0)), (2, .ref (G.2.2 + 162)), (3, .ref (G.2.2 + 192)), (4, .int (v4 + (5 : Int32)))]) [1, 2, 3, 4, 0] rfl ?_
    exact kc ((v4 + (5 : Int32)), x56.2) (Option.some.inj h).symm
  · rw [if_neg c57] at h
    refine V_iconst (v := 0) X d_law_649 (by decide) rfl ?_
    exact (kr ((0 : Int32), x56.2) (Option.some.inj h).symm).elim
def j_law_651_23 (L : Nat) (xs : Nat → Int32) (v4 : Int32) (M : Mem) : Option ((Int32 × Mem) ⊕ ((Mem) ⊕ (Int32 × Mem))) :=
  if inb (v4 + (1 : Int32)) L = true then
  Option.bind (f_Top_feast (xs (v4 + (1 : Int32)).toNatClampNeg) M) fun x59 =>
  if inb (v4 + (1 : Int32)) L = true then
  Option.bind (f_Mod_feast (xs (v4 + (1 : Int32)).toNatClampNeg) x59.2) fun x60 =>
  if x59.1 = x60.1 then
  some (.inl ((v4 + (5 : Int32)), x60.2))
  else
  some (.inr (Sum.inr ((0 : Int32), x60.2)))
  else none
  else none
theorem j_law_651_23_ok {E : Ev} {cs : Nat × Nat} {G : Gw} {d : Nat} {Q : State → Prop} {b L : Nat} {xs : Nat → Int32} (X : Cx E G code "WomenByTheRoofsLaw" 7 d ret) (hz0 : Zc E cs) (hz : Zc E (cs.1 + 1, cs.2 + 6)) (hT : Tw G E.2.2.2.2.1 E.2.2.2.2.1.heap) (hl9 : E.2.1.stackTraces = false) (hX : va_X b L xs E.2.2.2.2.1 E.2.2.2.2.1.heap) (hbl : b < E.2.2.2.2.1.heap.size) (hbA : ¬ G.2.2 ≤ b) (hD : 450 ≤ d)  (v4 : Int32)  (M : Mem)  (o : (Int32 × Mem) ⊕ ((Mem) ⊕ (Int32 × Mem))) (h : j_law_651_23 L xs v4 M = some o) (kc : ∀ s9 : Int32 × Mem, o = .inl s9 → V E (cs.1 + 1, cs.2 + 6) G 7 Q s9.2 23 [(0, .ref b), (1, .ref (G.2.2 + 0)), (2, .ref (G.2.2 + 162)), (3, .ref (G.2.2 + 192)), (4, .int s9.1)] []) (kx0 : ∀ x9 : Mem, o = .inr (Sum.inl x9) → V E (cs.1 + 1, cs.2 + 6) G 7 Q x9 1643 [] []) (kr : ∀ x9 : Int32 × Mem, o = .inr (Sum.inr x9) → False) : V E cs G 7 Q M 651 [(0, .ref b), (1, .ref (G.2.2 + 0)), (2, .ref (G.2.2 + 162)), (3, .ref (G.2.2 + 192)), (4, .int v4)] [] := by
  unfold j_law_651_23 at h
  refine V_aload_n (n := 1) X d_law_651 rfl rfl rfl ?_
  refine V_aload_n (n := 0) X d_law_652 rfl rfl rfl ?_
  refine V_iload (n := 4) X d_law_653 rfl rfl ?_
  refine V_iconst (v := 1) X d_law_655 (by decide) rfl ?_
  refine V_iadd X d_law_656 rfl ?_
  obtain ⟨hb, h⟩ := ifn h
  refine V_sld X hX hbl hbA hb d_law_657 rfl ?_
  obtain ⟨x59, hx59, h⟩ := ob_s h
  refine V_ci (As := [.int (xs (v4 + (1 : Int32)).toNatClampNeg)]) X hz0 ml_Lw_85 yq_Top_feast (c_Top_feast E.2.1 G (xs (v4 + (1 : Int32)).toNatClampNeg) M x59 hx59 _ (Nat.le_refl _)) kd_0 rfl rfl (by omega) rfl (Nat.le_of_ble_eq_true rfl) d_law_658 rfl (fun r9 M9 hq => ?_)
  rw [hq.1, hq.2]
  refine V_aload_n (n := 2) X d_law_661 rfl rfl rfl ?_
  refine V_aload_n (n := 0) X d_law_662 rfl rfl rfl ?_
  refine V_iload (n := 4) X d_law_663 rfl rfl ?_
  refine V_iconst (v := 1) X d_law_665 (by decide) rfl ?_
  refine V_iadd X d_law_666 rfl ?_
  obtain ⟨hb, h⟩ := ifn h
  refine V_sld X hX hbl hbA hb d_law_667 rfl ?_
  obtain ⟨x60, hx60, h⟩ := ob_s h
  refine V_ci (As := [.int (xs (v4 + (1 : Int32)).toNatClampNeg)]) X hz0 ml_Lw_88 yq_Mod_feast (c_Mod_feast E.2.1 G (xs (v4 + (1 : Int32)).toNatClampNeg) x59.2 x60 hx60 _ (Nat.le_refl _)) kd_162 rfl rfl (by omega) rfl (Nat.le_of_ble_eq_true rfl) d_law_668 rfl (fun r9 M9 hq => ?_)
  rw [hq.1, hq.2]
  refine V_icmp_eq (tgt := 1637) X d_law_671 (by decide) rfl (fun c61 => ?_) (fun c61 => ?_)
  · rw [if_pos c61] at h
    refine V_iinc (n := 4) (v := (v4 + (5 : Int32))) (lv' := [(4, .int (v4 + (5 : Int32))), (0, .ref b), (1, .ref (G.2.2 + 0)), (2, .ref (G.2.2 + 162)), (3, .ref (G.2.2 + 192))]) X d_law_1637 rfl rfl (by decide) rfl rfl ?_
    refine V_goto (pc' := 23) X d_law_1640 (by decide) ?_
    refine V_wid (cs' := (cs.1 + 1, cs.2 + 6)) ⟨Nat.le_succ _, Nat.le_add_right _ _⟩ ?_
    refine V_sub (lv' := [(0, .ref b), (1, .ref (G.2.2 + 0)), (2, .ref (G.2.2 + 162)), (3, .ref (G.2.2 + 192)), (4, .int (v4 + (5 : Int32)))]) [1, 2, 3, 4, 0] rfl ?_
    exact kc ((v4 + (5 : Int32)), x60.2) (Option.some.inj h).symm
  · rw [if_neg c61] at h
    refine V_iconst (v := 0) X d_law_674 (by decide) rfl ?_
    exact (kr ((0 : Int32), x60.2) (Option.some.inj h).symm).elim
def j_law_676_23 (L : Nat) (xs : Nat → Int32) (v4 : Int32) (M : Mem) : Option ((Int32 × Mem) ⊕ ((Mem) ⊕ (Int32 × Mem))) :=
  Option.bind (f_Top_minute M) fun x63 =>
  Option.bind (f_Mod_minute x63.2) fun x64 =>
  if x63.1 = x64.1 then
  some (.inl ((v4 + (5 : Int32)), x64.2))
  else
  some (.inr (Sum.inr ((0 : Int32), x64.2)))
theorem j_law_676_23_ok {E : Ev} {cs : Nat × Nat} {G : Gw} {d : Nat} {Q : State → Prop} {b L : Nat} {xs : Nat → Int32} (X : Cx E G code "WomenByTheRoofsLaw" 7 d ret) (hz0 : Zc E cs) (hz : Zc E (cs.1 + 1, cs.2 + 6)) (hT : Tw G E.2.2.2.2.1 E.2.2.2.2.1.heap) (hl9 : E.2.1.stackTraces = false) (hX : va_X b L xs E.2.2.2.2.1 E.2.2.2.2.1.heap) (hbl : b < E.2.2.2.2.1.heap.size) (hbA : ¬ G.2.2 ≤ b) (hD : 450 ≤ d)  (v4 : Int32)  (M : Mem)  (o : (Int32 × Mem) ⊕ ((Mem) ⊕ (Int32 × Mem))) (h : j_law_676_23 L xs v4 M = some o) (kc : ∀ s9 : Int32 × Mem, o = .inl s9 → V E (cs.1 + 1, cs.2 + 6) G 7 Q s9.2 23 [(0, .ref b), (1, .ref (G.2.2 + 0)), (2, .ref (G.2.2 + 162)), (3, .ref (G.2.2 + 192)), (4, .int s9.1)] []) (kx0 : ∀ x9 : Mem, o = .inr (Sum.inl x9) → V E (cs.1 + 1, cs.2 + 6) G 7 Q x9 1643 [] []) (kr : ∀ x9 : Int32 × Mem, o = .inr (Sum.inr x9) → False) : V E cs G 7 Q M 676 [(0, .ref b), (1, .ref (G.2.2 + 0)), (2, .ref (G.2.2 + 162)), (3, .ref (G.2.2 + 192)), (4, .int v4)] [] := by
  unfold j_law_676_23 at h
  refine V_aload_n (n := 1) X d_law_676 rfl rfl rfl ?_
  obtain ⟨x63, hx63, h⟩ := ob_s h
  refine V_ci (As := []) X hz0 ml_Lw_89 yq_Top_minute (c_Top_minute E.2.1 G  M x63 hx63 _ (Nat.le_refl _)) kd_0 rfl rfl (by omega) rfl (Nat.le_of_ble_eq_true rfl) d_law_677 rfl (fun r9 M9 hq => ?_)
  rw [hq.1, hq.2]
  refine V_aload_n (n := 2) X d_law_680 rfl rfl rfl ?_
  obtain ⟨x64, hx64, h⟩ := ob_s h
  refine V_ci (As := []) X hz0 ml_Lw_92 yq_Mod_minute (c_Mod_minute E.2.1 G  x63.2 x64 hx64 _ (Nat.le_refl _)) kd_162 rfl rfl (by omega) rfl (Nat.le_of_ble_eq_true rfl) d_law_681 rfl (fun r9 M9 hq => ?_)
  rw [hq.1, hq.2]
  refine V_icmp_eq (tgt := 1637) X d_law_684 (by decide) rfl (fun c65 => ?_) (fun c65 => ?_)
  · rw [if_pos c65] at h
    refine V_iinc (n := 4) (v := (v4 + (5 : Int32))) (lv' := [(4, .int (v4 + (5 : Int32))), (0, .ref b), (1, .ref (G.2.2 + 0)), (2, .ref (G.2.2 + 162)), (3, .ref (G.2.2 + 192))]) X d_law_1637 rfl rfl (by decide) rfl rfl ?_
    refine V_goto (pc' := 23) X d_law_1640 (by decide) ?_
    refine V_wid (cs' := (cs.1 + 1, cs.2 + 6)) ⟨Nat.le_succ _, Nat.le_add_right _ _⟩ ?_
    refine V_sub (lv' := [(0, .ref b), (1, .ref (G.2.2 + 0)), (2, .ref (G.2.2 + 162)), (3, .ref (G.2.2 + 192)), (4, .int (v4 + (5 : Int32)))]) [1, 2, 3, 4, 0] rfl ?_
    exact kc ((v4 + (5 : Int32)), x64.2) (Option.some.inj h).symm
  · rw [if_neg c65] at h
    refine V_iconst (v := 0) X d_law_687 (by decide) rfl ?_
    exact (kr ((0 : Int32), x64.2) (Option.some.inj h).symm).elim
def j_law_689_23 (L : Nat) (xs : Nat → Int32) (v4 : Int32) (M : Mem) : Option ((Int32 × Mem) ⊕ ((Mem) ⊕ (Int32 × Mem))) :=
  if inb (v4 + (1 : Int32)) L = true then
  Option.bind (f_Top_minutes (xs (v4 + (1 : Int32)).toNatClampNeg) M) fun x67 =>
  if inb (v4 + (1 : Int32)) L = true then
  Option.bind (f_Mod_minutes (xs (v4 + (1 : Int32)).toNatClampNeg) x67.2) fun x68 =>
  if x67.1 = x68.1 then
  some (.inl ((v4 + (5 : Int32)), x68.2))
  else
  some (.inr (Sum.inr ((0 : Int32), x68.2)))
  else none
  else none
theorem j_law_689_23_ok {E : Ev} {cs : Nat × Nat} {G : Gw} {d : Nat} {Q : State → Prop} {b L : Nat} {xs : Nat → Int32} (X : Cx E G code "WomenByTheRoofsLaw" 7 d ret) (hz0 : Zc E cs) (hz : Zc E (cs.1 + 1, cs.2 + 6)) (hT : Tw G E.2.2.2.2.1 E.2.2.2.2.1.heap) (hl9 : E.2.1.stackTraces = false) (hX : va_X b L xs E.2.2.2.2.1 E.2.2.2.2.1.heap) (hbl : b < E.2.2.2.2.1.heap.size) (hbA : ¬ G.2.2 ≤ b) (hD : 450 ≤ d)  (v4 : Int32)  (M : Mem)  (o : (Int32 × Mem) ⊕ ((Mem) ⊕ (Int32 × Mem))) (h : j_law_689_23 L xs v4 M = some o) (kc : ∀ s9 : Int32 × Mem, o = .inl s9 → V E (cs.1 + 1, cs.2 + 6) G 7 Q s9.2 23 [(0, .ref b), (1, .ref (G.2.2 + 0)), (2, .ref (G.2.2 + 162)), (3, .ref (G.2.2 + 192)), (4, .int s9.1)] []) (kx0 : ∀ x9 : Mem, o = .inr (Sum.inl x9) → V E (cs.1 + 1, cs.2 + 6) G 7 Q x9 1643 [] []) (kr : ∀ x9 : Int32 × Mem, o = .inr (Sum.inr x9) → False) : V E cs G 7 Q M 689 [(0, .ref b), (1, .ref (G.2.2 + 0)), (2, .ref (G.2.2 + 162)), (3, .ref (G.2.2 + 192)), (4, .int v4)] [] := by
  unfold j_law_689_23 at h
  refine V_aload_n (n := 1) X d_law_689 rfl rfl rfl ?_
  refine V_aload_n (n := 0) X d_law_690 rfl rfl rfl ?_
  refine V_iload (n := 4) X d_law_691 rfl rfl ?_
  refine V_iconst (v := 1) X d_law_693 (by decide) rfl ?_
  refine V_iadd X d_law_694 rfl ?_
  obtain ⟨hb, h⟩ := ifn h
  refine V_sld X hX hbl hbA hb d_law_695 rfl ?_
  obtain ⟨x67, hx67, h⟩ := ob_s h
  refine V_ci (As := [.int (xs (v4 + (1 : Int32)).toNatClampNeg)]) X hz0 ml_Lw_93 yq_Top_minutes (c_Top_minutes E.2.1 G (xs (v4 + (1 : Int32)).toNatClampNeg) M x67 hx67 _ (Nat.le_refl _)) kd_0 rfl rfl (by omega) rfl (Nat.le_of_ble_eq_true rfl) d_law_696 rfl (fun r9 M9 hq => ?_)
  rw [hq.1, hq.2]
  refine V_aload_n (n := 2) X d_law_699 rfl rfl rfl ?_
  refine V_aload_n (n := 0) X d_law_700 rfl rfl rfl ?_
  refine V_iload (n := 4) X d_law_701 rfl rfl ?_
  refine V_iconst (v := 1) X d_law_703 (by decide) rfl ?_
  refine V_iadd X d_law_704 rfl ?_
  obtain ⟨hb, h⟩ := ifn h
  refine V_sld X hX hbl hbA hb d_law_705 rfl ?_
  obtain ⟨x68, hx68, h⟩ := ob_s h
  refine V_ci (As := [.int (xs (v4 + (1 : Int32)).toNatClampNeg)]) X hz0 ml_Lw_96 yq_Mod_minutes (c_Mod_minutes E.2.1 G (xs (v4 + (1 : Int32)).toNatClampNeg) x67.2 x68 hx68 _ (Nat.le_refl _)) kd_162 rfl rfl (by omega) rfl (Nat.le_of_ble_eq_true rfl) d_law_706 rfl (fun r9 M9 hq => ?_)
  rw [hq.1, hq.2]
  refine V_icmp_eq (tgt := 1637) X d_law_709 (by decide) rfl (fun c69 => ?_) (fun c69 => ?_)
  · rw [if_pos c69] at h
    refine V_iinc (n := 4) (v := (v4 + (5 : Int32))) (lv' := [(4, .int (v4 + (5 : Int32))), (0, .ref b), (1, .ref (G.2.2 + 0)), (2, .ref (G.2.2 + 162)), (3, .ref (G.2.2 + 192))]) X d_law_1637 rfl rfl (by decide) rfl rfl ?_
    refine V_goto (pc' := 23) X d_law_1640 (by decide) ?_
    refine V_wid (cs' := (cs.1 + 1, cs.2 + 6)) ⟨Nat.le_succ _, Nat.le_add_right _ _⟩ ?_
    refine V_sub (lv' := [(0, .ref b), (1, .ref (G.2.2 + 0)), (2, .ref (G.2.2 + 162)), (3, .ref (G.2.2 + 192)), (4, .int (v4 + (5 : Int32)))]) [1, 2, 3, 4, 0] rfl ?_
    exact kc ((v4 + (5 : Int32)), x68.2) (Option.some.inj h).symm
  · rw [if_neg c69] at h
    refine V_iconst (v := 0) X d_law_712 (by decide) rfl ?_
    exact (kr ((0 : Int32), x68.2) (Option.some.inj h).symm).elim
def j_law_714_23 (L : Nat) (xs : Nat → Int32) (v4 : Int32) (M : Mem) : Option ((Int32 × Mem) ⊕ ((Mem) ⊕ (Int32 × Mem))) :=
  Option.bind (f_Top_evening M) fun x71 =>
  Option.bind (f_Mod_evening x71.2) fun x72 =>
  if x71.1 = x72.1 then
  some (.inl ((v4 + (5 : Int32)), x72.2))
  else
  some (.inr (Sum.inr ((0 : Int32), x72.2)))
theorem j_law_714_23_ok {E : Ev} {cs : Nat × Nat} {G : Gw} {d : Nat} {Q : State → Prop} {b L : Nat} {xs : Nat → Int32} (X : Cx E G code "WomenByTheRoofsLaw" 7 d ret) (hz0 : Zc E cs) (hz : Zc E (cs.1 + 1, cs.2 + 6)) (hT : Tw G E.2.2.2.2.1 E.2.2.2.2.1.heap) (hl9 : E.2.1.stackTraces = false) (hX : va_X b L xs E.2.2.2.2.1 E.2.2.2.2.1.heap) (hbl : b < E.2.2.2.2.1.heap.size) (hbA : ¬ G.2.2 ≤ b) (hD : 450 ≤ d)  (v4 : Int32)  (M : Mem)  (o : (Int32 × Mem) ⊕ ((Mem) ⊕ (Int32 × Mem))) (h : j_law_714_23 L xs v4 M = some o) (kc : ∀ s9 : Int32 × Mem, o = .inl s9 → V E (cs.1 + 1, cs.2 + 6) G 7 Q s9.2 23 [(0, .ref b), (1, .ref (G.2.2 + 0)), (2, .ref (G.2.2 + 162)), (3, .ref (G.2.2 + 192)), (4, .int s9.1)] []) (kx0 : ∀ x9 : Mem, o = .inr (Sum.inl x9) → V E (cs.1 + 1, cs.2 + 6) G 7 Q x9 1643 [] []) (kr : ∀ x9 : Int32 × Mem, o = .inr (Sum.inr x9) → False) : V E cs G 7 Q M 714 [(0, .ref b), (1, .ref (G.2.2 + 0)), (2, .ref (G.2.2 + 162)), (3, .ref (G.2.2 + 192)), (4, .int v4)] [] := by
  unfold j_law_714_23 at h
  refine V_aload_n (n := 1) X d_law_714 rfl rfl rfl ?_
  obtain ⟨x71, hx71, h⟩ := ob_s h
  refine V_ci (As := []) X hz0 ml_Lw_97 yq_Top_evening (c_Top_evening E.2.1 G  M x71 hx71 _ (Nat.le_refl _)) kd_0 rfl rfl (by omega) rfl (Nat.le_of_ble_eq_true rfl) d_law_715 rfl (fun r9 M9 hq => ?_)
  rw [hq.1, hq.2]
  refine V_aload_n (n := 2) X d_law_718 rfl rfl rfl ?_
  obtain ⟨x72, hx72, h⟩ := ob_s h
  refine V_ci (As := []) X hz0 ml_Lw_100 yq_Mod_evening (c_Mod_evening E.2.1 G  x71.2 x72 hx72 _ (Nat.le_refl _)) kd_162 rfl rfl (by omega) rfl (Nat.le_of_ble_eq_true rfl) d_law_719 rfl (fun r9 M9 hq => ?_)
  rw [hq.1, hq.2]
  refine V_icmp_eq (tgt := 1637) X d_law_722 (by decide) rfl (fun c73 => ?_) (fun c73 => ?_)
  · rw [if_pos c73] at h
    refine V_iinc (n := 4) (v := (v4 + (5 : Int32))) (lv' := [(4, .int (v4 + (5 : Int32))), (0, .ref b), (1, .ref (G.2.2 + 0)), (2, .ref (G.2.2 + 162)), (3, .ref (G.2.2 + 192))]) X d_law_1637 rfl rfl (by decide) rfl rfl ?_
    refine V_goto (pc' := 23) X d_law_1640 (by decide) ?_
    refine V_wid (cs' := (cs.1 + 1, cs.2 + 6)) ⟨Nat.le_succ _, Nat.le_add_right _ _⟩ ?_
    refine V_sub (lv' := [(0, .ref b), (1, .ref (G.2.2 + 0)), (2, .ref (G.2.2 + 162)), (3, .ref (G.2.2 + 192)), (4, .int (v4 + (5 : Int32)))]) [1, 2, 3, 4, 0] rfl ?_
    exact kc ((v4 + (5 : Int32)), x72.2) (Option.some.inj h).symm
  · rw [if_neg c73] at h
    refine V_iconst (v := 0) X d_law_725 (by decide) rfl ?_
    exact (kr ((0 : Int32), x72.2) (Option.some.inj h).symm).elim
def j_law_727_23 (L : Nat) (xs : Nat → Int32) (v4 : Int32) (M : Mem) : Option ((Int32 × Mem) ⊕ ((Mem) ⊕ (Int32 × Mem))) :=
  Option.bind (f_Top_undo M) fun x75 =>
  Option.bind (f_Mod_undo x75.2) fun x76 =>
  if x75.1 = x76.1 then
  some (.inl ((v4 + (5 : Int32)), x76.2))
  else
  some (.inr (Sum.inr ((0 : Int32), x76.2)))
theorem j_law_727_23_ok {E : Ev} {cs : Nat × Nat} {G : Gw} {d : Nat} {Q : State → Prop} {b L : Nat} {xs : Nat → Int32} (X : Cx E G code "WomenByTheRoofsLaw" 7 d ret) (hz0 : Zc E cs) (hz : Zc E (cs.1 + 1, cs.2 + 6)) (hT : Tw G E.2.2.2.2.1 E.2.2.2.2.1.heap) (hl9 : E.2.1.stackTraces = false) (hX : va_X b L xs E.2.2.2.2.1 E.2.2.2.2.1.heap) (hbl : b < E.2.2.2.2.1.heap.size) (hbA : ¬ G.2.2 ≤ b) (hD : 450 ≤ d)  (v4 : Int32)  (M : Mem)  (o : (Int32 × Mem) ⊕ ((Mem) ⊕ (Int32 × Mem))) (h : j_law_727_23 L xs v4 M = some o) (kc : ∀ s9 : Int32 × Mem, o = .inl s9 → V E (cs.1 + 1, cs.2 + 6) G 7 Q s9.2 23 [(0, .ref b), (1, .ref (G.2.2 + 0)), (2, .ref (G.2.2 + 162)), (3, .ref (G.2.2 + 192)), (4, .int s9.1)] []) (kx0 : ∀ x9 : Mem, o = .inr (Sum.inl x9) → V E (cs.1 + 1, cs.2 + 6) G 7 Q x9 1643 [] []) (kr : ∀ x9 : Int32 × Mem, o = .inr (Sum.inr x9) → False) : V E cs G 7 Q M 727 [(0, .ref b), (1, .ref (G.2.2 + 0)), (2, .ref (G.2.2 + 162)), (3, .ref (G.2.2 + 192)), (4, .int v4)] [] := by
  unfold j_law_727_23 at h
  refine V_aload_n (n := 1) X d_law_727 rfl rfl rfl ?_
  obtain ⟨x75, hx75, h⟩ := ob_s h
  refine V_ci (As := []) X hz0 ml_Lw_101 yq_Top_undo (c_Top_undo E.2.1 G  M x75 hx75 _ (Nat.le_refl _)) kd_0 rfl rfl (by omega) rfl (Nat.le_of_ble_eq_true rfl) d_law_728 rfl (fun r9 M9 hq => ?_)
  rw [hq.1, hq.2]
  refine V_aload_n (n := 2) X d_law_731 rfl rfl rfl ?_
  obtain ⟨x76, hx76, h⟩ := ob_s h
  refine V_ci (As := []) X hz0 ml_Lw_104 yq_Mod_undo (c_Mod_undo E.2.1 G  x75.2 x76 hx76 _ (Nat.le_refl _)) kd_162 rfl rfl (by omega) rfl (Nat.le_of_ble_eq_true rfl) d_law_732 rfl (fun r9 M9 hq => ?_)
  rw [hq.1, hq.2]
  refine V_icmp_eq (tgt := 1637) X d_law_735 (by decide) rfl (fun c77 => ?_) (fun c77 => ?_)
  · rw [if_pos c77] at h
    refine V_iinc (n := 4) (v := (v4 + (5 : Int32))) (lv' := [(4, .int (v4 + (5 : Int32))), (0, .ref b), (1, .ref (G.2.2 + 0)), (2, .ref (G.2.2 + 162)), (3, .ref (G.2.2 + 192))]) X d_law_1637 rfl rfl (by decide) rfl rfl ?_
    refine V_goto (pc' := 23) X d_law_1640 (by decide) ?_
    refine V_wid (cs' := (cs.1 + 1, cs.2 + 6)) ⟨Nat.le_succ _, Nat.le_add_right _ _⟩ ?_
    refine V_sub (lv' := [(0, .ref b), (1, .ref (G.2.2 + 0)), (2, .ref (G.2.2 + 162)), (3, .ref (G.2.2 + 192)), (4, .int (v4 + (5 : Int32)))]) [1, 2, 3, 4, 0] rfl ?_
    exact kc ((v4 + (5 : Int32)), x76.2) (Option.some.inj h).symm
  · rw [if_neg c77] at h
    refine V_iconst (v := 0) X d_law_738 (by decide) rfl ?_
    exact (kr ((0 : Int32), x76.2) (Option.some.inj h).symm).elim
def j_law_740_23 (L : Nat) (xs : Nat → Int32) (v4 : Int32) (M : Mem) : Option ((Int32 × Mem) ⊕ ((Mem) ⊕ (Int32 × Mem))) :=
  if inb (v4 + (1 : Int32)) L = true then
  if inb (v4 + (2 : Int32)) L = true then
  Option.bind (f_Top_met (xs (v4 + (1 : Int32)).toNatClampNeg) (xs (v4 + (2 : Int32)).toNatClampNeg) M) fun x79 =>
  if inb (v4 + (1 : Int32)) L = true then
  if inb (v4 + (2 : Int32)) L = true then
  Option.bind (f_Mod_met (xs (v4 + (1 : Int32)).toNatClampNeg) (xs (v4 + (2 : Int32)).toNatClampNeg) M) fun x80 =>
  if x79 = x80.1 then
  some (.inl ((v4 + (5 : Int32)), x80.2))
  else
  some (.inr (Sum.inr ((0 : Int32), x80.2)))
  else none
  else none
  else none
  else none
theorem j_law_740_23_ok {E : Ev} {cs : Nat × Nat} {G : Gw} {d : Nat} {Q : State → Prop} {b L : Nat} {xs : Nat → Int32} (X : Cx E G code "WomenByTheRoofsLaw" 7 d ret) (hz0 : Zc E cs) (hz : Zc E (cs.1 + 1, cs.2 + 6)) (hT : Tw G E.2.2.2.2.1 E.2.2.2.2.1.heap) (hl9 : E.2.1.stackTraces = false) (hX : va_X b L xs E.2.2.2.2.1 E.2.2.2.2.1.heap) (hbl : b < E.2.2.2.2.1.heap.size) (hbA : ¬ G.2.2 ≤ b) (hD : 450 ≤ d)  (v4 : Int32)  (M : Mem)  (o : (Int32 × Mem) ⊕ ((Mem) ⊕ (Int32 × Mem))) (h : j_law_740_23 L xs v4 M = some o) (kc : ∀ s9 : Int32 × Mem, o = .inl s9 → V E (cs.1 + 1, cs.2 + 6) G 7 Q s9.2 23 [(0, .ref b), (1, .ref (G.2.2 + 0)), (2, .ref (G.2.2 + 162)), (3, .ref (G.2.2 + 192)), (4, .int s9.1)] []) (kx0 : ∀ x9 : Mem, o = .inr (Sum.inl x9) → V E (cs.1 + 1, cs.2 + 6) G 7 Q x9 1643 [] []) (kr : ∀ x9 : Int32 × Mem, o = .inr (Sum.inr x9) → False) : V E cs G 7 Q M 740 [(0, .ref b), (1, .ref (G.2.2 + 0)), (2, .ref (G.2.2 + 162)), (3, .ref (G.2.2 + 192)), (4, .int v4)] [] := by
  unfold j_law_740_23 at h
  refine V_aload_n (n := 1) X d_law_740 rfl rfl rfl ?_
  refine V_aload_n (n := 0) X d_law_741 rfl rfl rfl ?_
  refine V_iload (n := 4) X d_law_742 rfl rfl ?_
  refine V_iconst (v := 1) X d_law_744 (by decide) rfl ?_
  refine V_iadd X d_law_745 rfl ?_
  obtain ⟨hb, h⟩ := ifn h
  refine V_sld X hX hbl hbA hb d_law_746 rfl ?_
  refine V_aload_n (n := 0) X d_law_747 rfl rfl rfl ?_
  refine V_iload (n := 4) X d_law_748 rfl rfl ?_
  refine V_iconst (v := 2) X d_law_750 (by decide) rfl ?_
  refine V_iadd X d_law_751 rfl ?_
  obtain ⟨hb, h⟩ := ifn h
  refine V_sld X hX hbl hbA hb d_law_752 rfl ?_
  obtain ⟨x79, hx79, h⟩ := ob_s h
  refine V_ci (As := [.int (xs (v4 + (1 : Int32)).toNatClampNeg), .int (xs (v4 + (2 : Int32)).toNatClampNeg)]) X hz0 ml_Lw_105 yq_Top_met (c_Top_met E.2.1 G (xs (v4 + (1 : Int32)).toNatClampNeg) (xs (v4 + (2 : Int32)).toNatClampNeg) M x79 hx79 _ (Nat.le_refl _)) kd_0 rfl rfl (by omega) rfl (Nat.le_of_ble_eq_true rfl) d_law_753 rfl (fun r9 M9 hq => ?_)
  rw [hq.1, hq.2]
  refine V_aload_n (n := 2) X d_law_756 rfl rfl rfl ?_
  refine V_aload_n (n := 0) X d_law_757 rfl rfl rfl ?_
  refine V_iload (n := 4) X d_law_758 rfl rfl ?_
  refine V_iconst (v := 1) X d_law_760 (by decide) rfl ?_
  refine V_iadd X d_law_761 rfl ?_
  obtain ⟨hb, h⟩ := ifn h
  refine V_sld X hX hbl hbA hb d_law_762 rfl ?_
  refine V_aload_n (n := 0) X d_law_763 rfl rfl rfl ?_
  refine V_iload (n := 4) X d_law_764 rfl rfl ?_
  refine V_iconst (v := 2) X d_law_766 (by decide) rfl ?_
  refine V_iadd X d_law_767 rfl ?_
  obtain ⟨hb, h⟩ := ifn h
  refine V_sld X hX hbl hbA hb d_law_768 rfl ?_
  obtain ⟨x80, hx80, h⟩ := ob_s h
  refine V_ci (As := [.int (xs (v4 + (1 : Int32)).toNatClampNeg), .int (xs (v4 + (2 : Int32)).toNatClampNeg)]) X hz0 ml_Lw_108 yq_Mod_met (c_Mod_met E.2.1 G (xs (v4 + (1 : Int32)).toNatClampNeg) (xs (v4 + (2 : Int32)).toNatClampNeg) M x80 hx80 _ (Nat.le_refl _)) kd_162 rfl rfl (by omega) rfl (Nat.le_of_ble_eq_true rfl) d_law_769 rfl (fun r9 M9 hq => ?_)
  rw [hq.1, hq.2]
  refine V_icmp_eq (tgt := 1637) X d_law_772 (by decide) rfl (fun c81 => ?_) (fun c81 => ?_)
  · rw [if_pos c81] at h
    refine V_iinc (n := 4) (v := (v4 + (5 : Int32))) (lv' := [(4, .int (v4 + (5 : Int32))), (0, .ref b), (1, .ref (G.2.2 + 0)), (2, .ref (G.2.2 + 162)), (3, .ref (G.2.2 + 192))]) X d_law_1637 rfl rfl (by decide) rfl rfl ?_
    refine V_goto (pc' := 23) X d_law_1640 (by decide) ?_
    refine V_wid (cs' := (cs.1 + 1, cs.2 + 6)) ⟨Nat.le_succ _, Nat.le_add_right _ _⟩ ?_
    refine V_sub (lv' := [(0, .ref b), (1, .ref (G.2.2 + 0)), (2, .ref (G.2.2 + 162)), (3, .ref (G.2.2 + 192)), (4, .int (v4 + (5 : Int32)))]) [1, 2, 3, 4, 0] rfl ?_
    exact kc ((v4 + (5 : Int32)), x80.2) (Option.some.inj h).symm
  · rw [if_neg c81] at h
    refine V_iconst (v := 0) X d_law_775 (by decide) rfl ?_
    exact (kr ((0 : Int32), x80.2) (Option.some.inj h).symm).elim
def j_law_777_23 (L : Nat) (xs : Nat → Int32) (v4 : Int32) (M : Mem) : Option ((Int32 × Mem) ⊕ ((Mem) ⊕ (Int32 × Mem))) :=
  if inb (v4 + (1 : Int32)) L = true then
  Option.bind (f_Top_ahead (xs (v4 + (1 : Int32)).toNatClampNeg) M) fun x83 =>
  if inb (v4 + (1 : Int32)) L = true then
  Option.bind (f_Mod_ahead (xs (v4 + (1 : Int32)).toNatClampNeg) x83.2) fun x84 =>
  if x83.1 = x84.1 then
  some (.inl ((v4 + (5 : Int32)), x84.2))
  else
  some (.inr (Sum.inr ((0 : Int32), x84.2)))
  else none
  else none
theorem j_law_777_23_ok {E : Ev} {cs : Nat × Nat} {G : Gw} {d : Nat} {Q : State → Prop} {b L : Nat} {xs : Nat → Int32} (X : Cx E G code "WomenByTheRoofsLaw" 7 d ret) (hz0 : Zc E cs) (hz : Zc E (cs.1 + 1, cs.2 + 6)) (hT : Tw G E.2.2.2.2.1 E.2.2.2.2.1.heap) (hl9 : E.2.1.stackTraces = false) (hX : va_X b L xs E.2.2.2.2.1 E.2.2.2.2.1.heap) (hbl : b < E.2.2.2.2.1.heap.size) (hbA : ¬ G.2.2 ≤ b) (hD : 450 ≤ d)  (v4 : Int32)  (M : Mem)  (o : (Int32 × Mem) ⊕ ((Mem) ⊕ (Int32 × Mem))) (h : j_law_777_23 L xs v4 M = some o) (kc : ∀ s9 : Int32 × Mem, o = .inl s9 → V E (cs.1 + 1, cs.2 + 6) G 7 Q s9.2 23 [(0, .ref b), (1, .ref (G.2.2 + 0)), (2, .ref (G.2.2 + 162)), (3, .ref (G.2.2 + 192)), (4, .int s9.1)] []) (kx0 : ∀ x9 : Mem, o = .inr (Sum.inl x9) → V E (cs.1 + 1, cs.2 + 6) G 7 Q x9 1643 [] []) (kr : ∀ x9 : Int32 × Mem, o = .inr (Sum.inr x9) → False) : V E cs G 7 Q M 777 [(0, .ref b), (1, .ref (G.2.2 + 0)), (2, .ref (G.2.2 + 162)), (3, .ref (G.2.2 + 192)), (4, .int v4)] [] := by
  unfold j_law_777_23 at h
  refine V_aload_n (n := 1) X d_law_777 rfl rfl rfl ?_
  refine V_aload_n (n := 0) X d_law_778 rfl rfl rfl ?_
  refine V_iload (n := 4) X d_law_779 rfl rfl ?_
  refine V_iconst (v := 1) X d_law_781 (by decide) rfl ?_
  refine V_iadd X d_law_782 rfl ?_
  obtain ⟨hb, h⟩ := ifn h
  refine V_sld X hX hbl hbA hb d_law_783 rfl ?_
  obtain ⟨x83, hx83, h⟩ := ob_s h
  refine V_ci (As := [.int (xs (v4 + (1 : Int32)).toNatClampNeg)]) X hz0 ml_Lw_109 yq_Top_ahead (c_Top_ahead E.2.1 G (xs (v4 + (1 : Int32)).toNatClampNeg) M x83 hx83 _ (Nat.le_refl _)) kd_0 rfl rfl (by omega) rfl (Nat.le_of_ble_eq_true rfl) d_law_784 rfl (fun r9 M9 hq => ?_)
  rw [hq.1, hq.2]
  refine V_aload_n (n := 2) X d_law_787 rfl rfl rfl ?_
  refine V_aload_n (n := 0) X d_law_788 rfl rfl rfl ?_
  refine V_iload (n := 4) X d_law_789 rfl rfl ?_
  refine V_iconst (v := 1) X d_law_791 (by decide) rfl ?_
  refine V_iadd X d_law_792 rfl ?_
  obtain ⟨hb, h⟩ := ifn h
  refine V_sld X hX hbl hbA hb d_law_793 rfl ?_
  obtain ⟨x84, hx84, h⟩ := ob_s h
  refine V_ci (As := [.int (xs (v4 + (1 : Int32)).toNatClampNeg)]) X hz0 ml_Lw_112 yq_Mod_ahead (c_Mod_ahead E.2.1 G (xs (v4 + (1 : Int32)).toNatClampNeg) x83.2 x84 hx84 _ (Nat.le_refl _)) kd_162 rfl rfl (by omega) rfl (Nat.le_of_ble_eq_true rfl) d_law_794 rfl (fun r9 M9 hq => ?_)
  rw [hq.1, hq.2]
  refine V_icmp_eq (tgt := 1637) X d_law_797 (by decide) rfl (fun c85 => ?_) (fun c85 => ?_)
  · rw [if_pos c85] at h
    refine V_iinc (n := 4) (v := (v4 + (5 : Int32))) (lv' := [(4, .int (v4 + (5 : Int32))), (0, .ref b), (1, .ref (G.2.2 + 0)), (2, .ref (G.2.2 + 162)), (3, .ref (G.2.2 + 192))]) X d_law_1637 rfl rfl (by decide) rfl rfl ?_
    refine V_goto (pc' := 23) X d_law_1640 (by decide) ?_
    refine V_wid (cs' := (cs.1 + 1, cs.2 + 6)) ⟨Nat.le_succ _, Nat.le_add_right _ _⟩ ?_
    refine V_sub (lv' := [(0, .ref b), (1, .ref (G.2.2 + 0)), (2, .ref (G.2.2 + 162)), (3, .ref (G.2.2 + 192)), (4, .int (v4 + (5 : Int32)))]) [1, 2, 3, 4, 0] rfl ?_
    exact kc ((v4 + (5 : Int32)), x84.2) (Option.some.inj h).symm
  · rw [if_neg c85] at h
    refine V_iconst (v := 0) X d_law_800 (by decide) rfl ?_
    exact (kr ((0 : Int32), x84.2) (Option.some.inj h).symm).elim
def j_law_802_23 (L : Nat) (xs : Nat → Int32) (v4 : Int32) (M : Mem) : Option ((Int32 × Mem) ⊕ ((Mem) ⊕ (Int32 × Mem))) :=
  if inb (v4 + (1 : Int32)) L = true then
  if inb (v4 + (2 : Int32)) L = true then
  Option.bind (f_Top_meet (xs (v4 + (1 : Int32)).toNatClampNeg) (xs (v4 + (2 : Int32)).toNatClampNeg) M) fun x87 =>
  if inb (v4 + (1 : Int32)) L = true then
  if inb (v4 + (2 : Int32)) L = true then
  Option.bind (f_Mod_meet (xs (v4 + (1 : Int32)).toNatClampNeg) (xs (v4 + (2 : Int32)).toNatClampNeg) x87.2) fun x88 =>
  if x87.1 = x88.1 then
  some (.inl ((v4 + (5 : Int32)), x88.2))
  else
  some (.inr (Sum.inr ((0 : Int32), x88.2)))
  else none
  else none
  else none
  else none
theorem j_law_802_23_ok {E : Ev} {cs : Nat × Nat} {G : Gw} {d : Nat} {Q : State → Prop} {b L : Nat} {xs : Nat → Int32} (X : Cx E G code "WomenByTheRoofsLaw" 7 d ret) (hz0 : Zc E cs) (hz : Zc E (cs.1 + 1, cs.2 + 6)) (hT : Tw G E.2.2.2.2.1 E.2.2.2.2.1.heap) (hl9 : E.2.1.stackTraces = false) (hX : va_X b L xs E.2.2.2.2.1 E.2.2.2.2.1.heap) (hbl : b < E.2.2.2.2.1.heap.size) (hbA : ¬ G.2.2 ≤ b) (hD : 450 ≤ d)  (v4 : Int32)  (M : Mem)  (o : (Int32 × Mem) ⊕ ((Mem) ⊕ (Int32 × Mem))) (h : j_law_802_23 L xs v4 M = some o) (kc : ∀ s9 : Int32 × Mem, o = .inl s9 → V E (cs.1 + 1, cs.2 + 6) G 7 Q s9.2 23 [(0, .ref b), (1, .ref (G.2.2 + 0)), (2, .ref (G.2.2 + 162)), (3, .ref (G.2.2 + 192)), (4, .int s9.1)] []) (kx0 : ∀ x9 : Mem, o = .inr (Sum.inl x9) → V E (cs.1 + 1, cs.2 + 6) G 7 Q x9 1643 [] []) (kr : ∀ x9 : Int32 × Mem, o = .inr (Sum.inr x9) → False) : V E cs G 7 Q M 802 [(0, .ref b), (1, .ref (G.2.2 + 0)), (2, .ref (G.2.2 + 162)), (3, .ref (G.2.2 + 192)), (4, .int v4)] [] := by
  unfold j_law_802_23 at h
  refine V_aload_n (n := 1) X d_law_802 rfl rfl rfl ?_
  refine V_aload_n (n := 0) X d_law_803 rfl rfl rfl ?_
  refine V_iload (n := 4) X d_law_804 rfl rfl ?_
  refine V_iconst (v := 1) X d_law_806 (by decide) rfl ?_
  refine V_iadd X d_law_807 rfl ?_
  obtain ⟨hb, h⟩ := ifn h
  refine V_sld X hX hbl hbA hb d_law_808 rfl ?_
  refine V_aload_n (n := 0) X d_law_809 rfl rfl rfl ?_
  refine V_iload (n := 4) X d_law_810 rfl rfl ?_
  refine V_iconst (v := 2) X d_law_812 (by decide) rfl ?_
  refine V_iadd X d_law_813 rfl ?_
  obtain ⟨hb, h⟩ := ifn h
  refine V_sld X hX hbl hbA hb d_law_814 rfl ?_
  obtain ⟨x87, hx87, h⟩ := ob_s h
  refine V_ci (As := [.int (xs (v4 + (1 : Int32)).toNatClampNeg), .int (xs (v4 + (2 : Int32)).toNatClampNeg)]) X hz0 ml_Lw_113 yq_Top_meet (c_Top_meet E.2.1 G (xs (v4 + (1 : Int32)).toNatClampNeg) (xs (v4 + (2 : Int32)).toNatClampNeg) M x87 hx87 _ (Nat.le_refl _)) kd_0 rfl rfl (by omega) rfl (Nat.le_of_ble_eq_true rfl) d_law_815 rfl (fun r9 M9 hq => ?_)
  rw [hq.1, hq.2]
  refine V_aload_n (n := 2) X d_law_818 rfl rfl rfl ?_
  refine V_aload_n (n := 0) X d_law_819 rfl rfl rfl ?_
  refine V_iload (n := 4) X d_law_820 rfl rfl ?_
  refine V_iconst (v := 1) X d_law_822 (by decide) rfl ?_
  refine V_iadd X d_law_823 rfl ?_
  obtain ⟨hb, h⟩ := ifn h
  refine V_sld X hX hbl hbA hb d_law_824 rfl ?_
  refine V_aload_n (n := 0) X d_law_825 rfl rfl rfl ?_
  refine V_iload (n := 4) X d_law_826 rfl rfl ?_
  refine V_iconst (v := 2) X d_law_828 (by decide) rfl ?_
  refine V_iadd X d_law_829 rfl ?_
  obtain ⟨hb, h⟩ := ifn h
  refine V_sld X hX hbl hbA hb d_law_830 rfl ?_
  obtain ⟨x88, hx88, h⟩ := ob_s h
  refine V_ci (As := [.int (xs (v4 + (1 : Int32)).toNatClampNeg), .int (xs (v4 + (2 : Int32)).toNatClampNeg)]) X hz0 ml_Lw_116 yq_Mod_meet (c_Mod_meet E.2.1 G (xs (v4 + (1 : Int32)).toNatClampNeg) (xs (v4 + (2 : Int32)).toNatClampNeg) x87.2 x88 hx88 _ (Nat.le_refl _)) kd_162 rfl rfl (by omega) rfl (Nat.le_of_ble_eq_true rfl) d_law_831 rfl (fun r9 M9 hq => ?_)
  rw [hq.1, hq.2]
  refine V_icmp_eq (tgt := 1637) X d_law_834 (by decide) rfl (fun c89 => ?_) (fun c89 => ?_)
  · rw [if_pos c89] at h
    refine V_iinc (n := 4) (v := (v4 + (5 : Int32))) (lv' := [(4, .int (v4 + (5 : Int32))), (0, .ref b), (1, .ref (G.2.2 + 0)), (2, .ref (G.2.2 + 162)), (3, .ref (G.2.2 + 192))]) X d_law_1637 rfl rfl (by decide) rfl rfl ?_
    refine V_goto (pc' := 23) X d_law_1640 (by decide) ?_
    refine V_wid (cs' := (cs.1 + 1, cs.2 + 6)) ⟨Nat.le_succ _, Nat.le_add_right _ _⟩ ?_
    refine V_sub (lv' := [(0, .ref b), (1, .ref (G.2.2 + 0)), (2, .ref (G.2.2 + 162)), (3, .ref (G.2.2 + 192)), (4, .int (v4 + (5 : Int32)))]) [1, 2, 3, 4, 0] rfl ?_
    exact kc ((v4 + (5 : Int32)), x88.2) (Option.some.inj h).symm
  · rw [if_neg c89] at h
    refine V_iconst (v := 0) X d_law_837 (by decide) rfl ?_
    exact (kr ((0 : Int32), x88.2) (Option.some.inj h).symm).elim
def j_law_839_23 (L : Nat) (xs : Nat → Int32) (v4 : Int32) (M : Mem) : Option ((Int32 × Mem) ⊕ ((Mem) ⊕ (Int32 × Mem))) :=
  Option.bind (f_Top_known M) fun x91 =>
  Option.bind (f_Mod_known x91.2) fun x92 =>
  if x91.1 = x92.1 then
  some (.inl ((v4 + (5 : Int32)), x92.2))
  else
  some (.inr (Sum.inr ((0 : Int32), x92.2)))
theorem j_law_839_23_ok {E : Ev} {cs : Nat × Nat} {G : Gw} {d : Nat} {Q : State → Prop} {b L : Nat} {xs : Nat → Int32} (X : Cx E G code "WomenByTheRoofsLaw" 7 d ret) (hz0 : Zc E cs) (hz : Zc E (cs.1 + 1, cs.2 + 6)) (hT : Tw G E.2.2.2.2.1 E.2.2.2.2.1.heap) (hl9 : E.2.1.stackTraces = false) (hX : va_X b L xs E.2.2.2.2.1 E.2.2.2.2.1.heap) (hbl : b < E.2.2.2.2.1.heap.size) (hbA : ¬ G.2.2 ≤ b) (hD : 450 ≤ d)  (v4 : Int32)  (M : Mem)  (o : (Int32 × Mem) ⊕ ((Mem) ⊕ (Int32 × Mem))) (h : j_law_839_23 L xs v4 M = some o) (kc : ∀ s9 : Int32 × Mem, o = .inl s9 → V E (cs.1 + 1, cs.2 + 6) G 7 Q s9.2 23 [(0, .ref b), (1, .ref (G.2.2 + 0)), (2, .ref (G.2.2 + 162)), (3, .ref (G.2.2 + 192)), (4, .int s9.1)] []) (kx0 : ∀ x9 : Mem, o = .inr (Sum.inl x9) → V E (cs.1 + 1, cs.2 + 6) G 7 Q x9 1643 [] []) (kr : ∀ x9 : Int32 × Mem, o = .inr (Sum.inr x9) → False) : V E cs G 7 Q M 839 [(0, .ref b), (1, .ref (G.2.2 + 0)), (2, .ref (G.2.2 + 162)), (3, .ref (G.2.2 + 192)), (4, .int v4)] [] := by
  unfold j_law_839_23 at h
  refine V_aload_n (n := 1) X d_law_839 rfl rfl rfl ?_
  obtain ⟨x91, hx91, h⟩ := ob_s h
  refine V_ci (As := []) X hz0 ml_Lw_117 yq_Top_known (c_Top_known E.2.1 G  M x91 hx91 _ (Nat.le_refl _)) kd_0 rfl rfl (by omega) rfl (Nat.le_of_ble_eq_true rfl) d_law_840 rfl (fun r9 M9 hq => ?_)
  rw [hq.1, hq.2]
  refine V_aload_n (n := 2) X d_law_843 rfl rfl rfl ?_
  obtain ⟨x92, hx92, h⟩ := ob_s h
  refine V_ci (As := []) X hz0 ml_Lw_120 yq_Mod_known (c_Mod_known E.2.1 G  x91.2 x92 hx92 _ (Nat.le_refl _)) kd_162 rfl rfl (by omega) rfl (Nat.le_of_ble_eq_true rfl) d_law_844 rfl (fun r9 M9 hq => ?_)
  rw [hq.1, hq.2]
  refine V_icmp_eq (tgt := 1637) X d_law_847 (by decide) rfl (fun c93 => ?_) (fun c93 => ?_)
  · rw [if_pos c93] at h
    refine V_iinc (n := 4) (v := (v4 + (5 : Int32))) (lv' := [(4, .int (v4 + (5 : Int32))), (0, .ref b), (1, .ref (G.2.2 + 0)), (2, .ref (G.2.2 + 162)), (3, .ref (G.2.2 + 192))]) X d_law_1637 rfl rfl (by decide) rfl rfl ?_
    refine V_goto (pc' := 23) X d_law_1640 (by decide) ?_
    refine V_wid (cs' := (cs.1 + 1, cs.2 + 6)) ⟨Nat.le_succ _, Nat.le_add_right _ _⟩ ?_
    refine V_sub (lv' := [(0, .ref b), (1, .ref (G.2.2 + 0)), (2, .ref (G.2.2 + 162)), (3, .ref (G.2.2 + 192)), (4, .int (v4 + (5 : Int32)))]) [1, 2, 3, 4, 0] rfl ?_
    exact kc ((v4 + (5 : Int32)), x92.2) (Option.some.inj h).symm
  · rw [if_neg c93] at h
    refine V_iconst (v := 0) X d_law_850 (by decide) rfl ?_
    exact (kr ((0 : Int32), x92.2) (Option.some.inj h).symm).elim
def j_law_852_23 (L : Nat) (xs : Nat → Int32) (v4 : Int32) (M : Mem) : Option ((Int32 × Mem) ⊕ ((Mem) ⊕ (Int32 × Mem))) :=
  if inb (v4 + (1 : Int32)) L = true then
  Option.bind (f_Top_gossip (xs (v4 + (1 : Int32)).toNatClampNeg) M) fun x95 =>
  if inb (v4 + (1 : Int32)) L = true then
  Option.bind (f_Mod_gossip (xs (v4 + (1 : Int32)).toNatClampNeg) x95.2) fun x96 =>
  if x95.1 = x96.1 then
  some (.inl ((v4 + (5 : Int32)), x96.2))
  else
  some (.inr (Sum.inr ((0 : Int32), x96.2)))
  else none
  else none
theorem j_law_852_23_ok {E : Ev} {cs : Nat × Nat} {G : Gw} {d : Nat} {Q : State → Prop} {b L : Nat} {xs : Nat → Int32} (X : Cx E G code "WomenByTheRoofsLaw" 7 d ret) (hz0 : Zc E cs) (hz : Zc E (cs.1 + 1, cs.2 + 6)) (hT : Tw G E.2.2.2.2.1 E.2.2.2.2.1.heap) (hl9 : E.2.1.stackTraces = false) (hX : va_X b L xs E.2.2.2.2.1 E.2.2.2.2.1.heap) (hbl : b < E.2.2.2.2.1.heap.size) (hbA : ¬ G.2.2 ≤ b) (hD : 450 ≤ d)  (v4 : Int32)  (M : Mem)  (o : (Int32 × Mem) ⊕ ((Mem) ⊕ (Int32 × Mem))) (h : j_law_852_23 L xs v4 M = some o) (kc : ∀ s9 : Int32 × Mem, o = .inl s9 → V E (cs.1 + 1, cs.2 + 6) G 7 Q s9.2 23 [(0, .ref b), (1, .ref (G.2.2 + 0)), (2, .ref (G.2.2 + 162)), (3, .ref (G.2.2 + 192)), (4, .int s9.1)] []) (kx0 : ∀ x9 : Mem, o = .inr (Sum.inl x9) → V E (cs.1 + 1, cs.2 + 6) G 7 Q x9 1643 [] []) (kr : ∀ x9 : Int32 × Mem, o = .inr (Sum.inr x9) → False) : V E cs G 7 Q M 852 [(0, .ref b), (1, .ref (G.2.2 + 0)), (2, .ref (G.2.2 + 162)), (3, .ref (G.2.2 + 192)), (4, .int v4)] [] := by
  unfold j_law_852_23 at h
  refine V_aload_n (n := 1) X d_law_852 rfl rfl rfl ?_
  refine V_aload_n (n := 0) X d_law_853 rfl rfl rfl ?_
  refine V_iload (n := 4) X d_law_854 rfl rfl ?_
  refine V_iconst (v := 1) X d_law_856 (by decide) rfl ?_
  refine V_iadd X d_law_857 rfl ?_
  obtain ⟨hb, h⟩ := ifn h
  refine V_sld X hX hbl hbA hb d_law_858 rfl ?_
  obtain ⟨x95, hx95, h⟩ := ob_s h
  refine V_ci (As := [.int (xs (v4 + (1 : Int32)).toNatClampNeg)]) X hz0 ml_Lw_121 yq_Top_gossip (c_Top_gossip E.2.1 G (xs (v4 + (1 : Int32)).toNatClampNeg) M x95 hx95 _ (Nat.le_refl _)) kd_0 rfl rfl (by omega) rfl (Nat.le_of_ble_eq_true rfl) d_law_859 rfl (fun r9 M9 hq => ?_)
  rw [hq.1, hq.2]
  refine V_aload_n (n := 2) X d_law_862 rfl rfl rfl ?_
  refine V_aload_n (n := 0) X d_law_863 rfl rfl rfl ?_
  refine V_iload (n := 4) X d_law_864 rfl rfl ?_
  refine V_iconst (v := 1) X d_law_866 (by decide) rfl ?_
  refine V_iadd X d_law_867 rfl ?_
  obtain ⟨hb, h⟩ := ifn h
  refine V_sld X hX hbl hbA hb d_law_868 rfl ?_
  obtain ⟨x96, hx96, h⟩ := ob_s h
  refine V_ci (As := [.int (xs (v4 + (1 : Int32)).toNatClampNeg)]) X hz0 ml_Lw_124 yq_Mod_gossip (c_Mod_gossip E.2.1 G (xs (v4 + (1 : Int32)).toNatClampNeg) x95.2 x96 hx96 _ (Nat.le_refl _)) kd_162 rfl rfl (by omega) rfl (Nat.le_of_ble_eq_true rfl) d_law_869 rfl (fun r9 M9 hq => ?_)
  rw [hq.1, hq.2]
  refine V_icmp_eq (tgt := 1637) X d_law_872 (by decide) rfl (fun c97 => ?_) (fun c97 => ?_)
  · rw [if_pos c97] at h
    refine V_iinc (n := 4) (v := (v4 + (5 : Int32))) (lv' := [(4, .int (v4 + (5 : Int32))), (0, .ref b), (1, .ref (G.2.2 + 0)), (2, .ref (G.2.2 + 162)), (3, .ref (G.2.2 + 192))]) X d_law_1637 rfl rfl (by decide) rfl rfl ?_
    refine V_goto (pc' := 23) X d_law_1640 (by decide) ?_
    refine V_wid (cs' := (cs.1 + 1, cs.2 + 6)) ⟨Nat.le_succ _, Nat.le_add_right _ _⟩ ?_
    refine V_sub (lv' := [(0, .ref b), (1, .ref (G.2.2 + 0)), (2, .ref (G.2.2 + 162)), (3, .ref (G.2.2 + 192)), (4, .int (v4 + (5 : Int32)))]) [1, 2, 3, 4, 0] rfl ?_
    exact kc ((v4 + (5 : Int32)), x96.2) (Option.some.inj h).symm
  · rw [if_neg c97] at h
    refine V_iconst (v := 0) X d_law_875 (by decide) rfl ?_
    exact (kr ((0 : Int32), x96.2) (Option.some.inj h).symm).elim
def j_law_877_23 (L : Nat) (xs : Nat → Int32) (v4 : Int32) (M : Mem) : Option ((Int32 × Mem) ⊕ ((Mem) ⊕ (Int32 × Mem))) :=
  if inb (v4 + (1 : Int32)) L = true then
  Option.bind (f_Top_pieces (xs (v4 + (1 : Int32)).toNatClampNeg) M) fun x99 =>
  if inb (v4 + (1 : Int32)) L = true then
  Option.bind (f_Mod_pieces (xs (v4 + (1 : Int32)).toNatClampNeg) x99.2) fun x100 =>
  if x99.1 = x100.1 then
  some (.inl ((v4 + (5 : Int32)), x100.2))
  else
  some (.inr (Sum.inr ((0 : Int32), x100.2)))
  else none
  else none
theorem j_law_877_23_ok {E : Ev} {cs : Nat × Nat} {G : Gw} {d : Nat} {Q : State → Prop} {b L : Nat} {xs : Nat → Int32} (X : Cx E G code "WomenByTheRoofsLaw" 7 d ret) (hz0 : Zc E cs) (hz : Zc E (cs.1 + 1, cs.2 + 6)) (hT : Tw G E.2.2.2.2.1 E.2.2.2.2.1.heap) (hl9 : E.2.1.stackTraces = false) (hX : va_X b L xs E.2.2.2.2.1 E.2.2.2.2.1.heap) (hbl : b < E.2.2.2.2.1.heap.size) (hbA : ¬ G.2.2 ≤ b) (hD : 450 ≤ d)  (v4 : Int32)  (M : Mem)  (o : (Int32 × Mem) ⊕ ((Mem) ⊕ (Int32 × Mem))) (h : j_law_877_23 L xs v4 M = some o) (kc : ∀ s9 : Int32 × Mem, o = .inl s9 → V E (cs.1 + 1, cs.2 + 6) G 7 Q s9.2 23 [(0, .ref b), (1, .ref (G.2.2 + 0)), (2, .ref (G.2.2 + 162)), (3, .ref (G.2.2 + 192)), (4, .int s9.1)] []) (kx0 : ∀ x9 : Mem, o = .inr (Sum.inl x9) → V E (cs.1 + 1, cs.2 + 6) G 7 Q x9 1643 [] []) (kr : ∀ x9 : Int32 × Mem, o = .inr (Sum.inr x9) → False) : V E cs G 7 Q M 877 [(0, .ref b), (1, .ref (G.2.2 + 0)), (2, .ref (G.2.2 + 162)), (3, .ref (G.2.2 + 192)), (4, .int v4)] [] := by
  unfold j_law_877_23 at h
  refine V_aload_n (n := 1) X d_law_877 rfl rfl rfl ?_
  refine V_aload_n (n := 0) X d_law_878 rfl rfl rfl ?_
  refine V_iload (n := 4) X d_law_879 rfl rfl ?_
  refine V_iconst (v := 1) X d_law_881 (by decide) rfl ?_
  refine V_iadd X d_law_882 rfl ?_
  obtain ⟨hb, h⟩ := ifn h
  refine V_sld X hX hbl hbA hb d_law_883 rfl ?_
  obtain ⟨x99, hx99, h⟩ := ob_s h
  refine V_ci (As := [.int (xs (v4 + (1 : Int32)).toNatClampNeg)]) X hz0 ml_Lw_125 yq_Top_pieces (c_Top_pieces E.2.1 G (xs (v4 + (1 : Int32)).toNatClampNeg) M x99 hx99 _ (Nat.le_refl _)) kd_0 rfl rfl (by omega) rfl (Nat.le_of_ble_eq_true rfl) d_law_884 rfl (fun r9 M9 hq => ?_)
  rw [hq.1, hq.2]
  refine V_aload_n (n := 2) X d_law_887 rfl rfl rfl ?_
  refine V_aload_n (n := 0) X d_law_888 rfl rfl rfl ?_
  refine V_iload (n := 4) X d_law_889 rfl rfl ?_
  refine V_iconst (v := 1) X d_law_891 (by decide) rfl ?_
  refine V_iadd X d_law_892 rfl ?_
  obtain ⟨hb, h⟩ := ifn h
  refine V_sld X hX hbl hbA hb d_law_893 rfl ?_
  obtain ⟨x100, hx100, h⟩ := ob_s h
  refine V_ci (As := [.int (xs (v4 + (1 : Int32)).toNatClampNeg)]) X hz0 ml_Lw_128 yq_Mod_pieces (c_Mod_pieces E.2.1 G (xs (v4 + (1 : Int32)).toNatClampNeg) x99.2 x100 hx100 _ (Nat.le_refl _)) kd_162 rfl rfl (by omega) rfl (Nat.le_of_ble_eq_true rfl) d_law_894 rfl (fun r9 M9 hq => ?_)
  rw [hq.1, hq.2]
  refine V_icmp_eq (tgt := 1637) X d_law_897 (by decide) rfl (fun c101 => ?_) (fun c101 => ?_)
  · rw [if_pos c101] at h
    refine V_iinc (n := 4) (v := (v4 + (5 : Int32))) (lv' := [(4, .int (v4 + (5 : Int32))), (0, .ref b), (1, .ref (G.2.2 + 0)), (2, .ref (G.2.2 + 162)), (3, .ref (G.2.2 + 192))]) X d_law_1637 rfl rfl (by decide) rfl rfl ?_
    refine V_goto (pc' := 23) X d_law_1640 (by decide) ?_
    refine V_wid (cs' := (cs.1 + 1, cs.2 + 6)) ⟨Nat.le_succ _, Nat.le_add_right _ _⟩ ?_
    refine V_sub (lv' := [(0, .ref b), (1, .ref (G.2.2 + 0)), (2, .ref (G.2.2 + 162)), (3, .ref (G.2.2 + 192)), (4, .int (v4 + (5 : Int32)))]) [1, 2, 3, 4, 0] rfl ?_
    exact kc ((v4 + (5 : Int32)), x100.2) (Option.some.inj h).symm
  · rw [if_neg c101] at h
    refine V_iconst (v := 0) X d_law_900 (by decide) rfl ?_
    exact (kr ((0 : Int32), x100.2) (Option.some.inj h).symm).elim
def j_law_902_23 (L : Nat) (xs : Nat → Int32) (v4 : Int32) (M : Mem) : Option ((Int32 × Mem) ⊕ ((Mem) ⊕ (Int32 × Mem))) :=
  if inb (v4 + (1 : Int32)) L = true then
  if inb (v4 + (2 : Int32)) L = true then
  Option.bind (f_Top_reach (xs (v4 + (1 : Int32)).toNatClampNeg) (xs (v4 + (2 : Int32)).toNatClampNeg) M) fun x103 =>
  if inb (v4 + (1 : Int32)) L = true then
  if inb (v4 + (2 : Int32)) L = true then
  Option.bind (f_Mod_reach (xs (v4 + (1 : Int32)).toNatClampNeg) (xs (v4 + (2 : Int32)).toNatClampNeg) x103.2) fun x104 =>
  if x103.1 = x104.1 then
  some (.inl ((v4 + (5 : Int32)), x104.2))
  else
  some (.inr (Sum.inr ((0 : Int32), x104.2)))
  else none
  else none
  else none
  else none
theorem j_law_902_23_ok {E : Ev} {cs : Nat × Nat} {G : Gw} {d : Nat} {Q : State → Prop} {b L : Nat} {xs : Nat → Int32} (X : Cx E G code "WomenByTheRoofsLaw" 7 d ret) (hz0 : Zc E cs) (hz : Zc E (cs.1 + 1, cs.2 + 6)) (hT : Tw G E.2.2.2.2.1 E.2.2.2.2.1.heap) (hl9 : E.2.1.stackTraces = false) (hX : va_X b L xs E.2.2.2.2.1 E.2.2.2.2.1.heap) (hbl : b < E.2.2.2.2.1.heap.size) (hbA : ¬ G.2.2 ≤ b) (hD : 450 ≤ d)  (v4 : Int32)  (M : Mem)  (o : (Int32 × Mem) ⊕ ((Mem) ⊕ (Int32 × Mem))) (h : j_law_902_23 L xs v4 M = some o) (kc : ∀ s9 : Int32 × Mem, o = .inl s9 → V E (cs.1 + 1, cs.2 + 6) G 7 Q s9.2 23 [(0, .ref b), (1, .ref (G.2.2 + 0)), (2, .ref (G.2.2 + 162)), (3, .ref (G.2.2 + 192)), (4, .int s9.1)] []) (kx0 : ∀ x9 : Mem, o = .inr (Sum.inl x9) → V E (cs.1 + 1, cs.2 + 6) G 7 Q x9 1643 [] []) (kr : ∀ x9 : Int32 × Mem, o = .inr (Sum.inr x9) → False) : V E cs G 7 Q M 902 [(0, .ref b), (1, .ref (G.2.2 + 0)), (2, .ref (G.2.2 + 162)), (3, .ref (G.2.2 + 192)), (4, .int v4)] [] := by
  unfold j_law_902_23 at h
  refine V_aload_n (n := 1) X d_law_902 rfl rfl rfl ?_
  refine V_aload_n (n := 0) X d_law_903 rfl rfl rfl ?_
  refine V_iload (n := 4) X d_law_904 rfl rfl ?_
  refine V_iconst (v := 1) X d_law_906 (by decide) rfl ?_
  refine V_iadd X d_law_907 rfl ?_
  obtain ⟨hb, h⟩ := ifn h
  refine V_sld X hX hbl hbA hb d_law_908 rfl ?_
  refine V_aload_n (n := 0) X d_law_909 rfl rfl rfl ?_
  refine V_iload (n := 4) X d_law_910 rfl rfl ?_
  refine V_iconst (v := 2) X d_law_912 (by decide) rfl ?_
  refine V_iadd X d_law_913 rfl ?_
  obtain ⟨hb, h⟩ := ifn h
  refine V_sld X hX hbl hbA hb d_law_914 rfl ?_
  obtain ⟨x103, hx103, h⟩ := ob_s h
  refine V_ci (As := [.int (xs (v4 + (1 : Int32)).toNatClampNeg), .int (xs (v4 + (2 : Int32)).toNatClampNeg)]) X hz0 ml_Lw_129 yq_Top_reach (c_Top_reach E.2.1 G (xs (v4 + (1 : Int32)).toNatClampNeg) (xs (v4 + (2 : Int32)).toNatClampNeg) M x103 hx103 _ (Nat.le_refl _)) kd_0 rfl rfl (by omega) rfl (Nat.le_of_ble_eq_true rfl) d_law_915 rfl (fun r9 M9 hq => ?_)
  rw [hq.1, hq.2]
  refine V_aload_n (n := 2) X d_law_918 rfl rfl rfl ?_
  refine V_aload_n (n := 0) X d_law_919 rfl rfl rfl ?_
  refine V_iload (n := 4) X d_law_920 rfl rfl ?_
  refine V_iconst (v := 1) X d_law_922 (by decide) rfl ?_
  refine V_iadd X d_law_923 rfl ?_
  obtain ⟨hb, h⟩ := ifn h
  refine V_sld X hX hbl hbA hb d_law_924 rfl ?_
  refine V_aload_n (n := 0) X d_law_925 rfl rfl rfl ?_
  refine V_iload (n := 4) X d_law_926 rfl rfl ?_
  refine V_iconst (v := 2) X d_law_928 (by decide) rfl ?_
  refine V_iadd X d_law_929 rfl ?_
  obtain ⟨hb, h⟩ := ifn h
  refine V_sld X hX hbl hbA hb d_law_930 rfl ?_
  obtain ⟨x104, hx104, h⟩ := ob_s h
  refine V_ci (As := [.int (xs (v4 + (1 : Int32)).toNatClampNeg), .int (xs (v4 + (2 : Int32)).toNatClampNeg)]) X hz0 ml_Lw_132 yq_Mod_reach (c_Mod_reach E.2.1 G (xs (v4 + (1 : Int32)).toNatClampNeg) (xs (v4 + (2 : Int32)).toNatClampNeg) x103.2 x104 hx104 _ (Nat.le_refl _)) kd_162 rfl rfl (by omega) rfl (Nat.le_of_ble_eq_true rfl) d_law_931 rfl (fun r9 M9 hq => ?_)
  rw [hq.1, hq.2]
  refine V_icmp_eq (tgt := 1637) X d_law_934 (by decide) rfl (fun c105 => ?_) (fun c105 => ?_)
  · rw [if_pos c105] at h
    refine V_iinc (n := 4) (v := (v4 + (5 : Int32))) (lv' := [(4, .int (v4 + (5 : Int32))), (0, .ref b), (1, .ref (G.2.2 + 0)), (2, .ref (G.2.2 + 162)), (3, .ref (G.2.2 + 192))]) X d_law_1637 rfl rfl (by decide) rfl rfl ?_
    refine V_goto (pc' := 23) X d_law_1640 (by decide) ?_
    refine V_wid (cs' := (cs.1 + 1, cs.2 + 6)) ⟨Nat.le_succ _, Nat.le_add_right _ _⟩ ?_
    refine V_sub (lv' := [(0, .ref b), (1, .ref (G.2.2 + 0)), (2, .ref (G.2.2 + 162)), (3, .ref (G.2.2 + 192)), (4, .int (v4 + (5 : Int32)))]) [1, 2, 3, 4, 0] rfl ?_
    exact kc ((v4 + (5 : Int32)), x104.2) (Option.some.inj h).symm
  · rw [if_neg c105] at h
    refine V_iconst (v := 0) X d_law_937 (by decide) rfl ?_
    exact (kr ((0 : Int32), x104.2) (Option.some.inj h).symm).elim
def j_law_939_23 (L : Nat) (xs : Nat → Int32) (v4 : Int32) (M : Mem) : Option ((Int32 × Mem) ⊕ ((Mem) ⊕ (Int32 × Mem))) :=
  if inb (v4 + (1 : Int32)) L = true then
  if inb (v4 + (2 : Int32)) L = true then
  if inb (v4 + (3 : Int32)) L = true then
  Option.bind (f_Top_path (xs (v4 + (1 : Int32)).toNatClampNeg) (xs (v4 + (2 : Int32)).toNatClampNeg) (xs (v4 + (3 : Int32)).toNatClampNeg) M) fun x107 =>
  if inb (v4 + (1 : Int32)) L = true then
  if inb (v4 + (2 : Int32)) L = true then
  if inb (v4 + (3 : Int32)) L = true then
  Option.bind (f_Mod_path (xs (v4 + (1 : Int32)).toNatClampNeg) (xs (v4 + (2 : Int32)).toNatClampNeg) (xs (v4 + (3 : Int32)).toNatClampNeg) x107.2) fun x108 =>
  if x107.1 = x108.1 then
  some (.inl ((v4 + (5 : Int32)), x108.2))
  else
  some (.inr (Sum.inr ((0 : Int32), x108.2)))
  else none
  else none
  else none
  else none
  else none
  else none
theorem j_law_939_23_ok {E : Ev} {cs : Nat × Nat} {G : Gw} {d : Nat} {Q : State → Prop} {b L : Nat} {xs : Nat → Int32} (X : Cx E G code "WomenByTheRoofsLaw" 7 d ret) (hz0 : Zc E cs) (hz : Zc E (cs.1 + 1, cs.2 + 6)) (hT : Tw G E.2.2.2.2.1 E.2.2.2.2.1.heap) (hl9 : E.2.1.stackTraces = false) (hX : va_X b L xs E.2.2.2.2.1 E.2.2.2.2.1.heap) (hbl : b < E.2.2.2.2.1.heap.size) (hbA : ¬ G.2.2 ≤ b) (hD : 450 ≤ d)  (v4 : Int32)  (M : Mem)  (o : (Int32 × Mem) ⊕ ((Mem) ⊕ (Int32 × Mem))) (h : j_law_939_23 L xs v4 M = some o) (kc : ∀ s9 : Int32 × Mem, o = .inl s9 → V E (cs.1 + 1, cs.2 + 6) G 7 Q s9.2 23 [(0, .ref b), (1, .ref (G.2.2 + 0)), (2, .ref (G.2.2 + 162)), (3, .ref (G.2.2 + 192)), (4, .int s9.1)] []) (kx0 : ∀ x9 : Mem, o = .inr (Sum.inl x9) → V E (cs.1 + 1, cs.2 + 6) G 7 Q x9 1643 [] []) (kr : ∀ x9 : Int32 × Mem, o = .inr (Sum.inr x9) → False) : V E cs G 7 Q M 939 [(0, .ref b), (1, .ref (G.2.2 + 0)), (2, .ref (G.2.2 + 162)), (3, .ref (G.2.2 + 192)), (4, .int v4)] [] := by
  unfold j_law_939_23 at h
  refine V_aload_n (n := 1) X d_law_939 rfl rfl rfl ?_
  refine V_aload_n (n := 0) X d_law_940 rfl rfl rfl ?_
  refine V_iload (n := 4) X d_law_941 rfl rfl ?_
  refine V_iconst (v := 1) X d_law_943 (by decide) rfl ?_
  refine V_iadd X d_law_944 rfl ?_
  obtain ⟨hb, h⟩ := ifn h
  refine V_sld X hX hbl hbA hb d_law_945 rfl ?_
  refine V_aload_n (n := 0) X d_law_946 rfl rfl rfl ?_
  refine V_iload (n := 4) X d_law_947 rfl rfl ?_
  refine V_iconst (v := 2) X d_law_949 (by decide) rfl ?_
  refine V_iadd X d_law_950 rfl ?_
  obtain ⟨hb, h⟩ := ifn h
  refine V_sld X hX hbl hbA hb d_law_951 rfl ?_
  refine V_aload_n (n := 0) X d_law_952 rfl rfl rfl ?_
  refine V_iload (n := 4) X d_law_953 rfl rfl ?_
  refine V_iconst (v := 3) X d_law_955 (by decide) rfl ?_
  refine V_iadd X d_law_956 rfl ?_
  obtain ⟨hb, h⟩ := ifn h
  refine V_sld X hX hbl hbA hb d_law_957 rfl ?_
  obtain ⟨x107, hx107, h⟩ := ob_s h
  refine V_ci (As := [.int (xs (v4 + (1 : Int32)).toNatClampNeg), .int (xs (v4 + (2 : Int32)).toNatClampNeg), .int (xs (v4 + (3 : Int32)).toNatClampNeg)]) X hz0 ml_Lw_133 yq_Top_path (c_Top_path E.2.1 G (xs (v4 + (1 : Int32)).toNatClampNeg) (xs (v4 + (2 : Int32)).toNatClampNeg) (xs (v4 + (3 : Int32)).toNatClampNeg) M x107 hx107 _ (Nat.le_refl _)) kd_0 rfl rfl (by omega) rfl (Nat.le_of_ble_eq_true rfl) d_law_958 rfl (fun r9 M9 hq => ?_)
  rw [hq.1, hq.2]
  refine V_aload_n (n := 2) X d_law_961 rfl rfl rfl ?_
  refine V_aload_n (n := 0) X d_law_962 rfl rfl rfl ?_
  refine V_iload (n := 4) X d_law_963 rfl rfl ?_
  refine V_iconst (v := 1) X d_law_965 (by decide) rfl ?_
  refine V_iadd X d_law_966 rfl ?_
  obtain ⟨hb, h⟩ := ifn h
  refine V_sld X hX hbl hbA hb d_law_967 rfl ?_
  refine V_aload_n (n := 0) X d_law_968 rfl rfl rfl ?_
  refine V_iload (n := 4) X d_law_969 rfl rfl ?_
  refine V_iconst (v := 2) X d_law_971 (by decide) rfl ?_
  refine V_iadd X d_law_972 rfl ?_
  obtain ⟨hb, h⟩ := ifn h
  refine V_sld X hX hbl hbA hb d_law_973 rfl ?_
  refine V_aload_n (n := 0) X d_law_974 rfl rfl rfl ?_
  refine V_iload (n := 4) X d_law_975 rfl rfl ?_
  refine V_iconst (v := 3) X d_law_977 (by decide) rfl ?_
  refine V_iadd X d_law_978 rfl ?_
  obtain ⟨hb, h⟩ := ifn h
  refine V_sld X hX hbl hbA hb d_law_979 rfl ?_
  obtain ⟨x108, hx108, h⟩ := ob_s h
  refine V_ci (As := [.int (xs (v4 + (1 : Int32)).toNatClampNeg), .int (xs (v4 + (2 : Int32)).toNatClampNeg), .int (xs (v4 + (3 : Int32)).toNatClampNeg)]) X hz0 ml_Lw_137 yq_Mod_path (c_Mod_path E.2.1 G (xs (v4 + (1 : Int32)).toNatClampNeg) (xs (v4 + (2 : Int32)).toNatClampNeg) (xs (v4 + (3 : Int32)).toNatClampNeg) x107.2 x108 hx108 _ (Nat.le_refl _)) kd_162 rfl rfl (by omega) rfl (Nat.le_of_ble_eq_true rfl) d_law_980 rfl (fun r9 M9 hq => ?_)
  rw [hq.1, hq.2]
  refine V_icmp_eq (tgt := 1637) X d_law_983 (by decide) rfl (fun c109 => ?_) (fun c109 => ?_)
  · rw [if_pos c109] at h
    refine V_iinc (n := 4) (v := (v4 + (5 : Int32))) (lv' := [(4, .int (v4 + (5 : Int32))), (0, .ref b), (1, .ref (G.2.2 + 0)), (2, .ref (G.2.2 + 162)), (3, .ref (G.2.2 + 192))]) X d_law_1637 rfl rfl (by decide) rfl rfl ?_
    refine V_goto (pc' := 23) X d_law_1640 (by decide) ?_
    refine V_wid (cs' := (cs.1 + 1, cs.2 + 6)) ⟨Nat.le_succ _, Nat.le_add_right _ _⟩ ?_
    refine V_sub (lv' := [(0, .ref b), (1, .ref (G.2.2 + 0)), (2, .ref (G.2.2 + 162)), (3, .ref (G.2.2 + 192)), (4, .int (v4 + (5 : Int32)))]) [1, 2, 3, 4, 0] rfl ?_
    exact kc ((v4 + (5 : Int32)), x108.2) (Option.some.inj h).symm
  · rw [if_neg c109] at h
    refine V_iconst (v := 0) X d_law_986 (by decide) rfl ?_
    exact (kr ((0 : Int32), x108.2) (Option.some.inj h).symm).elim
def j_law_988_23 (L : Nat) (xs : Nat → Int32) (v4 : Int32) (M : Mem) : Option ((Int32 × Mem) ⊕ ((Mem) ⊕ (Int32 × Mem))) :=
  if inb (v4 + (1 : Int32)) L = true then
  if inb (v4 + (2 : Int32)) L = true then
  if inb (v4 + (3 : Int32)) L = true then
  if inb (v4 + (4 : Int32)) L = true then
  Option.bind (f_Top_both (xs (v4 + (1 : Int32)).toNatClampNeg) (xs (v4 + (2 : Int32)).toNatClampNeg) (xs (v4 + (3 : Int32)).toNatClampNeg) (xs (v4 + (4 : Int32)).toNatClampNeg) M) fun x111 =>
  if inb (v4 + (1 : Int32)) L = true then
  if inb (v4 + (2 : Int32)) L = true then
  if inb (v4 + (3 : Int32)) L = true then
  if inb (v4 + (4 : Int32)) L = true then
  Option.bind (f_Mod_both (xs (v4 + (1 : Int32)).toNatClampNeg) (xs (v4 + (2 : Int32)).toNatClampNeg) (xs (v4 + (3 : Int32)).toNatClampNeg) (xs (v4 + (4 : Int32)).toNatClampNeg) x111.2) fun x112 =>
  if x111.1 = x112.1 then
  some (.inl ((v4 + (5 : Int32)), x112.2))
  else
  some (.inr (Sum.inr ((0 : Int32), x112.2)))
  else none
  else none
  else none
  else none
  else none
  else none
  else none
  else none
theorem j_law_988_23_ok {E : Ev} {cs : Nat × Nat} {G : Gw} {d : Nat} {Q : State → Prop} {b L : Nat} {xs : Nat → Int32} (X : Cx E G code "WomenByTheRoofsLaw" 7 d ret) (hz0 : Zc E cs) (hz : Zc E (cs.1 + 1, cs.2 + 6)) (hT : Tw G E.2.2.2.2.1 E.2.2.2.2.1.heap) (hl9 : E.2.1.stackTraces = false) (hX : va_X b L xs E.2.2.2.2.1 E.2.2.2.2.1.heap) (hbl : b < E.2.2.2.2.1.heap.size) (hbA : ¬ G.2.2 ≤ b) (hD : 450 ≤ d)  (v4 : Int32)  (M : Mem)  (o : (Int32 × Mem) ⊕ ((Mem) ⊕ (Int32 × Mem))) (h : j_law_988_23 L xs v4 M = some o) (kc : ∀ s9 : Int32 × Mem, o = .inl s9 → V E (cs.1 + 1, cs.2 + 6) G 7 Q s9.2 23 [(0, .ref b), (1, .ref (G.2.2 + 0)), (2, .ref (G.2.2 + 162)), (3, .ref (G.2.2 + 192)), (4, .int s9.1)] []) (kx0 : ∀ x9 : Mem, o = .inr (Sum.inl x9) → V E (cs.1 + 1, cs.2 + 6) G 7 Q x9 1643 [] []) (kr : ∀ x9 : Int32 × Mem, o = .inr (Sum.inr x9) → False) : V E cs G 7 Q M 988 [(0, .ref b), (1, .ref (G.2.2 + 0)), (2, .ref (G.2.2 + 162)), (3, .ref (G.2.2 + 192)), (4, .int v4)] [] := by
  unfold j_law_988_23 at h
  refine V_aload_n (n := 1) X d_law_988 rfl rfl rfl ?_
  refine V_aload_n (n := 0) X d_law_989 rfl rfl rfl ?_
  refine V_iload (n := 4) X d_law_990 rfl rfl ?_
  refine V_iconst (v := 1) X d_law_992 (by decide) rfl ?_
  refine V_iadd X d_law_993 rfl ?_
  obtain ⟨hb, h⟩ := ifn h
  refine V_sld X hX hbl hbA hb d_law_994 rfl ?_
  refine V_aload_n (n := 0) X d_law_995 rfl rfl rfl ?_
  refine V_iload (n := 4) X d_law_996 rfl rfl ?_
  refine V_iconst (v := 2) X d_law_998 (by decide) rfl ?_
  refine V_iadd X d_law_999 rfl ?_
  obtain ⟨hb, h⟩ := ifn h
  refine V_sld X hX hbl hbA hb d_law_1000 rfl ?_
  refine V_aload_n (n := 0) X d_law_1001 rfl rfl rfl ?_
  refine V_iload (n := 4) X d_law_1002 rfl rfl ?_
  refine V_iconst (v := 3) X d_law_1004 (by decide) rfl ?_
  refine V_iadd X d_law_1005 rfl ?_
  obtain ⟨hb, h⟩ := ifn h
  refine V_sld X hX hbl hbA hb d_law_1006 rfl ?_
  refine V_aload_n (n := 0) X d_law_1007 rfl rfl rfl ?_
  refine V_iload (n := 4) X d_law_1008 rfl rfl ?_
  refine V_iconst (v := 4) X d_law_1010 (by decide) rfl ?_
  refine V_iadd X d_law_1011 rfl ?_
  obtain ⟨hb, h⟩ := ifn h
  refine V_sld X hX hbl hbA hb d_law_1012 rfl ?_
  obtain ⟨x111, hx111, h⟩ := ob_s h
  refine V_ci (As := [.int (xs (v4 + (1 : Int32)).toNatClampNeg), .int (xs (v4 + (2 : Int32)).toNatClampNeg), .int (xs (v4 + (3 : Int32)).toNatClampNeg), .int (xs (v4 + (4 : Int32)).toNatClampNeg)]) X hz0 ml_Lw_138 yq_Top_both (c_Top_both E.2.1 G (xs (v4 + (1 : Int32)).toNatClampNeg) (xs (v4 + (2 : Int32)).toNatClampNeg) (xs (v4 + (3 : Int32)).toNatClampNeg) (xs (v4 + (4 : Int32)).toNatClampNeg) M x111 hx111 _ (Nat.le_refl _)) kd_0 rfl rfl (by omega) rfl (Nat.le_of_ble_eq_true rfl) d_law_1013 rfl (fun r9 M9 hq => ?_)
  rw [hq.1, hq.2]
  refine V_aload_n (n := 2) X d_law_1016 rfl rfl rfl ?_
  refine V_aload_n (n := 0) X d_law_1017 rfl rfl rfl ?_
  refine V_iload (n := 4) X d_law_1018 rfl rfl ?_
  refine V_iconst (v := 1) X d_law_1020 (by decide) rfl ?_
  refine V_iadd X d_law_1021 rfl ?_
  obtain ⟨hb, h⟩ := ifn h
  refine V_sld X hX hbl hbA hb d_law_1022 rfl ?_
  refine V_aload_n (n := 0) X d_law_1023 rfl rfl rfl ?_
  refine V_iload (n := 4) X d_law_1024 rfl rfl ?_
  refine V_iconst (v := 2) X d_law_1026 (by decide) rfl ?_
  refine V_iadd X d_law_1027 rfl ?_
  obtain ⟨hb, h⟩ := ifn h
  refine V_sld X hX hbl hbA hb d_law_1028 rfl ?_
  refine V_aload_n (n := 0) X d_law_1029 rfl rfl rfl ?_
  refine V_iload (n := 4) X d_law_1030 rfl rfl ?_
  refine V_iconst (v := 3) X d_law_1032 (by decide) rfl ?_
  refine V_iadd X d_law_1033 rfl ?_
  obtain ⟨hb, h⟩ := ifn h
  refine V_sld X hX hbl hbA hb d_law_1034 rfl ?_
  refine V_aload_n (n := 0) X d_law_1035 rfl rfl rfl ?_
  refine V_iload (n := 4) X d_law_1036 rfl rfl ?_
  refine V_iconst (v := 4) X d_law_1038 (by decide) rfl ?_
  refine V_iadd X d_law_1039 rfl ?_
  obtain ⟨hb, h⟩ := ifn h
  refine V_sld X hX hbl hbA hb d_law_1040 rfl ?_
  obtain ⟨x112, hx112, h⟩ := ob_s h
  refine V_ci (As := [.int (xs (v4 + (1 : Int32)).toNatClampNeg), .int (xs (v4 + (2 : Int32)).toNatClampNeg), .int (xs (v4 + (3 : Int32)).toNatClampNeg), .int (xs (v4 + (4 : Int32)).toNatClampNeg)]) X hz0 ml_Lw_141 yq_Mod_both (c_Mod_both E.2.1 G (xs (v4 + (1 : Int32)).toNatClampNeg) (xs (v4 + (2 : Int32)).toNatClampNeg) (xs (v4 + (3 : Int32)).toNatClampNeg) (xs (v4 + (4 : Int32)).toNatClampNeg) x111.2 x112 hx112 _ (Nat.le_refl _)) kd_162 rfl rfl (by omega) rfl (Nat.le_of_ble_eq_true rfl) d_law_1041 rfl (fun r9 M9 hq => ?_)
  rw [hq.1, hq.2]
  refine V_icmp_eq (tgt := 1637) X d_law_1044 (by decide) rfl (fun c113 => ?_) (fun c113 => ?_)
  · rw [if_pos c113] at h
    refine V_iinc (n := 4) (v := (v4 + (5 : Int32))) (lv' := [(4, .int (v4 + (5 : Int32))), (0, .ref b), (1, .ref (G.2.2 + 0)), (2, .ref (G.2.2 + 162)), (3, .ref (G.2.2 + 192))]) X d_law_1637 rfl rfl (by decide) rfl rfl ?_
    refine V_goto (pc' := 23) X d_law_1640 (by decide) ?_
    refine V_wid (cs' := (cs.1 + 1, cs.2 + 6)) ⟨Nat.le_succ _, Nat.le_add_right _ _⟩ ?_
    refine V_sub (lv' := [(0, .ref b), (1, .ref (G.2.2 + 0)), (2, .ref (G.2.2 + 162)), (3, .ref (G.2.2 + 192)), (4, .int (v4 + (5 : Int32)))]) [1, 2, 3, 4, 0] rfl ?_
    exact kc ((v4 + (5 : Int32)), x112.2) (Option.some.inj h).symm
  · rw [if_neg c113] at h
    refine V_iconst (v := 0) X d_law_1047 (by decide) rfl ?_
    exact (kr ((0 : Int32), x112.2) (Option.some.inj h).symm).elim
def j_law_1049_23 (L : Nat) (xs : Nat → Int32) (v4 : Int32) (M : Mem) : Option ((Int32 × Mem) ⊕ ((Mem) ⊕ (Int32 × Mem))) :=
  if inb (v4 + (1 : Int32)) L = true then
  if inb (v4 + (2 : Int32)) L = true then
  Option.bind (f_Top_errand (xs (v4 + (1 : Int32)).toNatClampNeg) (xs (v4 + (2 : Int32)).toNatClampNeg) M) fun x115 =>
  if inb (v4 + (1 : Int32)) L = true then
  if inb (v4 + (2 : Int32)) L = true then
  Option.bind (f_Mod_errand (xs (v4 + (1 : Int32)).toNatClampNeg) (xs (v4 + (2 : Int32)).toNatClampNeg) x115.2) fun x116 =>
  if x115.1 = x116.1 then
  some (.inl ((v4 + (5 : Int32)), x116.2))
  else
  some (.inr (Sum.inr ((0 : Int32), x116.2)))
  else none
  else none
  else none
  else none
theorem j_law_1049_23_ok {E : Ev} {cs : Nat × Nat} {G : Gw} {d : Nat} {Q : State → Prop} {b L : Nat} {xs : Nat → Int32} (X : Cx E G code "WomenByTheRoofsLaw" 7 d ret) (hz0 : Zc E cs) (hz : Zc E (cs.1 + 1, cs.2 + 6)) (hT : Tw G E.2.2.2.2.1 E.2.2.2.2.1.heap) (hl9 : E.2.1.stackTraces = false) (hX : va_X b L xs E.2.2.2.2.1 E.2.2.2.2.1.heap) (hbl : b < E.2.2.2.2.1.heap.size) (hbA : ¬ G.2.2 ≤ b) (hD : 450 ≤ d)  (v4 : Int32)  (M : Mem)  (o : (Int32 × Mem) ⊕ ((Mem) ⊕ (Int32 × Mem))) (h : j_law_1049_23 L xs v4 M = some o) (kc : ∀ s9 : Int32 × Mem, o = .inl s9 → V E (cs.1 + 1, cs.2 + 6) G 7 Q s9.2 23 [(0, .ref b), (1, .ref (G.2.2 + 0)), (2, .ref (G.2.2 + 162)), (3, .ref (G.2.2 + 192)), (4, .int s9.1)] []) (kx0 : ∀ x9 : Mem, o = .inr (Sum.inl x9) → V E (cs.1 + 1, cs.2 + 6) G 7 Q x9 1643 [] []) (kr : ∀ x9 : Int32 × Mem, o = .inr (Sum.inr x9) → False) : V E cs G 7 Q M 1049 [(0, .ref b), (1, .ref (G.2.2 + 0)), (2, .ref (G.2.2 + 162)), (3, .ref (G.2.2 + 192)), (4, .int v4)] [] := by
  unfold j_law_1049_23 at h
  refine V_aload_n (n := 1) X d_law_1049 rfl rfl rfl ?_
  refine V_aload_n (n := 0) X d_law_1050 rfl rfl rfl ?_
  refine V_iload (n := 4) X d_law_1051 rfl rfl ?_
  refine V_iconst (v := 1) X d_law_1053 (by decide) rfl ?_
  refine V_iadd X d_law_1054 rfl ?_
  obtain ⟨hb, h⟩ := ifn h
  refine V_sld X hX hbl hbA hb d_law_1055 rfl ?_
  refine V_aload_n (n := 0) X d_law_1056 rfl rfl rfl ?_
  refine V_iload (n := 4) X d_law_1057 rfl rfl ?_
  refine V_iconst (v := 2) X d_law_1059 (by decide) rfl ?_
  refine V_iadd X d_law_1060 rfl ?_
  obtain ⟨hb, h⟩ := ifn h
  refine V_sld X hX hbl hbA hb d_law_1061 rfl ?_
  obtain ⟨x115, hx115, h⟩ := ob_s h
  refine V_ci (As := [.int (xs (v4 + (1 : Int32)).toNatClampNeg), .int (xs (v4 + (2 : Int32)).toNatClampNeg)]) X hz0 ml_Lw_142 yq_Top_errand (c_Top_errand E.2.1 G (xs (v4 + (1 : Int32)).toNatClampNeg) (xs (v4 + (2 : Int32)).toNatClampNeg) M x115 hx115 _ (Nat.le_refl _)) kd_0 rfl rfl (by omega) rfl (Nat.le_of_ble_eq_true rfl) d_law_1062 rfl (fun r9 M9 hq => ?_)
  rw [hq.1, hq.2]
  refine V_aload_n (n := 2) X d_law_1065 rfl rfl rfl ?_
  refine V_aload_n (n := 0) X d_law_1066 rfl rfl rfl ?_
  refine V_iload (n := 4) X d_law_1067 rfl rfl ?_
  refine V_iconst (v := 1) X d_law_1069 (by decide) rfl ?_
  refine V_iadd X d_law_1070 rfl ?_
  obtain ⟨hb, h⟩ := ifn h
  refine V_sld X hX hbl hbA hb d_law_1071 rfl ?_
  refine V_aload_n (n := 0) X d_law_1072 rfl rfl rfl ?_
  refine V_iload (n := 4) X d_law_1073 rfl rfl ?_
  refine V_iconst (v := 2) X d_law_1075 (by decide) rfl ?_
  refine V_iadd X d_law_1076 rfl ?_
  obtain ⟨hb, h⟩ := ifn h
  refine V_sld X hX hbl hbA hb d_law_1077 rfl ?_
  obtain ⟨x116, hx116, h⟩ := ob_s h
  refine V_ci (As := [.int (xs (v4 + (1 : Int32)).toNatClampNeg), .int (xs (v4 + (2 : Int32)).toNatClampNeg)]) X hz0 ml_Lw_145 yq_Mod_errand (c_Mod_errand E.2.1 G (xs (v4 + (1 : Int32)).toNatClampNeg) (xs (v4 + (2 : Int32)).toNatClampNeg) x115.2 x116 hx116 _ (Nat.le_refl _)) kd_162 rfl rfl (by omega) rfl (Nat.le_of_ble_eq_true rfl) d_law_1078 rfl (fun r9 M9 hq => ?_)
  rw [hq.1, hq.2]
  refine V_icmp_eq (tgt := 1637) X d_law_1081 (by decide) rfl (fun c117 => ?_) (fun c117 => ?_)
  · rw [if_pos c117] at h
    refine V_iinc (n := 4) (v := (v4 + (5 : Int32))) (lv' := [(4, .int (v4 + (5 : Int32))), (0, .ref b), (1, .ref (G.2.2 + 0)), (2, .ref (G.2.2 + 162)), (3, .ref (G.2.2 + 192))]) X d_law_1637 rfl rfl (by decide) rfl rfl ?_
    refine V_goto (pc' := 23) X d_law_1640 (by decide) ?_
    refine V_wid (cs' := (cs.1 + 1, cs.2 + 6)) ⟨Nat.le_succ _, Nat.le_add_right _ _⟩ ?_
    refine V_sub (lv' := [(0, .ref b), (1, .ref (G.2.2 + 0)), (2, .ref (G.2.2 + 162)), (3, .ref (G.2.2 + 192)), (4, .int (v4 + (5 : Int32)))]) [1, 2, 3, 4, 0] rfl ?_
    exact kc ((v4 + (5 : Int32)), x116.2) (Option.some.inj h).symm
  · rw [if_neg c117] at h
    refine V_iconst (v := 0) X d_law_1084 (by decide) rfl ?_
    exact (kr ((0 : Int32), x116.2) (Option.some.inj h).symm).elim
def j_law_1086_23 (L : Nat) (xs : Nat → Int32) (v4 : Int32) (M : Mem) : Option ((Int32 × Mem) ⊕ ((Mem) ⊕ (Int32 × Mem))) :=
  if inb (v4 + (1 : Int32)) L = true then
  if inb (v4 + (2 : Int32)) L = true then
  Option.bind (f_Top_tryst (xs (v4 + (1 : Int32)).toNatClampNeg) (xs (v4 + (2 : Int32)).toNatClampNeg) M) fun x119 =>
  if inb (v4 + (1 : Int32)) L = true then
  if inb (v4 + (2 : Int32)) L = true then
  Option.bind (f_Mod_tryst (xs (v4 + (1 : Int32)).toNatClampNeg) (xs (v4 + (2 : Int32)).toNatClampNeg) x119.2) fun x120 =>
  if x119.1 = x120.1 then
  some (.inl ((v4 + (5 : Int32)), x120.2))
  else
  some (.inr (Sum.inr ((0 : Int32), x120.2)))
  else none
  else none
  else none
  else none
theorem j_law_1086_23_ok {E : Ev} {cs : Nat × Nat} {G : Gw} {d : Nat} {Q : State → Prop} {b L : Nat} {xs : Nat → Int32} (X : Cx E G code "WomenByTheRoofsLaw" 7 d ret) (hz0 : Zc E cs) (hz : Zc E (cs.1 + 1, cs.2 + 6)) (hT : Tw G E.2.2.2.2.1 E.2.2.2.2.1.heap) (hl9 : E.2.1.stackTraces = false) (hX : va_X b L xs E.2.2.2.2.1 E.2.2.2.2.1.heap) (hbl : b < E.2.2.2.2.1.heap.size) (hbA : ¬ G.2.2 ≤ b) (hD : 450 ≤ d)  (v4 : Int32)  (M : Mem)  (o : (Int32 × Mem) ⊕ ((Mem) ⊕ (Int32 × Mem))) (h : j_law_1086_23 L xs v4 M = some o) (kc : ∀ s9 : Int32 × Mem, o = .inl s9 → V E (cs.1 + 1, cs.2 + 6) G 7 Q s9.2 23 [(0, .ref b), (1, .ref (G.2.2 + 0)), (2, .ref (G.2.2 + 162)), (3, .ref (G.2.2 + 192)), (4, .int s9.1)] []) (kx0 : ∀ x9 : Mem, o = .inr (Sum.inl x9) → V E (cs.1 + 1, cs.2 + 6) G 7 Q x9 1643 [] []) (kr : ∀ x9 : Int32 × Mem, o = .inr (Sum.inr x9) → False) : V E cs G 7 Q M 1086 [(0, .ref b), (1, .ref (G.2.2 + 0)), (2, .ref (G.2.2 + 162)), (3, .ref (G.2.2 + 192)), (4, .int v4)] [] := by
  unfold j_law_1086_23 at h
  refine V_aload_n (n := 1) X d_law_1086 rfl rfl rfl ?_
  refine V_aload_n (n := 0) X d_law_1087 rfl rfl rfl ?_
  refine V_iload (n := 4) X d_law_1088 rfl rfl ?_
  refine V_iconst (v := 1) X d_law_1090 (by decide) rfl ?_
  refine V_iadd X d_law_1091 rfl ?_
  obtain ⟨hb, h⟩ := ifn h
  refine V_sld X hX hbl hbA hb d_law_1092 rfl ?_
  refine V_aload_n (n := 0) X d_law_1093 rfl rfl rfl ?_
  refine V_iload (n := 4) X d_law_1094 rfl rfl ?_
  refine V_iconst (v := 2) X d_law_1096 (by decide) rfl ?_
  refine V_iadd X d_law_1097 rfl ?_
  obtain ⟨hb, h⟩ := ifn h
  refine V_sld X hX hbl hbA hb d_law_1098 rfl ?_
  obtain ⟨x119, hx119, h⟩ := ob_s h
  refine V_ci (As := [.int (xs (v4 + (1 : Int32)).toNatClampNeg), .int (xs (v4 + (2 : Int32)).toNatClampNeg)]) X hz0 ml_Lw_146 yq_Top_tryst (c_Top_tryst E.2.1 G (xs (v4 + (1 : Int32)).toNatClampNeg) (xs (v4 + (2 : Int32)).toNatClampNeg) M x119 hx119 _ (Nat.le_refl _)) kd_0 rfl rfl (by omega) rfl (Nat.le_of_ble_eq_true rfl) d_law_1099 rfl (fun r9 M9 hq => ?_)
  rw [hq.1, hq.2]
  refine V_aload_n (n := 2) X d_law_1102 rfl rfl rfl ?_
  refine V_aload_n (n := 0) X d_law_1103 rfl rfl rfl ?_
  refine V_iload (n := 4) X d_law_1104 rfl rfl ?_
  refine V_iconst (v := 1) X d_law_1106 (by decide) rfl ?_
  refine V_iadd X d_law_1107 rfl ?_
  obtain ⟨hb, h⟩ := ifn h
  refine V_sld X hX hbl hbA hb d_law_1108 rfl ?_
  refine V_aload_n (n := 0) X d_law_1109 rfl rfl rfl ?_
  refine V_iload (n := 4) X d_law_1110 rfl rfl ?_
  refine V_iconst (v := 2) X d_law_1112 (by decide) rfl ?_
  refine V_iadd X d_law_1113 rfl ?_
  obtain ⟨hb, h⟩ := ifn h
  refine V_sld X hX hbl hbA hb d_law_1114 rfl ?_
  obtain ⟨x120, hx120, h⟩ := ob_s h
  refine V_ci (As := [.int (xs (v4 + (1 : Int32)).toNatClampNeg), .int (xs (v4 + (2 : Int32)).toNatClampNeg)]) X hz0 ml_Lw_149 yq_Mod_tryst (c_Mod_tryst E.2.1 G (xs (v4 + (1 : Int32)).toNatClampNeg) (xs (v4 + (2 : Int32)).toNatClampNeg) x119.2 x120 hx120 _ (Nat.le_refl _)) kd_162 rfl rfl (by omega) rfl (Nat.le_of_ble_eq_true rfl) d_law_1115 rfl (fun r9 M9 hq => ?_)
  rw [hq.1, hq.2]
  refine V_icmp_eq (tgt := 1637) X d_law_1118 (by decide) rfl (fun c121 => ?_) (fun c121 => ?_)
  · rw [if_pos c121] at h
    refine V_iinc (n := 4) (v := (v4 + (5 : Int32))) (lv' := [(4, .int (v4 + (5 : Int32))), (0, .ref b), (1, .ref (G.2.2 + 0)), (2, .ref (G.2.2 + 162)), (3, .ref (G.2.2 + 192))]) X d_law_1637 rfl rfl (by decide) rfl rfl ?_
    refine V_goto (pc' := 23) X d_law_1640 (by decide) ?_
    refine V_wid (cs' := (cs.1 + 1, cs.2 + 6)) ⟨Nat.le_succ _, Nat.le_add_right _ _⟩ ?_
    refine V_sub (lv' := [(0, .ref b), (1, .ref (G.2.2 + 0)), (2, .ref (G.2.2 + 162)), (3, .ref (G.2.2 + 192)), (4, .int (v4 + (5 : Int32)))]) [1, 2, 3, 4, 0] rfl ?_
    exact kc ((v4 + (5 : Int32)), x120.2) (Option.some.inj h).symm
  · rw [if_neg c121] at h
    refine V_iconst (v := 0) X d_law_1121 (by decide) rfl ?_
    exact (kr ((0 : Int32), x120.2) (Option.some.inj h).symm).elim
def j_law_1123_23 (L : Nat) (xs : Nat → Int32) (v4 : Int32) (M : Mem) : Option ((Int32 × Mem) ⊕ ((Mem) ⊕ (Int32 × Mem))) :=
  if inb (v4 + (1 : Int32)) L = true then
  if inb (v4 + (2 : Int32)) L = true then
  Option.bind (f_Top_open (xs (v4 + (1 : Int32)).toNatClampNeg) (xs (v4 + (2 : Int32)).toNatClampNeg) M) fun x123 =>
  if inb (v4 + (1 : Int32)) L = true then
  if inb (v4 + (2 : Int32)) L = true then
  Option.bind (f_Mod_open (xs (v4 + (1 : Int32)).toNatClampNeg) (xs (v4 + (2 : Int32)).toNatClampNeg) x123.2) fun x124 =>
  if x123.1 = x124.1 then
  some (.inl ((v4 + (5 : Int32)), x124.2))
  else
  some (.inr (Sum.inr ((0 : Int32), x124.2)))
  else none
  else none
  else none
  else none
theorem j_law_1123_23_ok {E : Ev} {cs : Nat × Nat} {G : Gw} {d : Nat} {Q : State → Prop} {b L : Nat} {xs : Nat → Int32} (X : Cx E G code "WomenByTheRoofsLaw" 7 d ret) (hz0 : Zc E cs) (hz : Zc E (cs.1 + 1, cs.2 + 6)) (hT : Tw G E.2.2.2.2.1 E.2.2.2.2.1.heap) (hl9 : E.2.1.stackTraces = false) (hX : va_X b L xs E.2.2.2.2.1 E.2.2.2.2.1.heap) (hbl : b < E.2.2.2.2.1.heap.size) (hbA : ¬ G.2.2 ≤ b) (hD : 450 ≤ d)  (v4 : Int32)  (M : Mem)  (o : (Int32 × Mem) ⊕ ((Mem) ⊕ (Int32 × Mem))) (h : j_law_1123_23 L xs v4 M = some o) (kc : ∀ s9 : Int32 × Mem, o = .inl s9 → V E (cs.1 + 1, cs.2 + 6) G 7 Q s9.2 23 [(0, .ref b), (1, .ref (G.2.2 + 0)), (2, .ref (G.2.2 + 162)), (3, .ref (G.2.2 + 192)), (4, .int s9.1)] []) (kx0 : ∀ x9 : Mem, o = .inr (Sum.inl x9) → V E (cs.1 + 1, cs.2 + 6) G 7 Q x9 1643 [] []) (kr : ∀ x9 : Int32 × Mem, o = .inr (Sum.inr x9) → False) : V E cs G 7 Q M 1123 [(0, .ref b), (1, .ref (G.2.2 + 0)), (2, .ref (G.2.2 + 162)), (3, .ref (G.2.2 + 192)), (4, .int v4)] [] := by
  unfold j_law_1123_23 at h
  refine V_aload_n (n := 1) X d_law_1123 rfl rfl rfl ?_
  refine V_aload_n (n := 0) X d_law_1124 rfl rfl rfl ?_
  refine V_iload (n := 4) X d_law_1125 rfl rfl ?_
  refine V_iconst (v := 1) X d_law_1127 (by decide) rfl ?_
  refine V_iadd X d_law_1128 rfl ?_
  obtain ⟨hb, h⟩ := ifn h
  refine V_sld X hX hbl hbA hb d_law_1129 rfl ?_
  refine V_aload_n (n := 0) X d_law_1130 rfl rfl rfl ?_
  refine V_iload (n := 4) X d_law_1131 rfl rfl ?_
  refine V_iconst (v := 2) X d_law_1133 (by decide) rfl ?_
  refine V_iadd X d_law_1134 rfl ?_
  obtain ⟨hb, h⟩ := ifn h
  refine V_sld X hX hbl hbA hb d_law_1135 rfl ?_
  obtain ⟨x123, hx123, h⟩ := ob_s h
  refine V_ci (As := [.int (xs (v4 + (1 : Int32)).toNatClampNeg), .int (xs (v4 + (2 : Int32)).toNatClampNeg)]) X hz0 ml_Lw_150 yq_Top_open (c_Top_open E.2.1 G (xs (v4 + (1 : Int32)).toNatClampNeg) (xs (v4 + (2 : Int32)).toNatClampNeg) M x123 hx123 _ (Nat.le_refl _)) kd_0 rfl rfl (by omega) rfl (Nat.le_of_ble_eq_true rfl) d_law_1136 rfl (fun r9 M9 hq => ?_)
  rw [hq.1, hq.2]
  refine V_aload_n (n := 2) X d_law_1139 rfl rfl rfl ?_
  refine V_aload_n (n := 0) X d_law_1140 rfl rfl rfl ?_
  refine V_iload (n := 4) X d_law_1141 rfl rfl ?_
  refine V_iconst (v := 1) X d_law_1143 (by decide) rfl ?_
  refine V_iadd X d_law_1144 rfl ?_
  obtain ⟨hb, h⟩ := ifn h
  refine V_sld X hX hbl hbA hb d_law_1145 rfl ?_
  refine V_aload_n (n := 0) X d_law_1146 rfl rfl rfl ?_
  refine V_iload (n := 4) X d_law_1147 rfl rfl ?_
  refine V_iconst (v := 2) X d_law_1149 (by decide) rfl ?_
  refine V_iadd X d_law_1150 rfl ?_
  obtain ⟨hb, h⟩ := ifn h
  refine V_sld X hX hbl hbA hb d_law_1151 rfl ?_
  obtain ⟨x124, hx124, h⟩ := ob_s h
  refine V_ci (As := [.int (xs (v4 + (1 : Int32)).toNatClampNeg), .int (xs (v4 + (2 : Int32)).toNatClampNeg)]) X hz0 ml_Lw_153 yq_Mod_open (c_Mod_open E.2.1 G (xs (v4 + (1 : Int32)).toNatClampNeg) (xs (v4 + (2 : Int32)).toNatClampNeg) x123.2 x124 hx124 _ (Nat.le_refl _)) kd_162 rfl rfl (by omega) rfl (Nat.le_of_ble_eq_true rfl) d_law_1152 rfl (fun r9 M9 hq => ?_)
  rw [hq.1, hq.2]
  refine V_icmp_eq (tgt := 1637) X d_law_1155 (by decide) rfl (fun c125 => ?_) (fun c125 => ?_)
  · rw [if_pos c125] at h
    refine V_iinc (n := 4) (v := (v4 + (5 : Int32))) (lv' := [(4, .int (v4 + (5 : Int32))), (0, .ref b), (1, .ref (G.2.2 + 0)), (2, .ref (G.2.2 + 162)), (3, .ref (G.2.2 + 192))]) X d_law_1637 rfl rfl (by decide) rfl rfl ?_
    refine V_goto (pc' := 23) X d_law_1640 (by decide) ?_
    refine V_wid (cs' := (cs.1 + 1, cs.2 + 6)) ⟨Nat.le_succ _, Nat.le_add_right _ _⟩ ?_
    refine V_sub (lv' := [(0, .ref b), (1, .ref (G.2.2 + 0)), (2, .ref (G.2.2 + 162)), (3, .ref (G.2.2 + 192)), (4, .int (v4 + (5 : Int32)))]) [1, 2, 3, 4, 0] rfl ?_
    exact kc ((v4 + (5 : Int32)), x124.2) (Option.some.inj h).symm
  · rw [if_neg c125] at h
    refine V_iconst (v := 0) X d_law_1158 (by decide) rfl ?_
    exact (kr ((0 : Int32), x124.2) (Option.some.inj h).symm).elim
def j_law_1160_23 (L : Nat) (xs : Nat → Int32) (v4 : Int32) (M : Mem) : Option ((Int32 × Mem) ⊕ ((Mem) ⊕ (Int32 × Mem))) :=
  if inb (v4 + (1 : Int32)) L = true then
  if inb (v4 + (2 : Int32)) L = true then
  Option.bind (f_Top_part (xs (v4 + (1 : Int32)).toNatClampNeg) (xs (v4 + (2 : Int32)).toNatClampNeg) M) fun x127 =>
  if inb (v4 + (1 : Int32)) L = true then
  if inb (v4 + (2 : Int32)) L = true then
  Option.bind (f_Mod_part (xs (v4 + (1 : Int32)).toNatClampNeg) (xs (v4 + (2 : Int32)).toNatClampNeg) x127.2) fun x128 =>
  if x127.1 = x128.1 then
  some (.inl ((v4 + (5 : Int32)), x128.2))
  else
  some (.inr (Sum.inr ((0 : Int32), x128.2)))
  else none
  else none
  else none
  else none
theorem j_law_1160_23_ok {E : Ev} {cs : Nat × Nat} {G : Gw} {d : Nat} {Q : State → Prop} {b L : Nat} {xs : Nat → Int32} (X : Cx E G code "WomenByTheRoofsLaw" 7 d ret) (hz0 : Zc E cs) (hz : Zc E (cs.1 + 1, cs.2 + 6)) (hT : Tw G E.2.2.2.2.1 E.2.2.2.2.1.heap) (hl9 : E.2.1.stackTraces = false) (hX : va_X b L xs E.2.2.2.2.1 E.2.2.2.2.1.heap) (hbl : b < E.2.2.2.2.1.heap.size) (hbA : ¬ G.2.2 ≤ b) (hD : 450 ≤ d)  (v4 : Int32)  (M : Mem)  (o : (Int32 × Mem) ⊕ ((Mem) ⊕ (Int32 × Mem))) (h : j_law_1160_23 L xs v4 M = some o) (kc : ∀ s9 : Int32 × Mem, o = .inl s9 → V E (cs.1 + 1, cs.2 + 6) G 7 Q s9.2 23 [(0, .ref b), (1, .ref (G.2.2 + 0)), (2, .ref (G.2.2 + 162)), (3, .ref (G.2.2 + 192)), (4, .int s9.1)] []) (kx0 : ∀ x9 : Mem, o = .inr (Sum.inl x9) → V E (cs.1 + 1, cs.2 + 6) G 7 Q x9 1643 [] []) (kr : ∀ x9 : Int32 × Mem, o = .inr (Sum.inr x9) → False) : V E cs G 7 Q M 1160 [(0, .ref b), (1, .ref (G.2.2 + 0)), (2, .ref (G.2.2 + 162)), (3, .ref (G.2.2 + 192)), (4, .int v4)] [] := by
  unfold j_law_1160_23 at h
  refine V_aload_n (n := 1) X d_law_1160 rfl rfl rfl ?_
  refine V_aload_n (n := 0) X d_law_1161 rfl rfl rfl ?_
  refine V_iload (n := 4) X d_law_1162 rfl rfl ?_
  refine V_iconst (v := 1) X d_law_1164 (by decide) rfl ?_
  refine V_iadd X d_law_1165 rfl ?_
  obtain ⟨hb, h⟩ := ifn h
  refine V_sld X hX hbl hbA hb d_law_1166 rfl ?_
  refine V_aload_n (n := 0) X d_law_1167 rfl rfl rfl ?_
  refine V_iload (n := 4) X d_law_1168 rfl rfl ?_
  refine V_iconst (v := 2) X d_law_1170 (by decide) rfl ?_
  refine V_iadd X d_law_1171 rfl ?_
  obtain ⟨hb, h⟩ := ifn h
  refine V_sld X hX hbl hbA hb d_law_1172 rfl ?_
  obtain ⟨x127, hx127, h⟩ := ob_s h
  refine V_ci (As := [.int (xs (v4 + (1 : Int32)).toNatClampNeg), .int (xs (v4 + (2 : Int32)).toNatClampNeg)]) X hz0 ml_Lw_154 yq_Top_part (c_Top_part E.2.1 G (xs (v4 + (1 : Int32)).toNatClampNeg) (xs (v4 + (2 : Int32)).toNatClampNeg) M x127 hx127 _ (Nat.le_refl _)) kd_0 rfl rfl (by omega) rfl (Nat.le_of_ble_eq_true rfl) d_law_1173 rfl (fun r9 M9 hq => ?_)
  rw [hq.1, hq.2]
  refine V_aload_n (n := 2) X d_law_1176 rfl rfl rfl ?_
  refine V_aload_n (n := 0) X d_law_1177 rfl rfl rfl ?_
  refine V_iload (n := 4) X d_law_1178 rfl rfl ?_
  refine V_iconst (v := 1) X d_law_1180 (by decide) rfl ?_
  refine V_iadd X d_law_1181 rfl ?_
  obtain ⟨hb, h⟩ := ifn h
  refine V_sld X hX hbl hbA hb d_law_1182 rfl ?_
  refine V_aload_n (n := 0) X d_law_1183 rfl rfl rfl ?_
  refine V_iload (n := 4) X d_law_1184 rfl rfl ?_
  refine V_iconst (v := 2) X d_law_1186 (by decide) rfl ?_
  refine V_iadd X d_law_1187 rfl ?_
  obtain ⟨hb, h⟩ := ifn h
  refine V_sld X hX hbl hbA hb d_law_1188 rfl ?_
  obtain ⟨x128, hx128, h⟩ := ob_s h
  refine V_ci (As := [.int (xs (v4 + (1 : Int32)).toNatClampNeg), .int (xs (v4 + (2 : Int32)).toNatClampNeg)]) X hz0 ml_Lw_157 yq_Mod_part (c_Mod_part E.2.1 G (xs (v4 + (1 : Int32)).toNatClampNeg) (xs (v4 + (2 : Int32)).toNatClampNeg) x127.2 x128 hx128 _ (Nat.le_refl _)) kd_162 rfl rfl (by omega) rfl (Nat.le_of_ble_eq_true rfl) d_law_1189 rfl (fun r9 M9 hq => ?_)
  rw [hq.1, hq.2]
  refine V_icmp_eq (tgt := 1637) X d_law_1192 (by decide) rfl (fun c129 => ?_) (fun c129 => ?_)
  · rw [if_pos c129] at h
    refine V_iinc (n := 4) (v := (v4 + (5 : Int32))) (lv' := [(4, .int (v4 + (5 : Int32))), (0, .ref b), (1, .ref (G.2.2 + 0)), (2, .ref (G.2.2 + 162)), (3, .ref (G.2.2 + 192))]) X d_law_1637 rfl rfl (by decide) rfl rfl ?_
    refine V_goto (pc' := 23) X d_law_1640 (by decide) ?_
    refine V_wid (cs' := (cs.1 + 1, cs.2 + 6)) ⟨Nat.le_succ _, Nat.le_add_right _ _⟩ ?_
    refine V_sub (lv' := [(0, .ref b), (1, .ref (G.2.2 + 0)), (2, .ref (G.2.2 + 162)), (3, .ref (G.2.2 + 192)), (4, .int (v4 + (5 : Int32)))]) [1, 2, 3, 4, 0] rfl ?_
    exact kc ((v4 + (5 : Int32)), x128.2) (Option.some.inj h).symm
  · rw [if_neg c129] at h
    refine V_iconst (v := 0) X d_law_1195 (by decide) rfl ?_
    exact (kr ((0 : Int32), x128.2) (Option.some.inj h).symm).elim
def j_law_1197_23 (L : Nat) (xs : Nat → Int32) (v4 : Int32) (M : Mem) : Option ((Int32 × Mem) ⊕ ((Mem) ⊕ (Int32 × Mem))) :=
  if inb (v4 + (1 : Int32)) L = true then
  if inb (v4 + (2 : Int32)) L = true then
  Option.bind (f_Top_planks (xs (v4 + (1 : Int32)).toNatClampNeg) (xs (v4 + (2 : Int32)).toNatClampNeg) M) fun x131 =>
  if inb (v4 + (1 : Int32)) L = true then
  if inb (v4 + (2 : Int32)) L = true then
  Option.bind (f_Mod_planks (xs (v4 + (1 : Int32)).toNatClampNeg) (xs (v4 + (2 : Int32)).toNatClampNeg) x131.2) fun x132 =>
  if x131.1 = x132.1 then
  some (.inl ((v4 + (5 : Int32)), x132.2))
  else
  some (.inr (Sum.inr ((0 : Int32), x132.2)))
  else none
  else none
  else none
  else none
theorem j_law_1197_23_ok {E : Ev} {cs : Nat × Nat} {G : Gw} {d : Nat} {Q : State → Prop} {b L : Nat} {xs : Nat → Int32} (X : Cx E G code "WomenByTheRoofsLaw" 7 d ret) (hz0 : Zc E cs) (hz : Zc E (cs.1 + 1, cs.2 + 6)) (hT : Tw G E.2.2.2.2.1 E.2.2.2.2.1.heap) (hl9 : E.2.1.stackTraces = false) (hX : va_X b L xs E.2.2.2.2.1 E.2.2.2.2.1.heap) (hbl : b < E.2.2.2.2.1.heap.size) (hbA : ¬ G.2.2 ≤ b) (hD : 450 ≤ d)  (v4 : Int32)  (M : Mem)  (o : (Int32 × Mem) ⊕ ((Mem) ⊕ (Int32 × Mem))) (h : j_law_1197_23 L xs v4 M = some o) (kc : ∀ s9 : Int32 × Mem, o = .inl s9 → V E (cs.1 + 1, cs.2 + 6) G 7 Q s9.2 23 [(0, .ref b), (1, .ref (G.2.2 + 0)), (2, .ref (G.2.2 + 162)), (3, .ref (G.2.2 + 192)), (4, .int s9.1)] []) (kx0 : ∀ x9 : Mem, o = .inr (Sum.inl x9) → V E (cs.1 + 1, cs.2 + 6) G 7 Q x9 1643 [] []) (kr : ∀ x9 : Int32 × Mem, o = .inr (Sum.inr x9) → False) : V E cs G 7 Q M 1197 [(0, .ref b), (1, .ref (G.2.2 + 0)), (2, .ref (G.2.2 + 162)), (3, .ref (G.2.2 + 192)), (4, .int v4)] [] := by
  unfold j_law_1197_23 at h
  refine V_aload_n (n := 1) X d_law_1197 rfl rfl rfl ?_
  refine V_aload_n (n := 0) X d_law_1198 rfl rfl rfl ?_
  refine V_iload (n := 4) X d_law_1199 rfl rfl ?_
  refine V_iconst (v := 1) X d_law_1201 (by decide) rfl ?_
  refine V_iadd X d_law_1202 rfl ?_
  obtain ⟨hb, h⟩ := ifn h
  refine V_sld X hX hbl hbA hb d_law_1203 rfl ?_
  refine V_aload_n (n := 0) X d_law_1204 rfl rfl rfl ?_
  refine V_iload (n := 4) X d_law_1205 rfl rfl ?_
  refine V_iconst (v := 2) X d_law_1207 (by decide) rfl ?_
  refine V_iadd X d_law_1208 rfl ?_
  obtain ⟨hb, h⟩ := ifn h
  refine V_sld X hX hbl hbA hb d_law_1209 rfl ?_
  obtain ⟨x131, hx131, h⟩ := ob_s h
  refine V_ci (As := [.int (xs (v4 + (1 : Int32)).toNatClampNeg), .int (xs (v4 + (2 : Int32)).toNatClampNeg)]) X hz0 ml_Lw_158 yq_Top_planks (c_Top_planks E.2.1 G (xs (v4 + (1 : Int32)).toNatClampNeg) (xs (v4 + (2 : Int32)).toNatClampNeg) M x131 hx131 _ (Nat.le_refl _)) kd_0 rfl rfl (by omega) rfl (Nat.le_of_ble_eq_true rfl) d_law_1210 rfl (fun r9 M9 hq => ?_)
  rw [hq.1, hq.2]
  refine V_aload_n (n := 2) X d_law_1213 rfl rfl rfl ?_
  refine V_aload_n (n := 0) X d_law_1214 rfl rfl rfl ?_
  refine V_iload (n := 4) X d_law_1215 rfl rfl ?_
  refine V_iconst (v := 1) X d_law_1217 (by decide) rfl ?_
  refine V_iadd X d_law_1218 rfl ?_
  obtain ⟨hb, h⟩ := ifn h
  refine V_sld X hX hbl hbA hb d_law_1219 rfl ?_
  refine V_aload_n (n := 0) X d_law_1220 rfl rfl rfl ?_
  refine V_iload (n := 4) X d_law_1221 rfl rfl ?_
  refine V_iconst (v := 2) X d_law_1223 (by decide) rfl ?_
  refine V_iadd X d_law_1224 rfl ?_
  obtain ⟨hb, h⟩ := ifn h
  refine V_sld X hX hbl hbA hb d_law_1225 rfl ?_
  obtain ⟨x132, hx132, h⟩ := ob_s h
  refine V_ci (As := [.int (xs (v4 + (1 : Int32)).toNatClampNeg), .int (xs (v4 + (2 : Int32)).toNatClampNeg)]) X hz0 ml_Lw_161 yq_Mod_planks (c_Mod_planks E.2.1 G (xs (v4 + (1 : Int32)).toNatClampNeg) (xs (v4 + (2 : Int32)).toNatClampNeg) x131.2 x132 hx132 _ (Nat.le_refl _)) kd_162 rfl rfl (by omega) rfl (Nat.le_of_ble_eq_true rfl) d_law_1226 rfl (fun r9 M9 hq => ?_)
  rw [hq.1, hq.2]
  refine V_icmp_eq (tgt := 1637) X d_law_1229 (by decide) rfl (fun c133 => ?_) (fun c133 => ?_)
  · rw [if_pos c133] at h
    refine V_iinc (n := 4) (v := (v4 + (5 : Int32))) (lv' := [(4, .int (v4 + (5 : Int32))), (0, .ref b), (1, .ref (G.2.2 + 0)), (2, .ref (G.2.2 + 162)), (3, .ref (G.2.2 + 192))]) X d_law_1637 rfl rfl (by decide) rfl rfl ?_
    refine V_goto (pc' := 23) X d_law_1640 (by decide) ?_
    refine V_wid (cs' := (cs.1 + 1, cs.2 + 6)) ⟨Nat.le_succ _, Nat.le_add_right _ _⟩ ?_
    refine V_sub (lv' := [(0, .ref b), (1, .ref (G.2.2 + 0)), (2, .ref (G.2.2 + 162)), (3, .ref (G.2.2 + 192)), (4, .int (v4 + (5 : Int32)))]) [1, 2, 3, 4, 0] rfl ?_
    exact kc ((v4 + (5 : Int32)), x132.2) (Option.some.inj h).symm
  · rw [if_neg c133] at h
    refine V_iconst (v := 0) X d_law_1232 (by decide) rfl ?_
    exact (kr ((0 : Int32), x132.2) (Option.some.inj h).symm).elim
def j_law_1234_23 (L : Nat) (xs : Nat → Int32) (v4 : Int32) (M : Mem) : Option ((Int32 × Mem) ⊕ ((Mem) ⊕ (Int32 × Mem))) :=
  if inb (v4 + (1 : Int32)) L = true then
  Option.bind (f_Top_fire (xs (v4 + (1 : Int32)).toNatClampNeg) M) fun x135 =>
  if inb (v4 + (1 : Int32)) L = true then
  Option.bind (f_Mod_fire (xs (v4 + (1 : Int32)).toNatClampNeg) x135.2) fun x136 =>
  if x135.1 = x136.1 then
  some (.inl ((v4 + (5 : Int32)), x136.2))
  else
  some (.inr (Sum.inr ((0 : Int32), x136.2)))
  else none
  else none
theorem j_law_1234_23_ok {E : Ev} {cs : Nat × Nat} {G : Gw} {d : Nat} {Q : State → Prop} {b L : Nat} {xs : Nat → Int32} (X : Cx E G code "WomenByTheRoofsLaw" 7 d ret) (hz0 : Zc E cs) (hz : Zc E (cs.1 + 1, cs.2 + 6)) (hT : Tw G E.2.2.2.2.1 E.2.2.2.2.1.heap) (hl9 : E.2.1.stackTraces = false) (hX : va_X b L xs E.2.2.2.2.1 E.2.2.2.2.1.heap) (hbl : b < E.2.2.2.2.1.heap.size) (hbA : ¬ G.2.2 ≤ b) (hD : 450 ≤ d)  (v4 : Int32)  (M : Mem)  (o : (Int32 × Mem) ⊕ ((Mem) ⊕ (Int32 × Mem))) (h : j_law_1234_23 L xs v4 M = some o) (kc : ∀ s9 : Int32 × Mem, o = .inl s9 → V E (cs.1 + 1, cs.2 + 6) G 7 Q s9.2 23 [(0, .ref b), (1, .ref (G.2.2 + 0)), (2, .ref (G.2.2 + 162)), (3, .ref (G.2.2 + 192)), (4, .int s9.1)] []) (kx0 : ∀ x9 : Mem, o = .inr (Sum.inl x9) → V E (cs.1 + 1, cs.2 + 6) G 7 Q x9 1643 [] []) (kr : ∀ x9 : Int32 × Mem, o = .inr (Sum.inr x9) → False) : V E cs G 7 Q M 1234 [(0, .ref b), (1, .ref (G.2.2 + 0)), (2, .ref (G.2.2 + 162)), (3, .ref (G.2.2 + 192)), (4, .int v4)] [] := by
  unfold j_law_1234_23 at h
  refine V_aload_n (n := 1) X d_law_1234 rfl rfl rfl ?_
  refine V_aload_n (n := 0) X d_law_1235 rfl rfl rfl ?_
  refine V_iload (n := 4) X d_law_1236 rfl rfl ?_
  refine V_iconst (v := 1) X d_law_1238 (by decide) rfl ?_
  refine V_iadd X d_law_1239 rfl ?_
  obtain ⟨hb, h⟩ := ifn h
  refine V_sld X hX hbl hbA hb d_law_1240 rfl ?_
  obtain ⟨x135, hx135, h⟩ := ob_s h
  refine V_ci (As := [.int (xs (v4 + (1 : Int32)).toNatClampNeg)]) X hz0 ml_Lw_162 yq_Top_fire (c_Top_fire E.2.1 G (xs (v4 + (1 : Int32)).toNatClampNeg) M x135 hx135 _ (Nat.le_refl _)) kd_0 rfl rfl (by omega) rfl (Nat.le_of_ble_eq_true rfl) d_law_1241 rfl (fun r9 M9 hq => ?_)
  rw [hq.1, hq.2]
  refine V_aload_n (n := 2) X d_law_1244 rfl rfl rfl ?_
  refine V_aload_n (n := 0) X d_law_1245 rfl rfl rfl ?_
  refine V_iload (n := 4) X d_law_1246 rfl rfl ?_
  refine V_iconst (v := 1) X d_law_1248 (by decide) rfl ?_
  refine V_iadd X d_law_1249 rfl ?_
  obtain ⟨hb, h⟩ := ifn h
  refine V_sld X hX hbl hbA hb d_law_1250 rfl ?_
  obtain ⟨x136, hx136, h⟩ := ob_s h
  refine V_ci (As := [.int (xs (v4 + (1 : Int32)).toNatClampNeg)]) X hz0 ml_Lw_165 yq_Mod_fire (c_Mod_fire E.2.1 G (xs (v4 + (1 : Int32)).toNatClampNeg) x135.2 x136 hx136 _ (Nat.le_refl _)) kd_162 rfl rfl (by omega) rfl (Nat.le_of_ble_eq_true rfl) d_law_1251 rfl (fun r9 M9 hq => ?_)
  rw [hq.1, hq.2]
  refine V_icmp_eq (tgt := 1637) X d_law_1254 (by decide) rfl (fun c137 => ?_) (fun c137 => ?_)
  · rw [if_pos c137] at h
    refine V_iinc (n := 4) (v := (v4 + (5 : Int32))) (lv' := [(4, .int (v4 + (5 : Int32))), (0, .ref b), (1, .ref (G.2.2 + 0)), (2, .ref (G.2.2 + 162)), (3, .ref (G.2.2 + 192))]) X d_law_1637 rfl rfl (by decide) rfl rfl ?_
    refine V_goto (pc' := 23) X d_law_1640 (by decide) ?_
    refine V_wid (cs' := (cs.1 + 1, cs.2 + 6)) ⟨Nat.le_succ _, Nat.le_add_right _ _⟩ ?_
    refine V_sub (lv' := [(0, .ref b), (1, .ref (G.2.2 + 0)), (2, .ref (G.2.2 + 162)), (3, .ref (G.2.2 + 192)), (4, .int (v4 + (5 : Int32)))]) [1, 2, 3, 4, 0] rfl ?_
    exact kc ((v4 + (5 : Int32)), x136.2) (Option.some.inj h).symm
  · rw [if_neg c137] at h
    refine V_iconst (v := 0) X d_law_1257 (by decide) rfl ?_
    exact (kr ((0 : Int32), x136.2) (Option.some.inj h).symm).elim
def j_law_1259_23 (L : Nat) (xs : Nat → Int32) (v4 : Int32) (M : Mem) : Option ((Int32 × Mem) ⊕ ((Mem) ⊕ (Int32 × Mem))) :=
  if inb (v4 + (1 : Int32)) L = true then
  Option.bind (f_Top_fights (xs (v4 + (1 : Int32)).toNatClampNeg) M) fun x139 =>
  if inb (v4 + (1 : Int32)) L = true then
  Option.bind (f_Mod_fights (xs (v4 + (1 : Int32)).toNatClampNeg) x139.2) fun x140 =>
  if x139.1 = x140.1 then
  some (.inl ((v4 + (5 : Int32)), x140.2))
  else
  some (.inr (Sum.inr ((0 : Int32), x140.2)))
  else none
  else none
theorem j_law_1259_23_ok {E : Ev} {cs : Nat × Nat} {G : Gw} {d : Nat} {Q : State → Prop} {b L : Nat} {xs : Nat → Int32} (X : Cx E G code "WomenByTheRoofsLaw" 7 d ret) (hz0 : Zc E cs) (hz : Zc E (cs.1 + 1, cs.2 + 6)) (hT : Tw G E.2.2.2.2.1 E.2.2.2.2.1.heap) (hl9 : E.2.1.stackTraces = false) (hX : va_X b L xs E.2.2.2.2.1 E.2.2.2.2.1.heap) (hbl : b < E.2.2.2.2.1.heap.size) (hbA : ¬ G.2.2 ≤ b) (hD : 450 ≤ d)  (v4 : Int32)  (M : Mem)  (o : (Int32 × Mem) ⊕ ((Mem) ⊕ (Int32 × Mem))) (h : j_law_1259_23 L xs v4 M = some o) (kc : ∀ s9 : Int32 × Mem, o = .inl s9 → V E (cs.1 + 1, cs.2 + 6) G 7 Q s9.2 23 [(0, .ref b), (1, .ref (G.2.2 + 0)), (2, .ref (G.2.2 + 162)), (3, .ref (G.2.2 + 192)), (4, .int s9.1)] []) (kx0 : ∀ x9 : Mem, o = .inr (Sum.inl x9) → V E (cs.1 + 1, cs.2 + 6) G 7 Q x9 1643 [] []) (kr : ∀ x9 : Int32 × Mem, o = .inr (Sum.inr x9) → False) : V E cs G 7 Q M 1259 [(0, .ref b), (1, .ref (G.2.2 + 0)), (2, .ref (G.2.2 + 162)), (3, .ref (G.2.2 + 192)), (4, .int v4)] [] := by
  unfold j_law_1259_23 at h
  refine V_aload_n (n := 1) X d_law_1259 rfl rfl rfl ?_
  refine V_aload_n (n := 0) X d_law_1260 rfl rfl rfl ?_
  refine V_iload (n := 4) X d_law_1261 rfl rfl ?_
  refine V_iconst (v := 1) X d_law_1263 (by decide) rfl ?_
  refine V_iadd X d_law_1264 rfl ?_
  obtain ⟨hb, h⟩ := ifn h
  refine V_sld X hX hbl hbA hb d_law_1265 rfl ?_
  obtain ⟨x139, hx139, h⟩ := ob_s h
  refine V_ci (As := [.int (xs (v4 + (1 : Int32)).toNatClampNeg)]) X hz0 ml_Lw_166 yq_Top_fights (c_Top_fights E.2.1 G (xs (v4 + (1 : Int32)).toNatClampNeg) M x139 hx139 _ (Nat.le_refl _)) kd_0 rfl rfl (by omega) rfl (Nat.le_of_ble_eq_true rfl) d_law_1266 rfl (fun r9 M9 hq => ?_)
  rw [hq.1, hq.2]
  refine V_aload_n (n := 2) X d_law_1269 rfl rfl rfl ?_
  refine V_aload_n (n := 0) X d_law_1270 rfl rfl rfl ?_
  refine V_iload (n := 4) X d_law_1271 rfl rfl ?_
  refine V_iconst (v := 1) X d_law_1273 (by decide) rfl ?_
  refine V_iadd X d_law_1274 rfl ?_
  obtain ⟨hb, h⟩ := ifn h
  refine V_sld X hX hbl hbA hb d_law_1275 rfl ?_
  obtain ⟨x140, hx140, h⟩ := ob_s h
  refine V_ci (As := [.int (xs (v4 + (1 : Int32)).toNatClampNeg)]) X hz0 ml_Lw_169 yq_Mod_fights (c_Mod_fights E.2.1 G (xs (v4 + (1 : Int32)).toNatClampNeg) x139.2 x140 hx140 _ (Nat.le_refl _)) kd_162 rfl rfl (by omega) rfl (Nat.le_of_ble_eq_true rfl) d_law_1276 rfl (fun r9 M9 hq => ?_)
  rw [hq.1, hq.2]
  refine V_icmp_eq (tgt := 1637) X d_law_1279 (by decide) rfl (fun c141 => ?_) (fun c141 => ?_)
  · rw [if_pos c141] at h
    refine V_iinc (n := 4) (v := (v4 + (5 : Int32))) (lv' := [(4, .int (v4 + (5 : Int32))), (0, .ref b), (1, .ref (G.2.2 + 0)), (2, .ref (G.2.2 + 162)), (3, .ref (G.2.2 + 192))]) X d_law_1637 rfl rfl (by decide) rfl rfl ?_
    refine V_goto (pc' := 23) X d_law_1640 (by decide) ?_
    refine V_wid (cs' := (cs.1 + 1, cs.2 + 6)) ⟨Nat.le_succ _, Nat.le_add_right _ _⟩ ?_
    refine V_sub (lv' := [(0, .ref b), (1, .ref (G.2.2 + 0)), (2, .ref (G.2.2 + 162)), (3, .ref (G.2.2 + 192)), (4, .int (v4 + (5 : Int32)))]) [1, 2, 3, 4, 0] rfl ?_
    exact kc ((v4 + (5 : Int32)), x140.2) (Option.some.inj h).symm
  · rw [if_neg c141] at h
    refine V_iconst (v := 0) X d_law_1282 (by decide) rfl ?_
    exact (kr ((0 : Int32), x140.2) (Option.some.inj h).symm).elim
def j_law_1284_23 (L : Nat) (xs : Nat → Int32) (v4 : Int32) (M : Mem) : Option ((Int32 × Mem) ⊕ ((Mem) ⊕ (Int32 × Mem))) :=
  Option.bind (f_Top_saved M) fun x143 =>
  Option.bind (f_Mod_saved x143.2) fun x144 =>
  if x143.1 = x144.1 then
  some (.inl ((v4 + (5 : Int32)), x144.2))
  else
  some (.inr (Sum.inr ((0 : Int32), x144.2)))
theorem j_law_1284_23_ok {E : Ev} {cs : Nat × Nat} {G : Gw} {d : Nat} {Q : State → Prop} {b L : Nat} {xs : Nat → Int32} (X : Cx E G code "WomenByTheRoofsLaw" 7 d ret) (hz0 : Zc E cs) (hz : Zc E (cs.1 + 1, cs.2 + 6)) (hT : Tw G E.2.2.2.2.1 E.2.2.2.2.1.heap) (hl9 : E.2.1.stackTraces = false) (hX : va_X b L xs E.2.2.2.2.1 E.2.2.2.2.1.heap) (hbl : b < E.2.2.2.2.1.heap.size) (hbA : ¬ G.2.2 ≤ b) (hD : 450 ≤ d)  (v4 : Int32)  (M : Mem)  (o : (Int32 × Mem) ⊕ ((Mem) ⊕ (Int32 × Mem))) (h : j_law_1284_23 L xs v4 M = some o) (kc : ∀ s9 : Int32 × Mem, o = .inl s9 → V E (cs.1 + 1, cs.2 + 6) G 7 Q s9.2 23 [(0, .ref b), (1, .ref (G.2.2 + 0)), (2, .ref (G.2.2 + 162)), (3, .ref (G.2.2 + 192)), (4, .int s9.1)] []) (kx0 : ∀ x9 : Mem, o = .inr (Sum.inl x9) → V E (cs.1 + 1, cs.2 + 6) G 7 Q x9 1643 [] []) (kr : ∀ x9 : Int32 × Mem, o = .inr (Sum.inr x9) → False) : V E cs G 7 Q M 1284 [(0, .ref b), (1, .ref (G.2.2 + 0)), (2, .ref (G.2.2 + 162)), (3, .ref (G.2.2 + 192)), (4, .int v4)] [] := by
  unfold j_law_1284_23 at h
  refine V_aload_n (n := 1) X d_law_1284 rfl rfl rfl ?_
  obtain ⟨x143, hx143, h⟩ := ob_s h
  refine V_ci (As := []) X hz0 ml_Lw_170 yq_Top_saved (c_Top_saved E.2.1 G  M x143 hx143 _ (Nat.le_refl _)) kd_0 rfl rfl (by omega) rfl (Nat.le_of_ble_eq_true rfl) d_law_1285 rfl (fun r9 M9 hq => ?_)
  rw [hq.1, hq.2]
  refine V_aload_n (n := 2) X d_law_1288 rfl rfl rfl ?_
  obtain ⟨x144, hx144, h⟩ := ob_s h
  refine V_ci (As := []) X hz0 ml_Lw_173 yq_Mod_saved (c_Mod_saved E.2.1 G  x143.2 x144 hx144 _ (Nat.le_refl _)) kd_162 rfl rfl (by omega) rfl (Nat.le_of_ble_eq_true rfl) d_law_1289 rfl (fun r9 M9 hq => ?_)
  rw [hq.1, hq.2]
  refine V_icmp_eq (tgt := 1637) X d_law_1292 (by decide) rfl (fun c145 => ?_) (fun c145 => ?_)
  · rw [if_pos c145] at h
    refine V_iinc (n := 4) (v := (v4 + (5 : Int32))) (lv' := [(4, .int (v4 + (5 : Int32))), (0, .ref b), (1, .ref (G.2.2 + 0)), (2, .ref (G.2.2 + 162)), (3, .ref (G.2.2 + 192))]) X d_law_1637 rfl rfl (by decide) rfl rfl ?_
    refine V_goto (pc' := 23) X d_law_1640 (by decide) ?_
    refine V_wid (cs' := (cs.1 + 1, cs.2 + 6)) ⟨Nat.le_succ _, Nat.le_add_right _ _⟩ ?_
    refine V_sub (lv' := [(0, .ref b), (1, .ref (G.2.2 + 0)), (2, .ref (G.2.2 + 162)), (3, .ref (G.2.2 + 192)), (4, .int (v4 + (5 : Int32)))]) [1, 2, 3, 4, 0] rfl ?_
    exact kc ((v4 + (5 : Int32)), x144.2) (Option.some.inj h).symm
  · rw [if_neg c145] at h
    refine V_iconst (v := 0) X d_law_1295 (by decide) rfl ?_
    exact (kr ((0 : Int32), x144.2) (Option.some.inj h).symm).elim
def j_law_1297_23 (L : Nat) (xs : Nat → Int32) (v4 : Int32) (M : Mem) : Option ((Int32 × Mem) ⊕ ((Mem) ⊕ (Int32 × Mem))) :=
  if inb (v4 + (1 : Int32)) L = true then
  if inb (v4 + (2 : Int32)) L = true then
  Option.bind (f_Top_wardrobe (xs (v4 + (1 : Int32)).toNatClampNeg) (xs (v4 + (2 : Int32)).toNatClampNeg) M) fun x147 =>
  if inb (v4 + (1 : Int32)) L = true then
  if inb (v4 + (2 : Int32)) L = true then
  Option.bind (f_Mod_wardrobe (xs (v4 + (1 : Int32)).toNatClampNeg) (xs (v4 + (2 : Int32)).toNatClampNeg) x147.2) fun x148 =>
  if x147.1 = x148.1 then
  some (.inl ((v4 + (5 : Int32)), x148.2))
  else
  some (.inr (Sum.inr ((0 : Int32), x148.2)))
  else none
  else none
  else none
  else none
theorem j_law_1297_23_ok {E : Ev} {cs : Nat × Nat} {G : Gw} {d : Nat} {Q : State → Prop} {b L : Nat} {xs : Nat → Int32} (X : Cx E G code "WomenByTheRoofsLaw" 7 d ret) (hz0 : Zc E cs) (hz : Zc E (cs.1 + 1, cs.2 + 6)) (hT : Tw G E.2.2.2.2.1 E.2.2.2.2.1.heap) (hl9 : E.2.1.stackTraces = false) (hX : va_X b L xs E.2.2.2.2.1 E.2.2.2.2.1.heap) (hbl : b < E.2.2.2.2.1.heap.size) (hbA : ¬ G.2.2 ≤ b) (hD : 450 ≤ d)  (v4 : Int32)  (M : Mem)  (o : (Int32 × Mem) ⊕ ((Mem) ⊕ (Int32 × Mem))) (h : j_law_1297_23 L xs v4 M = some o) (kc : ∀ s9 : Int32 × Mem, o = .inl s9 → V E (cs.1 + 1, cs.2 + 6) G 7 Q s9.2 23 [(0, .ref b), (1, .ref (G.2.2 + 0)), (2, .ref (G.2.2 + 162)), (3, .ref (G.2.2 + 192)), (4, .int s9.1)] []) (kx0 : ∀ x9 : Mem, o = .inr (Sum.inl x9) → V E (cs.1 + 1, cs.2 + 6) G 7 Q x9 1643 [] []) (kr : ∀ x9 : Int32 × Mem, o = .inr (Sum.inr x9) → False) : V E cs G 7 Q M 1297 [(0, .ref b), (1, .ref (G.2.2 + 0)), (2, .ref (G.2.2 + 162)), (3, .ref (G.2.2 + 192)), (4, .int v4)] [] := by
  unfold j_law_1297_23 at h
  refine V_aload_n (n := 1) X d_law_1297 rfl rfl rfl ?_
  refine V_aload_n (n := 0) X d_law_1298 rfl rfl rfl ?_
  refine V_iload (n := 4) X d_law_1299 rfl rfl ?_
  refine V_iconst (v := 1) X d_law_1301 (by decide) rfl ?_
  refine V_iadd X d_law_1302 rfl ?_
  obtain ⟨hb, h⟩ := ifn h
  refine V_sld X hX hbl hbA hb d_law_1303 rfl ?_
  refine V_aload_n (n := 0) X d_law_1304 rfl rfl rfl ?_
  refine V_iload (n := 4) X d_law_1305 rfl rfl ?_
  refine V_iconst (v := 2) X d_law_1307 (by decide) rfl ?_
  refine V_iadd X d_law_1308 rfl ?_
  obtain ⟨hb, h⟩ := ifn h
  refine V_sld X hX hbl hbA hb d_law_1309 rfl ?_
  obtain ⟨x147, hx147, h⟩ := ob_s h
  refine V_ci (As := [.int (xs (v4 + (1 : Int32)).toNatClampNeg), .int (xs (v4 + (2 : Int32)).toNatClampNeg)]) X hz0 ml_Lw_174 yq_Top_wardrobe (c_Top_wardrobe E.2.1 G (xs (v4 + (1 : Int32)).toNatClampNeg) (xs (v4 + (2 : Int32)).toNatClampNeg) M x147 hx147 _ (Nat.le_refl _)) kd_0 rfl rfl (by omega) rfl (Nat.le_of_ble_eq_true rfl) d_law_1310 rfl (fun r9 M9 hq => ?_)
  rw [hq.1, hq.2]
  refine V_aload_n (n := 2) X d_law_1313 rfl rfl rfl ?_
  refine V_aload_n (n := 0) X d_law_1314 rfl rfl rfl ?_
  refine V_iload (n := 4) X d_law_1315 rfl rfl ?_
  refine V_iconst (v := 1) X d_law_1317 (by decide) rfl ?_
  refine V_iadd X d_law_1318 rfl ?_
  obtain ⟨hb, h⟩ := ifn h
  refine V_sld X hX hbl hbA hb d_law_1319 rfl ?_
  refine V_aload_n (n := 0) X d_law_1320 rfl rfl rfl ?_
  refine V_iload (n := 4) X d_law_1321 rfl rfl ?_
  refine V_iconst (v := 2) X d_law_1323 (by decide) rfl ?_
  refine V_iadd X d_law_1324 rfl ?_
  obtain ⟨hb, h⟩ := ifn h
  refine V_sld X hX hbl hbA hb d_law_1325 rfl ?_
  obtain ⟨x148, hx148, h⟩ := ob_s h
  refine V_ci (As := [.int (xs (v4 + (1 : Int32)).toNatClampNeg), .int (xs (v4 + (2 : Int32)).toNatClampNeg)]) X hz0 ml_Lw_177 yq_Mod_wardrobe (c_Mod_wardrobe E.2.1 G (xs (v4 + (1 : Int32)).toNatClampNeg) (xs (v4 + (2 : Int32)).toNatClampNeg) x147.2 x148 hx148 _ (Nat.le_refl _)) kd_162 rfl rfl (by omega) rfl (Nat.le_of_ble_eq_true rfl) d_law_1326 rfl (fun r9 M9 hq => ?_)
  rw [hq.1, hq.2]
  refine V_icmp_eq (tgt := 1637) X d_law_1329 (by decide) rfl (fun c149 => ?_) (fun c149 => ?_)
  · rw [if_pos c149] at h
    refine V_iinc (n := 4) (v := (v4 + (5 : Int32))) (lv' := [(4, .int (v4 + (5 : Int32))), (0, .ref b), (1, .ref (G.2.2 + 0)), (2, .ref (G.2.2 + 162)), (3, .ref (G.2.2 + 192))]) X d_law_1637 rfl rfl (by decide) rfl rfl ?_
    refine V_goto (pc' := 23) X d_law_1640 (by decide) ?_
    refine V_wid (cs' := (cs.1 + 1, cs.2 + 6)) ⟨Nat.le_succ _, Nat.le_add_right _ _⟩ ?_
    refine V_sub (lv' := [(0, .ref b), (1, .ref (G.2.2 + 0)), (2, .ref (G.2.2 + 162)), (3, .ref (G.2.2 + 192)), (4, .int (v4 + (5 : Int32)))]) [1, 2, 3, 4, 0] rfl ?_
    exact kc ((v4 + (5 : Int32)), x148.2) (Option.some.inj h).symm
  · rw [if_neg c149] at h
    refine V_iconst (v := 0) X d_law_1332 (by decide) rfl ?_
    exact (kr ((0 : Int32), x148.2) (Option.some.inj h).symm).elim
def j_law_1334_23 (L : Nat) (xs : Nat → Int32) (v4 : Int32) (M : Mem) : Option ((Int32 × Mem) ⊕ ((Mem) ⊕ (Int32 × Mem))) :=
  if inb (v4 + (1 : Int32)) L = true then
  if inb (v4 + (2 : Int32)) L = true then
  if inb (v4 + (3 : Int32)) L = true then
  Option.bind (f_Top_flees (xs (v4 + (1 : Int32)).toNatClampNeg) (xs (v4 + (2 : Int32)).toNatClampNeg) (xs (v4 + (3 : Int32)).toNatClampNeg) M) fun x151 =>
  if inb (v4 + (1 : Int32)) L = true then
  if inb (v4 + (2 : Int32)) L = true then
  if inb (v4 + (3 : Int32)) L = true then
  Option.bind (f_Mod_flees (xs (v4 + (1 : Int32)).toNatClampNeg) (xs (v4 + (2 : Int32)).toNatClampNeg) (xs (v4 + (3 : Int32)).toNatClampNeg) x151.2) fun x152 =>
  if x151.1 = x152.1 then
  some (.inl ((v4 + (5 : Int32)), x152.2))
  else
  some (.inr (Sum.inr ((0 : Int32), x152.2)))
  else none
  else none
  else none
  else none
  else none
  else none
theorem j_law_1334_23_ok {E : Ev} {cs : Nat × Nat} {G : Gw} {d : Nat} {Q : State → Prop} {b L : Nat} {xs : Nat → Int32} (X : Cx E G code "WomenByTheRoofsLaw" 7 d ret) (hz0 : Zc E cs) (hz : Zc E (cs.1 + 1, cs.2 + 6)) (hT : Tw G E.2.2.2.2.1 E.2.2.2.2.1.heap) (hl9 : E.2.1.stackTraces = false) (hX : va_X b L xs E.2.2.2.2.1 E.2.2.2.2.1.heap) (hbl : b < E.2.2.2.2.1.heap.size) (hbA : ¬ G.2.2 ≤ b) (hD : 450 ≤ d)  (v4 : Int32)  (M : Mem)  (o : (Int32 × Mem) ⊕ ((Mem) ⊕ (Int32 × Mem))) (h : j_law_1334_23 L xs v4 M = some o) (kc : ∀ s9 : Int32 × Mem, o = .inl s9 → V E (cs.1 + 1, cs.2 + 6) G 7 Q s9.2 23 [(0, .ref b), (1, .ref (G.2.2 + 0)), (2, .ref (G.2.2 + 162)), (3, .ref (G.2.2 + 192)), (4, .int s9.1)] []) (kx0 : ∀ x9 : Mem, o = .inr (Sum.inl x9) → V E (cs.1 + 1, cs.2 + 6) G 7 Q x9 1643 [] []) (kr : ∀ x9 : Int32 × Mem, o = .inr (Sum.inr x9) → False) : V E cs G 7 Q M 1334 [(0, .ref b), (1, .ref (G.2.2 + 0)), (2, .ref (G.2.2 + 162)), (3, .ref (G.2.2 + 192)), (4, .int v4)] [] := by
  unfold j_law_1334_23 at h
  refine V_aload_n (n := 1) X d_law_1334 rfl rfl rfl ?_
  refine V_aload_n (n := 0) X d_law_1335 rfl rfl rfl ?_
  refine V_iload (n := 4) X d_law_1336 rfl rfl ?_
  refine V_iconst (v := 1) X d_law_1338 (by decide) rfl ?_
  refine V_iadd X d_law_1339 rfl ?_
  obtain ⟨hb, h⟩ := ifn h
  refine V_sld X hX hbl hbA hb d_law_1340 rfl ?_
  refine V_aload_n (n := 0) X d_law_1341 rfl rfl rfl ?_
  refine V_iload (n := 4) X d_law_1342 rfl rfl ?_
  refine V_iconst (v := 2) X d_law_1344 (by decide) rfl ?_
  refine V_iadd X d_law_1345 rfl ?_
  obtain ⟨hb, h⟩ := ifn h
  refine V_sld X hX hbl hbA hb d_law_1346 rfl ?_
  refine V_aload_n (n := 0) X d_law_1347 rfl rfl rfl ?_
  refine V_iload (n := 4) X d_law_1348 rfl rfl ?_
  refine V_iconst (v := 3) X d_law_1350 (by decide) rfl ?_
  refine V_iadd X d_law_1351 rfl ?_
  obtain ⟨hb, h⟩ := ifn h
  refine V_sld X hX hbl hbA hb d_law_1352 rfl ?_
  obtain ⟨x151, hx151, h⟩ := ob_s h
  refine V_ci (As := [.int (xs (v4 + (1 : Int32)).toNatClampNeg), .int (xs (v4 + (2 : Int32)).toNatClampNeg), .int (xs (v4 + (3 : Int32)).toNatClampNeg)]) X hz0 ml_Lw_178 yq_Top_flees (c_Top_flees E.2.1 G (xs (v4 + (1 : Int32)).toNatClampNeg) (xs (v4 + (2 : Int32)).toNatClampNeg) (xs (v4 + (3 : Int32)).toNatClampNeg) M x151 hx151 _ (Nat.le_refl _)) kd_0 rfl rfl (by omega) rfl (Nat.le_of_ble_eq_true rfl) d_law_1353 rfl (fun r9 M9 hq => ?_)
  rw [hq.1, hq.2]
  refine V_aload_n (n := 2) X d_law_1356 rfl rfl rfl ?_
  refine V_aload_n (n := 0) X d_law_1357 rfl rfl rfl ?_
  refine V_iload (n := 4) X d_law_1358 rfl rfl ?_
  refine V_iconst (v := 1) X d_law_1360 (by decide) rfl ?_
  refine V_iadd X d_law_1361 rfl ?_
  obtain ⟨hb, h⟩ := ifn h
  refine V_sld X hX hbl hbA hb d_law_1362 rfl ?_
  refine V_aload_n (n := 0) X d_law_1363 rfl rfl rfl ?_
  refine V_iload (n := 4) X d_law_1364 rfl rfl ?_
  refine V_iconst (v := 2) X d_law_1366 (by decide) rfl ?_
  refine V_iadd X d_law_1367 rfl ?_
  obtain ⟨hb, h⟩ := ifn h
  refine V_sld X hX hbl hbA hb d_law_1368 rfl ?_
  refine V_aload_n (n := 0) X d_law_1369 rfl rfl rfl ?_
  refine V_iload (n := 4) X d_law_1370 rfl rfl ?_
  refine V_iconst (v := 3) X d_law_1372 (by decide) rfl ?_
  refine V_iadd X d_law_1373 rfl ?_
  obtain ⟨hb, h⟩ := ifn h
  refine V_sld X hX hbl hbA hb d_law_1374 rfl ?_
  obtain ⟨x152, hx152, h⟩ := ob_s h
  refine V_ci (As := [.int (xs (v4 + (1 : Int32)).toNatClampNeg), .int (xs (v4 + (2 : Int32)).toNatClampNeg), .int (xs (v4 + (3 : Int32)).toNatClampNeg)]) X hz0 ml_Lw_181 yq_Mod_flees (c_Mod_flees E.2.1 G (xs (v4 + (1 : Int32)).toNatClampNeg) (xs (v4 + (2 : Int32)).toNatClampNeg) (xs (v4 + (3 : Int32)).toNatClampNeg) x151.2 x152 hx152 _ (Nat.le_refl _)) kd_162 rfl rfl (by omega) rfl (Nat.le_of_ble_eq_true rfl) d_law_1375 rfl (fun r9 M9 hq => ?_)
  rw [hq.1, hq.2]
  refine V_icmp_eq (tgt := 1637) X d_law_1378 (by decide) rfl (fun c153 => ?_) (fun c153 => ?_)
  · rw [if_pos c153] at h
    refine V_iinc (n := 4) (v := (v4 + (5 : Int32))) (lv' := [(4, .int (v4 + (5 : Int32))), (0, .ref b), (1, .ref (G.2.2 + 0)), (2, .ref (G.2.2 + 162)), (3, .ref (G.2.2 + 192))]) X d_law_1637 rfl rfl (by decide) rfl rfl ?_
    refine V_goto (pc' := 23) X d_law_1640 (by decide) ?_
    refine V_wid (cs' := (cs.1 + 1, cs.2 + 6)) ⟨Nat.le_succ _, Nat.le_add_right _ _⟩ ?_
    refine V_sub (lv' := [(0, .ref b), (1, .ref (G.2.2 + 0)), (2, .ref (G.2.2 + 162)), (3, .ref (G.2.2 + 192)), (4, .int (v4 + (5 : Int32)))]) [1, 2, 3, 4, 0] rfl ?_
    exact kc ((v4 + (5 : Int32)), x152.2) (Option.some.inj h).symm
  · rw [if_neg c153] at h
    refine V_iconst (v := 0) X d_law_1381 (by decide) rfl ?_
    exact (kr ((0 : Int32), x152.2) (Option.some.inj h).symm).elim
def j_law_1383_23 (L : Nat) (xs : Nat → Int32) (v4 : Int32) (M : Mem) : Option ((Int32 × Mem) ⊕ ((Mem) ⊕ (Int32 × Mem))) :=
  if inb (v4 + (1 : Int32)) L = true then
  Option.bind (f_Top_lairs (xs (v4 + (1 : Int32)).toNatClampNeg) M) fun x155 =>
  if inb (v4 + (1 : Int32)) L = true then
  Option.bind (f_Mod_lairs (xs (v4 + (1 : Int32)).toNatClampNeg) x155.2) fun x156 =>
  if x155.1 = x156.1 then
  some (.inl ((v4 + (5 : Int32)), x156.2))
  else
  some (.inr (Sum.inr ((0 : Int32), x156.2)))
  else none
  else none
theorem j_law_1383_23_ok {E : Ev} {cs : Nat × Nat} {G : Gw} {d : Nat} {Q : State → Prop} {b L : Nat} {xs : Nat → Int32} (X : Cx E G code "WomenByTheRoofsLaw" 7 d ret) (hz0 : Zc E cs) (hz : Zc E (cs.1 + 1, cs.2 + 6)) (hT : Tw G E.2.2.2.2.1 E.2.2.2.2.1.heap) (hl9 : E.2.1.stackTraces = false) (hX : va_X b L xs E.2.2.2.2.1 E.2.2.2.2.1.heap) (hbl : b < E.2.2.2.2.1.heap.size) (hbA : ¬ G.2.2 ≤ b) (hD : 450 ≤ d)  (v4 : Int32)  (M : Mem)  (o : (Int32 × Mem) ⊕ ((Mem) ⊕ (Int32 × Mem))) (h : j_law_1383_23 L xs v4 M = some o) (kc : ∀ s9 : Int32 × Mem, o = .inl s9 → V E (cs.1 + 1, cs.2 + 6) G 7 Q s9.2 23 [(0, .ref b), (1, .ref (G.2.2 + 0)), (2, .ref (G.2.2 + 162)), (3, .ref (G.2.2 + 192)), (4, .int s9.1)] []) (kx0 : ∀ x9 : Mem, o = .inr (Sum.inl x9) → V E (cs.1 + 1, cs.2 + 6) G 7 Q x9 1643 [] []) (kr : ∀ x9 : Int32 × Mem, o = .inr (Sum.inr x9) → False) : V E cs G 7 Q M 1383 [(0, .ref b), (1, .ref (G.2.2 + 0)), (2, .ref (G.2.2 + 162)), (3, .ref (G.2.2 + 192)), (4, .int v4)] [] := by
  unfold j_law_1383_23 at h
  refine V_aload_n (n := 1) X d_law_1383 rfl rfl rfl ?_
  refine V_aload_n (n := 0) X d_law_1384 rfl rfl rfl ?_
  refine V_iload (n := 4) X d_law_1385 rfl rfl ?_
  refine V_iconst (v := 1) X d_law_1387 (by decide) rfl ?_
  refine V_iadd X d_law_1388 rfl ?_
  obtain ⟨hb, h⟩ := ifn h
  refine V_sld X hX hbl hbA hb d_law_1389 rfl ?_
  obtain ⟨x155, hx155, h⟩ := ob_s h
  refine V_ci (As := [.int (xs (v4 + (1 : Int32)).toNatClampNeg)]) X hz0 ml_Lw_182 yq_Top_lairs (c_Top_lairs E.2.1 G (xs (v4 + (1 : Int32)).toNatClampNeg) M x155 hx155 _ (Nat.le_refl _)) kd_0 rfl rfl (by omega) rfl (Nat.le_of_ble_eq_true rfl) d_law_1390 rfl (fun r9 M9 hq => ?_)
  rw [hq.1, hq.2]
  refine V_aload_n (n := 2) X d_law_1393 rfl rfl rfl ?_
  refine V_aload_n (n := 0) X d_law_1394 rfl rfl rfl ?_
  refine V_iload (n := 4) X d_law_1395 rfl rfl ?_
  refine V_iconst (v := 1) X d_law_1397 (by decide) rfl ?_
  refine V_iadd X d_law_1398 rfl ?_
  obtain ⟨hb, h⟩ := ifn h
  refine V_sld X hX hbl hbA hb d_law_1399 rfl ?_
  obtain ⟨x156, hx156, h⟩ := ob_s h
  refine V_ci (As := [.int (xs (v4 + (1 : Int32)).toNatClampNeg)]) X hz0 ml_Lw_185 yq_Mod_lairs (c_Mod_lairs E.2.1 G (xs (v4 + (1 : Int32)).toNatClampNeg) x155.2 x156 hx156 _ (Nat.le_refl _)) kd_162 rfl rfl (by omega) rfl (Nat.le_of_ble_eq_true rfl) d_law_1400 rfl (fun r9 M9 hq => ?_)
  rw [hq.1, hq.2]
  refine V_icmp_eq (tgt := 1637) X d_law_1403 (by decide) rfl (fun c157 => ?_) (fun c157 => ?_)
  · rw [if_pos c157] at h
    refine V_iinc (n := 4) (v := (v4 + (5 : Int32))) (lv' := [(4, .int (v4 + (5 : Int32))), (0, .ref b), (1, .ref (G.2.2 + 0)), (2, .ref (G.2.2 + 162)), (3, .ref (G.2.2 + 192))]) X d_law_1637 rfl rfl (by decide) rfl rfl ?_
    refine V_goto (pc' := 23) X d_law_1640 (by decide) ?_
    refine V_wid (cs' := (cs.1 + 1, cs.2 + 6)) ⟨Nat.le_succ _, Nat.le_add_right _ _⟩ ?_
    refine V_sub (lv' := [(0, .ref b), (1, .ref (G.2.2 + 0)), (2, .ref (G.2.2 + 162)), (3, .ref (G.2.2 + 192)), (4, .int (v4 + (5 : Int32)))]) [1, 2, 3, 4, 0] rfl ?_
    exact kc ((v4 + (5 : Int32)), x156.2) (Option.some.inj h).symm
  · rw [if_neg c157] at h
    refine V_iconst (v := 0) X d_law_1406 (by decide) rfl ?_
    exact (kr ((0 : Int32), x156.2) (Option.some.inj h).symm).elim
def j_law_1408_23 (L : Nat) (xs : Nat → Int32) (v4 : Int32) (M : Mem) : Option ((Int32 × Mem) ⊕ ((Mem) ⊕ (Int32 × Mem))) :=
  if inb (v4 + (1 : Int32)) L = true then
  if inb (v4 + (2 : Int32)) L = true then
  Option.bind (f_Top_caught (xs (v4 + (1 : Int32)).toNatClampNeg) (xs (v4 + (2 : Int32)).toNatClampNeg) M) fun x159 =>
  if inb (v4 + (1 : Int32)) L = true then
  if inb (v4 + (2 : Int32)) L = true then
  Option.bind (f_Mod_caught (xs (v4 + (1 : Int32)).toNatClampNeg) (xs (v4 + (2 : Int32)).toNatClampNeg) x159.2) fun x160 =>
  if x159.1 = x160.1 then
  some (.inl ((v4 + (5 : Int32)), x160.2))
  else
  some (.inr (Sum.inr ((0 : Int32), x160.2)))
  else none
  else none
  else none
  else none
theorem j_law_1408_23_ok {E : Ev} {cs : Nat × Nat} {G : Gw} {d : Nat} {Q : State → Prop} {b L : Nat} {xs : Nat → Int32} (X : Cx E G code "WomenByTheRoofsLaw" 7 d ret) (hz0 : Zc E cs) (hz : Zc E (cs.1 + 1, cs.2 + 6)) (hT : Tw G E.2.2.2.2.1 E.2.2.2.2.1.heap) (hl9 : E.2.1.stackTraces = false) (hX : va_X b L xs E.2.2.2.2.1 E.2.2.2.2.1.heap) (hbl : b < E.2.2.2.2.1.heap.size) (hbA : ¬ G.2.2 ≤ b) (hD : 450 ≤ d)  (v4 : Int32)  (M : Mem)  (o : (Int32 × Mem) ⊕ ((Mem) ⊕ (Int32 × Mem))) (h : j_law_1408_23 L xs v4 M = some o) (kc : ∀ s9 : Int32 × Mem, o = .inl s9 → V E (cs.1 + 1, cs.2 + 6) G 7 Q s9.2 23 [(0, .ref b), (1, .ref (G.2.2 + 0)), (2, .ref (G.2.2 + 162)), (3, .ref (G.2.2 + 192)), (4, .int s9.1)] []) (kx0 : ∀ x9 : Mem, o = .inr (Sum.inl x9) → V E (cs.1 + 1, cs.2 + 6) G 7 Q x9 1643 [] []) (kr : ∀ x9 : Int32 × Mem, o = .inr (Sum.inr x9) → False) : V E cs G 7 Q M 1408 [(0, .ref b), (1, .ref (G.2.2 + 0)), (2, .ref (G.2.2 + 162)), (3, .ref (G.2.2 + 192)), (4, .int v4)] [] := by
  unfold j_law_1408_23 at h
  refine V_aload_n (n := 1) X d_law_1408 rfl rfl rfl ?_
  refine V_aload_n (n := 0) X d_law_1409 rfl rfl rfl ?_
  refine V_iload (n := 4) X d_law_1410 rfl rfl ?_
  refine V_iconst (v := 1) X d_law_1412 (by decide) rfl ?_
  refine V_iadd X d_law_1413 rfl ?_
  obtain ⟨hb, h⟩ := ifn h
  refine V_sld X hX hbl hbA hb d_law_1414 rfl ?_
  refine V_aload_n (n := 0) X d_law_1415 rfl rfl rfl ?_
  refine V_iload (n := 4) X d_law_1416 rfl rfl ?_
  refine V_iconst (v := 2) X d_law_1418 (by decide) rfl ?_
  refine V_iadd X d_law_1419 rfl ?_
  obtain ⟨hb, h⟩ := ifn h
  refine V_sld X hX hbl hbA hb d_law_1420 rfl ?_
  obtain ⟨x159, hx159, h⟩ := ob_s h
  refine V_ci (As := [.int (xs (v4 + (1 : Int32)).toNatClampNeg), .int (xs (v4 + (2 : Int32)).toNatClampNeg)]) X hz0 ml_Lw_186 yq_Top_caught (c_Top_caught E.2.1 G (xs (v4 + (1 : Int32)).toNatClampNeg) (xs (v4 + (2 : Int32)).toNatClampNeg) M x159 hx159 _ (Nat.le_refl _)) kd_0 rfl rfl (by omega) rfl (Nat.le_of_ble_eq_true rfl) d_law_1421 rfl (fun r9 M9 hq => ?_)
  rw [hq.1, hq.2]
  refine V_aload_n (n := 2) X d_law_1424 rfl rfl rfl ?_
  refine V_aload_n (n := 0) X d_law_1425 rfl rfl rfl ?_
  refine V_iload (n := 4) X d_law_1426 rfl rfl ?_
  refine V_iconst (v := 1) X d_law_1428 (by decide) rfl ?_
  refine V_iadd X d_law_1429 rfl ?_
  obtain ⟨hb, h⟩ := ifn h
  refine V_sld X hX hbl hbA hb d_law_1430 rfl ?_
  refine V_aload_n (n := 0) X d_law_1431 rfl rfl rfl ?_
  refine V_iload (n := 4) X d_law_1432 rfl rfl ?_
  refine V_iconst (v := 2) X d_law_1434 (by decide) rfl ?_
  refine V_iadd X d_law_1435 rfl ?_
  obtain ⟨hb, h⟩ := ifn h
  refine V_sld X hX hbl hbA hb d_law_1436 rfl ?_
  obtain ⟨x160, hx160, h⟩ := ob_s h
  refine V_ci (As := [.int (xs (v4 + (1 : Int32)).toNatClampNeg), .int (xs (v4 + (2 : Int32)).toNatClampNeg)]) X hz0 ml_Lw_189 yq_Mod_caught (c_Mod_caught E.2.1 G (xs (v4 + (1 : Int32)).toNatClampNeg) (xs (v4 + (2 : Int32)).toNatClampNeg) x159.2 x160 hx160 _ (Nat.le_refl _)) kd_162 rfl rfl (by omega) rfl (Nat.le_of_ble_eq_true rfl) d_law_1437 rfl (fun r9 M9 hq => ?_)
  rw [hq.1, hq.2]
  refine V_icmp_eq (tgt := 1637) X d_law_1440 (by decide) rfl (fun c161 => ?_) (fun c161 => ?_)
  · rw [if_pos c161] at h
    refine V_iinc (n := 4) (v := (v4 + (5 : Int32))) (lv' := [(4, .int (v4 + (5 : Int32))), (0, .ref b), (1, .ref (G.2.2 + 0)), (2, .ref (G.2.2 + 162)), (3, .ref (G.2.2 + 192))]) X d_law_1637 rfl rfl (by decide) rfl rfl ?_
    refine V_goto (pc' := 23) X d_law_1640 (by decide) ?_
    refine V_wid (cs' := (cs.1 + 1, cs.2 + 6)) ⟨Nat.le_succ _, Nat.le_add_right _ _⟩ ?_
    refine V_sub (lv' := [(0, .ref b), (1, .ref (G.2.2 + 0)), (2, .ref (G.2.2 + 162)), (3, .ref (G.2.2 + 192)), (4, .int (v4 + (5 : Int32)))]) [1, 2, 3, 4, 0] rfl ?_
    exact kc ((v4 + (5 : Int32)), x160.2) (Option.some.inj h).symm
  · rw [if_neg c161] at h
    refine V_iconst (v := 0) X d_law_1443 (by decide) rfl ?_
    exact (kr ((0 : Int32), x160.2) (Option.some.inj h).symm).elim
def j_law_1445_23 (L : Nat) (xs : Nat → Int32) (v4 : Int32) (M : Mem) : Option ((Int32 × Mem) ⊕ ((Mem) ⊕ (Int32 × Mem))) :=
  if inb (v4 + (1 : Int32)) L = true then
  if inb (v4 + (2 : Int32)) L = true then
  if inb (v4 + (3 : Int32)) L = true then
  if inb (v4 + (4 : Int32)) L = true then
  Option.bind (f_Top_watch (xs (v4 + (1 : Int32)).toNatClampNeg) (xs (v4 + (2 : Int32)).toNatClampNeg) (xs (v4 + (3 : Int32)).toNatClampNeg) (xs (v4 + (4 : Int32)).toNatClampNeg) M) fun x163 =>
  if inb (v4 + (1 : Int32)) L = true then
  if inb (v4 + (2 : Int32)) L = true then
  if inb (v4 + (3 : Int32)) L = true then
  if inb (v4 + (4 : Int32)) L = true then
  Option.bind (f_Mod_watch (xs (v4 + (1 : Int32)).toNatClampNeg) (xs (v4 + (2 : Int32)).toNatClampNeg) (xs (v4 + (3 : Int32)).toNatClampNeg) (xs (v4 + (4 : Int32)).toNatClampNeg) x163.2) fun x164 =>
  if x163.1 = x164.1 then
  some (.inl ((v4 + (5 : Int32)), x164.2))
  else
  some (.inr (Sum.inr ((0 : Int32), x164.2)))
  else none
  else none
  else none
  else none
  else none
  else none
  else none
  else none
theorem j_law_1445_23_ok {E : Ev} {cs : Nat × Nat} {G : Gw} {d : Nat} {Q : State → Prop} {b L : Nat} {xs : Nat → Int32} (X : Cx E G code "WomenByTheRoofsLaw" 7 d ret) (hz0 : Zc E cs) (hz : Zc E (cs.1 + 1, cs.2 + 6)) (hT : Tw G E.2.2.2.2.1 E.2.2.2.2.1.heap) (hl9 : E.2.1.stackTraces = false) (hX : va_X b L xs E.2.2.2.2.1 E.2.2.2.2.1.heap) (hbl : b < E.2.2.2.2.1.heap.size) (hbA : ¬ G.2.2 ≤ b) (hD : 450 ≤ d)  (v4 : Int32)  (M : Mem)  (o : (Int32 × Mem) ⊕ ((Mem) ⊕ (Int32 × Mem))) (h : j_law_1445_23 L xs v4 M = some o) (kc : ∀ s9 : Int32 × Mem, o = .inl s9 → V E (cs.1 + 1, cs.2 + 6) G 7 Q s9.2 23 [(0, .ref b), (1, .ref (G.2.2 + 0)), (2, .ref (G.2.2 + 162)), (3, .ref (G.2.2 + 192)), (4, .int s9.1)] []) (kx0 : ∀ x9 : Mem, o = .inr (Sum.inl x9) → V E (cs.1 + 1, cs.2 + 6) G 7 Q x9 1643 [] []) (kr : ∀ x9 : Int32 × Mem, o = .inr (Sum.inr x9) → False) : V E cs G 7 Q M 1445 [(0, .ref b), (1, .ref (G.2.2 + 0)), (2, .ref (G.2.2 + 162)), (3, .ref (G.2.2 + 192)), (4, .int v4)] [] := by
  unfold j_law_1445_23 at h
  refine V_aload_n (n := 1) X d_law_1445 rfl rfl rfl ?_
  refine V_aload_n (n := 0) X d_law_1446 rfl rfl rfl ?_
  refine V_iload (n := 4) X d_law_1447 rfl rfl ?_
  refine V_iconst (v := 1) X d_law_1449 (by decide) rfl ?_
  refine V_iadd X d_law_1450 rfl ?_
  obtain ⟨hb, h⟩ := ifn h
  refine V_sld X hX hbl hbA hb d_law_1451 rfl ?_
  refine V_aload_n (n := 0) X d_law_1452 rfl rfl rfl ?_
  refine V_iload (n := 4) X d_law_1453 rfl rfl ?_
  refine V_iconst (v := 2) X d_law_1455 (by decide) rfl ?_
  refine V_iadd X d_law_1456 rfl ?_
  obtain ⟨hb, h⟩ := ifn h
  refine V_sld X hX hbl hbA hb d_law_1457 rfl ?_
  refine V_aload_n (n := 0) X d_law_1458 rfl rfl rfl ?_
  refine V_iload (n := 4) X d_law_1459 rfl rfl ?_
  refine V_iconst (v := 3) X d_law_1461 (by decide) rfl ?_
  refine V_iadd X d_law_1462 rfl ?_
  obtain ⟨hb, h⟩ := ifn h
  refine V_sld X hX hbl hbA hb d_law_1463 rfl ?_
  refine V_aload_n (n := 0) X d_law_1464 rfl rfl rfl ?_
  refine V_iload (n := 4) X d_law_1465 rfl rfl ?_
  refine V_iconst (v := 4) X d_law_1467 (by decide) rfl ?_
  refine V_iadd X d_law_1468 rfl ?_
  obtain ⟨hb, h⟩ := ifn h
  refine V_sld X hX hbl hbA hb d_law_1469 rfl ?_
  obtain ⟨x163, hx163, h⟩ := ob_s h
  refine V_ci (As := [.int (xs (v4 + (1 : Int32)).toNatClampNeg), .int (xs (v4 + (2 : Int32)).toNatClampNeg), .int (xs (v4 + (3 : Int32)).toNatClampNeg), .int (xs (v4 + (4 : Int32)).toNatClampNeg)]) X hz0 ml_Lw_190 yq_Top_watch (c_Top_watch E.2.1 G (xs (v4 + (1 : Int32)).toNatClampNeg) (xs (v4 + (2 : Int32)).toNatClampNeg) (xs (v4 + (3 : Int32)).toNatClampNeg) (xs (v4 + (4 : Int32)).toNatClampNeg) M x163 hx163 _ (Nat.le_refl _)) kd_0 rfl rfl (by omega) rfl (Nat.le_of_ble_eq_true rfl) d_law_1470 rfl (fun r9 M9 hq => ?_)
  rw [hq.1, hq.2]
  refine V_aload_n (n := 2) X d_law_1473 rfl rfl rfl ?_
  refine V_aload_n (n := 0) X d_law_1474 rfl rfl rfl ?_
  refine V_iload (n := 4) X d_law_1475 rfl rfl ?_
  refine V_iconst (v := 1) X d_law_1477 (by decide) rfl ?_
  refine V_iadd X d_law_1478 rfl ?_
  obtain ⟨hb, h⟩ := ifn h
  refine V_sld X hX hbl hbA hb d_law_1479 rfl ?_
  refine V_aload_n (n := 0) X d_law_1480 rfl rfl rfl ?_
  refine V_iload (n := 4) X d_law_1481 rfl rfl ?_
  refine V_iconst (v := 2) X d_law_1483 (by decide) rfl ?_
  refine V_iadd X d_law_1484 rfl ?_
  obtain ⟨hb, h⟩ := ifn h
  refine V_sld X hX hbl hbA hb d_law_1485 rfl ?_
  refine V_aload_n (n := 0) X d_law_1486 rfl rfl rfl ?_
  refine V_iload (n := 4) X d_law_1487 rfl rfl ?_
  refine V_iconst (v := 3) X d_law_1489 (by decide) rfl ?_
  refine V_iadd X d_law_1490 rfl ?_
  obtain ⟨hb, h⟩ := ifn h
  refine V_sld X hX hbl hbA hb d_law_1491 rfl ?_
  refine V_aload_n (n := 0) X d_law_1492 rfl rfl rfl ?_
  refine V_iload (n := 4) X d_law_1493 rfl rfl ?_
  refine V_iconst (v := 4) X d_law_1495 (by decide) rfl ?_
  refine V_iadd X d_law_1496 rfl ?_
  obtain ⟨hb, h⟩ := ifn h
  refine V_sld X hX hbl hbA hb d_law_1497 rfl ?_
  obtain ⟨x164, hx164, h⟩ := ob_s h
  refine V_ci (As := [.int (xs (v4 + (1 : Int32)).toNatClampNeg), .int (xs (v4 + (2 : Int32)).toNatClampNeg), .int (xs (v4 + (3 : Int32)).toNatClampNeg), .int (xs (v4 + (4 : Int32)).toNatClampNeg)]) X hz0 ml_Lw_193 yq_Mod_watch (c_Mod_watch E.2.1 G (xs (v4 + (1 : Int32)).toNatClampNeg) (xs (v4 + (2 : Int32)).toNatClampNeg) (xs (v4 + (3 : Int32)).toNatClampNeg) (xs (v4 + (4 : Int32)).toNatClampNeg) x163.2 x164 hx164 _ (Nat.le_refl _)) kd_162 rfl rfl (by omega) rfl (Nat.le_of_ble_eq_true rfl) d_law_1498 rfl (fun r9 M9 hq => ?_)
  rw [hq.1, hq.2]
  refine V_icmp_eq (tgt := 1637) X d_law_1501 (by decide) rfl (fun c165 => ?_) (fun c165 => ?_)
  · rw [if_pos c165] at h
    refine V_iinc (n := 4) (v := (v4 + (5 : Int32))) (lv' := [(4, .int (v4 + (5 : Int32))), (0, .ref b), (1, .ref (G.2.2 + 0)), (2, .ref (G.2.2 + 162)), (3, .ref (G.2.2 + 192))]) X d_law_1637 rfl rfl (by decide) rfl rfl ?_
    refine V_goto (pc' := 23) X d_law_1640 (by decide) ?_
    refine V_wid (cs' := (cs.1 + 1, cs.2 + 6)) ⟨Nat.le_succ _, Nat.le_add_right _ _⟩ ?_
    refine V_sub (lv' := [(0, .ref b), (1, .ref (G.2.2 + 0)), (2, .ref (G.2.2 + 162)), (3, .ref (G.2.2 + 192)), (4, .int (v4 + (5 : Int32)))]) [1, 2, 3, 4, 0] rfl ?_
    exact kc ((v4 + (5 : Int32)), x164.2) (Option.some.inj h).symm
  · rw [if_neg c165] at h
    refine V_iconst (v := 0) X d_law_1504 (by decide) rfl ?_
    exact (kr ((0 : Int32), x164.2) (Option.some.inj h).symm).elim
def j_law_1506_23 (L : Nat) (xs : Nat → Int32) (v4 : Int32) (M : Mem) : Option ((Int32 × Mem) ⊕ ((Mem) ⊕ (Int32 × Mem))) :=
  if inb (v4 + (1 : Int32)) L = true then
  Option.bind (f_Top_keep (xs (v4 + (1 : Int32)).toNatClampNeg) M) fun x167 =>
  if inb (v4 + (1 : Int32)) L = true then
  Option.bind (f_Mod_keep (xs (v4 + (1 : Int32)).toNatClampNeg) x167.2) fun x168 =>
  if x167.1 = x168.1 then
  some (.inl ((v4 + (5 : Int32)), x168.2))
  else
  some (.inr (Sum.inr ((0 : Int32), x168.2)))
  else none
  else none
theorem j_law_1506_23_ok {E : Ev} {cs : Nat × Nat} {G : Gw} {d : Nat} {Q : State → Prop} {b L : Nat} {xs : Nat → Int32} (X : Cx E G code "WomenByTheRoofsLaw" 7 d ret) (hz0 : Zc E cs) (hz : Zc E (cs.1 + 1, cs.2 + 6)) (hT : Tw G E.2.2.2.2.1 E.2.2.2.2.1.heap) (hl9 : E.2.1.stackTraces = false) (hX : va_X b L xs E.2.2.2.2.1 E.2.2.2.2.1.heap) (hbl : b < E.2.2.2.2.1.heap.size) (hbA : ¬ G.2.2 ≤ b) (hD : 450 ≤ d)  (v4 : Int32)  (M : Mem)  (o : (Int32 × Mem) ⊕ ((Mem) ⊕ (Int32 × Mem))) (h : j_law_1506_23 L xs v4 M = some o) (kc : ∀ s9 : Int32 × Mem, o = .inl s9 → V E (cs.1 + 1, cs.2 + 6) G 7 Q s9.2 23 [(0, .ref b), (1, .ref (G.2.2 + 0)), (2, .ref (G.2.2 + 162)), (3, .ref (G.2.2 + 192)), (4, .int s9.1)] []) (kx0 : ∀ x9 : Mem, o = .inr (Sum.inl x9) → V E (cs.1 + 1, cs.2 + 6) G 7 Q x9 1643 [] []) (kr : ∀ x9 : Int32 × Mem, o = .inr (Sum.inr x9) → False) : V E cs G 7 Q M 1506 [(0, .ref b), (1, .ref (G.2.2 + 0)), (2, .ref (G.2.2 + 162)), (3, .ref (G.2.2 + 192)), (4, .int v4)] [] := by
  unfold j_law_1506_23 at h
  refine V_aload_n (n := 1) X d_law_1506 rfl rfl rfl ?_
  refine V_aload_n (n := 0) X d_law_1507 rfl rfl rfl ?_
  refine V_iload (n := 4) X d_law_1508 rfl rfl ?_
  refine V_iconst (v := 1) X d_law_1510 (by decide) rfl ?_
  refine V_iadd X d_law_1511 rfl ?_
  obtain ⟨hb, h⟩ := ifn h
  refine V_sld X hX hbl hbA hb d_law_1512 rfl ?_
  obtain ⟨x167, hx167, h⟩ := ob_s h
  refine V_ci (As := [.int (xs (v4 + (1 : Int32)).toNatClampNeg)]) X hz0 ml_Lw_194 yq_Top_keep (c_Top_keep E.2.1 G (xs (v4 + (1 : Int32)).toNatClampNeg) M x167 hx167 _ (Nat.le_refl _)) kd_0 rfl rfl (by omega) rfl (Nat.le_of_ble_eq_true rfl) d_law_1513 rfl (fun r9 M9 hq => ?_)
  rw [hq.1, hq.2]
  refine V_aload_n (n := 2) X d_law_1516 rfl rfl rfl ?_
  refine V_aload_n (n := 0) X d_law_1517 rfl rfl rfl ?_
  refine V_iload (n := 4) X d_law_1518 rfl rfl ?_
  refine V_iconst (v := 1) X d_law_1520 (by decide) rfl ?_
  refine V_iadd X d_law_1521 rfl ?_
  obtain ⟨hb, h⟩ := ifn h
  refine V_sld X hX hbl hbA hb d_law_1522 rfl ?_
  obtain ⟨x168, hx168, h⟩ := ob_s h
  refine V_ci (As := [.int (xs (v4 + (1 : Int32)).toNatClampNeg)]) X hz0 ml_Lw_197 yq_Mod_keep (c_Mod_keep E.2.1 G (xs (v4 + (1 : Int32)).toNatClampNeg) x167.2 x168 hx168 _ (Nat.le_refl _)) kd_162 rfl rfl (by omega) rfl (Nat.le_of_ble_eq_true rfl) d_law_1523 rfl (fun r9 M9 hq => ?_)
  rw [hq.1, hq.2]
  refine V_icmp_eq (tgt := 1637) X d_law_1526 (by decide) rfl (fun c169 => ?_) (fun c169 => ?_)
  · rw [if_pos c169] at h
    refine V_iinc (n := 4) (v := (v4 + (5 : Int32))) (lv' := [(4, .int (v4 + (5 : Int32))), (0, .ref b), (1, .ref (G.2.2 + 0)), (2, .ref (G.2.2 + 162)), (3, .ref (G.2.2 + 192))]) X d_law_1637 rfl rfl (by decide) rfl rfl ?_
    refine V_goto (pc' := 23) X d_law_1640 (by decide) ?_
    refine V_wid (cs' := (cs.1 + 1, cs.2 + 6)) ⟨Nat.le_succ _, Nat.le_add_right _ _⟩ ?_
    refine V_sub (lv' := [(0, .ref b), (1, .ref (G.2.2 + 0)), (2, .ref (G.2.2 + 162)), (3, .ref (G.2.2 + 192)), (4, .int (v4 + (5 : Int32)))]) [1, 2, 3, 4, 0] rfl ?_
    exact kc ((v4 + (5 : Int32)), x168.2) (Option.some.inj h).symm
  · rw [if_neg c169] at h
    refine V_iconst (v := 0) X d_law_1529 (by decide) rfl ?_
    exact (kr ((0 : Int32), x168.2) (Option.some.inj h).symm).elim
def j_law_1531_23 (L : Nat) (xs : Nat → Int32) (v4 : Int32) (M : Mem) : Option ((Int32 × Mem) ⊕ ((Mem) ⊕ (Int32 × Mem))) :=
  if inb (v4 + (1 : Int32)) L = true then
  Option.bind (f_Top_again (xs (v4 + (1 : Int32)).toNatClampNeg) M) fun x171 =>
  if inb (v4 + (1 : Int32)) L = true then
  Option.bind (f_Mod_again (xs (v4 + (1 : Int32)).toNatClampNeg) x171.2) fun x172 =>
  if x171.1 = x172.1 then
  some (.inl ((v4 + (5 : Int32)), x172.2))
  else
  some (.inr (Sum.inr ((0 : Int32), x172.2)))
  else none
  else none
theorem j_law_1531_23_ok {E : Ev} {cs : Nat × Nat} {G : Gw} {d : Nat} {Q : State → Prop} {b L : Nat} {xs : Nat → Int32} (X : Cx E G code "WomenByTheRoofsLaw" 7 d ret) (hz0 : Zc E cs) (hz : Zc E (cs.1 + 1, cs.2 + 6)) (hT : Tw G E.2.2.2.2.1 E.2.2.2.2.1.heap) (hl9 : E.2.1.stackTraces = false) (hX : va_X b L xs E.2.2.2.2.1 E.2.2.2.2.1.heap) (hbl : b < E.2.2.2.2.1.heap.size) (hbA : ¬ G.2.2 ≤ b) (hD : 450 ≤ d)  (v4 : Int32)  (M : Mem)  (o : (Int32 × Mem) ⊕ ((Mem) ⊕ (Int32 × Mem))) (h : j_law_1531_23 L xs v4 M = some o) (kc : ∀ s9 : Int32 × Mem, o = .inl s9 → V E (cs.1 + 1, cs.2 + 6) G 7 Q s9.2 23 [(0, .ref b), (1, .ref (G.2.2 + 0)), (2, .ref (G.2.2 + 162)), (3, .ref (G.2.2 + 192)), (4, .int s9.1)] []) (kx0 : ∀ x9 : Mem, o = .inr (Sum.inl x9) → V E (cs.1 + 1, cs.2 + 6) G 7 Q x9 1643 [] []) (kr : ∀ x9 : Int32 × Mem, o = .inr (Sum.inr x9) → False) : V E cs G 7 Q M 1531 [(0, .ref b), (1, .ref (G.2.2 + 0)), (2, .ref (G.2.2 + 162)), (3, .ref (G.2.2 + 192)), (4, .int v4)] [] := by
  unfold j_law_1531_23 at h
  refine V_aload_n (n := 1) X d_law_1531 rfl rfl rfl ?_
  refine V_aload_n (n := 0) X d_law_1532 rfl rfl rfl ?_
  refine V_iload (n := 4) X d_law_1533 rfl rfl ?_
  refine V_iconst (v := 1) X d_law_1535 (by decide) rfl ?_
  refine V_iadd X d_law_1536 rfl ?_
  obtain ⟨hb, h⟩ := ifn h
  refine V_sld X hX hbl hbA hb d_law_1537 rfl ?_
  obtain ⟨x171, hx171, h⟩ := ob_s h
  refine V_ci (As := [.int (xs (v4 + (1 : Int32)).toNatClampNeg)]) X hz0 ml_Lw_198 yq_Top_again (c_Top_again E.2.1 G (xs (v4 + (1 : Int32)).toNatClampNeg) M x171 hx171 _ (Nat.le_refl _)) kd_0 rfl rfl (by omega) rfl (Nat.le_of_ble_eq_true rfl) d_law_1538 rfl (fun r9 M9 hq => ?_)
  rw [hq.1, hq.2]
  refine V_aload_n (n := 2) X d_law_1541 rfl rfl rfl ?_
  refine V_aload_n (n := 0) X d_law_1542 rfl rfl rfl ?_
  refine V_iload (n := 4) X d_law_1543 rfl rfl ?_
  refine V_iconst (v := 1) X d_law_1545 (by decide) rfl ?_
  refine V_iadd X d_law_1546 rfl ?_
  obtain ⟨hb, h⟩ := ifn h
  refine V_sld X hX hbl hbA hb d_law_1547 rfl ?_
  obtain ⟨x172, hx172, h⟩ := ob_s h
  refine V_ci (As := [.int (xs (v4 + (1 : Int32)).toNatClampNeg)]) X hz0 ml_Lw_201 yq_Mod_again (c_Mod_again E.2.1 G (xs (v4 + (1 : Int32)).toNatClampNeg) x171.2 x172 hx172 _ (Nat.le_refl _)) kd_162 rfl rfl (by omega) rfl (Nat.le_of_ble_eq_true rfl) d_law_1548 rfl (fun r9 M9 hq => ?_)
  rw [hq.1, hq.2]
  refine V_icmp_eq (tgt := 1637) X d_law_1551 (by decide) rfl (fun c173 => ?_) (fun c173 => ?_)
  · rw [if_pos c173] at h
    refine V_iinc (n := 4) (v := (v4 + (5 : Int32))) (lv' := [(4, .int (v4 + (5 : Int32))), (0, .ref b), (1, .ref (G.2.2 + 0)), (2, .ref (G.2.2 + 162)), (3, .ref (G.2.2 + 192))]) X d_law_1637 rfl rfl (by decide) rfl rfl ?_
    refine V_goto (pc' := 23) X d_law_1640 (by decide) ?_
    refine V_wid (cs' := (cs.1 + 1, cs.2 + 6)) ⟨Nat.le_succ _, Nat.le_add_right _ _⟩ ?_
    refine V_sub (lv' := [(0, .ref b), (1, .ref (G.2.2 + 0)), (2, .ref (G.2.2 + 162)), (3, .ref (G.2.2 + 192)), (4, .int (v4 + (5 : Int32)))]) [1, 2, 3, 4, 0] rfl ?_
    exact kc ((v4 + (5 : Int32)), x172.2) (Option.some.inj h).symm
  · rw [if_neg c173] at h
    refine V_iconst (v := 0) X d_law_1554 (by decide) rfl ?_
    exact (kr ((0 : Int32), x172.2) (Option.some.inj h).symm).elim
def j_law_1556_23 (L : Nat) (xs : Nat → Int32) (v4 : Int32) (M : Mem) : Option ((Int32 × Mem) ⊕ ((Mem) ⊕ (Int32 × Mem))) :=
  if inb (v4 + (1 : Int32)) L = true then
  Option.bind (f_Top_count (xs (v4 + (1 : Int32)).toNatClampNeg) M) fun x175 =>
  if inb (v4 + (1 : Int32)) L = true then
  Option.bind (f_Mod_count (xs (v4 + (1 : Int32)).toNatClampNeg) M) fun x176 =>
  if x175 = x176.1 then
  some (.inl ((v4 + (5 : Int32)), x176.2))
  else
  some (.inr (Sum.inr ((0 : Int32), x176.2)))
  else none
  else none
theorem j_law_1556_23_ok {E : Ev} {cs : Nat × Nat} {G : Gw} {d : Nat} {Q : State → Prop} {b L : Nat} {xs : Nat → Int32} (X : Cx E G code "WomenByTheRoofsLaw" 7 d ret) (hz0 : Zc E cs) (hz : Zc E (cs.1 + 1, cs.2 + 6)) (hT : Tw G E.2.2.2.2.1 E.2.2.2.2.1.heap) (hl9 : E.2.1.stackTraces = false) (hX : va_X b L xs E.2.2.2.2.1 E.2.2.2.2.1.heap) (hbl : b < E.2.2.2.2.1.heap.size) (hbA : ¬ G.2.2 ≤ b) (hD : 450 ≤ d)  (v4 : Int32)  (M : Mem)  (o : (Int32 × Mem) ⊕ ((Mem) ⊕ (Int32 × Mem))) (h : j_law_1556_23 L xs v4 M = some o) (kc : ∀ s9 : Int32 × Mem, o = .inl s9 → V E (cs.1 + 1, cs.2 + 6) G 7 Q s9.2 23 [(0, .ref b), (1, .ref (G.2.2 + 0)), (2, .ref (G.2.2 + 162)), (3, .ref (G.2.2 + 192)), (4, .int s9.1)] []) (kx0 : ∀ x9 : Mem, o = .inr (Sum.inl x9) → V E (cs.1 + 1, cs.2 + 6) G 7 Q x9 1643 [] []) (kr : ∀ x9 : Int32 × Mem, o = .inr (Sum.inr x9) → False) : V E cs G 7 Q M 1556 [(0, .ref b), (1, .ref (G.2.2 + 0)), (2, .ref (G.2.2 + 162)), (3, .ref (G.2.2 + 192)), (4, .int v4)] [] := by
  unfold j_law_1556_23 at h
  refine V_aload_n (n := 1) X d_law_1556 rfl rfl rfl ?_
  refine V_aload_n (n := 0) X d_law_1557 rfl rfl rfl ?_
  refine V_iload (n := 4) X d_law_1558 rfl rfl ?_
  refine V_iconst (v := 1) X d_law_1560 (by decide) rfl ?_
  refine V_iadd X d_law_1561 rfl ?_
  obtain ⟨hb, h⟩ := ifn h
  refine V_sld X hX hbl hbA hb d_law_1562 rfl ?_
  obtain ⟨x175, hx175, h⟩ := ob_s h
  refine V_ci (As := [.int (xs (v4 + (1 : Int32)).toNatClampNeg)]) X hz0 ml_Lw_202 yq_Top_count (c_Top_count E.2.1 G (xs (v4 + (1 : Int32)).toNatClampNeg) M x175 hx175 _ (Nat.le_refl _)) kd_0 rfl rfl (by omega) rfl (Nat.le_of_ble_eq_true rfl) d_law_1563 rfl (fun r9 M9 hq => ?_)
  rw [hq.1, hq.2]
  refine V_aload_n (n := 2) X d_law_1566 rfl rfl rfl ?_
  refine V_aload_n (n := 0) X d_law_1567 rfl rfl rfl ?_
  refine V_iload (n := 4) X d_law_1568 rfl rfl ?_
  refine V_iconst (v := 1) X d_law_1570 (by decide) rfl ?_
  refine V_iadd X d_law_1571 rfl ?_
  obtain ⟨hb, h⟩ := ifn h
  refine V_sld X hX hbl hbA hb d_law_1572 rfl ?_
  obtain ⟨x176, hx176, h⟩ := ob_s h
  refine V_ci (As := [.int (xs (v4 + (1 : Int32)).toNatClampNeg)]) X hz0 ml_Lw_205 yq_Mod_count (c_Mod_count E.2.1 G (xs (v4 + (1 : Int32)).toNatClampNeg) M x176 hx176 _ (Nat.le_refl _)) kd_162 rfl rfl (by omega) rfl (Nat.le_of_ble_eq_true rfl) d_law_1573 rfl (fun r9 M9 hq => ?_)
  rw [hq.1, hq.2]
  refine V_icmp_eq (tgt := 1637) X d_law_1576 (by decide) rfl (fun c177 => ?_) (fun c177 => ?_)
  · rw [if_pos c177] at h
    refine V_iinc (n := 4) (v := (v4 + (5 : Int32))) (lv' := [(4, .int (v4 + (5 : Int32))), (0, .ref b), (1, .ref (G.2.2 + 0)), (2, .ref (G.2.2 + 162)), (3, .ref (G.2.2 + 192))]) X d_law_1637 rfl rfl (by decide) rfl rfl ?_
    refine V_goto (pc' := 23) X d_law_1640 (by decide) ?_
    refine V_wid (cs' := (cs.1 + 1, cs.2 + 6)) ⟨Nat.le_succ _, Nat.le_add_right _ _⟩ ?_
    refine V_sub (lv' := [(0, .ref b), (1, .ref (G.2.2 + 0)), (2, .ref (G.2.2 + 162)), (3, .ref (G.2.2 + 192)), (4, .int (v4 + (5 : Int32)))]) [1, 2, 3, 4, 0] rfl ?_
    exact kc ((v4 + (5 : Int32)), x176.2) (Option.some.inj h).symm
  · rw [if_neg c177] at h
    refine V_iconst (v := 0) X d_law_1579 (by decide) rfl ?_
    exact (kr ((0 : Int32), x176.2) (Option.some.inj h).symm).elim
def j_law_1581_23 (L : Nat) (xs : Nat → Int32) (v4 : Int32) (M : Mem) : Option ((Int32 × Mem) ⊕ ((Mem) ⊕ (Int32 × Mem))) :=
  if inb (v4 + (1 : Int32)) L = true then
  Option.bind (f_Lw_row (xs (v4 + (1 : Int32)).toNatClampNeg) M) fun x179 =>
  if inb (v4 + (1 : Int32)) L = true then
  Option.bind (f_Mod_row (xs (v4 + (1 : Int32)).toNatClampNeg) x179.2) fun x180 =>
  Option.bind (f_Mod_thrown x180.2) fun x181 =>
  if x181 = x179.1 then
  if x179.1 = 0 then
  if (lg_cmp (x180.2.2.1 192 (0 : Int32).toNatClampNeg) x180.1.toInt64) = 0 then
  some (.inl ((v4 + (5 : Int32)), x180.2))
  else
  some (.inr (Sum.inr ((0 : Int32), x180.2)))
  else
  some (.inl ((v4 + (5 : Int32)), x180.2))
  else
  some (.inr (Sum.inr ((0 : Int32), x180.2)))
  else none
  else none
theorem j_law_1581_23_ok {E : Ev} {cs : Nat × Nat} {G : Gw} {d : Nat} {Q : State → Prop} {b L : Nat} {xs : Nat → Int32} (X : Cx E G code "WomenByTheRoofsLaw" 7 d ret) (hz0 : Zc E cs) (hz : Zc E (cs.1 + 1, cs.2 + 6)) (hT : Tw G E.2.2.2.2.1 E.2.2.2.2.1.heap) (hl9 : E.2.1.stackTraces = false) (hX : va_X b L xs E.2.2.2.2.1 E.2.2.2.2.1.heap) (hbl : b < E.2.2.2.2.1.heap.size) (hbA : ¬ G.2.2 ≤ b) (hD : 450 ≤ d)  (v4 : Int32)  (M : Mem)  (o : (Int32 × Mem) ⊕ ((Mem) ⊕ (Int32 × Mem))) (h : j_law_1581_23 L xs v4 M = some o) (kc : ∀ s9 : Int32 × Mem, o = .inl s9 → V E (cs.1 + 1, cs.2 + 6) G 7 Q s9.2 23 [(0, .ref b), (1, .ref (G.2.2 + 0)), (2, .ref (G.2.2 + 162)), (3, .ref (G.2.2 + 192)), (4, .int s9.1)] []) (kx0 : ∀ x9 : Mem, o = .inr (Sum.inl x9) → V E (cs.1 + 1, cs.2 + 6) G 7 Q x9 1643 [] []) (kr : ∀ x9 : Int32 × Mem, o = .inr (Sum.inr x9) → False) : V E cs G 7 Q M 1581 [(0, .ref b), (1, .ref (G.2.2 + 0)), (2, .ref (G.2.2 + 162)), (3, .ref (G.2.2 + 192)), (4, .int v4)] [] := by
  unfold j_law_1581_23 at h
  refine V_aload_n (n := 1) X d_law_1581 rfl rfl rfl ?_
  refine V_aload_n (n := 0) X d_law_1582 rfl rfl rfl ?_
  refine V_iload (n := 4) X d_law_1583 rfl rfl ?_
  refine V_iconst (v := 1) X d_law_1585 (by decide) rfl ?_
  refine V_iadd X d_law_1586 rfl ?_
  obtain ⟨hb, h⟩ := ifn h
  refine V_sld X hX hbl hbA hb d_law_1587 rfl ?_
  refine V_aload_n (n := 3) X d_law_1588 rfl rfl rfl ?_
  obtain ⟨x179, hx179, h⟩ := ob_s h
  refine V_sh (As := [.ref (G.2.2 + 0), .int (xs (v4 + (1 : Int32)).toNatClampNeg), .ref (G.2.2 + 192)]) X hT hz rfl mh_206 yh_Lw_row (by decide) (c_Lw_row E.2.1 hl9 G (xs (v4 + (1 : Int32)).toNatClampNeg) M x179 hx179 _ (Nat.le_refl _)) rfl (by omega) rfl (Nat.le_of_ble_eq_true rfl) d_law_1589 rfl (fun r9 M9 hq => ?_)
  rw [hq.1, hq.2]
  refine V_istore (lv' := [(5, .int x179.1), (0, .ref b), (1, .ref (G.2.2 + 0)), (2, .ref (G.2.2 + 162)), (3, .ref (G.2.2 + 192)), (4, .int v4)]) X d_law_1592 (by decide) rfl rfl ?_
  refine V_aload_n (n := 3) X d_law_1594 rfl rfl rfl ?_
  refine V_aload_n (n := 1) X d_law_1595 rfl rfl rfl ?_
  refine V_iload (n := 5) X d_law_1596 rfl rfl ?_
  refine V_iconst (v := 1) X d_law_1598 (by decide) rfl ?_
  refine V_iadd X d_law_1599 rfl ?_
  obtain ⟨hb, h⟩ := ifn h
  refine V_sld X hX hbl hbA hb d_law_1600 rfl ?_
  obtain ⟨x180, hx180, h⟩ := ob_s h
  refine V_ci (As := [.int (xs (v4 + (1 : Int32)).toNatClampNeg)]) X hz ml_Lw_209 yq_Mod_row (c_Mod_row E.2.1 G (xs (v4 + (1 : Int32)).toNatClampNeg) x179.2 x180 hx180 _ (Nat.le_refl _)) kd_162 rfl rfl (by omega) rfl (Nat.le_of_ble_eq_true rfl) d_law_1601 rfl (fun r9 M9 hq => ?_)
  rw [hq.1, hq.2]
  refine V_istore (lv' := [(6, .int x180.1), (5, .int x179.1), (0, .ref b), (1, .ref (G.2.2 + 0)), (2, .ref (G.2.2 + 162)), (3, .ref (G.2.2 + 192)), (4, .int v4)]) X d_law_1604 (by decide) rfl rfl ?_
  refine V_aload_n (n := 4) X d_law_1606 rfl rfl rfl ?_
  obtain ⟨x181, hx181, h⟩ := ob_s h
  refine V_ci (As := []) X hz ml_Lw_58 yq_Mod_thrown (c_Mod_thrown E.2.1 G  x180.2 x181 hx181 _ (Nat.le_refl _)) kd_162 rfl rfl (by omega) rfl (Nat.le_of_ble_eq_true rfl) d_law_1607 rfl (fun r9 M9 hq => ?_)
  rw [hq.1, hq.2]
  refine V_iload (n := 1) X d_law_1610 rfl rfl ?_
  refine V_icmp_eq (tgt := 1617) X d_law_1612 (by decide) rfl (fun c184 => ?_) (fun c184 => ?_)
  · rw [if_pos c184] at h
    refine V_iload (n := 1) X d_law_1617 rfl rfl ?_
    refine V_if_ne (tgt := 1634) X d_law_1619 (by decide) rfl (fun c183 => ?_) (fun c183 => ?_)
    · rw [if_neg c183] at h
      refine V_goto (pc' := 1637) X d_law_1634 (by decide) ?_
      refine V_iinc (n := 6) (v := (v4 + (5 : Int32))) (lv' := [(4, .int (v4 + (5 : Int32))), (6, .int x180.1), (5, .int x179.1), (0, .ref b), (1, .ref (G.2.2 + 0)), (2, .ref (G.2.2 + 162)), (3, .ref (G.2.2 + 192))]) X d_law_1637 rfl rfl (by decide) rfl rfl ?_
      refine V_goto (pc' := 23) X d_law_1640 (by decide) ?_
      refine V_sub (lv' := [(0, .ref b), (1, .ref (G.2.2 + 0)), (2, .ref (G.2.2 + 162)), (3, .ref (G.2.2 + 192)), (4, .int (v4 + (5 : Int32)))]) [3, 4, 5, 6, 0] rfl ?_
      exact kc ((v4 + (5 : Int32)), x180.2) (Option.some.inj h).symm
    · rw [if_pos c183] at h
      refine V_aload_n (n := 5) X d_law_1622 rfl rfl rfl ?_
      refine V_iconst (v := 0) X d_law_1623 (by decide) rfl ?_
      refine V_lald X kd_192 (inb_in ln_192 (by decide)) d_law_1624 rfl ?_
      refine V_iload (n := 0) X d_law_1625 rfl rfl ?_
      refine V_i2l X d_law_1627 rfl ?_
      refine V_lcmp X d_law_1628 rfl ?_
      refine V_if_eq (tgt := 1634) X d_law_1629 (by decide) rfl (fun c182 => ?_) (fun c182 => ?_)
      · rw [if_pos c182] at h
        refine V_goto (pc' := 1637) X d_law_1634 (by decide) ?_
        refine V_iinc (n := 6) (v := (v4 + (5 : Int32))) (lv' := [(4, .int (v4 + (5 : Int32))), (6, .int x180.1), (5, .int x179.1), (0, .ref b), (1, .ref (G.2.2 + 0)), (2, .ref (G.2.2 + 162)), (3, .ref (G.2.2 + 192))]) X d_law_1637 rfl rfl (by decide) rfl rfl ?_
        refine V_goto (pc' := 23) X d_law_1640 (by decide) ?_
        refine V_sub (lv' := [(0, .ref b), (1, .ref (G.2.2 + 0)), (2, .ref (G.2.2 + 162)), (3, .ref (G.2.2 + 192)), (4, .int (v4 + (5 : Int32)))]) [3, 4, 5, 6, 0] rfl ?_
        exact kc ((v4 + (5 : Int32)), x180.2) (Option.some.inj h).symm
      · rw [if_neg c182] at h
        refine V_iconst (v := 0) X d_law_1632 (by decide) rfl ?_
        exact (kr ((0 : Int32), x180.2) (Option.some.inj h).symm).elim
  · rw [if_neg c184] at h
    refine V_iconst (v := 0) X d_law_1615 (by decide) rfl ?_
    exact (kr ((0 : Int32), x180.2) (Option.some.inj h).symm).elim
def lb_law (L : Nat) (xs : Nat → Int32) (s : Int32 × Mem) : Option ((Int32 × Mem) ⊕ ((Mem) ⊕ (Int32 × Mem))) :=
  if ((Int32.ofNat L) - (5 : Int32)) < s.1 then
  some (.inr (Sum.inl s.2))
  else
  if inb s.1 L = true then
  if ((xs s.1.toNatClampNeg) &&& (63 : Int32)) = (0 : Int32) then
  j_law_228_23 L xs s.1 s.2
  else if ((xs s.1.toNatClampNeg) &&& (63 : Int32)) = (1 : Int32) then
  j_law_253_23 L xs s.1 s.2
  else if ((xs s.1.toNatClampNeg) &&& (63 : Int32)) = (2 : Int32) then
  j_law_278_23 L xs s.1 s.2
  else if ((xs s.1.toNatClampNeg) &&& (63 : Int32)) = (3 : Int32) then
  j_law_291_23 L xs s.1 s.2
  else if ((xs s.1.toNatClampNeg) &&& (63 : Int32)) = (4 : Int32) then
  j_law_304_23 L xs s.1 s.2
  else if ((xs s.1.toNatClampNeg) &&& (63 : Int32)) = (5 : Int32) then
  j_law_317_23 L xs s.1 s.2
  else if ((xs s.1.toNatClampNeg) &&& (63 : Int32)) = (6 : Int32) then
  j_law_342_23 L xs s.1 s.2
  else if ((xs s.1.toNatClampNeg) &&& (63 : Int32)) = (7 : Int32) then
  j_law_410_23 L xs s.1 s.2
  else if ((xs s.1.toNatClampNeg) &&& (63 : Int32)) = (8 : Int32) then
  j_law_478_23 L xs s.1 s.2
  else if ((xs s.1.toNatClampNeg) &&& (63 : Int32)) = (9 : Int32) then
  j_law_515_23 L xs s.1 s.2
  else if ((xs s.1.toNatClampNeg) &&& (63 : Int32)) = (10 : Int32) then
  j_law_552_23 L xs s.1 s.2
  else if ((xs s.1.toNatClampNeg) &&& (63 : Int32)) = (11 : Int32) then
  j_law_565_23 L xs s.1 s.2
  else if ((xs s.1.toNatClampNeg) &&& (63 : Int32)) = (12 : Int32) then
  j_law_626_23 L xs s.1 s.2
  else if ((xs s.1.toNatClampNeg) &&& (63 : Int32)) = (13 : Int32) then
  j_law_651_23 L xs s.1 s.2
  else if ((xs s.1.toNatClampNeg) &&& (63 : Int32)) = (14 : Int32) then
  j_law_676_23 L xs s.1 s.2
  else if ((xs s.1.toNatClampNeg) &&& (63 : Int32)) = (15 : Int32) then
  j_law_689_23 L xs s.1 s.2
  else if ((xs s.1.toNatClampNeg) &&& (63 : Int32)) = (16 : Int32) then
  j_law_714_23 L xs s.1 s.2
  else if ((xs s.1.toNatClampNeg) &&& (63 : Int32)) = (17 : Int32) then
  j_law_727_23 L xs s.1 s.2
  else if ((xs s.1.toNatClampNeg) &&& (63 : Int32)) = (18 : Int32) then
  j_law_740_23 L xs s.1 s.2
  else if ((xs s.1.toNatClampNeg) &&& (63 : Int32)) = (19 : Int32) then
  j_law_777_23 L xs s.1 s.2
  else if ((xs s.1.toNatClampNeg) &&& (63 : Int32)) = (20 : Int32) then
  j_law_802_23 L xs s.1 s.2
  else if ((xs s.1.toNatClampNeg) &&& (63 : Int32)) = (21 : Int32) then
  j_law_839_23 L xs s.1 s.2
  else if ((xs s.1.toNatClampNeg) &&& (63 : Int32)) = (22 : Int32) then
  j_law_852_23 L xs s.1 s.2
  else if ((xs s.1.toNatClampNeg) &&& (63 : Int32)) = (23 : Int32) then
  j_law_877_23 L xs s.1 s.2
  else if ((xs s.1.toNatClampNeg) &&& (63 : Int32)) = (24 : Int32) then
  j_law_902_23 L xs s.1 s.2
  else if ((xs s.1.toNatClampNeg) &&& (63 : Int32)) = (25 : Int32) then
  j_law_939_23 L xs s.1 s.2
  else if ((xs s.1.toNatClampNeg) &&& (63 : Int32)) = (26 : Int32) then
  j_law_988_23 L xs s.1 s.2
  else if ((xs s.1.toNatClampNeg) &&& (63 : Int32)) = (27 : Int32) then
  j_law_1049_23 L xs s.1 s.2
  else if ((xs s.1.toNatClampNeg) &&& (63 : Int32)) = (28 : Int32) then
  j_law_1086_23 L xs s.1 s.2
  else if ((xs s.1.toNatClampNeg) &&& (63 : Int32)) = (29 : Int32) then
  j_law_1123_23 L xs s.1 s.2
  else if ((xs s.1.toNatClampNeg) &&& (63 : Int32)) = (30 : Int32) then
  j_law_1160_23 L xs s.1 s.2
  else if ((xs s.1.toNatClampNeg) &&& (63 : Int32)) = (31 : Int32) then
  j_law_1197_23 L xs s.1 s.2
  else if ((xs s.1.toNatClampNeg) &&& (63 : Int32)) = (32 : Int32) then
  j_law_1234_23 L xs s.1 s.2
  else if ((xs s.1.toNatClampNeg) &&& (63 : Int32)) = (33 : Int32) then
  j_law_1259_23 L xs s.1 s.2
  else if ((xs s.1.toNatClampNeg) &&& (63 : Int32)) = (34 : Int32) then
  j_law_1284_23 L xs s.1 s.2
  else if ((xs s.1.toNatClampNeg) &&& (63 : Int32)) = (35 : Int32) then
  j_law_1297_23 L xs s.1 s.2
  else if ((xs s.1.toNatClampNeg) &&& (63 : Int32)) = (36 : Int32) then
  j_law_1334_23 L xs s.1 s.2
  else if ((xs s.1.toNatClampNeg) &&& (63 : Int32)) = (37 : Int32) then
  j_law_1383_23 L xs s.1 s.2
  else if ((xs s.1.toNatClampNeg) &&& (63 : Int32)) = (38 : Int32) then
  j_law_1408_23 L xs s.1 s.2
  else if ((xs s.1.toNatClampNeg) &&& (63 : Int32)) = (39 : Int32) then
  j_law_1445_23 L xs s.1 s.2
  else if ((xs s.1.toNatClampNeg) &&& (63 : Int32)) = (40 : Int32) then
  j_law_1506_23 L xs s.1 s.2
  else if ((xs s.1.toNatClampNeg) &&& (63 : Int32)) = (41 : Int32) then
  j_law_1531_23 L xs s.1 s.2
  else if ((xs s.1.toNatClampNeg) &&& (63 : Int32)) = (42 : Int32) then
  j_law_1556_23 L xs s.1 s.2
  else if ((xs s.1.toNatClampNeg) &&& (63 : Int32)) = (43 : Int32) then
  j_law_1581_23 L xs s.1 s.2
  else some (.inl ((s.1 + (5 : Int32)), s.2))
  else none
set_option maxRecDepth 20000 in
theorem lb_law_ok {E : Ev} {cs : Nat × Nat} {G : Gw} {d : Nat} {Q : State → Prop} {b L : Nat} {xs : Nat → Int32} (X : Cx E G code "WomenByTheRoofsLaw" 7 d ret) (hz0 : Zc E cs) (hz : Zc E (cs.1 + 1, cs.2 + 6)) (hT : Tw G E.2.2.2.2.1 E.2.2.2.2.1.heap) (hl9 : E.2.1.stackTraces = false) (hX : va_X b L xs E.2.2.2.2.1 E.2.2.2.2.1.heap) (hbl : b < E.2.2.2.2.1.heap.size) (hbA : ¬ G.2.2 ≤ b) (hD : 450 ≤ d) (s : Int32 × Mem) (o : (Int32 × Mem) ⊕ ((Mem) ⊕ (Int32 × Mem))) (h : lb_law L xs s = some o) (kc : ∀ s9 : Int32 × Mem, o = .inl s9 → V E (cs.1 + 1, cs.2 + 6) G 7 Q s9.2 23 [(0, .ref b), (1, .ref (G.2.2 + 0)), (2, .ref (G.2.2 + 162)), (3, .ref (G.2.2 + 192)), (4, .int s9.1)] []) (kx0 : ∀ x9 : Mem, o = .inr (Sum.inl x9) → V E (cs.1 + 1, cs.2 + 6) G 7 Q x9 1643 [] []) (kr : ∀ x9 : Int32 × Mem, o = .inr (Sum.inr x9) → False) : V E cs G 7 Q s.2 23 [(0, .ref b), (1, .ref (G.2.2 + 0)), (2, .ref (G.2.2 + 162)), (3, .ref (G.2.2 + 192)), (4, .int s.1)] [] := by
  unfold lb_law at h
  refine V_iload (n := 4) X d_law_23 rfl rfl ?_
  refine V_aload_n (n := 0) X d_law_25 rfl rfl rfl ?_
  refine V_slen X hX hbl hbA d_law_26 rfl ?_
  refine V_iconst (v := 5) X d_law_27 (by decide) rfl ?_
  refine V_isub X d_law_28 rfl ?_
  refine V_icmp_gt (tgt := 1643) X d_law_29 (by decide) rfl (fun c186 => ?_) (fun c186 => ?_)
  · rw [if_pos c186] at h
    refine V_wid (cs' := (cs.1 + 1, cs.2 + 6)) ⟨Nat.le_succ _, Nat.le_add_right _ _⟩ ?_
    refine V_sub (lv' := []) [] rfl ?_
    exact kx0 s.2 (Option.some.inj h).symm
  · rw [if_neg c186] at h
    refine V_aload_n (n := 0) X d_law_32 rfl rfl rfl ?_
    refine V_iload (n := 4) X d_law_33 rfl rfl ?_
    obtain ⟨hb, h⟩ := ifn h
    refine V_sld X hX hbl hbA hb d_law_35 rfl ?_
    refine V_bipush (v := 63) X d_law_36 (by decide) rfl ?_
    refine V_iand X d_law_38 rfl ?_
    by_cases c4 : ((xs s.1.toNatClampNeg) &&& (63 : Int32)) = (0 : Int32)
    · rw [if_pos c4] at h
      refine V_tbl (v := 0) (pc' := 228) (off := 189) X d_law_39 c4 (by decide) (by decide) (by decide +kernel) (by decide) ?_
      exact j_law_228_23_ok X hz0 hz hT hl9 hX hbl hbA hD s.1 s.2 _ h kc kx0 kr
    · rw [if_neg c4] at h
      by_cases c8 : ((xs s.1.toNatClampNeg) &&& (63 : Int32)) = (1 : Int32)
      · rw [if_pos c8] at h
        refine V_tbl (v := 1) (pc' := 253) (off := 214) X d_law_39 c8 (by decide) (by decide) (by decide +kernel) (by decide) ?_
        exact j_law_253_23_ok X hz0 hz hT hl9 hX hbl hbA hD s.1 s.2 _ h kc kx0 kr
      · rw [if_neg c8] at h
        by_cases c12 : ((xs s.1.toNatClampNeg) &&& (63 : Int32)) = (2 : Int32)
        · rw [if_pos c12] at h
          refine V_tbl (v := 2) (pc' := 278) (off := 239) X d_law_39 c12 (by decide) (by decide) (by decide +kernel) (by decide) ?_
          exact j_law_278_23_ok X hz0 hz hT hl9 hX hbl hbA hD s.1 s.2 _ h kc kx0 kr
        · rw [if_neg c12] at h
          by_cases c16 : ((xs s.1.toNatClampNeg) &&& (63 : Int32)) = (3 : Int32)
          · rw [if_pos c16] at h
            refine V_tbl (v := 3) (pc' := 291) (off := 252) X d_law_39 c16 (by decide) (by decide) (by decide +kernel) (by decide) ?_
            exact j_law_291_23_ok X hz0 hz hT hl9 hX hbl hbA hD s.1 s.2 _ h kc kx0 kr
          · rw [if_neg c16] at h
            by_cases c20 : ((xs s.1.toNatClampNeg) &&& (63 : Int32)) = (4 : Int32)
            · rw [if_pos c20] at h
              refine V_tbl (v := 4) (pc' := 304) (off := 265) X d_law_39 c20 (by decide) (by decide) (by decide +kernel) (by decide) ?_
              exact j_law_304_23_ok X hz0 hz hT hl9 hX hbl hbA hD s.1 s.2 _ h kc kx0 kr
            · rw [if_neg c20] at h
              by_cases c24 : ((xs s.1.toNatClampNeg) &&& (63 : Int32)) = (5 : Int32)
              · rw [if_pos c24] at h
                refine V_tbl (v := 5) (pc' := 317) (off := 278) X d_law_39 c24 (by decide) (by decide) (by decide +kernel) (by decide) ?_
                exact j_law_317_23_ok X hz0 hz hT hl9 hX hbl hbA hD s.1 s.2 _ h kc kx0 kr
              · rw [if_neg c24] at h
                by_cases c31 : ((xs s.1.toNatClampNeg) &&& (63 : Int32)) = (6 : Int32)
                · rw [if_pos c31] at h
                  refine V_tbl (v := 6) (pc' := 342) (off := 303) X d_law_39 c31 (by decide) (by decide) (by decide +kernel) (by decide) ?_
                  exact j_law_342_23_ok X hz0 hz hT hl9 hX hbl hbA hD s.1 s.2 _ h kc kx0 kr
                · rw [if_neg c31] at h
                  by_cases c38 : ((xs s.1.toNatClampNeg) &&& (63 : Int32)) = (7 : Int32)
                  · rw [if_pos c38] at h
                    refine V_tbl (v := 7) (pc' := 410) (off := 371) X d_law_39 c38 (by decide) (by decide) (by decide +kernel) (by decide) ?_
                    exact j_law_410_23_ok X hz0 hz hT hl9 hX hbl hbA hD s.1 s.2 _ h kc kx0 kr
                  · rw [if_neg c38] at h
                    by_cases c42 : ((xs s.1.toNatClampNeg) &&& (63 : Int32)) = (8 : Int32)
                    · rw [if_pos c42] at h
                      refine V_tbl (v := 8) (pc' := 478) (off := 439) X d_law_39 c42 (by decide) (by decide) (by decide +kernel) (by decide) ?_
                      exact j_law_478_23_ok X hz0 hz hT hl9 hX hbl hbA hD s.1 s.2 _ h kc kx0 kr
                    · rw [if_neg c42] at h
                      by_cases c46 : ((xs s.1.toNatClampNeg) &&& (63 : Int32)) = (9 : Int32)
                      · rw [if_pos c46] at h
                        refine V_tbl (v := 9) (pc' := 515) (off := 476) X d_law_39 c46 (by decide) (by decide) (by decide +kernel) (by decide) ?_
                        exact j_law_515_23_ok X hz0 hz hT hl9 hX hbl hbA hD s.1 s.2 _ h kc kx0 kr
                      · rw [if_neg c46] at h
                        by_cases c50 : ((xs s.1.toNatClampNeg) &&& (63 : Int32)) = (10 : Int32)
                        · rw [if_pos c50] at h
                          refine V_tbl (v := 10) (pc' := 552) (off := 513) X d_law_39 c50 (by decide) (by decide) (by decide +kernel) (by decide) ?_
                          exact j_law_552_23_ok X hz0 hz hT hl9 hX hbl hbA hD s.1 s.2 _ h kc kx0 kr
                        · rw [if_neg c50] at h
                          by_cases c54 : ((xs s.1.toNatClampNeg) &&& (63 : Int32)) = (11 : Int32)
                          · rw [if_pos c54] at h
                            refine V_tbl (v := 11) (pc' := 565) (off := 526) X d_law_39 c54 (by decide) (by decide) (by decide +kernel) (by decide) ?_
                            exact j_law_565_23_ok X hz0 hz hT hl9 hX hbl hbA hD s.1 s.2 _ h kc kx0 kr
                          · rw [if_neg c54] at h
                            by_cases c58 : ((xs s.1.toNatClampNeg) &&& (63 : Int32)) = (12 : Int32)
                            · rw [if_pos c58] at h
                              refine V_tbl (v := 12) (pc' := 626) (off := 587) X d_law_39 c58 (by decide) (by decide) (by decide +kernel) (by decide) ?_
                              exact j_law_626_23_ok X hz0 hz hT hl9 hX hbl hbA hD s.1 s.2 _ h kc kx0 kr
                            · rw [if_neg c58] at h
                              by_cases c62 : ((xs s.1.toNatClampNeg) &&& (63 : Int32)) = (13 : Int32)
                              · rw [if_pos c62] at h
                                refine V_tbl (v := 13) (pc' := 651) (off := 612) X d_law_39 c62 (by decide) (by decide) (by decide +kernel) (by decide) ?_
                                exact j_law_651_23_ok X hz0 hz hT hl9 hX hbl hbA hD s.1 s.2 _ h kc kx0 kr
                              · rw [if_neg c62] at h
                                by_cases c66 : ((xs s.1.toNatClampNeg) &&& (63 : Int32)) = (14 : Int32)
                                · rw [if_pos c66] at h
                                  refine V_tbl (v := 14) (pc' := 676) (off := 637) X d_law_39 c66 (by decide) (by decide) (by decide +kernel) (by decide) ?_
                                  exact j_law_676_23_ok X hz0 hz hT hl9 hX hbl hbA hD s.1 s.2 _ h kc kx0 kr
                                · rw [if_neg c66] at h
                                  by_cases c70 : ((xs s.1.toNatClampNeg) &&& (63 : Int32)) = (15 : Int32)
                                  · rw [if_pos c70] at h
                                    refine V_tbl (v := 15) (pc' := 689) (off := 650) X d_law_39 c70 (by decide) (by decide) (by decide +kernel) (by decide) ?_
                                    exact j_law_689_23_ok X hz0 hz hT hl9 hX hbl hbA hD s.1 s.2 _ h kc kx0 kr
                                  · rw [if_neg c70] at h
                                    by_cases c74 : ((xs s.1.toNatClampNeg) &&& (63 : Int32)) = (16 : Int32)
                                    · rw [if_pos c74] at h
                                      refine V_tbl (v := 16) (pc' := 714) (off := 675) X d_law_39 c74 (by decide) (by decide) (by decide +kernel) (by decide) ?_
                                      exact j_law_714_23_ok X hz0 hz hT hl9 hX hbl hbA hD s.1 s.2 _ h kc kx0 kr
                                    · rw [if_neg c74] at h
                                      by_cases c78 : ((xs s.1.toNatClampNeg) &&& (63 : Int32)) = (17 : Int32)
                                      · rw [if_pos c78] at h
                                        refine V_tbl (v := 17) (pc' := 727) (off := 688) X d_law_39 c78 (by decide) (by decide) (by decide +kernel) (by decide) ?_
                                        exact j_law_727_23_ok X hz0 hz hT hl9 hX hbl hbA hD s.1 s.2 _ h kc kx0 kr
                                      · rw [if_neg c78] at h
                                        by_cases c82 : ((xs s.1.toNatClampNeg) &&& (63 : Int32)) = (18 : Int32)
                                        · rw [if_pos c82] at h
                                          refine V_tbl (v := 18) (pc' := 740) (off := 701) X d_law_39 c82 (by decide) (by decide) (by decide +kernel) (by decide) ?_
                                          exact j_law_740_23_ok X hz0 hz hT hl9 hX hbl hbA hD s.1 s.2 _ h kc kx0 kr
                                        · rw [if_neg c82] at h
                                          by_cases c86 : ((xs s.1.toNatClampNeg) &&& (63 : Int32)) = (19 : Int32)
                                          · rw [if_pos c86] at h
                                            refine V_tbl (v := 19) (pc' := 777) (off := 738) X d_law_39 c86 (by decide) (by decide) (by decide +kernel) (by decide) ?_
                                            exact j_law_777_23_ok X hz0 hz hT hl9 hX hbl hbA hD s.1 s.2 _ h kc kx0 kr
                                          · rw [if_neg c86] at h
                                            by_cases c90 : ((xs s.1.toNatClampNeg) &&& (63 : Int32)) = (20 : Int32)
                                            · rw [if_pos c90] at h
                                              refine V_tbl (v := 20) (pc' := 802) (off := 763) X d_law_39 c90 (by decide) (by decide) (by decide +kernel) (by decide) ?_
                                              exact j_law_802_23_ok X hz0 hz hT hl9 hX hbl hbA hD s.1 s.2 _ h kc kx0 kr
                                            · rw [if_neg c90] at h
                                              by_cases c94 : ((xs s.1.toNatClampNeg) &&& (63 : Int32)) = (21 : Int32)
                                              · rw [if_pos c94] at h
                                                refine V_tbl (v := 21) (pc' := 839) (off := 800) X d_law_39 c94 (by decide) (by decide) (by decide +kernel) (by decide) ?_
                                                exact j_law_839_23_ok X hz0 hz hT hl9 hX hbl hbA hD s.1 s.2 _ h kc kx0 kr
                                              · rw [if_neg c94] at h
                                                by_cases c98 : ((xs s.1.toNatClampNeg) &&& (63 : Int32)) = (22 : Int32)
                                                · rw [if_pos c98] at h
                                                  refine V_tbl (v := 22) (pc' := 852) (off := 813) X d_law_39 c98 (by decide) (by decide) (by decide +kernel) (by decide) ?_
                                                  exact j_law_852_23_ok X hz0 hz hT hl9 hX hbl hbA hD s.1 s.2 _ h kc kx0 kr
                                                · rw [if_neg c98] at h
                                                  by_cases c102 : ((xs s.1.toNatClampNeg) &&& (63 : Int32)) = (23 : Int32)
                                                  · rw [if_pos c102] at h
                                                    refine V_tbl (v := 23) (pc' := 877) (off := 838) X d_law_39 c102 (by decide) (by decide) (by decide +kernel) (by decide) ?_
                                                    exact j_law_877_23_ok X hz0 hz hT hl9 hX hbl hbA hD s.1 s.2 _ h kc kx0 kr
                                                  · rw [if_neg c102] at h
                                                    by_cases c106 : ((xs s.1.toNatClampNeg) &&& (63 : Int32)) = (24 : Int32)
                                                    · rw [if_pos c106] at h
                                                      refine V_tbl (v := 24) (pc' := 902) (off := 863) X d_law_39 c106 (by decide) (by decide) (by decide +kernel) (by decide) ?_
                                                      exact j_law_902_23_ok X hz0 hz hT hl9 hX hbl hbA hD s.1 s.2 _ h kc kx0 kr
                                                    · rw [if_neg c106] at h
                                                      by_cases c110 : ((xs s.1.toNatClampNeg) &&& (63 : Int32)) = (25 : Int32)
                                                      · rw [if_pos c110] at h
                                                        refine V_tbl (v := 25) (pc' := 939) (off := 900) X d_law_39 c110 (by decide) (by decide) (by decide +kernel) (by decide) ?_
                                                        exact j_law_939_23_ok X hz0 hz hT hl9 hX hbl hbA hD s.1 s.2 _ h kc kx0 kr
                                                      · rw [if_neg c110] at h
                                                        by_cases c114 : ((xs s.1.toNatClampNeg) &&& (63 : Int32)) = (26 : Int32)
                                                        · rw [if_pos c114] at h
                                                          refine V_tbl (v := 26) (pc' := 988) (off := 949) X d_law_39 c114 (by decide) (by decide) (by decide +kernel) (by decide) ?_
                                                          exact j_law_988_23_ok X hz0 hz hT hl9 hX hbl hbA hD s.1 s.2 _ h kc kx0 kr
                                                        · rw [if_neg c114] at h
                                                          by_cases c118 : ((xs s.1.toNatClampNeg) &&& (63 : Int32)) = (27 : Int32)
                                                          · rw [if_pos c118] at h
                                                            refine V_tbl (v := 27) (pc' := 1049) (off := 1010) X d_law_39 c118 (by decide) (by decide) (by decide +kernel) (by decide) ?_
                                                            exact j_law_1049_23_ok X hz0 hz hT hl9 hX hbl hbA hD s.1 s.2 _ h kc kx0 kr
                                                          · rw [if_neg c118] at h
                                                            by_cases c122 : ((xs s.1.toNatClampNeg) &&& (63 : Int32)) = (28 : Int32)
                                                            · rw [if_pos c122] at h
                                                              refine V_tbl (v := 28) (pc' := 1086) (off := 1047) X d_law_39 c122 (by decide) (by decide) (by decide +kernel) (by decide) ?_
                                                              exact j_law_1086_23_ok X hz0 hz hT hl9 hX hbl hbA hD s.1 s.2 _ h kc kx0 kr
                                                            · rw [if_neg c122] at h
                                                              by_cases c126 : ((xs s.1.toNatClampNeg) &&& (63 : Int32)) = (29 : Int32)
                                                              · rw [if_pos c126] at h
                                                                refine V_tbl (v := 29) (pc' := 1123) (off := 1084) X d_law_39 c126 (by decide) (by decide) (by decide +kernel) (by decide) ?_
                                                                exact j_law_1123_23_ok X hz0 hz hT hl9 hX hbl hbA hD s.1 s.2 _ h kc kx0 kr
                                                              · rw [if_neg c126] at h
                                                                by_cases c130 : ((xs s.1.toNatClampNeg) &&& (63 : Int32)) = (30 : Int32)
                                                                · rw [if_pos c130] at h
                                                                  refine V_tbl (v := 30) (pc' := 1160) (off := 1121) X d_law_39 c130 (by decide) (by decide) (by decide +kernel) (by decide) ?_
                                                                  exact j_law_1160_23_ok X hz0 hz hT hl9 hX hbl hbA hD s.1 s.2 _ h kc kx0 kr
                                                                · rw [if_neg c130] at h
                                                                  by_cases c134 : ((xs s.1.toNatClampNeg) &&& (63 : Int32)) = (31 : Int32)
                                                                  · rw [if_pos c134] at h
                                                                    refine V_tbl (v := 31) (pc' := 1197) (off := 1158) X d_law_39 c134 (by decide) (by decide) (by decide +kernel) (by decide) ?_
                                                                    exact j_law_1197_23_ok X hz0 hz hT hl9 hX hbl hbA hD s.1 s.2 _ h kc kx0 kr
                                                                  · rw [if_neg c134] at h
                                                                    by_cases c138 : ((xs s.1.toNatClampNeg) &&& (63 : Int32)) = (32 : Int32)
                                                                    · rw [if_pos c138] at h
                                                                      refine V_tbl (v := 32) (pc' := 1234) (off := 1195) X d_law_39 c138 (by decide) (by decide) (by decide +kernel) (by decide) ?_
                                                                      exact j_law_1234_23_ok X hz0 hz hT hl9 hX hbl hbA hD s.1 s.2 _ h kc kx0 kr
                                                                    · rw [if_neg c138] at h
                                                                      by_cases c142 : ((xs s.1.toNatClampNeg) &&& (63 : Int32)) = (33 : Int32)
                                                                      · rw [if_pos c142] at h
                                                                        refine V_tbl (v := 33) (pc' := 1259) (off := 1220) X d_law_39 c142 (by decide) (by decide) (by decide +kernel) (by decide) ?_
                                                                        exact j_law_1259_23_ok X hz0 hz hT hl9 hX hbl hbA hD s.1 s.2 _ h kc kx0 kr
                                                                      · rw [if_neg c142] at h
                                                                        by_cases c146 : ((xs s.1.toNatClampNeg) &&& (63 : Int32)) = (34 : Int32)
                                                                        · rw [if_pos c146] at h
                                                                          refine V_tbl (v := 34) (pc' := 1284) (off := 1245) X d_law_39 c146 (by decide) (by decide) (by decide +kernel) (by decide) ?_
                                                                          exact j_law_1284_23_ok X hz0 hz hT hl9 hX hbl hbA hD s.1 s.2 _ h kc kx0 kr
                                                                        · rw [if_neg c146] at h
                                                                          by_cases c150 : ((xs s.1.toNatClampNeg) &&& (63 : Int32)) = (35 : Int32)
                                                                          · rw [if_pos c150] at h
                                                                            refine V_tbl (v := 35) (pc' := 1297) (off := 1258) X d_law_39 c150 (by decide) (by decide) (by decide +kernel) (by decide) ?_
                                                                            exact j_law_1297_23_ok X hz0 hz hT hl9 hX hbl hbA hD s.1 s.2 _ h kc kx0 kr
                                                                          · rw [if_neg c150] at h
                                                                            by_cases c154 : ((xs s.1.toNatClampNeg) &&& (63 : Int32)) = (36 : Int32)
                                                                            · rw [if_pos c154] at h
                                                                              refine V_tbl (v := 36) (pc' := 1334) (off := 1295) X d_law_39 c154 (by decide) (by decide) (by decide +kernel) (by decide) ?_
                                                                              exact j_law_1334_23_ok X hz0 hz hT hl9 hX hbl hbA hD s.1 s.2 _ h kc kx0 kr
                                                                            · rw [if_neg c154] at h
                                                                              by_cases c158 : ((xs s.1.toNatClampNeg) &&& (63 : Int32)) = (37 : Int32)
                                                                              · rw [if_pos c158] at h
                                                                                refine V_tbl (v := 37) (pc' := 1383) (off := 1344) X d_law_39 c158 (by decide) (by decide) (by decide +kernel) (by decide) ?_
                                                                                exact j_law_1383_23_ok X hz0 hz hT hl9 hX hbl hbA hD s.1 s.2 _ h kc kx0 kr
                                                                              · rw [if_neg c158] at h
                                                                                by_cases c162 : ((xs s.1.toNatClampNeg) &&& (63 : Int32)) = (38 : Int32)
                                                                                · rw [if_pos c162] at h
                                                                                  refine V_tbl (v := 38) (pc' := 1408) (off := 1369) X d_law_39 c162 (by decide) (by decide) (by decide +kernel) (by decide) ?_
                                                                                  exact j_law_1408_23_ok X hz0 hz hT hl9 hX hbl hbA hD s.1 s.2 _ h kc kx0 kr
                                                                                · rw [if_neg c162] at h
                                                                                  by_cases c166 : ((xs s.1.toNatClampNeg) &&& (63 : Int32)) = (39 : Int32)
                                                                                  · rw [if_pos c166] at h
                                                                                    refine V_tbl (v := 39) (pc' := 1445) (off := 1406) X d_law_39 c166 (by decide) (by decide) (by decide +kernel) (by decide) ?_
                                                                                    exact j_law_1445_23_ok X hz0 hz hT hl9 hX hbl hbA hD s.1 s.2 _ h kc kx0 kr
                                                                                  · rw [if_neg c166] at h
                                                                                    by_cases c170 : ((xs s.1.toNatClampNeg) &&& (63 : Int32)) = (40 : Int32)
                                                                                    · rw [if_pos c170] at h
                                                                                      refine V_tbl (v := 40) (pc' := 1506) (off := 1467) X d_law_39 c170 (by decide) (by decide) (by decide +kernel) (by decide) ?_
                                                                                      exact j_law_1506_23_ok X hz0 hz hT hl9 hX hbl hbA hD s.1 s.2 _ h kc kx0 kr
                                                                                    · rw [if_neg c170] at h
                                                                                      by_cases c174 : ((xs s.1.toNatClampNeg) &&& (63 : Int32)) = (41 : Int32)
                                                                                      · rw [if_pos c174] at h
                                                                                        refine V_tbl (v := 41) (pc' := 1531) (off := 1492) X d_law_39 c174 (by decide) (by decide) (by decide +kernel) (by decide) ?_
                                                                                        exact j_law_1531_23_ok X hz0 hz hT hl9 hX hbl hbA hD s.1 s.2 _ h kc kx0 kr
                                                                                      · rw [if_neg c174] at h
                                                                                        by_cases c178 : ((xs s.1.toNatClampNeg) &&& (63 : Int32)) = (42 : Int32)
                                                                                        · rw [if_pos c178] at h
                                                                                          refine V_tbl (v := 42) (pc' := 1556) (off := 1517) X d_law_39 c178 (by decide) (by decide) (by decide +kernel) (by decide) ?_
                                                                                          exact j_law_1556_23_ok X hz0 hz hT hl9 hX hbl hbA hD s.1 s.2 _ h kc kx0 kr
                                                                                        · rw [if_neg c178] at h
                                                                                          by_cases c185 : ((xs s.1.toNatClampNeg) &&& (63 : Int32)) = (43 : Int32)
                                                                                          · rw [if_pos c185] at h
                                                                                            refine V_tbl (v := 43) (pc' := 1581) (off := 1542) X d_law_39 c185 (by decide) (by decide) (by decide +kernel) (by decide) ?_
                                                                                            exact j_law_1581_23_ok X hz0 hz hT hl9 hX hbl hbA hD s.1 s.2 _ h kc kx0 kr
                                                                                          · rw [if_neg c185] at h
                                                                                            refine V_tableOut (pc' := 1637) X d_law_39 (by have g0 := neT c4 (z := 0) (by decide); have g1 := neT c8 (z := 1) (by decide); have g2 := neT c12 (z := 2) (by decide); have g3 := neT c16 (z := 3) (by decide); have g4 := neT c20 (z := 4) (by decide); have g5 := neT c24 (z := 5) (by decide); have g6 := neT c31 (z := 6) (by decide); have g7 := neT c38 (z := 7) (by decide); have g8 := neT c42 (z := 8) (by decide); have g9 := neT c46 (z := 9) (by decide); have g10 := neT c50 (z := 10) (by decide); have g11 := neT c54 (z := 11) (by decide); have g12 := neT c58 (z := 12) (by decide); have g13 := neT c62 (z := 13) (by decide); have g14 := neT c66 (z := 14) (by decide); have g15 := neT c70 (z := 15) (by decide); have g16 := neT c74 (z := 16) (by decide); have g17 := neT c78 (z := 17) (by decide); have g18 := neT c82 (z := 18) (by decide); have g19 := neT c86 (z := 19) (by decide); have g20 := neT c90 (z := 20) (by decide); have g21 := neT c94 (z := 21) (by decide); have g22 := neT c98 (z := 22) (by decide); have g23 := neT c102 (z := 23) (by decide); have g24 := neT c106 (z := 24) (by decide); have g25 := neT c110 (z := 25) (by decide); have g26 := neT c114 (z := 26) (by decide); have g27 := neT c118 (z := 27) (by decide); have g28 := neT c122 (z := 28) (by decide); have g29 := neT c126 (z := 29) (by decide); have g30 := neT c130 (z := 30) (by decide); have g31 := neT c134 (z := 31) (by decide); have g32 := neT c138 (z := 32) (by decide); have g33 := neT c142 (z := 33) (by decide); have g34 := neT c146 (z := 34) (by decide); have g35 := neT c150 (z := 35) (by decide); have g36 := neT c154 (z := 36) (by decide); have g37 := neT c158 (z := 37) (by decide); have g38 := neT c162 (z := 38) (by decide); have g39 := neT c166 (z := 39) (by decide); have g40 := neT c170 (z := 40) (by decide); have g41 := neT c174 (z := 41) (by decide); have g42 := neT c178 (z := 42) (by decide); have g43 := neT c185 (z := 43) (by decide); omega) (by decide) ?_
                                                                                            refine V_iinc (n := 4) (v := (s.1 + (5 : Int32))) (lv' := [(4, .int (s.1 + (5 : Int32))), (0, .ref b), (1, .ref (G.2.2 + 0)), (2, .ref (G.2.2 + 162)), (3, .ref (G.2.2 + 192))]) X d_law_1637 rfl rfl (by decide) rfl rfl ?_
                                                                                            refine V_goto (pc' := 23) X d_law_1640 (by decide) ?_
                                                                                            refine V_wid (cs' := (cs.1 + 1, cs.2 + 6)) ⟨Nat.le_succ _, Nat.le_add_right _ _⟩ ?_
                                                                                            refine V_sub (lv' := [(0, .ref b), (1, .ref (G.2.2 + 0)), (2, .ref (G.2.2 + 162)), (3, .ref (G.2.2 + 192)), (4, .int (s.1 + (5 : Int32)))]) [1, 2, 3, 4, 0] rfl ?_
                                                                                            exact kc ((s.1 + (5 : Int32)), s.2) (Option.some.inj h).symm
