section
/-! the reference's map: beside, nets, PLANKS, go, as they answer -/
def bes (w h c s : Int) : Int :=
  if 0 ≤ c % w + (if s = 1 then 1 else if s = 3 then -1 else 0) ∧ c % w + (if s = 1 then 1 else if s = 3 then -1 else 0) ≤ w - 1 ∧ 0 ≤ c / w + (if s = 2 then 1 else if s = 0 then -1 else 0) ∧ c / w + (if s = 2 then 1 else if s = 0 then -1 else 0) ≤ h - 1
  then w * (c / w + (if s = 2 then 1 else if s = 0 then -1 else 0)) + (c % w + (if s = 1 then 1 else if s = 3 then -1 else 0)) else -1
theorem some_of {α : Type} {o : Option α} {P : α → Prop} (h : ∃ r, o = some r ∧ P r) {x : α} (e : o = some x) : P x := by
  obtain ⟨r, e1, h1⟩ := h
  rw [e1] at e
  exact Option.some.inj e ▸ h1
theorem fs_beside {M : Mem} (h : J M) (c s : Int32) (hc : 0 ≤ c.toInt ∧ c.toInt ≤ 35) : ∃ r, f_Mod_beside c s M = some r ∧ r.toInt = bes (xw M) (xh M) c.toInt s.toInt := by
  have w := aw h
  have hh := ah h
  have hw0 : xw M = (M.1 162 2).toInt := rfl
  have hh0 : xh M = (M.1 162 3).toInt := rfl
  have wn : ¬ (M.1 162 2) = 0 := nz_of (by omega)
  have rm : (c - c / (M.1 162 2) * (M.1 162 2)).toInt = c.toInt % xw M := rem_ti rfl rfl hc.1 (by omega)
  have rr := rem_rng (a := c) (b := M.1 162 2) hc.1 (by omega)
  have dv : (c / (M.1 162 2)).toInt = c.toInt / xw M := div_ti rfl rfl hc.1 (by omega)
  have dr := div_rng (a := c) (b := M.1 162 2) hc.1 (by omega)
  have k51 : ∀ (v3 w0 : Int32) (x y : Int), v3.toInt = x → w0.toInt = y → (-1 ≤ y ∧ y ≤ 1) → ∃ r, j_Mod_beside_51 v3 w0 (c / (M.1 162 2)) M = some r ∧ r.toInt = if 0 ≤ x ∧ x ≤ xw M - 1 ∧ 0 ≤ c.toInt / xw M + y ∧ c.toInt / xw M + y ≤ xh M - 1 then xw M * (c.toInt / xw M + y) + x else -1 := by
    intro v3 w0 x y ex ey hy
    have e1 : ((M.1 162 2) - (1 : Int32)).toInt = xw M - 1 := sub_ti rfl rfl (by omega) (by omega)
    have e2 : ((M.1 162 3) - (1 : Int32)).toInt = xh M - 1 := sub_ti rfl rfl (by omega) (by omega)
    have e3 : ((c / (M.1 162 2)) + w0).toInt = c.toInt / xw M + y := add_ti dv ey (by rw [← dv]; omega) (by rw [← dv]; omega)
    have z : (0 : Int32).toInt = 0 := rfl
    unfold j_Mod_beside_51
    refine bind_i (sp_in v3 0 _) (fun x1 _ q => ?_)
    rw [e1, z, ex] at q
    rcases q with ⟨rfl, q1, q2⟩ | ⟨rfl, q⟩
    · refine if_i (fun c => absurd c (by decide)) (fun _ => ?_)
      refine bind_i (sp_in _ 0 _) (fun x2 _ q => ?_)
      rw [e2, e3, z] at q
      rcases q with ⟨rfl, q3, q4⟩ | ⟨rfl, q⟩
      · refine if_i (fun c => absurd c (by decide)) (fun _ => ⟨_, rfl, ?_⟩)
        rw [if_pos ⟨q1, q2, q3, q4⟩]
        have hm : 0 ≤ xw M * (c.toInt / xw M + y) ∧ xw M * (c.toInt / xw M + y) ≤ 36 := by
          have hy : c.toInt / xw M + y = 0 ∨ c.toInt / xw M + y = 1 ∨ c.toInt / xw M + y = 2 ∨ c.toInt / xw M + y = 3 ∨ c.toInt / xw M + y = 4 ∨ c.toInt / xw M + y = 5 := by omega
          rcases hy with e | e | e | e | e | e <;> rw [e] <;> omega
        have m1 : ((M.1 162 2) * ((c / (M.1 162 2)) + w0)).toInt = xw M * (c.toInt / xw M + y) := mul_ti rfl e3 (by omega) (by omega)
        exact add_ti m1 ex (by omega) (by omega)
      · refine if_i (fun _ => ⟨_, rfl, ?_⟩) (fun c => absurd rfl c)
        rw [if_neg (fun e => q ⟨e.2.2.1, e.2.2.2⟩)]; rfl
    · refine if_i (fun _ => ⟨_, rfl, ?_⟩) (fun c => absurd rfl c)
      rw [if_neg (fun e => q ⟨e.1, e.2.1⟩)]; rfl
  have k25 : ∀ (w0 : Int32) (x : Int), w0.toInt = x → (-1 ≤ x ∧ x ≤ 1) → ∃ r, j_Mod_beside_25 c s w0 (c - c / (M.1 162 2) * (M.1 162 2)) M = some r ∧ r.toInt = if 0 ≤ c.toInt % xw M + x ∧ c.toInt % xw M + x ≤ xw M - 1 ∧ 0 ≤ c.toInt / xw M + (if s.toInt = 2 then 1 else if s.toInt = 0 then -1 else 0) ∧ c.toInt / xw M + (if s.toInt = 2 then 1 else if s.toInt = 0 then -1 else 0) ≤ xh M - 1 then xw M * (c.toInt / xw M + (if s.toInt = 2 then 1 else if s.toInt = 0 then -1 else 0)) + (c.toInt % xw M + x) else -1 := by
    intro w0 x ex hx
    have e1 : ((c - c / (M.1 162 2) * (M.1 162 2)) + w0).toInt = c.toInt % xw M + x := add_ti rm ex (by rw [← rm]; omega) (by rw [← rm]; omega)
    unfold j_Mod_beside_25
    refine z_i wn (if_i (fun e => ?_) (fun e => if_i (fun e' => ?_) (fun e' => ?_)))
    · have d : s.toInt = 2 := eqi.mp e
      rw [if_pos d]
      exact k51 _ 1 _ 1 e1 rfl (by omega)
    · have d : ¬ s.toInt = 2 := neqi.mp e
      have d' : s.toInt = 0 := eqi.mp e'
      rw [if_neg d, if_pos d']
      exact k51 _ (-1) _ (-1) e1 rfl (by omega)
    · have d : ¬ s.toInt = 2 := neqi.mp e
      have d' : ¬ s.toInt = 0 := neqi.mp e'
      rw [if_neg d, if_neg d']
      exact k51 _ 0 _ 0 e1 rfl (by omega)
  unfold f_Mod_beside bes
  refine z_i wn (if_i (fun e => ?_) (fun e => if_i (fun e' => ?_) (fun e' => ?_)))
  · have d : s.toInt = 1 := eqi.mp e
    rw [if_pos d]
    exact k25 1 1 rfl (by omega)
  · have d : ¬ s.toInt = 1 := neqi.mp e
    have d' : s.toInt = 3 := eqi.mp e'
    rw [if_neg d, if_pos d']
    exact k25 (-1) (-1) rfl (by omega)
  · have d : ¬ s.toInt = 1 := neqi.mp e
    have d' : ¬ s.toInt = 3 := neqi.mp e'
    rw [if_neg d, if_neg d']
    exact k25 0 0 rfl (by omega)
def opp (s : Int) : Int := if s = 0 then 2 else if s = 1 then 3 else if s = 2 then 0 else if s = 3 then 1 else s
def besT : Bool := (List.range 6).all fun w => (List.range 6).all fun h => (List.range 36).all fun c => (List.range 4).all fun s =>
  (((c : Int) < ((w : Int) + 1) * ((h : Int) + 1)) → bes (w + 1) (h + 1) c s ≠ -1 → (0 ≤ bes (w + 1) (h + 1) c s ∧ bes (w + 1) (h + 1) c s < ((w : Int) + 1) * ((h : Int) + 1) ∧ bes (w + 1) (h + 1) (bes (w + 1) (h + 1) c s) (opp s) = c) : Bool)
theorem besT_t : besT = true := by decide +kernel
theorem bes_sym {w h c s : Int} (hw : 1 ≤ w ∧ w ≤ 6) (hh : 1 ≤ h ∧ h ≤ 6) (hc : 0 ≤ c) (hc2 : c < w * h) (hs : 0 ≤ s ∧ s ≤ 3) (hn : bes w h c s ≠ -1) : 0 ≤ bes w h c s ∧ bes w h c s < w * h ∧ bes w h (bes w h c s) (opp s) = c := by
  have h36 := (mul66 hw.1 hw.2 hh.1 hh.2).2
  have t := besT_t
  unfold besT at t
  rw [List.all_eq_true] at t
  have t1 := t (w.toNat - 1) (List.mem_range.mpr (by omega))
  rw [List.all_eq_true] at t1
  have t2 := t1 (h.toNat - 1) (List.mem_range.mpr (by omega))
  rw [List.all_eq_true] at t2
  have t3 := t2 c.toNat (List.mem_range.mpr (by omega))
  rw [List.all_eq_true] at t3
  have t4 := of_decide_eq_true (t3 s.toNat (List.mem_range.mpr (by omega)))
  have ew : (((w.toNat - 1 : Nat) : Int) + 1) = w := by omega
  have eh : (((h.toNat - 1 : Nat) : Int) + 1) = h := by omega
  have ec : ((c.toNat : Nat) : Int) = c := by omega
  have es : ((s.toNat : Nat) : Int) = s := by omega
  rw [ew, eh, ec, es] at t4
  exact t4 hc2 hn
theorem sf_Mod_beside (v1 : Int32) (v2 : Int32) (M : Mem) (hp_v1 : (-1 : Int) ≤ v1.toInt ∧ v1.toInt ≤ (35 : Int)) (hJ : J M) : ∃ r : Int32, f_Mod_beside v1 v2 M = some r ∧ ((-1 : Int) ≤ r.toInt ∧ r.toInt ≤ (35 : Int)) := by
  have w := aw hJ
  have hh := ah hJ
  have wn : ¬ (M.1 162 2) = 0 := nz_of (by have : xw M = (M.1 162 2).toInt := rfl; omega)
  have k51 : ∀ (v3 w0 w1 : Int32), ∃ r : Int32, j_Mod_beside_51 v3 w0 w1 M = some r ∧ ((-1 : Int) ≤ r.toInt ∧ r.toInt ≤ (35 : Int)) := by
    intro v3 w0 w1
    unfold j_Mod_beside_51
    have e1 : ((M.1 162 2) - (1 : Int32)).toInt = xw M - 1 := sub_ti rfl rfl (by show _ ≤ xw M - 1; omega) (by show xw M - 1 ≤ _; omega)
    have e2 : ((M.1 162 3) - (1 : Int32)).toInt = xh M - 1 := sub_ti rfl rfl (by show _ ≤ xh M - 1; omega) (by show xh M - 1 ≤ _; omega)
    have z : (0 : Int32).toInt = 0 := rfl
    have n1 : (-1 : Int32).toInt = -1 := rfl
    refine bind_i (sp_in v3 0 _) (fun x1 _ q => ?_)
    rcases q with ⟨rfl, q1, q2⟩ | ⟨rfl, q⟩
    · refine if_i (fun c => absurd c (by decide)) (fun _ => ?_)
      refine bind_i (sp_in (w1 + w0) 0 _) (fun x2 _ q => ?_)
      rcases q with ⟨rfl, q3, q4⟩ | ⟨rfl, q⟩
      · refine if_i (fun c => absurd c (by decide)) (fun _ => ⟨_, rfl, ?_⟩)
        have hy : (w1 + w0).toInt = 0 ∨ (w1 + w0).toInt = 1 ∨ (w1 + w0).toInt = 2 ∨ (w1 + w0).toInt = 3 ∨ (w1 + w0).toInt = 4 ∨ (w1 + w0).toInt = 5 := by omega
        have hm : 0 ≤ xw M * (w1 + w0).toInt ∧ xw M * (w1 + w0).toInt + v3.toInt ≤ 35 := by
          rcases hy with e | e | e | e | e | e <;> rw [e] <;> omega
        have m1 : ((M.1 162 2) * (w1 + w0)).toInt = xw M * (w1 + w0).toInt := mul_ti rfl rfl (by show _ ≤ xw M * _; omega) (by show xw M * _ ≤ _; omega)
        rw [add_ti m1 rfl (by omega) (by omega)]
        omega
      · exact if_i (fun _ => ⟨_, rfl, by omega⟩) (fun c => absurd rfl c)
    · exact if_i (fun _ => ⟨_, rfl, by omega⟩) (fun c => absurd rfl c)
  have k25 : ∀ (w0 w1 : Int32), ∃ r : Int32, j_Mod_beside_25 v1 v2 w0 w1 M = some r ∧ ((-1 : Int) ≤ r.toInt ∧ r.toInt ≤ (35 : Int)) := by
    intro w0 w1
    unfold j_Mod_beside_25
    exact z_i wn (if_i (fun _ => k51 _ _ _) (fun _ => if_i (fun _ => k51 _ _ _) (fun _ => k51 _ _ _)))
  unfold f_Mod_beside
  exact z_i wn (if_i (fun _ => k25 _ _) (fun _ => if_i (fun _ => k25 _ _) (fun _ => k25 _ _)))
/-! the reference's nets: who is of a net, PLANKS, go -/
def onN (M : Mem) (l c : Int) : Prop := 0 ≤ c ∧ c < xw M * xh M ∧ (if l = 0 then (M.1 164 c.toNat).toInt = 1 ∨ (M.1 164 c.toNat).toInt = 3 else (M.1 164 c.toNat).toInt = 2 ∨ (M.1 164 c.toNat).toInt = 3)
theorem fs_isOf {M : Mem} (h : J M) (l c : Int32) : ∃ r, f_Mod_isOf l c M = some r ∧ ((r = 1 ∧ onN M l.toInt c.toInt) ∨ (r = 0 ∧ ¬ onN M l.toInt c.toInt)) := by
  have k1 : (1 : Int32).toInt = 1 := rfl
  have k2 : (2 : Int32).toInt = 2 := rfl
  have k3 : (3 : Int32).toInt = 3 := rfl
  unfold f_Mod_isOf
  refine bind_i (sp_isCell h c) (fun x _ q => ?_)
  rcases q with ⟨rfl, q1, q2, q3⟩ | ⟨rfl, q⟩
  · refine if_i (fun c => absurd c (by decide)) (fun _ => ?_)
    refine if_i (fun e => ?_) (fun e => ?_)
    · have d : l.toInt = 0 := eqi.mp e
      refine inb_i q1 (by omega) (if_i (fun e => ⟨_, rfl, .inl ⟨rfl, q1, q3, ?_⟩⟩) (fun e1 => inb_i q1 (by omega) (if_i (fun e => ⟨_, rfl, .inl ⟨rfl, q1, q3, ?_⟩⟩) (fun e2 => ⟨_, rfl, .inr ⟨rfl, fun w => ?_⟩⟩))))
      · rw [if_pos d]; exact .inl ((eqi.mp e).trans k1)
      · rw [if_pos d]; exact .inr ((eqi.mp e).trans k3)
      · have w3 := w.2.2
        rw [if_pos d] at w3
        rcases w3 with w3 | w3
        · exact neqi.mp e1 (w3.trans k1.symm)
        · exact neqi.mp e2 (w3.trans k3.symm)
    · have d : ¬ l.toInt = 0 := neqi.mp e
      refine inb_i q1 (by omega) (if_i (fun e => ⟨_, rfl, .inl ⟨rfl, q1, q3, ?_⟩⟩) (fun e1 => inb_i q1 (by omega) (if_i (fun e => ⟨_, rfl, .inl ⟨rfl, q1, q3, ?_⟩⟩) (fun e2 => ⟨_, rfl, .inr ⟨rfl, fun w => ?_⟩⟩))))
      · rw [if_neg d]; exact .inl ((eqi.mp e).trans k2)
      · rw [if_neg d]; exact .inr ((eqi.mp e).trans k3)
      · have w3 := w.2.2
        rw [if_neg d] at w3
        rcases w3 with w3 | w3
        · exact neqi.mp e1 (w3.trans k2.symm)
        · exact neqi.mp e2 (w3.trans k3.symm)
  · exact if_i (fun _ => ⟨_, rfl, .inr ⟨rfl, fun w => q ⟨w.1, w.2.1⟩⟩⟩) (fun c => absurd rfl c)
def plkA (M : Mem) (k : Nat) (a b : Int) (j : Nat) : Prop := ((M.1 k (80 + 2 * j)).toInt = a ∧ (M.1 k (81 + 2 * j)).toInt = b) ∨ ((M.1 k (80 + 2 * j)).toInt = b ∧ (M.1 k (81 + 2 * j)).toInt = a)
def plk (M : Mem) (k : Nat) (a b : Int) : Prop := ∃ j : Nat, (j : Int) < (M.1 k 92).toInt ∧ plkA M k a b j
theorem plk_sym {M : Mem} {k : Nat} {a b : Int} (h : plk M k a b) : plk M k b a := by
  obtain ⟨j, h1, h2⟩ := h
  exact ⟨j, h1, h2.elim .inr .inl⟩
theorem fs_isPlank {M : Mem} (h : J M) (k : Nat) (hs : St k) (a b : Int32) : ∃ r, f_Mod_isPlank k a b M = some r ∧ ((r = 1 ∧ plk M k a.toInt b.toInt) ∨ (r = 0 ∧ ¬ plk M k a.toInt b.toInt)) := by
  have l := St_ln hs
  have p : (0 : Int) ≤ (M.1 k 92).toInt ∧ (M.1 k 92).toInt ≤ 6 := Jst92 h hs
  have hl : ∃ x, iter (lb_Mod_isPlank_2 k a b M) FU (0 : Int32) = some x ∧ SQ (fun _ : Unit => ¬ plk M k a.toInt b.toInt) (fun _ : Unit => plk M k a.toInt b.toInt) x := by
    refine iter_r (fun s : Int32 => 0 ≤ s.toInt ∧ s.toInt ≤ 6 ∧ ∀ j : Nat, (j : Int) < s.toInt → ¬ plkA M k a.toInt b.toInt j) (fun s : Int32 => (6 - s.toInt).toNat) _ ?_ FU _ ⟨by decide, by decide, fun j hj => absurd hj (by have z : (0 : Int32).toInt = 0 := rfl; omega)⟩ (by show (6 - (0 : Int)).toNat < FU; rw [FU_v]; decide)
    rintro s ⟨i1, i2, i3⟩
    unfold lb_Mod_isPlank_2
    refine c_i (inb_st hs (by decide)) ?_
    refine if_i (fun c => ⟨_, rfl, ?_⟩) (fun c => ?_)
    · have d : (M.1 k 92).toInt ≤ s.toInt := lei.mp c
      rintro ⟨j, h1, h2⟩
      exact i3 j (by omega) h2
    have d : s.toInt < (M.1 k 92).toInt := nlei.mp c
    have m1 : ((2 : Int32) * s).toInt = 2 * s.toInt := mul_ti rfl rfl (by omega) (by omega)
    have m2 : ((80 : Int32) + ((2 : Int32) * s)).toInt = 80 + 2 * s.toInt := add_ti rfl m1 (by omega) (by omega)
    have m3 : (((80 : Int32) + ((2 : Int32) * s)) + (1 : Int32)).toInt = 80 + 2 * s.toInt + 1 := add_ti m2 rfl (by omega) (by omega)
    have t2 : ((80 : Int32) + ((2 : Int32) * s)).toNatClampNeg = 80 + 2 * s.toInt.toNat := by rw [tcn', m2]; omega
    have t3 : (((80 : Int32) + ((2 : Int32) * s)) + (1 : Int32)).toNatClampNeg = 81 + 2 * s.toInt.toNat := by rw [tcn', m3]; omega
    have es : (s + (1 : Int32)).toInt = s.toInt + 1 := add_ti rfl rfl (by omega) (by omega)
    refine inb_i (by omega) (by rw [l]; omega) (inb_i (by omega) (by rw [l]; omega) ?_)
    rw [t2, t3]
    have no : ¬ plkA M k a.toInt b.toInt s.toInt.toNat → LPq (fun s : Int32 => 0 ≤ s.toInt ∧ s.toInt ≤ 6 ∧ ∀ j : Nat, (j : Int) < s.toInt → ¬ plkA M k a.toInt b.toInt j) (fun s : Int32 => (6 - s.toInt).toNat) (SQ (fun _ : Unit => ¬ plk M k a.toInt b.toInt) (fun _ : Unit => plk M k a.toInt b.toInt)) (6 - s.toInt).toNat (.inl (s + (1 : Int32))) := by
      intro hn
      refine ⟨⟨by omega, by omega, fun j hj => ?_⟩, ?_⟩
      · by_cases e : (j : Int) < s.toInt
        · exact i3 j e
        · have : j = s.toInt.toNat := by omega
          rw [this]; exact hn
      · show (6 - (s + (1 : Int32)).toInt).toNat < (6 - s.toInt).toNat; omega
    have yes : plkA M k a.toInt b.toInt s.toInt.toNat → plk M k a.toInt b.toInt := fun w => ⟨s.toInt.toNat, by omega, w⟩
    have k44 : ¬ ((M.1 k (80 + 2 * s.toInt.toNat)).toInt = a.toInt ∧ (M.1 k (81 + 2 * s.toInt.toNat)).toInt = b.toInt) → ∃ r, j_Mod_isPlank_44_2 k a b s (M.1 k (80 + 2 * s.toInt.toNat)) (M.1 k (81 + 2 * s.toInt.toNat)) M = some r ∧ LPq (fun s : Int32 => 0 ≤ s.toInt ∧ s.toInt ≤ 6 ∧ ∀ j : Nat, (j : Int) < s.toInt → ¬ plkA M k a.toInt b.toInt j) (fun s : Int32 => (6 - s.toInt).toNat) (SQ (fun _ : Unit => ¬ plk M k a.toInt b.toInt) (fun _ : Unit => plk M k a.toInt b.toInt)) (6 - s.toInt).toNat r := by
      intro hn
      unfold j_Mod_isPlank_44_2
      refine if_i (fun e => if_i (fun e' => ⟨_, rfl, yes (.inr ⟨eqi.mp e, eqi.mp e'⟩)⟩) (fun e' => ⟨_, rfl, no ?_⟩)) (fun e => ⟨_, rfl, no ?_⟩)
      · rintro (w | w)
        · exact hn w
        · exact neqi.mp e' w.2
      · rintro (w | w)
        · exact hn w
        · exact neqi.mp e w.1
    refine if_i (fun e => if_i (fun e' => ⟨_, rfl, yes (.inl ⟨eqi.mp e, eqi.mp e'⟩)⟩) (fun e' => k44 (fun w => neqi.mp e' w.2))) (fun e => k44 (fun w => neqi.mp e w.1))
  unfold f_Mod_isPlank
  refine c_i (St_kd hs) (bind_i hl (fun x _ q => ?_))
  rcases x with y | y
  · exact ⟨_, rfl, .inr ⟨rfl, q⟩⟩
  · exact ⟨_, rfl, .inl ⟨rfl, q⟩⟩
/-- go: from a place by a step to n (-1: one can't) -/
def goR (M : Mem) (k : Nat) (p s n : Int) : Prop :=
  (s = 4 ∧ n = p) ∨ (s ≠ 4 ∧ (
    (bes (xw M) (xh M) (p % 36) s = -1 ∧ n = -1) ∨
    (bes (xw M) (xh M) (p % 36) s ≠ -1 ∧ onN M (p / 36) (bes (xw M) (xh M) (p % 36) s) ∧ n = 36 * (p / 36) + bes (xw M) (xh M) (p % 36) s) ∨
    (bes (xw M) (xh M) (p % 36) s ≠ -1 ∧ ¬ onN M (p / 36) (bes (xw M) (xh M) (p % 36) s) ∧ p / 36 = 0 ∧ n = -1) ∨
    (bes (xw M) (xh M) (p % 36) s ≠ -1 ∧ ¬ onN M (p / 36) (bes (xw M) (xh M) (p % 36) s) ∧ p / 36 ≠ 0 ∧ bes (xw M) (xh M) (bes (xw M) (xh M) (p % 36) s) s ≠ -1 ∧ plk M k (p % 36) (bes (xw M) (xh M) (bes (xw M) (xh M) (p % 36) s) s) ∧ n = 36 + bes (xw M) (xh M) (bes (xw M) (xh M) (p % 36) s) s) ∨
    (bes (xw M) (xh M) (p % 36) s ≠ -1 ∧ ¬ onN M (p / 36) (bes (xw M) (xh M) (p % 36) s) ∧ p / 36 ≠ 0 ∧ ¬ (bes (xw M) (xh M) (bes (xw M) (xh M) (p % 36) s) s ≠ -1 ∧ plk M k (p % 36) (bes (xw M) (xh M) (bes (xw M) (xh M) (p % 36) s) s)) ∧ n = -1)))
theorem fs_go {M : Mem} (h : J M) (k : Nat) (hs : St k) (p s : Int32) (hp : 0 ≤ p.toInt ∧ p.toInt ≤ 71) : ∃ r, f_Mod_go k p s M = some r ∧ (goR M k p.toInt s.toInt r.toInt ∧ -1 ≤ r.toInt ∧ r.toInt ≤ 71) := by
  have n1 : (-1 : Int32).toInt = -1 := rfl
  have c4 : (4 : Int32).toInt = 4 := rfl
  have rm : (p - p / (36 : Int32) * (36 : Int32)).toInt = p.toInt % 36 := rem_ti rfl rfl hp.1 (by decide)
  have dv : (p / (36 : Int32)).toInt = p.toInt / 36 := div_ti rfl rfl hp.1 (by decide)
  unfold f_Mod_go f_Mod_levelOf f_Mod_cellOf f_Mod_placeOf
  refine c_i (St_kd hs) (if_i (fun e => ⟨_, rfl, .inl ⟨(eqi.mp e).trans c4, rfl⟩, by omega, by omega⟩) (fun e => ?_))
  have s4 : s.toInt ≠ 4 := fun w => neqi.mp e (w.trans c4.symm)
  rw [Option.bind_some, Option.bind_some]
  obtain ⟨x3, e3, q3⟩ := fs_beside h (p - p / (36 : Int32) * (36 : Int32)) s (by rw [rm]; omega)
  rw [rm] at q3
  have g3 := some_of (sf_Mod_beside _ s M (by rw [rm]; omega) h) e3
  refine bind_e e3 ?_
  refine if_i (fun e => ⟨_, rfl, .inr ⟨s4, .inl ⟨by rw [← q3]; exact eqi.mp e, n1⟩⟩, by omega, by omega⟩) (fun e => ?_)
  have b1 : bes (xw M) (xh M) (p.toInt % 36) s.toInt ≠ -1 := by rw [← q3]; exact neqi.mp e
  rw [← q3] at b1
  obtain ⟨x4, e4, q4⟩ := fs_isOf h (p / (36 : Int32)) x3
  rw [dv] at q4
  refine bind_e e4 ?_
  have ml : 0 ≤ p.toInt / 36 ∧ p.toInt / 36 ≤ 1 := by omega
  rcases q4 with ⟨rfl, q4⟩ | ⟨rfl, q4⟩
  · refine if_i (fun c => absurd c (by decide)) (fun _ => ?_)
    have m1 : ((36 : Int32) * (p / (36 : Int32))).toInt = 36 * (p.toInt / 36) := mul_ti rfl dv (by omega) (by omega)
    have m2 : (((36 : Int32) * (p / (36 : Int32))) + x3).toInt = 36 * (p.toInt / 36) + x3.toInt := add_ti m1 rfl (by omega) (by omega)
    rw [Option.bind_some]
    refine ⟨_, rfl, .inr ⟨s4, .inr (.inl ⟨by rw [← q3]; exact b1, by rw [← q3]; exact q4, by rw [m2, q3]⟩)⟩, ?_, ?_⟩
    · rw [m2]; omega
    · rw [m2]; have := q4.1; omega
  · refine if_i (fun _ => ?_) (fun c => absurd rfl c)
    refine if_i (fun e => ⟨_, rfl, .inr ⟨s4, .inr (.inr (.inl ⟨by rw [← q3]; exact b1, by rw [← q3]; exact q4, ?_, n1⟩))⟩, by omega, by omega⟩) (fun e => ?_)
    · have := eqi.mp e; rw [dv] at this; exact this
    have l0 : p.toInt / 36 ≠ 0 := by have := neqi.mp e; rw [dv] at this; exact this
    obtain ⟨x5, e5, q5⟩ := fs_beside h x3 s (by omega)
    have g5 := some_of (sf_Mod_beside x3 s M ⟨g3.1, g3.2⟩ h) e5
    rw [q3] at q5
    refine bind_e e5 ?_
    refine if_i (fun e => ⟨_, rfl, .inr ⟨s4, .inr (.inr (.inr (.inr ⟨by rw [← q3]; exact b1, by rw [← q3]; exact q4, l0, fun w => w.1 ?_, n1⟩)))⟩, by omega, by omega⟩) (fun e => ?_)
    · rw [← q5]; exact eqi.mp e
    have b5 : x5.toInt ≠ -1 := neqi.mp e
    rw [Option.bind_some]
    obtain ⟨x7, e7, q7⟩ := fs_isPlank h k hs (p - p / (36 : Int32) * (36 : Int32)) x5
    rw [rm] at q7
    refine bind_e e7 ?_
    rcases q7 with ⟨rfl, q7⟩ | ⟨rfl, q7⟩
    · refine if_i (fun c => absurd c (by decide)) (fun _ => ?_)
      have m2 : (((36 : Int32) * (1 : Int32)) + x5).toInt = 36 + x5.toInt := add_ti rfl rfl (by omega) (by omega)
      rw [Option.bind_some]
      refine ⟨_, rfl, .inr ⟨s4, .inr (.inr (.inr (.inl ⟨by rw [← q3]; exact b1, by rw [← q3]; exact q4, l0, by rw [← q5]; exact b5, by rw [← q5]; exact q7, by rw [m2, q5]⟩)))⟩, ?_, ?_⟩
      · rw [m2]; omega
      · rw [m2]; omega
    · refine if_i (fun _ => ⟨_, rfl, .inr ⟨s4, .inr (.inr (.inr (.inr ⟨by rw [← q3]; exact b1, by rw [← q3]; exact q4, l0, fun w => q7 ?_, n1⟩)))⟩, by omega, by omega⟩) (fun c => absurd rfl c)
      rw [q5]; exact w.2
theorem goR_fun {M : Mem} {k : Nat} {p s n m : Int} (h1 : goR M k p s n) (h2 : goR M k p s m) : n = m := by
  unfold goR at h1 h2
  rcases h1 with ⟨a1, a2⟩ | ⟨a1, a2⟩
  · rcases h2 with ⟨b1, b2⟩ | ⟨b1, b2⟩
    · rw [a2, b2]
    · exact absurd a1 b1
  · rcases h2 with ⟨b1, b2⟩ | ⟨b1, b2⟩
    · exact absurd b1 a1
    · rcases a2 with ⟨u1, u2⟩ | ⟨u1, u2, u3⟩ | ⟨u1, u2, u3, u4⟩ | ⟨u1, u2, u3, u4, u5, u6⟩ | ⟨u1, u2, u3, u4, u5⟩ <;> rcases b2 with ⟨v1, v2⟩ | ⟨v1, v2, v3⟩ | ⟨v1, v2, v3, v4⟩ | ⟨v1, v2, v3, v4, v5, v6⟩ | ⟨v1, v2, v3, v4, v5⟩ <;> first | omega | (exact absurd v1 u1) | (exact absurd u1 v1) | (exact absurd v2 u2) | (exact absurd u2 v2) | (exact absurd v3 u3) | (exact absurd u3 v3) | (exact absurd (And.intro u4 u5) v4) | (exact absurd (And.intro v4 v5) u4)
/-- PLANKS end on roofs -/
def KP (M : Mem) (k o : Nat) : Prop := ∀ j : Nat, (j : Int) < (M.1 k (o + 92)).toInt → onN M 1 (M.1 k (o + 80 + 2 * j)).toInt ∧ onN M 1 (M.1 k (o + 81 + 2 * j)).toInt
theorem plk_on {M : Mem} {k : Nat} (h : KP M k 0) {a b : Int} (hp : plk M k a b) : onN M 1 a ∧ onN M 1 b := by
  obtain ⟨j, h1, h2⟩ := hp
  have := h j (by rw [Nat.zero_add]; exact h1)
  rw [Nat.zero_add, Nat.zero_add] at this
  rcases h2 with ⟨e1, e2⟩ | ⟨e1, e2⟩
  · rw [e1, e2] at this; exact this
  · rw [e1, e2] at this; exact ⟨this.2, this.1⟩
def onP (M : Mem) (p : Int) : Prop := 0 ≤ p ∧ p ≤ 71 ∧ onN M (p / 36) (p % 36)
theorem go_sym {M : Mem} (h : J M) {k : Nat} (hk : KP M k 0) {p s n : Int} (hp : onP M p) (hs : 0 ≤ s ∧ s ≤ 3) (hg : goR M k p s n) (hn : n ≠ -1) : onP M n ∧ goR M k n (opp s) p := by
  obtain ⟨p1, p2, p3⟩ := hp
  have w := aw h
  have hh := ah h
  have wh := awh h
  have o4 : opp s ≠ 4 := by unfold opp; repeat (split; (try decide)); omega
  unfold goR at hg
  rcases hg with ⟨e, _⟩ | ⟨_, hg⟩
  · omega
  rcases hg with ⟨_, u2⟩ | ⟨u1, u2, u3⟩ | ⟨u1, u2, u3, u4⟩ | ⟨u1, u2, u3, u4, u5, u6⟩ | ⟨u1, u2, u3, u4, u5⟩
  · exact absurd u2 hn
  · obtain ⟨s1, s2, s3⟩ := bes_sym w hh p3.1 p3.2.1 hs u1
    have d1 : n / 36 = p / 36 := by omega
    have d2 : n % 36 = bes (xw M) (xh M) (p % 36) s := by omega
    refine ⟨⟨by omega, by omega, by rw [d1, d2]; exact u2⟩, .inr ⟨o4, .inr (.inl ⟨?_, ?_, ?_⟩)⟩⟩
    · rw [d2, s3]; omega
    · rw [d1, d2, s3]; exact p3
    · rw [d1, d2, s3]; omega
  · exact absurd u4 hn
  · obtain ⟨s1, s2, s3⟩ := bes_sym w hh p3.1 p3.2.1 hs u1
    obtain ⟨t1, t2, t3⟩ := bes_sym w hh s1 s2 hs u4
    have l1 : p / 36 = 1 := by omega
    have d1 : n / 36 = 1 := by omega
    have d2 : n % 36 = bes (xw M) (xh M) (bes (xw M) (xh M) (p % 36) s) s := by omega
    rw [l1] at u2
    refine ⟨⟨by omega, by omega, by rw [d1, d2]; exact (plk_on hk u5).2⟩, .inr ⟨o4, .inr (.inr (.inr (.inl ⟨?_, ?_, by omega, ?_, ?_, ?_⟩)))⟩⟩
    · rw [d2, t3]; omega
    · rw [d1, d2, t3]; exact u2
    · rw [d2, t3, s3]; omega
    · rw [d2, t3, s3]; exact plk_sym u5
    · rw [d2, t3, s3]; omega
  · exact absurd u5 hn
end
section
/-! far is the distance: lower, spread, findFar -/
theorem c_i2 {β : Type} {P : β → Prop} {c : Prop} [Decidable c] {a b : Option β} (h : c) (k : ∃ r, a = some r ∧ P r) : ∃ r, (if c then a else b) = some r ∧ P r := by rw [if_pos h]; exact k
theorem n_i2 {β : Type} {P : β → Prop} {c : Prop} [Decidable c] {a b : Option β} (h : ¬ c) (k : ∃ r, b = some r ∧ P r) : ∃ r, (if c then a else b) = some r ∧ P r := by rw [if_neg h]; exact k
def sm (f : Nat → Int) : Nat → Int
  | 0 => 0
  | n + 1 => sm f n + f n
theorem sm_eq {f g : Nat → Int} : ∀ {n : Nat}, (∀ i, i < n → g i = f i) → sm g n = sm f n
  | 0, _ => rfl
  | n + 1, h => by
    show sm g n + g n = sm f n + f n
    rw [sm_eq (fun i hi => h i (by omega)), h n (by omega)]
theorem sm_upd {f g : Nat → Int} {k : Nat} : ∀ {n : Nat}, k < n → (∀ i, i ≠ k → g i = f i) → sm g n = sm f n - f k + g k
  | 0, h, _ => absurd h (by omega)
  | n + 1, h, hg => by
    show sm g n + g n = sm f n + f n - f k + g k
    by_cases e : k = n
    · subst e
      rw [sm_eq (fun i hi => hg i (by omega))]; omega
    · rw [sm_upd (by omega) hg, hg n (fun w => e w.symm)]; omega
theorem sm_bd {f : Nat → Int} {b : Int} (h : ∀ i, 0 ≤ f i ∧ f i ≤ b) : ∀ n : Nat, 0 ≤ sm f n ∧ sm f n ≤ n * b
  | 0 => by simp [sm]
  | n + 1 => by
    have := sm_bd h n
    have h2 := h n
    show 0 ≤ sm f n + f n ∧ sm f n + f n ≤ ((n + 1 : Nat) : Int) * b
    have e : ((n + 1 : Nat) : Int) * b = n * b + b := by rw [Int.natCast_add, Int.add_mul]; simp
    rw [e]; omega
def po (c : Nat) (M : Mem) : Int := sm (fun i => (M.1 c i).toInt) 72
theorem po_dec {c : Nat} {M : Mem} {i : Nat} {v : Int32} (hi : i < 72) (hv : v.toInt < (M.1 c i).toInt) : po c (s_i M c i v) < po c M := by
  unfold po
  rw [sm_upd (f := fun i => (M.1 c i).toInt) hi (fun j hj => congrArg Int32.toInt (si_ne (fun e => hj e.2)))]
  rw [si_eq]; omega
theorem po_bd {c : Nat} {M : Mem} {b : Int} (h : ∀ i, 0 ≤ (M.1 c i).toInt ∧ (M.1 c i).toInt ≤ b) : 0 ≤ po c M ∧ po c M ≤ 72 * b := sm_bd (f := fun i => (M.1 c i).toInt) h 72
abbrev W7 (k _i : Nat) : Prop := k = 177
def MapEq (M B : Mem) : Prop := M.1 162 2 = B.1 162 2 ∧ M.1 162 3 = B.1 162 3 ∧ ∀ i, M.1 164 i = B.1 164 i
theorem onN_c {M B : Mem} (h : MapEq M B) {l c : Int} : onN M l c ↔ onN B l c := by
  unfold onN xw xh
  rw [h.1, h.2.1, h.2.2]
theorem goR_c {M B : Mem} (h : MapEq M B) {k : Nat} (hk : ∀ i, M.1 k i = B.1 k i) {p s n : Int} : goR M k p s n ↔ goR B k p s n := by
  have e1 : xw M = xw B := by unfold xw; rw [h.1]
  have e2 : xh M = xh B := by unfold xh; rw [h.2.1]
  have e3 : ∀ a b, plk M k a b ↔ plk B k a b := by intro a b; unfold plk plkA; simp only [hk]
  unfold goR
  simp only [e1, e2, onN_c h, e3]
theorem W7.map {B M : Mem} (h : Fr W7 B M) : MapEq M B := ⟨h 162 2 (by decide), h 162 3 (by decide), fun i => h 164 i (by omega)⟩
theorem W7.go {B M : Mem} (h : Fr W7 B M) {p s n : Int} : goR M 163 p s n ↔ goR B 163 p s n := goR_c (W7.map h) (fun i => h 163 i (by omega))
theorem fs_lower {M : Mem} (h : J M) (v1 v2 : Int32) (h1 : -1 ≤ v1.toInt ∧ v1.toInt ≤ 71) (h2 : 0 ≤ v2.toInt) : ∃ r, f_Mod_lower v1 v2 M = some r ∧ ((r.1 = 0 ∧ r.2 = M ∧ (v1.toInt ≠ -1 → (M.1 177 v1.toInt.toNat).toInt ≤ v2.toInt)) ∨ (r.1 = 1 ∧ v1.toInt ≠ -1 ∧ r.2 = s_i M 177 v1.toInt.toNat v2 ∧ v2.toInt < (M.1 177 v1.toInt.toNat).toInt ∧ J r.2)) := by
  have n1 : (-1 : Int32).toInt = -1 := rfl
  unfold f_Mod_lower
  refine if_i (fun e => ⟨_, rfl, .inl ⟨rfl, rfl, fun w => absurd (eqi.mp e) w⟩⟩) (fun e => ?_)
  have d := neqi.mp e
  have r := Jr_177 h v1.toNatClampNeg
  refine inb_i (by omega) (by omega) (if_i (fun e => inb_i (by omega) (by omega) (mem_i (fun m em => ⟨_, rfl, .inr ⟨rfl, by omega, em, lti.mp e, ?_⟩⟩))) (fun e => ⟨_, rfl, .inl ⟨rfl, rfl, fun _ => nlti.mp e⟩⟩))
  have := lti.mp e
  show J m
  rw [em]; exact Jw_177 h _ _ h2 (by omega)
def QF (B : Mem) (p : Int) (M : Mem) : Prop := J M ∧ Fr W7 B M ∧ M.2 = B.2 ∧ (M.1 177 p.toNat).toInt = 0 ∧ (∀ n : Nat, n < 72 → (M.1 177 n).toInt < 1000000 → (n : Int) = p ∨ ∃ q : Nat, q < 72 ∧ ∃ s : Int, 0 ≤ s ∧ s ≤ 3 ∧ goR B 163 q s n ∧ (M.1 177 q).toInt + 1 ≤ (M.1 177 n).toInt)
def CL (B M : Mem) (q s : Int) : Prop := ∀ n : Int, goR B 163 q s n → n ≠ -1 → (M.1 177 n.toNat).toInt ≤ (M.1 177 q.toNat).toInt + 1
theorem or_z {a b : Int32} (ha : a = 0 ∨ a = 1) (hb : b = 0 ∨ b = 1) : (a ||| b = 0 ∨ a ||| b = 1) ∧ (a ||| b = 0 → a = 0 ∧ b = 0) ∧ (a ||| b ≠ 0 → a ≠ 0 ∨ b ≠ 0) := by
  rcases ha with rfl | rfl <;> rcases hb with rfl | rfl <;> decide
/-- what a stretch of lowerings leaves, from M0 with acc0 on -/
def SP (B : Mem) (p : Int) (acc0 : Int32) (M0_ : Mem) (acc : Int32) (M : Mem) : Prop := QF B p M ∧ (acc = 0 ∨ acc = 1) ∧ po 177 M ≤ po 177 M0_ ∧ (acc = 0 → acc0 = 0 ∧ M = M0_) ∧ (acc ≠ 0 → acc0 ≠ 0 ∨ po 177 M < po 177 M0_)
theorem sl_spread34 {B : Mem} (hB : J B) {p : Int} (hp : 0 ≤ p ∧ p ≤ 71) (v3 : Int32) (h3 : 0 ≤ v3.toInt ∧ v3.toInt ≤ 71) {M : Mem} (h : QF B p M) (acc : Int32) (ha : acc = 0 ∨ acc = 1) (hf : (M.1 177 v3.toInt.toNat).toInt < 1000000) :
    ∃ x, iter (lb_Mod_spread_34 0 v3) FU (acc, (0 : Int32), M) = some x ∧ (SP B p acc M x.1 x.2 ∧ (x.1 = 0 → ∀ s, 0 ≤ s → s ≤ 3 → CL B x.2 v3.toInt s)) := by
  refine iter_r (fun s : Int32 × Int32 × Mem => SP B p acc M s.1 s.2.2 ∧ (0 ≤ s.2.1.toInt ∧ s.2.1.toInt ≤ 4) ∧ (s.2.2.1 177 v3.toInt.toNat).toInt < 1000000 ∧ (s.1 = 0 → ∀ t, 0 ≤ t → t < s.2.1.toInt → CL B s.2.2 v3.toInt t)) (fun s : Int32 × Int32 × Mem => (4 - s.2.1.toInt).toNat) _ ?_ FU _ ⟨⟨h, ha, Int.le_refl _, fun e => ⟨e, rfl⟩, fun e => .inl e⟩, (by show (0 : Int) ≤ (0 : Int32).toInt ∧ (0 : Int32).toInt ≤ 4; decide), hf, fun _ t h0 h1 => absurd (show t < 0 from h1) (by omega)⟩ (by show (4 - (0 : Int)).toNat < FU; rw [FU_v]; decide)
  rintro ⟨a, k, N⟩ ⟨i1, i2, i3, i4⟩
  dsimp only at i1 i2 i3 i4
  obtain ⟨⟨j, f, g2, dp, wit⟩, aa, pl, a0, a1⟩ := i1
  have c4 : (4 : Int32).toInt = 4 := rfl
  unfold lb_Mod_spread_34
  dsimp only
  refine if_i (fun c => ⟨_, rfl, ⟨⟨j, f, g2, dp, wit⟩, aa, pl, a0, a1⟩, fun e s s0 s1 => i4 e s s0 (by have := lei.mp c; omega)⟩) (fun c => ?_)
  have d := nlei.mp c
  have ek : (k + (1 : Int32)).toInt = k.toInt + 1 := add_ti rfl rfl (by omega) (by omega)
  refine bind_i (fs_go j 163 St_163 v3 k h3) (fun x1 _ q1 => ?_)
  obtain ⟨g1, q1, q2⟩ := q1
  have g1' := (W7.go f).mp g1
  have r3 := Jr_177 j v3.toInt.toNat
  have t3 : v3.toNatClampNeg = v3.toInt.toNat := rfl
  have ea : ((N.1 177 v3.toNatClampNeg) + (1 : Int32)).toInt = (N.1 177 v3.toInt.toNat).toInt + 1 := add_ti rfl rfl (by omega) (by omega)
  refine inb_i h3.1 (by omega) (bind_i (fs_lower j x1 _ ⟨q1, q2⟩ (by omega)) (fun x2 _ q => ⟨_, rfl, ?_⟩))
  rw [ea] at q
  rcases q with ⟨e1, e2, e3⟩ | ⟨e1, e2, e3, e4, e5⟩
  · have oz := or_z (b := x2.1) aa (.inl e1)
    refine ⟨⟨⟨?_, oz.1, ?_, fun e => ?_, fun e => ?_⟩, ?_, ?_, fun e t t0 t1 => ?_⟩, ?_⟩
    · show QF B p x2.2; rw [e2]; exact ⟨j, f, g2, dp, wit⟩
    · show po 177 x2.2 ≤ _; rw [e2]; exact pl
    · show acc = 0 ∧ x2.2 = M; rw [e2]; exact a0 (oz.2.1 e).1
    · show acc ≠ 0 ∨ po 177 x2.2 < po 177 M; rw [e2]; exact a1 ((oz.2.2 e).elim id (fun w => absurd e1 w))
    · show 0 ≤ (k + (1 : Int32)).toInt ∧ (k + (1 : Int32)).toInt ≤ 4; omega
    · show (x2.2.1 177 v3.toInt.toNat).toInt < 1000000; rw [e2]; exact i3
    · show CL B x2.2 v3.toInt t
      rw [e2]
      have t1' : t < (k + (1 : Int32)).toInt := t1
      by_cases et : t < k.toInt
      · exact i4 (oz.2.1 e).1 t t0 et
      · have : t = k.toInt := by omega
        subst this
        intro n hn hn1
        have : n = x1.toInt := goR_fun hn g1'
        subst this
        exact e3 hn1
    · show (4 - (k + (1 : Int32)).toInt).toNat < (4 - k.toInt).toNat; omega
  · have oz := or_z (b := x2.1) aa (.inr e1)
    have nz : a ||| x2.1 ≠ 0 := fun w => absurd ((oz.2.1 w).2.symm.trans e1) (by decide)
    have hne : x1.toInt.toNat ≠ v3.toInt.toNat := fun w => by rw [w] at e4; omega
    have nn := Jr_177 j v3.toInt.toNat
    have ep : x1.toInt.toNat ≠ p.toNat := fun w => by rw [w, dp] at e4; omega
    have val : ∀ i, (x2.2.1 177 i).toInt = if i = x1.toInt.toNat then (N.1 177 v3.toInt.toNat).toInt + 1 else (N.1 177 i).toInt := by
      intro i
      rw [e3]
      by_cases w : i = x1.toInt.toNat
      · rw [w, si_eq, if_pos rfl]; exact ea
      · rw [si_ne (fun z => w z.2), if_neg w]
    refine ⟨⟨⟨⟨e5, ?_, ?_, ?_, fun n hn hd => ?_⟩, oz.1, ?_, fun e => absurd e nz, fun _ => .inr ?_⟩, ?_, ?_, fun e => absurd e nz⟩, ?_⟩
    · show Fr W7 B x2.2; rw [e3]; exact f.i rfl
    · show x2.2.2 = _; rw [e3]; exact g2
    · show (x2.2.1 177 p.toNat).toInt = 0; rw [val, if_neg (fun w => ep w.symm)]; exact dp
    · show (n : Int) = p ∨ ∃ q : Nat, q < 72 ∧ ∃ s : Int, 0 ≤ s ∧ s ≤ 3 ∧ goR B 163 q s n ∧ (x2.2.1 177 q).toInt + 1 ≤ (x2.2.1 177 n).toInt
      have hd' : (x2.2.1 177 n).toInt < 1000000 := hd
      by_cases w : n = x1.toInt.toNat
      · right
        refine ⟨v3.toInt.toNat, by omega, k.toInt, by omega, by omega, ?_, ?_⟩
        · have u1 : ((v3.toInt.toNat : Nat) : Int) = v3.toInt := by omega
          have u2 : (n : Int) = x1.toInt := by omega
          rw [u1, u2]; exact g1'
        · rw [val, val, if_neg (fun z => hne z.symm), if_pos w]; omega
      · rw [val, if_neg w] at hd'
        rcases wit n hn hd' with z | ⟨q, z1, s, z2, z3, z4, z5⟩
        · exact .inl z
        · refine .inr ⟨q, z1, s, z2, z3, z4, ?_⟩
          rw [val, val, if_neg w]
          by_cases u : q = x1.toInt.toNat
          · rw [if_pos u]; rw [u] at z5; omega
          · rw [if_neg u]; exact z5
    · show po 177 x2.2 ≤ _
      have := po_dec (c := 177) (M := N) (i := x1.toInt.toNat) (v := (N.1 177 v3.toNatClampNeg) + (1 : Int32)) (by omega) (by rw [ea]; exact e4)
      rw [e3]; omega
    · show po 177 x2.2 < po 177 M
      have := po_dec (c := 177) (M := N) (i := x1.toInt.toNat) (v := (N.1 177 v3.toNatClampNeg) + (1 : Int32)) (by omega) (by rw [ea]; exact e4)
      rw [e3]; omega
    · show 0 ≤ (k + (1 : Int32)).toInt ∧ (k + (1 : Int32)).toInt ≤ 4; omega
    · show (x2.2.1 177 v3.toInt.toNat).toInt < 1000000; rw [val, if_neg (fun z => hne z.symm)]; exact i3
    · show (4 - (k + (1 : Int32)).toInt).toNat < (4 - k.toInt).toNat; omega
theorem sl_spread10 {B : Mem} (hB : J B) {p : Int} (hp : 0 ≤ p ∧ p ≤ 71) {M : Mem} (h : QF B p M) :
    ∃ x, iter (lb_Mod_spread_10 0) FU ((0 : Int32), (0 : Int32), M) = some x ∧ (SP B p 0 M x.1 x.2 ∧ (x.1 = 0 → ∀ q : Nat, q < 72 → (x.2.1 177 q).toInt < 1000000 → ∀ s, 0 ≤ s → s ≤ 3 → CL B x.2 q s)) := by
  refine iter_r (fun s : Int32 × Int32 × Mem => SP B p 0 M s.1 s.2.2 ∧ (0 ≤ s.2.1.toInt ∧ s.2.1.toInt ≤ 72) ∧ (s.1 = 0 → ∀ q : Nat, (q : Int) < s.2.1.toInt → (s.2.2.1 177 q).toInt < 1000000 → ∀ t, 0 ≤ t → t ≤ 3 → CL B s.2.2 q t)) (fun s : Int32 × Int32 × Mem => (72 - s.2.1.toInt).toNat) _ ?_ FU _ ⟨⟨h, .inl rfl, Int.le_refl _, fun _ => ⟨rfl, rfl⟩, fun e => absurd rfl e⟩, (by show (0 : Int) ≤ (0 : Int32).toInt ∧ (0 : Int32).toInt ≤ 72; decide), fun _ q hq => absurd (show (q : Int) < 0 from hq) (by omega)⟩ (by show (72 - (0 : Int)).toNat < FU; rw [FU_v]; decide)
  rintro ⟨a, k, N⟩ ⟨i1, i2, i3⟩
  dsimp only at i1 i2 i3
  have c72 : (72 : Int32).toInt = 72 := rfl
  unfold lb_Mod_spread_10
  dsimp only
  refine if_i (fun c => ⟨_, rfl, i1, fun e q hq => i3 e q (by have := lei.mp c; omega)⟩) (fun c => ?_)
  have d := nlei.mp c
  have ek : (k + (1 : Int32)).toInt = k.toInt + 1 := add_ti rfl rfl (by omega) (by omega)
  have tk : k.toNatClampNeg = k.toInt.toNat := rfl
  refine inb_i i2.1 (by omega) (if_i (fun e => ?_) (fun e => ⟨_, rfl, ⟨i1, ?_, fun e0 q hq hf t t0 t1 => ?_⟩, ?_⟩))
  · have hf : (N.1 177 k.toInt.toNat).toInt < 1000000 := lti.mp e
    refine bind_i (sl_spread34 hB hp k ⟨i2.1, by omega⟩ i1.1 a i1.2.1 hf) (fun x4 _ p4 => c_i2 rfl ⟨_, rfl, ?_⟩)
    obtain ⟨⟨s1, s2, s3, s4, s5⟩, p5⟩ := p4
    obtain ⟨b1, b2, b3, b4, b5⟩ := i1
    refine ⟨⟨⟨s1, s2, ?_, fun e0 => ?_, fun e0 => ?_⟩, ?_, fun e0 q hq hf2 t t0 t1 => ?_⟩, ?_⟩
    · show po 177 x4.2 ≤ _; omega
    · obtain ⟨u1, u2⟩ := s4 e0
      exact ⟨rfl, u2.trans (b4 u1).2⟩
    · show (0 : Int32) ≠ 0 ∨ po 177 x4.2 < po 177 M
      right
      rcases s5 e0 with u | u
      · rcases b5 u with w | w
        · exact absurd rfl w
        · omega
      · omega
    · show 0 ≤ (k + (1 : Int32)).toInt ∧ (k + (1 : Int32)).toInt ≤ 72; omega
    · obtain ⟨u1, u2⟩ := s4 e0
      have hq' : (q : Int) < (k + (1 : Int32)).toInt := hq
      show CL B x4.2 q t
      by_cases eq : (q : Int) < k.toInt
      · rw [u2]
        have hf2' : (x4.2.1 177 q).toInt < 1000000 := hf2
        rw [u2] at hf2'
        exact i3 u1 q eq hf2' t t0 t1
      · have : (q : Int) = k.toInt := by omega
        rw [this]
        exact p5 e0 t t0 t1
    · show (72 - (k + (1 : Int32)).toInt).toNat < (72 - k.toInt).toNat; omega
  · show 0 ≤ (k + (1 : Int32)).toInt ∧ (k + (1 : Int32)).toInt ≤ 72; omega
  · have hq' : (q : Int) < (k + (1 : Int32)).toInt := hq
    by_cases eq : (q : Int) < k.toInt
    · exact i3 e0 q eq hf t t0 t1
    · have : k.toInt.toNat = q := by omega
      have w := nlti.mp e
      rw [tk, this] at w
      have c6 : (1000000 : Int32).toInt = 1000000 := rfl
      exact absurd (show (N.1 177 q).toInt < 1000000 from hf) (by omega)
  · show (72 - (k + (1 : Int32)).toInt).toNat < (72 - k.toInt).toNat; omega
def FF (B : Mem) (p : Int) (M : Mem) : Prop := QF B p M ∧ ∀ q : Nat, q < 72 → (M.1 177 q).toInt < 1000000 → ∀ s, 0 ≤ s → s ≤ 3 → CL B M q s
theorem fs_spread {B : Mem} (hB : J B) {p : Int} (hp : 0 ≤ p ∧ p ≤ 71) {M : Mem} (h : QF B p M) : ∃ r, f_Mod_spread 0 M = some r ∧ FF B p r := by
  have hl : ∃ x, iter (lb_Mod_spread_2 0) FU ((1 : Int32), M) = some x ∧ FF B p x := by
    have b := po_bd (c := 177) (Jr_177 h.1)
    refine iter_r (fun s : Int32 × Mem => QF B p s.2 ∧ (s.1 = 0 → FF B p s.2)) (fun s : Int32 × Mem => (2 * po 177 s.2 + (if s.1 = 0 then 0 else 1)).toNat) _ ?_ FU _ ⟨h, fun e => absurd (show (1 : Int32) = 0 from e) (by decide)⟩ (by show (2 * po 177 M + (if (1 : Int32) = 0 then 0 else 1)).toNat < FU; rw [FU_v, if_neg (by decide)]; omega)
    rintro ⟨a, N⟩ ⟨i1, i2⟩
    dsimp only at i1 i2
    unfold lb_Mod_spread_2
    dsimp only
    refine if_i (fun c => ⟨_, rfl, i2 c⟩) (fun c => ?_)
    have b := po_bd (c := 177) (Jr_177 i1.1)
    refine bind_i (sl_spread10 hB hp i1) (fun x _ q => ⟨_, rfl, ⟨q.1.1, fun e => ⟨q.1.1, q.2 e⟩⟩, ?_⟩)
    obtain ⟨⟨s1, s2, s3, s4, s5⟩, -⟩ := q
    have b2 := po_bd (c := 177) (Jr_177 s1.1)
    show (2 * po 177 x.2 + (if x.1 = 0 then 0 else 1)).toNat < (2 * po 177 N + (if a = 0 then 0 else 1)).toNat
    rw [if_neg c]
    by_cases e : x.1 = 0
    · rw [if_pos e, (s4 e).2]; omega
    · rw [if_neg e]
      rcases s5 e with u | u
      · exact absurd rfl u
      · omega
  unfold f_Mod_spread
  exact bind_i hl (fun x _ q => ⟨_, rfl, q⟩)
theorem fs_findFar {M : Mem} (h : J M) (v1 : Int32) (hv : 0 ≤ v1.toInt ∧ v1.toInt ≤ 71) : ∃ r, f_Mod_findFar v1 M = some r ∧ FF M v1.toInt r := by
  have hl : ∃ x, iter (lb_Mod_findFar_2 v1) FU ((0 : Int32), M) = some x ∧ (J x ∧ Fr W7 M x ∧ x.2 = M.2 ∧ ∀ i : Nat, (i : Int) < 72 → (x.1 177 i).toInt = 1000000) := by
    refine cnt_r _ (fun i N => J N ∧ Fr W7 M N ∧ N.2 = M.2 ∧ ∀ j : Nat, (j : Int) < i → (N.1 177 j).toInt = 1000000) 72 (by decide) ?_ M ⟨h, Fr.r, rfl, fun j hj => absurd hj (by omega)⟩ (by decide)
    intro k N k0 k1 hI
    obtain ⟨i1, i2, i3, i4⟩ := hI
    have c72 : (72 : Int32).toInt = 72 := rfl
    unfold lb_Mod_findFar_2
    dsimp only
    refine if_i (fun c => ⟨_, rfl, .inl ⟨_, rfl, i1, i2, i3, fun i hi => i4 i (by have := lei.mp c; omega)⟩⟩) (fun c => ?_)
    have d := nlei.mp c
    refine inb_i k0 (by omega) (mem_i (fun m e => ⟨_, rfl, .inr ⟨by omega, m, rfl, ?_, ?_, ?_, fun j hj => ?_⟩⟩))
    · rw [e]; exact Jw_177 i1 _ _ (by decide) (by decide)
    · rw [e]; exact i2.i rfl
    · rw [e]; exact i3
    · rw [e]
      by_cases w : j = k.toNatClampNeg
      · rw [w, si_eq]; rfl
      · rw [si_ne (fun z => w z.2)]
        rw [tcn'] at w
        exact i4 j (by omega)
  unfold f_Mod_findFar
  refine bind_i hl (fun x3 _ q => inb_i hv.1 (by omega) (mem_i (fun M4 e4 => ?_)))
  obtain ⟨q1, q2, q3, q4⟩ := q
  have val : ∀ i, i ≠ v1.toInt.toNat → M4.1 177 i = x3.1 177 i := fun i hi => by rw [e4]; exact si_ne (fun z => hi z.2)
  have qf : QF M v1.toInt M4 := by
    refine ⟨by rw [e4]; exact Jw_177 q1 _ _ (by decide) (by decide), by rw [e4]; exact q2.i rfl, by rw [e4]; exact q3, ?_, fun n hn hd => ?_⟩
    · rw [e4]; show ((s_i x3 177 v1.toInt.toNat 0).1 177 v1.toInt.toNat).toInt = 0; rw [si_eq]; rfl
    · by_cases w : n = v1.toInt.toNat
      · left; omega
      · rw [val n w, q4 n (by omega)] at hd; omega
  exact bind_i (fs_spread h hv qf) (fun x _ q => ⟨_, rfl, q⟩)
/-! path: a step nearer is always there -/
theorem far_on {M r : Mem} (h : J M) (hk : KP M 163 0) {p : Int} (hp : onP M p) (hf : FF M p r) : ∀ (m : Nat) (n : Nat), n < 72 → (r.1 177 n).toInt < 1000000 → (r.1 177 n).toInt.toNat ≤ m → onP M n := by
  intro m
  induction m with
  | zero =>
    intro n hn hd hm
    rcases hf.1.2.2.2.2 n hn hd with e | ⟨q, z1, s, z2, z3, z4, z5⟩
    · rw [e]; exact hp
    · have := Jr_177 hf.1.1 q
      omega
  | succ m ih =>
    intro n hn hd hm
    rcases hf.1.2.2.2.2 n hn hd with e | ⟨q, z1, s, z2, z3, z4, z5⟩
    · rw [e]; exact hp
    · have := Jr_177 hf.1.1 q
      exact (go_sym h hk (ih q z1 (by omega) (by omega)) ⟨z2, z3⟩ z4 (by omega)).1
theorem opp_r {s : Int} (h : 0 ≤ s ∧ s ≤ 3) : 0 ≤ opp s ∧ opp s ≤ 3 := by
  have : s = 0 ∨ s = 1 ∨ s = 2 ∨ s = 3 := by omega
  rcases this with rfl | rfl | rfl | rfl <;> decide
theorem nearer {M r : Mem} (h : J M) (hk : KP M 163 0) {p : Int} (hp : onP M p) (hf : FF M p r) {n : Nat} (hn : n < 72) (hd : (r.1 177 n).toInt < 1000000) (h0 : 0 < (r.1 177 n).toInt) : ∃ q : Nat, q < 72 ∧ ∃ s : Int, 0 ≤ s ∧ s ≤ 3 ∧ goR M 163 n s q ∧ (r.1 177 q).toInt = (r.1 177 n).toInt - 1 := by
  rcases hf.1.2.2.2.2 n hn hd with e | ⟨q, z1, s, z2, z3, z4, z5⟩
  · have := hf.1.2.2.2.1
    have en : p.toNat = n := by omega
    rw [en] at this; omega
  · have c := hf.2 q z1 (by omega) s z2 z3 n z4 (by omega)
    have e1 : ((n : Int)).toNat = n := by omega
    have e2 : ((q : Int)).toNat = q := by omega
    rw [e1, e2] at c
    have oq := far_on h hk hp hf _ q z1 (by omega) (Nat.le_refl _)
    have g := (go_sym h hk oq ⟨z2, z3⟩ z4 (by omega)).2
    exact ⟨q, z1, opp s, (opp_r ⟨z2, z3⟩).1, (opp_r ⟨z2, z3⟩).2, g, by omega⟩
abbrev WP (k i : Nat) : Prop := k = 168 ∨ (k = 162 ∧ i = 12)
theorem fs_put {M : Mem} (h : J M) (v : Int32) (hr : (M.1 162 12).toInt ≤ 15) : ∃ r, f_Mod_put v M = some r ∧ (J r ∧ (r.1 162 12).toInt = (M.1 162 12).toInt + 1 ∧ Fr WP M r ∧ r.2 = M.2) := by
  have z := Jr_162_12 h
  have ea : ((M.1 162 12) + (1 : Int32)).toInt = (M.1 162 12).toInt + 1 := add_ti rfl rfl (by omega) (by omega)
  unfold f_Mod_put
  refine inb_i (by omega) (by omega) (mem_i (fun M1 e1 => mem_i (fun M2 e2 => ⟨_, rfl, ?_⟩)))
  have k1 : M1.1 162 12 = M.1 162 12 := by rw [e1, si_ne (by intro e; exact absurd e.1 (by decide))]
  rw [k1] at e2
  refine ⟨?_, ?_, ?_, ?_⟩
  · rw [e2]; refine Jw_162_12 ?_ _ (by omega) (by omega); rw [e1]; exact Jw_any ok_168 h _ _
  · rw [e2, si_eq]; exact ea
  · rw [e2, e1]; exact Fr.i (W := WP) (Fr.i (W := WP) Fr.r (.inl rfl)) (.inr ⟨rfl, rfl⟩)
  · rw [e2, e1]; rfl
theorem sl_path79 {M r N : Mem} (h : J M) (hk : KP M 163 0) {p : Int} (hp : onP M p) (hf : FF M p r) (hN : J N) (hw : Fr WP r N) (v4 v5 v6 : Int32) (h4 : 0 ≤ v4.toInt ∧ v4.toInt ≤ 71) (hd : (r.1 177 v4.toInt.toNat).toInt < 1000000) (h0 : 0 < (r.1 177 v4.toInt.toNat).toInt) :
    ∃ x, iter (lb_Mod_path_79 v4 v5 v6 N) FU (0 : Int32) = some x ∧ (∃ q : Int32, f_Mod_go 163 v4 x N = some q ∧ (0 ≤ q.toInt ∧ q.toInt ≤ 71) ∧ (r.1 177 q.toInt.toNat).toInt = (r.1 177 v4.toInt.toNat).toInt - 1) := by
  obtain ⟨q, q1, s, s0, s1, g, dq⟩ := nearer h hk hp hf (n := v4.toInt.toNat) (by omega) hd h0
  have ev : ((v4.toInt.toNat : Nat) : Int) = v4.toInt := by omega
  rw [ev] at g
  have mN : ∀ a b n : Int, goR N 163 a b n ↔ goR M 163 a b n := by
    intro a b n
    have f7 := hf.1.2.1
    refine (goR_c ⟨hw 162 2 (by decide), hw 162 3 (by decide), fun i => hw 164 i (by omega)⟩ (fun i => hw 163 i (by omega))).trans (W7.go f7)
  have n1 : (-1 : Int32).toInt = -1 := rfl
  refine iter_r (fun t : Int32 => 0 ≤ t.toInt ∧ t.toInt ≤ s) (fun t : Int32 => (3 - t.toInt).toNat) _ ?_ FU _ ⟨by decide, s0⟩ (by show (3 - (0 : Int)).toNat < FU; rw [FU_v]; decide)
  rintro t ⟨i1, i2⟩
  have et : (t + (1 : Int32)).toInt = t.toInt + 1 := add_ti rfl rfl (by omega) (by omega)
  have on : t.toInt ≠ s → LPq (fun t : Int32 => 0 ≤ t.toInt ∧ t.toInt ≤ s) (fun t : Int32 => (3 - t.toInt).toNat) (fun x => ∃ q : Int32, f_Mod_go 163 v4 x N = some q ∧ (0 ≤ q.toInt ∧ q.toInt ≤ 71) ∧ (r.1 177 q.toInt.toNat).toInt = (r.1 177 v4.toInt.toNat).toInt - 1) (3 - t.toInt).toNat (.inl (t + (1 : Int32))) := by
    intro hn
    refine ⟨⟨by omega, by omega⟩, ?_⟩
    show (3 - (t + (1 : Int32)).toInt).toNat < (3 - t.toInt).toNat; omega
  unfold lb_Mod_path_79
  obtain ⟨x8, e8, g8, b1, b2⟩ := fs_go hN 163 St_163 v4 t h4
  have g8' := (mN _ _ _).mp g8
  refine bind_e e8 ?_
  refine if_i (fun e => ⟨_, rfl, on (fun w => ?_)⟩) (fun e => bind_e e8 ?_)
  · rw [w] at g8'
    have := goR_fun g8' g
    have e' := eqi.mp e
    omega
  have d8 := neqi.mp e
  have k1 : N.1 177 x8.toNatClampNeg = r.1 177 x8.toInt.toNat := hw 177 _ (by omega)
  have k2 : N.1 177 v4.toNatClampNeg = r.1 177 v4.toInt.toNat := hw 177 _ (by omega)
  have es : ((N.1 177 v4.toNatClampNeg) - (1 : Int32)).toInt = (r.1 177 v4.toInt.toNat).toInt - 1 := sub_ti (by rw [k2]) rfl (by omega) (by omega)
  refine inb_i (by omega) (by omega) (inb_i h4.1 (by omega) (if_i (fun e => ⟨_, rfl, x8, e8, ⟨by omega, b2⟩, ?_⟩) (fun e => ⟨_, rfl, on (fun w => ?_)⟩)))
  · rw [← es, ← k1]; exact eqi.mp e
  · rw [w] at g8'
    have hq := goR_fun g8' g
    refine neqi.mp e ?_
    rw [es, k1, hq]
    have : ((q : Int)).toNat = q := by omega
    rw [this]; exact dq
theorem sf_Mod_path (v1 v2 v3 : Int32) (M : Mem) (hJ : J M) (hK : KP M 163 0) : ∃ r : Int32 × Mem, f_Mod_path v1 v2 v3 M = some r ∧ (J r.2 ∧ ∀ k i, k ≠ 177 → k ≠ 168 → k ≠ 162 → r.2.1 k i = M.1 k i) ∧ (∀ i, i ≠ 13 → i ≠ 12 → r.2.1 162 i = M.1 162 i) := by
  unfold f_Mod_path
  refine mem_i (fun M1 e1 => ?_)
  have j1 : J M1 := by rw [e1]; exact Jw_fld okf_162_13 hJ _
  have f1 : ∀ k i, ¬ (k = 162 ∧ i = 13) → M1.1 k i = M.1 k i := fun k i hk => by rw [e1, si_ne hk]
  have mp : MapEq M1 M := ⟨f1 162 2 (by decide), f1 162 3 (by decide), fun i => f1 164 i (by omega)⟩
  have k1 : KP M1 163 0 := by
    intro j hj
    rw [f1 163 _ (by omega)] at hj
    have := hK j hj
    rw [f1 163 _ (by omega), f1 163 _ (by omega)]
    exact ⟨(onN_c mp).mpr this.1, (onN_c mp).mpr this.2⟩
  have out1 : (J M1 ∧ ∀ k i, k ≠ 177 → k ≠ 168 → k ≠ 162 → M1.1 k i = M.1 k i) ∧ (∀ i, i ≠ 13 → i ≠ 12 → M1.1 162 i = M.1 162 i) := ⟨⟨j1, fun k i _ _ h => f1 k i (by omega)⟩, fun i h _ => f1 162 i (by omega)⟩
  have pl : ∀ a b : Int32, ∃ r, f_Mod_isPlaceOf a b M1 = some r ∧ ((r = 0) ∨ (r ≠ 0 ∧ (0 ≤ a.toInt ∧ a.toInt ≤ 1) ∧ onN M1 a.toInt b.toInt ∧ b.toInt ≤ 35)) := by
    intro a b
    have z0 : (0 : Int32).toInt = 0 := rfl
    have z1 : (1 : Int32).toInt = 1 := rfl
    unfold f_Mod_isPlaceOf
    refine bind_i (sp_in a 0 1) (fun x _ q => ?_)
    rcases q with ⟨rfl, q1, q2⟩ | ⟨rfl, -⟩
    · refine if_i (fun c => absurd c (by decide)) (fun _ => bind_i (fs_isOf j1 a b) (fun y _ w => ?_))
      rcases w with ⟨rfl, w⟩ | ⟨rfl, w⟩
      · refine if_i (fun c => absurd c (by decide)) (fun _ => ⟨_, rfl, .inr ⟨by decide, by omega, w, ?_⟩⟩)
        have := w.2.1; have := awh j1; omega
      · exact if_i (fun _ => ⟨_, rfl, .inl rfl⟩) (fun c => absurd rfl c)
    · exact if_i (fun _ => ⟨_, rfl, .inl rfl⟩) (fun c => absurd rfl c)
  refine bind_i (pl v1 v2) (fun x2 _ q2 => if_i (fun _ => ⟨_, rfl, out1⟩) (fun c2 => ?_))
  rcases q2 with q2 | ⟨-, a1, a2, a3⟩
  · exact absurd q2 c2
  refine bind_i (pl v1 v3) (fun x3 _ q3 => if_i (fun _ => ⟨_, rfl, out1⟩) (fun c3 => ?_))
  rcases q3 with q3 | ⟨-, -, b2, b3⟩
  · exact absurd q3 c3
  have m1 : ((36 : Int32) * v1).toInt = 36 * v1.toInt := mul_ti rfl rfl (by omega) (by omega)
  have pv3 : (((36 : Int32) * v1) + v3).toInt = 36 * v1.toInt + v3.toInt := add_ti m1 rfl (by have := b2.1; omega) (by omega)
  have pv2 : (((36 : Int32) * v1) + v2).toInt = 36 * v1.toInt + v2.toInt := add_ti m1 rfl (by have := a2.1; omega) (by omega)
  have c0 := a2.1
  have c1 := b2.1
  unfold f_Mod_placeOf
  rw [Option.bind_some]
  have onp3 : onP M1 (((36 : Int32) * v1) + v3).toInt := by
    rw [pv3]
    refine ⟨by omega, by omega, ?_⟩
    have d1 : (36 * v1.toInt + v3.toInt) / 36 = v1.toInt := by omega
    have d2 : (36 * v1.toInt + v3.toInt) % 36 = v3.toInt := by omega
    rw [d1, d2]; exact b2
  refine bind_i (fs_findFar j1 (((36 : Int32) * v1) + v3) ⟨onp3.1, onp3.2.1⟩) (fun x5 _ ff => ?_)
  rw [Option.bind_some]
  have f5 := ff.1.2.1
  have out5 : (J x5 ∧ ∀ k i, k ≠ 177 → k ≠ 168 → k ≠ 162 → x5.1 k i = M.1 k i) ∧ (∀ i, i ≠ 13 → i ≠ 12 → x5.1 162 i = M.1 162 i) := ⟨⟨ff.1.1, fun k i n1 _ n3 => (f5 k i n1).trans (f1 k i (by omega))⟩, fun i n1 _ => (f5 162 i (by omega)).trans (f1 162 i (by omega))⟩
  refine inb_i (by omega) (by omega) (if_i (fun e => ?_) (fun e => ⟨_, rfl, out5⟩))
  have dl : (x5.1 177 (((36 : Int32) * v1) + v2).toInt.toNat).toInt < 1000000 := lti.mp e
  have r5 := Jr_177 ff.1.1 (((36 : Int32) * v1) + v2).toInt.toNat
  refine mem_i (fun M7 e7 => ?_)
  have hl : ∃ x, iter (lb_Mod_path_69 (x5.1 177 (((36 : Int32) * v1) + v2).toNatClampNeg)) FU (((36 : Int32) * v1) + v2, (0 : Int32), M7) = some x ∧ (J x ∧ Fr WP x5 x) := by
    refine iter_r (fun s : Int32 × Int32 × Mem => J s.2.2 ∧ Fr WP x5 s.2.2 ∧ (0 ≤ s.1.toInt ∧ s.1.toInt ≤ 71) ∧ 0 ≤ s.2.1.toInt ∧ (x5.1 177 s.1.toInt.toNat).toInt + s.2.1.toInt = (x5.1 177 (((36 : Int32) * v1) + v2).toInt.toNat).toInt ∧ (s.2.2.1 162 12).toInt ≤ s.2.1.toInt ∧ (s.2.2.1 162 12).toInt ≤ 10) (fun s : Int32 × Int32 × Mem => ((x5.1 177 (((36 : Int32) * v1) + v2).toInt.toNat).toInt - s.2.1.toInt).toNat) _ ?_ FU _ ⟨?_, ?_, ?_, ?_, ?_, ?_, ?_⟩ ?_
    · rintro ⟨a, k, N⟩ ⟨i1, i2, i3, i4, i5, i6, i7⟩
      dsimp only at i1 i2 i3 i4 i5 i6 i7
      unfold lb_Mod_path_69
      dsimp only
      refine if_i (fun c => ⟨_, rfl, i1, i2⟩) (fun c => ?_)
      have d : k.toInt < (x5.1 177 (((36 : Int32) * v1) + v2).toInt.toNat).toInt := nlei.mp c
      have ra := Jr_177 ff.1.1 a.toInt.toNat
      have ek : (k + (1 : Int32)).toInt = k.toInt + 1 := add_ti rfl rfl (by omega) (by omega)
      refine bind_i (sl_path79 j1 k1 onp3 ff i1 i2 a _ k i3 (by omega) (by omega)) (fun x12 _ q => ?_)
      obtain ⟨q, eq, q1, q2⟩ := q
      have c10 : (10 : Int32).toInt = 10 := rfl
      have fin : ∀ K : Mem, J K → Fr WP x5 K → (K.1 162 12).toInt ≤ k.toInt + 1 → (K.1 162 12).toInt ≤ 10 → LPq (fun s : Int32 × Int32 × Mem => J s.2.2 ∧ Fr WP x5 s.2.2 ∧ (0 ≤ s.1.toInt ∧ s.1.toInt ≤ 71) ∧ 0 ≤ s.2.1.toInt ∧ (x5.1 177 s.1.toInt.toNat).toInt + s.2.1.toInt = (x5.1 177 (((36 : Int32) * v1) + v2).toInt.toNat).toInt ∧ (s.2.2.1 162 12).toInt ≤ s.2.1.toInt ∧ (s.2.2.1 162 12).toInt ≤ 10) (fun s : Int32 × Int32 × Mem => ((x5.1 177 (((36 : Int32) * v1) + v2).toInt.toNat).toInt - s.2.1.toInt).toNat) (fun x : Mem => J x ∧ Fr WP x5 x) ((x5.1 177 (((36 : Int32) * v1) + v2).toInt.toNat).toInt - k.toInt).toNat (.inl (q, k + (1 : Int32), K)) := by
        intro K y1 y2 y3 y4
        refine ⟨⟨y1, y2, q1, ?_, ?_, ?_, y4⟩, ?_⟩
        · show 0 ≤ (k + (1 : Int32)).toInt; omega
        · show (x5.1 177 q.toInt.toNat).toInt + (k + (1 : Int32)).toInt = _; omega
        · show (K.1 162 12).toInt ≤ (k + (1 : Int32)).toInt; omega
        · show ((x5.1 177 (((36 : Int32) * v1) + v2).toInt.toNat).toInt - (k + (1 : Int32)).toInt).toNat < _; omega
      unfold j_Mod_path_143_69
      refine if_i (fun c => bind_e eq ⟨_, rfl, fin N i1 i2 (by omega) i7⟩) (fun c => ?_)
      have dk := nlei.mp c
      refine bind_i (fs_put i1 x12 (by omega)) (fun x14 _ s => ?_)
      obtain ⟨s1, s2, s3, s4⟩ := s
      have ego : f_Mod_go 163 a x12 x14 = some q := by
        obtain ⟨y, ey, gy, y1, y2⟩ := fs_go s1 163 St_163 a x12 i3
        have gq := (some_of (fs_go i1 163 St_163 a x12 i3) eq).1
        have := goR_fun ((goR_c ⟨s3 162 2 (by decide), s3 162 3 (by decide), fun i => s3 164 i (by omega)⟩ (fun i => s3 163 i (by omega))).mp gy) gq
        rw [ey, Int32.toInt_inj.mp this]
      exact bind_e ego ⟨_, rfl, fin x14 s1 (i2.t s3) (by omega) (by omega)⟩
    · show J M7; rw [e7]; exact Jw_162_12 ff.1.1 _ (by decide) (by decide)
    · show Fr WP x5 M7; rw [e7]; exact Fr.i (W := WP) Fr.r (.inr ⟨rfl, rfl⟩)
    · show 0 ≤ (((36 : Int32) * v1) + v2).toInt ∧ (((36 : Int32) * v1) + v2).toInt ≤ 71; omega
    · show (0 : Int) ≤ (0 : Int32).toInt; decide
    · show (x5.1 177 (((36 : Int32) * v1) + v2).toInt.toNat).toInt + (0 : Int) = _; omega
    · show (M7.1 162 12).toInt ≤ 0; rw [e7, si_eq]; decide
    · show (M7.1 162 12).toInt ≤ 10; rw [e7, si_eq]; decide
    · show ((x5.1 177 (((36 : Int32) * v1) + v2).toInt.toNat).toInt - (0 : Int)).toNat < FU; rw [FU_v]; omega
  refine bind_i hl (fun x17 _ q => ⟨_, rfl, ⟨q.1, fun k i n1 n2 n3 => ?_⟩, fun i n1 n2 => ?_⟩)
  · exact (q.2 k i (by omega)).trans (out5.1.2 k i n1 n2 n3)
  · exact (q.2 162 i (by omega)).trans (out5.2 i n1 n2)
end
section
/-! wardrobe: carry is a distance of pairs -/
def plR (M : Mem) (l c s n : Int) : Prop := (s = 4 ∧ n = c) ∨ (s ≠ 4 ∧ ((bes (xw M) (xh M) c s = -1 ∧ n = -1) ∨ (bes (xw M) (xh M) c s ≠ -1 ∧ ¬ onN M l (bes (xw M) (xh M) c s) ∧ n = -1) ∨ (bes (xw M) (xh M) c s ≠ -1 ∧ onN M l (bes (xw M) (xh M) c s) ∧ n = bes (xw M) (xh M) c s)))
theorem plR_fun {M : Mem} {l c s n m : Int} (h1 : plR M l c s n) (h2 : plR M l c s m) : n = m := by
  unfold plR at h1 h2
  rcases h1 with ⟨a1, a2⟩ | ⟨a1, ⟨a2, a3⟩ | ⟨a2, a3, a4⟩ | ⟨a2, a3, a4⟩⟩ <;> rcases h2 with ⟨b1, b2⟩ | ⟨b1, ⟨b2, b3⟩ | ⟨b2, b3, b4⟩ | ⟨b2, b3, b4⟩⟩ <;> first | omega | (exact absurd b3 a3) | (exact absurd a3 b3)
theorem fs_plain {M : Mem} (h : J M) (l c s : Int32) (hc : 0 ≤ c.toInt ∧ c.toInt ≤ 35) : ∃ r, f_Mod_plain l c s M = some r ∧ (plR M l.toInt c.toInt s.toInt r.toInt ∧ -1 ≤ r.toInt ∧ r.toInt ≤ 35) := by
  have n1 : (-1 : Int32).toInt = -1 := rfl
  have c4 : (4 : Int32).toInt = 4 := rfl
  unfold f_Mod_plain
  refine if_i (fun e => ⟨_, rfl, .inl ⟨(eqi.mp e).trans c4, rfl⟩, by omega, by omega⟩) (fun e => ?_)
  have s4 : s.toInt ≠ 4 := fun w => neqi.mp e (w.trans c4.symm)
  obtain ⟨x1, e1, q1⟩ := fs_beside h c s hc
  have g1 := some_of (sf_Mod_beside c s M ⟨by omega, hc.2⟩ h) e1
  refine bind_e e1 (if_i (fun e => ⟨_, rfl, .inr ⟨s4, .inl ⟨by rw [← q1]; exact eqi.mp e, n1⟩⟩, by omega, by omega⟩) (fun e => ?_))
  have b1 : x1.toInt ≠ -1 := neqi.mp e
  obtain ⟨x2, e2, q2⟩ := fs_isOf h l x1
  refine bind_e e2 ?_
  rcases q2 with ⟨rfl, q2⟩ | ⟨rfl, q2⟩
  · exact if_i (fun c => absurd c (by decide)) (fun _ => ⟨_, rfl, .inr ⟨s4, .inr (.inr ⟨by rw [← q1]; exact b1, by rw [← q1]; exact q2, q1⟩)⟩, g1.1, g1.2⟩)
  · exact if_i (fun _ => ⟨_, rfl, .inr ⟨s4, .inr (.inl ⟨by rw [← q1]; exact b1, by rw [← q1]; exact q2, n1⟩)⟩, by omega, by omega⟩) (fun c => absurd rfl c)
theorem pl_sym {M : Mem} (h : J M) {l c s n : Int} (hc : onN M l c) (hs : 0 ≤ s ∧ s ≤ 4) (hp : plR M l c s n) (hn : n ≠ -1) : onN M l n ∧ plR M l n (opp s) c := by
  have w := aw h
  have hh := ah h
  unfold plR at hp
  rcases hp with ⟨a1, a2⟩ | ⟨a1, ⟨a2, a3⟩ | ⟨a2, a3, a4⟩ | ⟨a2, a3, a4⟩⟩
  · subst a1; subst a2
    exact ⟨hc, .inl ⟨by decide, rfl⟩⟩
  · exact absurd a3 hn
  · exact absurd a4 hn
  · have hs3 : 0 ≤ s ∧ s ≤ 3 := by omega
    obtain ⟨s1, s2, s3⟩ := bes_sym w hh hc.1 hc.2.1 hs3 a2
    have o := opp_r hs3
    subst a4
    have c0 := hc.1
    exact ⟨a3, .inr ⟨by omega, .inr (.inr ⟨by rw [s3]; omega, by rw [s3]; exact hc, by rw [s3]⟩)⟩⟩
def neR (M : Mem) (a b : Int) : Prop := a = b ∨ ∃ s : Int, 0 ≤ s ∧ s ≤ 3 ∧ bes (xw M) (xh M) a s = b
theorem fs_areNear {M : Mem} (h : J M) (a b : Int32) (ha : 0 ≤ a.toInt ∧ a.toInt ≤ 35) : ∃ r, f_Mod_areNear a b M = some r ∧ ((r = 1 ∧ neR M a.toInt b.toInt) ∨ (r = 0 ∧ ¬ neR M a.toInt b.toInt)) := by
  unfold f_Mod_areNear
  refine if_i (fun e => ⟨_, rfl, .inl ⟨rfl, .inl (eqi.mp e)⟩⟩) (fun e => ?_)
  have d := neqi.mp e
  have hl : ∃ x, iter (lb_Mod_areNear_9 a b M) FU (0 : Int32) = some x ∧ SQ (fun _ : Unit => ¬ neR M a.toInt b.toInt) (fun _ : Unit => neR M a.toInt b.toInt) x := by
    refine iter_r (fun s : Int32 => 0 ≤ s.toInt ∧ s.toInt ≤ 4 ∧ ∀ t : Int, 0 ≤ t → t < s.toInt → bes (xw M) (xh M) a.toInt t ≠ b.toInt) (fun s : Int32 => (4 - s.toInt).toNat) _ ?_ FU _ ⟨by decide, by decide, fun t t0 t1 => absurd (show t < 0 from t1) (by omega)⟩ (by show (4 - (0 : Int)).toNat < FU; rw [FU_v]; decide)
    rintro s ⟨i1, i2, i3⟩
    have c4 : (4 : Int32).toInt = 4 := rfl
    unfold lb_Mod_areNear_9
    refine if_i (fun c => ⟨_, rfl, ?_⟩) (fun c => ?_)
    · have d4 := lei.mp c
      rintro (w | ⟨t, t0, t1, t2⟩)
      · exact d w
      · exact i3 t t0 (by omega) t2
    have d4 := nlei.mp c
    have es : (s + (1 : Int32)).toInt = s.toInt + 1 := add_ti rfl rfl (by omega) (by omega)
    refine bind_i (fs_beside h a s ha) (fun x1 _ q => ?_)
    refine if_i (fun e => ⟨_, rfl, .inr ⟨s.toInt, i1, by omega, by rw [← q]; exact eqi.mp e⟩⟩) (fun e => ⟨_, rfl, ⟨⟨by omega, by omega, fun t t0 t1 => ?_⟩, ?_⟩⟩)
    · by_cases w : t < s.toInt
      · exact i3 t t0 w
      · have : t = s.toInt := by omega
        rw [this, ← q]; exact neqi.mp e
    · show (4 - (s + (1 : Int32)).toInt).toNat < (4 - s.toInt).toNat; omega
  refine bind_i hl (fun x _ q => ?_)
  rcases x with y | y
  · exact ⟨_, rfl, .inr ⟨rfl, q⟩⟩
  · exact ⟨_, rfl, .inl ⟨rfl, q⟩⟩
def crR (M : Mem) (a b code x : Int) : Prop := ∃ i j : Int, plR M 0 a (code / 10) i ∧ plR M 1 b (code % 10) j ∧ (((i = -1 ∨ j = -1) ∧ x = -1) ∨ (i ≠ -1 ∧ j ≠ -1 ∧ ¬ neR M i j ∧ x = -1) ∨ (i ≠ -1 ∧ j ≠ -1 ∧ neR M i j ∧ x = 36 * i + j))
theorem crR_fun {M : Mem} {a b code x y : Int} (h1 : crR M a b code x) (h2 : crR M a b code y) : x = y := by
  obtain ⟨i, j, p1, p2, p3⟩ := h1
  obtain ⟨i', j', q1, q2, q3⟩ := h2
  have e1 := plR_fun p1 q1
  have e2 := plR_fun p2 q2
  subst e1; subst e2
  rcases p3 with ⟨a1, a2⟩ | ⟨a1, a2, a3, a4⟩ | ⟨a1, a2, a3, a4⟩ <;> rcases q3 with ⟨b1, b2⟩ | ⟨b1, b2, b3, b4⟩ | ⟨b1, b2, b3, b4⟩ <;> first | omega | (exact absurd b3 a3) | (exact absurd a3 b3)
theorem fs_carryTo {M : Mem} (h : J M) (a b c : Int32) (ha : 0 ≤ a.toInt ∧ a.toInt ≤ 35) (hb : 0 ≤ b.toInt ∧ b.toInt ≤ 35) (hc : 0 ≤ c.toInt ∧ c.toInt ≤ 44) : ∃ r, f_Mod_carryTo a b c M = some r ∧ (crR M a.toInt b.toInt c.toInt r.toInt ∧ -1 ≤ r.toInt ∧ r.toInt ≤ 1295) := by
  have n1 : (-1 : Int32).toInt = -1 := rfl
  have rm : (c - c / (10 : Int32) * (10 : Int32)).toInt = c.toInt % 10 := rem_ti rfl rfl hc.1 (by decide)
  have dv : (c / (10 : Int32)).toInt = c.toInt / 10 := div_ti rfl rfl hc.1 (by decide)
  unfold f_Mod_carryTo
  refine bind_i (fs_plain h 0 a _ ha) (fun x1 _ q1 => bind_i (fs_plain h 1 b _ hb) (fun x2 _ q2 => ?_))
  obtain ⟨p1, p2, p3⟩ := q1
  obtain ⟨r1, r2, r3⟩ := q2
  rw [dv] at p1
  rw [rm] at r1
  refine if_i (fun e => ⟨_, rfl, ⟨_, _, p1, r1, .inl ⟨.inl (eqi.mp e), n1⟩⟩, by omega, by omega⟩) (fun e => ?_)
  have d1 : x1.toInt ≠ -1 := neqi.mp e
  refine if_i (fun e => ⟨_, rfl, ⟨_, _, p1, r1, .inl ⟨.inr (eqi.mp e), n1⟩⟩, by omega, by omega⟩) (fun e => ?_)
  have d2 : x2.toInt ≠ -1 := neqi.mp e
  refine bind_i (fs_areNear h x1 x2 (by omega)) (fun x3 _ q3 => ?_)
  rcases q3 with ⟨rfl, q3⟩ | ⟨rfl, q3⟩
  · have m1 : ((36 : Int32) * x1).toInt = 36 * x1.toInt := mul_ti rfl rfl (by omega) (by omega)
    have m2 : (((36 : Int32) * x1) + x2).toInt = 36 * x1.toInt + x2.toInt := add_ti m1 rfl (by omega) (by omega)
    exact if_i (fun c => absurd c (by decide)) (fun _ => ⟨_, rfl, ⟨_, _, p1, r1, .inr (.inr ⟨d1, d2, q3, m2⟩)⟩, by omega, by omega⟩)
  · exact if_i (fun _ => ⟨_, rfl, ⟨_, _, p1, r1, .inr (.inl ⟨d1, d2, q3, n1⟩)⟩, by omega, by omega⟩) (fun c => absurd rfl c)
/-- a pair that may carry -/
def vpR (M : Mem) (x : Int) : Prop := 0 ≤ x ∧ x ≤ 1295 ∧ onN M 0 (x / 36) ∧ onN M 1 (x % 36) ∧ neR M (x / 36) (x % 36)
theorem cr_sym {M : Mem} (h : J M) {x y s t : Int} (hx : vpR M x) (hs : 0 ≤ s ∧ s ≤ 4) (ht : 0 ≤ t ∧ t ≤ 4) (hc : crR M (x / 36) (x % 36) (10 * s + t) y) (hy : y ≠ -1) : vpR M y ∧ crR M (y / 36) (y % 36) (10 * opp s + opp t) x := by
  have wh := awh h
  obtain ⟨x1, x2, x3, x4, x5⟩ := hx
  obtain ⟨i, j, p1, p2, p3⟩ := hc
  have e1 : (10 * s + t) / 10 = s := by omega
  have e2 : (10 * s + t) % 10 = t := by omega
  rw [e1] at p1
  rw [e2] at p2
  rcases p3 with ⟨a1, a2⟩ | ⟨a1, a2, a3, a4⟩ | ⟨a1, a2, a3, a4⟩
  · exact absurd a2 hy
  · exact absurd a4 hy
  · obtain ⟨u1, u2⟩ := pl_sym h x3 hs p1 a1
    obtain ⟨v1, v2⟩ := pl_sym h x4 ht p2 a2
    have i0 := u1.1
    have i1 := u1.2.1
    have j0 := v1.1
    have j1 := v1.2.1
    have f1 : y / 36 = i := by omega
    have f2 : y % 36 = j := by omega
    have os : 0 ≤ opp s ∧ opp s ≤ 4 := by
      by_cases e : s = 4
      · subst e; decide
      · have := opp_r (s := s) (by omega); omega
    have ot : 0 ≤ opp t ∧ opp t ≤ 4 := by
      by_cases e : t = 4
      · subst e; decide
      · have := opp_r (s := t) (by omega); omega
    have g1 : (10 * opp s + opp t) / 10 = opp s := by omega
    have g2 : (10 * opp s + opp t) % 10 = opp t := by omega
    have x30 := x3.1
    have x40 := x4.1
    refine ⟨⟨by omega, by omega, by rw [f1]; exact u1, by rw [f2]; exact v1, by rw [f1, f2]; exact a3⟩, x / 36, x % 36, ?_, ?_, .inr (.inr ⟨by omega, by omega, x5, by omega⟩)⟩
    · rw [f1, g1]; exact u2
    · rw [f2, g2]; exact v2
theorem mapR_c {M B : Mem} (h : MapEq M B) : xw M = xw B ∧ xh M = xh B ∧ (∀ l c, onN M l c ↔ onN B l c) := ⟨by unfold xw; rw [h.1], by unfold xh; rw [h.2.1], fun _ _ => onN_c h⟩
theorem crR_c {M B : Mem} (h : MapEq M B) {a b c x : Int} : crR M a b c x ↔ crR B a b c x := by
  obtain ⟨e1, e2, e3⟩ := mapR_c h
  unfold crR plR neR
  simp only [e1, e2, e3]
abbrev W85 (k _i : Nat) : Prop := k = 185
def un (M : Mem) : Nat → Int := fun i => if (M.1 185 i).toInt < 1000000 then 0 else 1
def cn (M : Mem) : Int := sm (un M) 1296
theorem cn_bd (M : Mem) : 0 ≤ cn M ∧ cn M ≤ 1296 := by
  have := sm_bd (f := un M) (b := 1) (fun i => by unfold un; split <;> omega) 1296
  unfold cn; omega
theorem cn_dec {M : Mem} {i : Nat} {v : Int32} (hi : i < 1296) (hv : v.toInt < 1000000) (hd : 1000000 ≤ (M.1 185 i).toInt) : cn (s_i M 185 i v) = cn M - 1 := by
  unfold cn
  rw [sm_upd (f := un M) hi (fun j hj => by unfold un; rw [si_ne (fun e => hj e.2)])]
  have e1 : un M i = 1 := by unfold un; rw [if_neg (by omega)]
  have e2 : un (s_i M 185 i v) i = 0 := by unfold un; rw [si_eq, if_pos hv]
  rw [e1, e2]; omega
theorem W85.map {B M : Mem} (h : Fr W85 B M) : MapEq M B := ⟨h 162 2 (by decide), h 162 3 (by decide), fun i => h 164 i (by omega)⟩
/-- carry, as far as it is found -/
def QC (B : Mem) (t : Int) (M : Mem) : Prop := J M ∧ Fr W85 B M ∧ M.2 = B.2 ∧ (M.1 185 (37 * t).toNat).toInt = 0 ∧ (∀ x : Nat, x < 1296 → (M.1 185 x).toInt < 1000000 → vpR B x ∧ ((x : Int) = 37 * t ∨ ∃ y : Nat, y < 1296 ∧ ∃ s u : Int, (0 ≤ s ∧ s ≤ 4) ∧ (0 ≤ u ∧ u ≤ 4) ∧ crR B ((y : Int) / 36) ((y : Int) % 36) (10 * s + u) x ∧ (M.1 185 y).toInt + 1 = (M.1 185 x).toInt))
def SC (B : Mem) (t : Int) (acc0 : Int32) (M0_ : Mem) (acc : Int32) (M : Mem) : Prop := QC B t M ∧ (acc = 0 ∨ acc = 1) ∧ cn M ≤ cn M0_ ∧ (acc = 0 → acc0 = 0) ∧ (acc ≠ 0 → acc0 ≠ 0 ∨ cn M < cn M0_) ∧ (∀ x : Nat, x < 1296 → (M0_.1 185 x).toInt < 1000000 → M.1 185 x = M0_.1 185 x)
theorem SC.t {B : Mem} {t : Int} {a0 a1 a2 : Int32} {M0_ M1 M2 : Mem} (h : SC B t a0 M0_ a1 M1) (g : SC B t a1 M1 a2 M2) : SC B t a0 M0_ a2 M2 := by
  obtain ⟨h1, h2, h3, h4, h5, h6⟩ := h
  obtain ⟨g1, g2, g3, g4, g5, g6⟩ := g
  refine ⟨g1, g2, by omega, fun e => h4 (g4 e), fun e => ?_, fun x hx hd => (g6 x hx (by rw [h6 x hx hd]; exact hd)).trans (h6 x hx hd)⟩
  rcases g5 e with w | w
  · rcases h5 w with u | u
    · exact .inl u
    · right; omega
  · right; omega
theorem sl_wardrobe138 {B : Mem} (hB : J B) {t : Int} (ht : 0 ≤ t ∧ t ≤ 35) (v1 v4 v5 v6 : Int32) (h4 : 0 ≤ v4.toInt ∧ v4.toInt ≤ 2000) (h5 : 0 ≤ v5.toInt ∧ v5.toInt ≤ 35) (h6 : 0 ≤ v6.toInt ∧ v6.toInt ≤ 35) {M : Mem} (h : QC B t M) (acc : Int32) (ha : acc = 0 ∨ acc = 1) (hd : (M.1 185 (36 * v5.toInt + v6.toInt).toNat).toInt = v4.toInt) :
    ∃ x, iter (lb_Mod_wardrobe_138 v1 v4 v5 v6) FU (acc, (0 : Int32), M) = some x ∧ SC B t acc M x.1 x.2 := by
  have hv : vpR B (36 * v5.toInt + v6.toInt) := by
    have := (h.2.2.2.2 (36 * v5.toInt + v6.toInt).toNat (by omega) (by omega)).1
    have e : (((36 * v5.toInt + v6.toInt).toNat : Nat) : Int) = 36 * v5.toInt + v6.toInt := by omega
    rw [e] at this; exact this
  have ed : (36 * v5.toInt + v6.toInt) / 36 = v5.toInt := by omega
  have emo : (36 * v5.toInt + v6.toInt) % 36 = v6.toInt := by omega
  refine iter_r (fun s : Int32 × Int32 × Mem => SC B t acc M s.1 s.2.2 ∧ (0 ≤ s.2.1.toInt ∧ s.2.1.toInt ≤ 45)) (fun s : Int32 × Int32 × Mem => (45 - s.2.1.toInt).toNat) _ ?_ FU _ ⟨⟨h, ha, Int.le_refl _, fun e => e, fun e => .inl e, fun _ _ _ => rfl⟩, (by show (0 : Int) ≤ (0 : Int32).toInt ∧ (0 : Int32).toInt ≤ 45; decide)⟩ (by show (45 - (0 : Int)).toNat < FU; rw [FU_v]; decide)
  rintro ⟨a, k, N⟩ ⟨i1, i2⟩
  dsimp only at i1 i2
  obtain ⟨⟨j, f, g2, dp, wit⟩, aa, pl, a0, a1, keep⟩ := i1
  have c45 : (45 : Int32).toInt = 45 := rfl
  unfold lb_Mod_wardrobe_138
  dsimp only
  refine if_i (fun c => ⟨_, rfl, ⟨j, f, g2, dp, wit⟩, aa, pl, a0, a1, keep⟩) (fun c => ?_)
  have d := nlei.mp c
  have ek : (k + (1 : Int32)).toInt = k.toInt + 1 := add_ti rfl rfl (by omega) (by omega)
  have rm : (k - k / (10 : Int32) * (10 : Int32)).toInt = k.toInt % 10 := rem_ti rfl rfl i2.1 (by decide)
  have on : ∀ (b : Int32) (K : Mem), SC B t acc M b K → LPq (fun s : Int32 × Int32 × Mem => SC B t acc M s.1 s.2.2 ∧ (0 ≤ s.2.1.toInt ∧ s.2.1.toInt ≤ 45)) (fun s : Int32 × Int32 × Mem => (45 - s.2.1.toInt).toNat) (fun x : Int32 × Mem => SC B t acc M x.1 x.2) (45 - k.toInt).toNat (.inl (b, k + (1 : Int32), K)) := by
    intro b K hK
    refine ⟨⟨hK, ?_⟩, ?_⟩
    · show 0 ≤ (k + (1 : Int32)).toInt ∧ (k + (1 : Int32)).toInt ≤ 45; omega
    · show (45 - (k + (1 : Int32)).toInt).toNat < (45 - k.toInt).toNat; omega
  have same := on a N ⟨⟨j, f, g2, dp, wit⟩, aa, pl, a0, a1, keep⟩
  have k168 : ∀ w0 : Int32, (w0.toInt = -1 ∨ (crR N v5.toInt v6.toInt k.toInt w0.toInt ∧ 0 ≤ w0.toInt ∧ w0.toInt ≤ 1295 ∧ k.toInt % 10 ≤ 4)) → ∃ r, j_Mod_wardrobe_168_138 v1 a v4 v5 v6 k w0 N = some r ∧ LPq (fun s : Int32 × Int32 × Mem => SC B t acc M s.1 s.2.2 ∧ (0 ≤ s.2.1.toInt ∧ s.2.1.toInt ≤ 45)) (fun s : Int32 × Int32 × Mem => (45 - s.2.1.toInt).toNat) (fun x : Int32 × Mem => SC B t acc M x.1 x.2) (45 - k.toInt).toNat r := by
    intro w0 hw
    have n1 : (-1 : Int32).toInt = -1 := rfl
    unfold j_Mod_wardrobe_168_138
    refine if_i (fun e => ⟨_, rfl, same⟩) (fun e => ?_)
    have dw : w0.toInt ≠ -1 := neqi.mp e
    rcases hw with hw | ⟨w1, w2, w3, w4⟩
    · exact absurd hw dw
    refine inb_i w2 (by omega) (if_i (fun e => inb_i w2 (by omega) (mem_i (fun m em => ⟨_, rfl, on 1 m ?_⟩))) (fun e => ⟨_, rfl, same⟩))
    have far : 1000000 ≤ (N.1 185 w0.toInt.toNat).toInt := lei.mp e
    have ea : (v4 + (1 : Int32)).toInt = v4.toInt + 1 := add_ti rfl rfl (by omega) (by omega)
    have val : ∀ i, (m.1 185 i).toInt = if i = w0.toInt.toNat then v4.toInt + 1 else (N.1 185 i).toInt := by
      intro i
      rw [em]
      by_cases w : i = w0.toInt.toNat
      · rw [w]; show ((s_i N 185 w0.toInt.toNat (v4 + (1 : Int32))).1 185 w0.toInt.toNat).toInt = _; rw [si_eq, if_pos rfl]; exact ea
      · rw [if_neg w]; exact congrArg Int32.toInt (si_ne (fun z => w z.2))
    have kd : 10 * (k.toInt / 10) + k.toInt % 10 = k.toInt := by omega
    have w1' : crR B ((36 * v5.toInt + v6.toInt) / 36) ((36 * v5.toInt + v6.toInt) % 36) (10 * (k.toInt / 10) + k.toInt % 10) w0.toInt := by
      rw [ed, emo, kd]; exact (crR_c (W85.map f)).mp w1
    obtain ⟨sy, -⟩ := cr_sym hB hv (s := k.toInt / 10) (t := k.toInt % 10) (by omega) (by omega) w1' dw
    have old : (N.1 185 (36 * v5.toInt + v6.toInt).toNat).toInt = v4.toInt := by rw [keep _ (by omega) (by omega)]; exact hd
    have hne : (36 * v5.toInt + v6.toInt).toNat ≠ w0.toInt.toNat := fun w => by rw [w] at old; omega
    have dpn : (37 * t).toNat ≠ w0.toInt.toNat := fun w => by rw [w] at dp; omega
    have cd := cn_dec (M := N) (i := w0.toInt.toNat) (v := v4 + (1 : Int32)) (by omega) (by omega) far
    have emm : m = s_i N 185 w0.toInt.toNat (v4 + (1 : Int32)) := em
    refine ⟨⟨by rw [em]; exact Jw_185 j _ _ (by omega) (by omega), by rw [em]; exact f.i rfl, by rw [em]; exact g2, ?_, fun x hx hdx => ?_⟩, .inr rfl, ?_, fun e => absurd e (by decide), fun _ => .inr ?_, fun x hx hdx => ?_⟩
    · rw [val, if_neg dpn]; exact dp
    · by_cases w : x = w0.toInt.toNat
      · have ex : (x : Int) = w0.toInt := by omega
        refine ⟨by rw [ex]; exact sy, .inr ⟨(36 * v5.toInt + v6.toInt).toNat, by omega, k.toInt / 10, k.toInt % 10, by omega, by omega, ?_, ?_⟩⟩
        · have e : (((36 * v5.toInt + v6.toInt).toNat : Nat) : Int) = 36 * v5.toInt + v6.toInt := by omega
          rw [e, ex]; exact w1'
        · rw [val, val, if_neg hne, if_pos w, old]
      · rw [val, if_neg w] at hdx
        obtain ⟨z1, z2⟩ := wit x hx hdx
        refine ⟨z1, ?_⟩
        rcases z2 with z | ⟨y, y1, s, u, y2, y3, y4, y5⟩
        · exact .inl z
        · have yn : y ≠ w0.toInt.toNat := fun q => by rw [q] at y5; omega
          exact .inr ⟨y, y1, s, u, y2, y3, y4, by rw [val, val, if_neg yn, if_neg w]; exact y5⟩
    · rw [emm, cd]; omega
    · rw [emm, cd]; omega
    · have hk := keep x hx hdx
      have xn : x ≠ w0.toInt.toNat := fun q => by rw [← q, hk] at far; omega
      rw [em]; exact (si_ne (fun z => xn z.2)).trans hk
  have c4 : (4 : Int32).toInt = 4 := rfl
  refine if_i (fun e => ?_) (fun e => k168 _ (.inl rfl))
  have d4 := lei.mp e
  refine bind_i (fs_carryTo j v5 v6 k h5 h6 (by omega)) (fun x10 _ q => k168 x10 ?_)
  by_cases w : x10.toInt = -1
  · exact .inl w
  · exact .inr ⟨q.1, by omega, q.2.2, by omega⟩
theorem cells_e {M : Mem} : f_Mod_cells M = some ((M.1 162 2) * (M.1 162 3)) := rfl
theorem sl_wardrobe105 {B : Mem} (hB : J B) {t : Int} (ht : 0 ≤ t ∧ t ≤ 35) (v1 v4 v5 : Int32) (h4 : 0 ≤ v4.toInt ∧ v4.toInt ≤ 2000) (h5 : 0 ≤ v5.toInt ∧ v5.toInt ≤ 35) {M : Mem} (h : QC B t M) (acc : Int32) (ha : acc = 0 ∨ acc = 1) :
    ∃ x, iter (lb_Mod_wardrobe_105 v1 v4 v5) FU (acc, (0 : Int32), M) = some x ∧ SC B t acc M x.1 x.2 := by
  refine iter_r (fun s : Int32 × Int32 × Mem => SC B t acc M s.1 s.2.2 ∧ (0 ≤ s.2.1.toInt ∧ s.2.1.toInt ≤ 36)) (fun s : Int32 × Int32 × Mem => (36 - s.2.1.toInt).toNat) _ ?_ FU _ ⟨⟨h, ha, Int.le_refl _, fun e => e, fun e => .inl e, fun _ _ _ => rfl⟩, (by show (0 : Int) ≤ (0 : Int32).toInt ∧ (0 : Int32).toInt ≤ 36; decide)⟩ (by show (36 - (0 : Int)).toNat < FU; rw [FU_v]; decide)
  rintro ⟨a, k, N⟩ ⟨i1, i2⟩
  dsimp only at i1 i2
  have wh := awh i1.1.1
  have we := wh_ti i1.1.1
  unfold lb_Mod_wardrobe_105
  dsimp only
  refine bind_e cells_e (if_i (fun c => ⟨_, rfl, i1⟩) (fun c => ?_))
  have d := nlei.mp c
  rw [we] at d
  have ek : (k + (1 : Int32)).toInt = k.toInt + 1 := add_ti rfl rfl (by omega) (by omega)
  have m1 : ((36 : Int32) * v5).toInt = 36 * v5.toInt := mul_ti rfl rfl (by omega) (by omega)
  have m2 : (((36 : Int32) * v5) + k).toInt = 36 * v5.toInt + k.toInt := add_ti m1 rfl (by omega) (by omega)
  have on : ∀ (b : Int32) (K : Mem), SC B t acc M b K → LPq (fun s : Int32 × Int32 × Mem => SC B t acc M s.1 s.2.2 ∧ (0 ≤ s.2.1.toInt ∧ s.2.1.toInt ≤ 36)) (fun s : Int32 × Int32 × Mem => (36 - s.2.1.toInt).toNat) (fun x : Int32 × Mem => SC B t acc M x.1 x.2) (36 - k.toInt).toNat (.inl (b, k + (1 : Int32), K)) := by
    intro b K hK
    refine ⟨⟨hK, ?_⟩, ?_⟩
    · show 0 ≤ (k + (1 : Int32)).toInt ∧ (k + (1 : Int32)).toInt ≤ 36; omega
    · show (36 - (k + (1 : Int32)).toInt).toNat < (36 - k.toInt).toNat; omega
  refine inb_i (by omega) (by omega) (if_i (fun e => ?_) (fun e => ⟨_, rfl, on a N i1⟩))
  have ed : (N.1 185 (36 * v5.toInt + k.toInt).toNat).toInt = v4.toInt := by
    have := eqi.mp e
    rw [tcn', m2] at this; exact this
  exact bind_i (sl_wardrobe138 hB ht v1 v4 v5 k h4 h5 ⟨i2.1, by omega⟩ i1.1 a i1.2.1 ed) (fun x _ q => ⟨_, rfl, on x.1 x.2 (i1.t q)⟩)
theorem sl_wardrobe93 {B : Mem} (hB : J B) {t : Int} (ht : 0 ≤ t ∧ t ≤ 35) (v1 v4 : Int32) (h4 : 0 ≤ v4.toInt ∧ v4.toInt ≤ 2000) {M : Mem} (h : QC B t M) :
    ∃ x, iter (lb_Mod_wardrobe_93 v1 v4) FU ((0 : Int32), (0 : Int32), M) = some x ∧ SC B t 0 M x.1 x.2 := by
  refine iter_r (fun s : Int32 × Int32 × Mem => SC B t 0 M s.1 s.2.2 ∧ (0 ≤ s.2.1.toInt ∧ s.2.1.toInt ≤ 36)) (fun s : Int32 × Int32 × Mem => (36 - s.2.1.toInt).toNat) _ ?_ FU _ ⟨⟨h, .inl rfl, Int.le_refl _, fun e => e, fun e => .inl e, fun _ _ _ => rfl⟩, (by show (0 : Int) ≤ (0 : Int32).toInt ∧ (0 : Int32).toInt ≤ 36; decide)⟩ (by show (36 - (0 : Int)).toNat < FU; rw [FU_v]; decide)
  rintro ⟨a, k, N⟩ ⟨i1, i2⟩
  dsimp only at i1 i2
  have wh := awh i1.1.1
  have we := wh_ti i1.1.1
  unfold lb_Mod_wardrobe_93
  dsimp only
  refine bind_e cells_e (if_i (fun c => ⟨_, rfl, i1⟩) (fun c => ?_))
  have d := nlei.mp c
  rw [we] at d
  have ek : (k + (1 : Int32)).toInt = k.toInt + 1 := add_ti rfl rfl (by omega) (by omega)
  refine bind_i (sl_wardrobe105 hB ht v1 v4 k h4 ⟨i2.1, by omega⟩ i1.1 a i1.2.1) (fun x _ q => ⟨_, rfl, ⟨⟨i1.t q, ?_⟩, ?_⟩⟩)
  · show 0 ≤ (k + (1 : Int32)).toInt ∧ (k + (1 : Int32)).toInt ≤ 36; omega
  · show (36 - (k + (1 : Int32)).toInt).toNat < (36 - k.toInt).toNat; omega
theorem sl_wardrobe84 {B : Mem} (hB : J B) {t : Int} (ht : 0 ≤ t ∧ t ≤ 35) (v1 : Int32) {M : Mem} (h : QC B t M) :
    ∃ x, iter (lb_Mod_wardrobe_84 v1) FU ((1 : Int32), (0 : Int32), M) = some x ∧ QC B t x := by
  have b := cn_bd M
  refine iter_r (fun s : Int32 × Int32 × Mem => QC B t s.2.2 ∧ 0 ≤ s.2.1.toInt ∧ (s.1 ≠ 0 → s.2.1.toInt + cn s.2.2 ≤ 1296)) (fun s : Int32 × Int32 × Mem => (2 * cn s.2.2 + (if s.1 = 0 then 0 else 1)).toNat) _ ?_ FU _ ⟨h, (by show (0 : Int) ≤ (0 : Int32).toInt; decide), fun _ => (by show (0 : Int) + cn M ≤ 1296; omega)⟩ (by show (2 * cn M + (if (1 : Int32) = 0 then 0 else 1)).toNat < FU; rw [FU_v, if_neg (by decide)]; omega)
  rintro ⟨a, k, N⟩ ⟨i1, i2, i3⟩
  dsimp only at i1 i2 i3
  have b := cn_bd N
  unfold lb_Mod_wardrobe_84
  dsimp only
  refine if_i (fun c => ⟨_, rfl, i1⟩) (fun c => ?_)
  have i3' := i3 c
  have ek : (k + (1 : Int32)).toInt = k.toInt + 1 := add_ti rfl rfl (by omega) (by omega)
  refine bind_i (sl_wardrobe93 hB ht v1 k ⟨i2, by omega⟩ i1) (fun x _ q => ⟨_, rfl, ⟨q.1, ?_, fun e => ?_⟩, ?_⟩)
  · show 0 ≤ (k + (1 : Int32)).toInt; omega
  · obtain ⟨-, -, s3, -, s5, -⟩ := q
    show (k + (1 : Int32)).toInt + cn x.2 ≤ 1296
    rcases s5 e with u | u
    · exact absurd rfl u
    · omega
  · obtain ⟨-, -, s3, -, s5, -⟩ := q
    have b2 := cn_bd x.2
    show (2 * cn x.2 + (if x.1 = 0 then 0 else 1)).toNat < (2 * cn N + (if a = 0 then 0 else 1)).toNat
    rw [if_neg c]
    by_cases e : x.1 = 0
    · rw [if_pos e]; omega
    · rw [if_neg e]
      rcases s5 e with u | u
      · exact absurd rfl u
      · omega
/-! wardrobe: safety -/
theorem nearerC {B r : Mem} (hB : J B) {t : Int} (hq : QC B t r) {x : Nat} (hx : x < 1296) (hd : (r.1 185 x).toInt < 1000000) (h0 : 0 < (r.1 185 x).toInt) : ∃ y : Nat, y < 1296 ∧ ∃ s u : Int, (0 ≤ s ∧ s ≤ 4) ∧ (0 ≤ u ∧ u ≤ 4) ∧ crR B ((x : Int) / 36) ((x : Int) % 36) (10 * s + u) y ∧ (r.1 185 y).toInt = (r.1 185 x).toInt - 1 := by
  obtain ⟨z1, z2⟩ := hq.2.2.2.2 x hx hd
  rcases z2 with z | ⟨y, y1, s, u, y2, y3, y4, y5⟩
  · have := hq.2.2.2.1
    have e : (37 * t).toNat = x := by omega
    rw [e] at this; omega
  · have vy := (hq.2.2.2.2 y y1 (by omega)).1
    have g := (cr_sym hB vy y2 y3 y4 (by omega)).2
    have os : 0 ≤ opp s ∧ opp s ≤ 4 := by
      by_cases e : s = 4
      · subst e; decide
      · have := opp_r (s := s) (by omega); omega
    have ou : 0 ≤ opp u ∧ opp u ≤ 4 := by
      by_cases e : u = 4
      · subst e; decide
      · have := opp_r (s := u) (by omega); omega
    exact ⟨y, y1, opp s, opp u, os, ou, g, by omega⟩
theorem sl_wardrobe277 {B r N : Mem} (hB : J B) {t : Int} (hq : QC B t r) (hN : J N) (hw : Fr WP r N) (v4 v5 v6 v7 : Int32) (h5 : 0 ≤ v5.toInt ∧ v5.toInt ≤ 35) (h6 : 0 ≤ v6.toInt ∧ v6.toInt ≤ 35) (h7 : 0 ≤ v7.toInt ∧ v7.toInt < v4.toInt) (h4 : v4.toInt ≤ 1000000) (hd : (r.1 185 (36 * v5.toInt + v6.toInt).toNat).toInt = v4.toInt - v7.toInt) (hf : v4.toInt - v7.toInt < 1000000) :
    ∃ x, iter (lb_Mod_wardrobe_277 v4 v5 v6 v7 N) FU (0 : Int32) = some x ∧ ((0 ≤ x.toInt ∧ x.toInt ≤ 44) ∧ ∃ y : Int32, f_Mod_carryTo v5 v6 x N = some y ∧ (0 ≤ y.toInt ∧ y.toInt ≤ 1295) ∧ (r.1 185 y.toInt.toNat).toInt = v4.toInt - v7.toInt - 1) := by
  obtain ⟨y, y1, s, u, hs, hu, g, dy⟩ := nearerC hB hq (x := (36 * v5.toInt + v6.toInt).toNat) (by omega) (by omega) (by omega)
  have e0 : (((36 * v5.toInt + v6.toInt).toNat : Nat) : Int) = 36 * v5.toInt + v6.toInt := by omega
  have ed : (36 * v5.toInt + v6.toInt) / 36 = v5.toInt := by omega
  have em : (36 * v5.toInt + v6.toInt) % 36 = v6.toInt := by omega
  rw [e0, ed, em] at g
  have f7 := hq.2.1
  have mN : ∀ c z : Int, crR N v5.toInt v6.toInt c z ↔ crR B v5.toInt v6.toInt c z := by
    intro c z
    exact (crR_c ⟨hw 162 2 (by decide), hw 162 3 (by decide), fun i => hw 164 i (by omega)⟩).trans (crR_c (W85.map f7))
  have n1 : (-1 : Int32).toInt = -1 := rfl
  have c4 : (4 : Int32).toInt = 4 := rfl
  refine iter_r (fun t : Int32 => 0 ≤ t.toInt ∧ t.toInt ≤ 10 * s + u) (fun t : Int32 => (44 - t.toInt).toNat) _ ?_ FU _ ⟨by decide, by have z : (0 : Int32).toInt = 0 := rfl; omega⟩ (by show (44 - (0 : Int)).toNat < FU; rw [FU_v]; decide)
  rintro t ⟨i1, i2⟩
  have et : (t + (1 : Int32)).toInt = t.toInt + 1 := add_ti rfl rfl (by omega) (by omega)
  have rm : (t - t / (10 : Int32) * (10 : Int32)).toInt = t.toInt % 10 := rem_ti rfl rfl i1 (by decide)
  have on : t.toInt ≠ 10 * s + u → LPq (fun t : Int32 => 0 ≤ t.toInt ∧ t.toInt ≤ 10 * s + u) (fun t : Int32 => (44 - t.toInt).toNat) (fun x : Int32 => (0 ≤ x.toInt ∧ x.toInt ≤ 44) ∧ ∃ y : Int32, f_Mod_carryTo v5 v6 x N = some y ∧ (0 ≤ y.toInt ∧ y.toInt ≤ 1295) ∧ (r.1 185 y.toInt.toNat).toInt = v4.toInt - v7.toInt - 1) (44 - t.toInt).toNat (.inl (t + (1 : Int32))) := by
    intro hn
    refine ⟨⟨by omega, by omega⟩, ?_⟩
    show (44 - (t + (1 : Int32)).toInt).toNat < (44 - t.toInt).toNat; omega
  unfold lb_Mod_wardrobe_277
  refine if_i (fun e => ⟨_, rfl, on (fun w => ?_)⟩) (fun e => ?_)
  · have := lti.mp e; omega
  obtain ⟨x, ex, gx, b1, b2⟩ := fs_carryTo hN v5 v6 t h5 h6 (by omega)
  have gx' := (mN _ _).mp gx
  refine bind_e ex (if_i (fun e => ⟨_, rfl, on (fun w => ?_)⟩) (fun e => bind_e ex ?_))
  · rw [w] at gx'
    have := crR_fun gx' g
    have e' := eqi.mp e
    omega
  have dx := neqi.mp e
  have k1 : N.1 185 x.toNatClampNeg = r.1 185 x.toInt.toNat := hw 185 _ (by omega)
  have s1 : (v4 - v7).toInt = v4.toInt - v7.toInt := sub_ti rfl rfl (by omega) (by omega)
  have s2 : ((v4 - v7) - (1 : Int32)).toInt = v4.toInt - v7.toInt - 1 := sub_ti s1 rfl (by omega) (by omega)
  refine inb_i (by omega) (by omega) (if_i (fun e => ⟨_, rfl, ⟨i1, by omega⟩, x, ex, ⟨by omega, b2⟩, ?_⟩) (fun e => ⟨_, rfl, on (fun w => ?_)⟩))
  · rw [← s2, ← k1]; exact eqi.mp e
  · rw [w] at gx'
    have hx := crR_fun gx' g
    refine neqi.mp e ?_
    rw [s2, k1, hx]
    have : ((y : Int)).toNat = y := by omega
    rw [this]; omega
theorem sf_Mod_wardrobe (v1 v2 : Int32) (M : Mem) (hJ : J M) : ∃ r : Int32 × Mem, f_Mod_wardrobe v1 v2 M = some r ∧ (J r.2 ∧ ∀ k i, k ≠ 185 → k ≠ 168 → k ≠ 162 → r.2.1 k i = M.1 k i) ∧ (∀ i, i ≠ 13 → i ≠ 12 → r.2.1 162 i = M.1 162 i) := by
  unfold f_Mod_wardrobe
  refine mem_i (fun M1 e1 => ?_)
  have j1 : J M1 := by rw [e1]; exact Jw_fld okf_162_13 hJ _
  have f1 : ∀ k i, ¬ (k = 162 ∧ i = 13) → M1.1 k i = M.1 k i := fun k i hk => by rw [e1, si_ne hk]
  have out1 : (J M1 ∧ ∀ k i, k ≠ 185 → k ≠ 168 → k ≠ 162 → M1.1 k i = M.1 k i) ∧ (∀ i, i ≠ 13 → i ≠ 12 → M1.1 162 i = M.1 162 i) := ⟨⟨j1, fun k i _ _ h => f1 k i (by omega)⟩, fun i h _ => f1 162 i (by omega)⟩
  refine bind_i (sp_isCell j1 v1) (fun x2 _ q2 => ?_)
  rcases q2 with ⟨rfl, a1, a2, a3⟩ | ⟨rfl, -⟩
  · refine if_i (fun c => absurd c (by decide)) (fun _ => ?_)
    refine bind_i (sp_isCell j1 v2) (fun x3 _ q3 => ?_)
    rcases q3 with ⟨rfl, b1, b2, b3⟩ | ⟨rfl, -⟩
    · refine if_i (fun c => absurd c (by decide)) (fun _ => inb_i a1 (by omega) (if_i (fun es => inb_i b1 (by omega) (if_i (fun et => ?_) (fun _ => ⟨_, rfl, out1⟩))) (fun _ => ⟨_, rfl, out1⟩)))
      have st : (M1.1 164 v2.toInt.toNat).toInt = 3 := (eqi.mp et).trans rfl
      have sv : (M1.1 164 v1.toInt.toNat).toInt = 3 := (eqi.mp es).trans rfl
      have hl : ∃ x, iter (lb_Mod_wardrobe_45 v1 v2) FU ((0 : Int32), M1) = some x ∧ (J x ∧ Fr W85 M1 x ∧ x.2 = M1.2 ∧ ∀ i : Nat, (i : Int) < 1296 → (x.1 185 i).toInt = 1000000) := by
        refine cnt_r _ (fun i N => J N ∧ Fr W85 M1 N ∧ N.2 = M1.2 ∧ ∀ j : Nat, (j : Int) < i → (N.1 185 j).toInt = 1000000) 1296 (by decide) ?_ M1 ⟨j1, Fr.r, rfl, fun j hj => absurd hj (by omega)⟩ (by decide)
        intro k N k0 k1 hI
        obtain ⟨i1, i2, i3, i4⟩ := hI
        have c72 : (1296 : Int32).toInt = 1296 := rfl
        unfold lb_Mod_wardrobe_45
        dsimp only
        refine if_i (fun c => ⟨_, rfl, .inl ⟨_, rfl, i1, i2, i3, fun i hi => i4 i (by have := lei.mp c; omega)⟩⟩) (fun c => ?_)
        have d := nlei.mp c
        refine inb_i k0 (by omega) (mem_i (fun m e => ⟨_, rfl, .inr ⟨by omega, m, rfl, ?_, ?_, ?_, fun j hj => ?_⟩⟩))
        · rw [e]; exact Jw_185 i1 _ _ (by decide) (by decide)
        · rw [e]; exact i2.i rfl
        · rw [e]; exact i3
        · rw [e]
          by_cases w : j = k.toNatClampNeg
          · rw [w, si_eq]; rfl
          · rw [si_ne (fun z => w z.2)]
            rw [tcn'] at w
            exact i4 j (by omega)
      have m2 : ((36 : Int32) * v2).toInt = 36 * v2.toInt := mul_ti rfl rfl (by omega) (by omega)
      have m22 : (((36 : Int32) * v2) + v2).toInt = 36 * v2.toInt + v2.toInt := add_ti m2 rfl (by omega) (by omega)
      have m1 : ((36 : Int32) * v1).toInt = 36 * v1.toInt := mul_ti rfl rfl (by omega) (by omega)
      have m11 : (((36 : Int32) * v1) + v1).toInt = 36 * v1.toInt + v1.toInt := add_ti m1 rfl (by omega) (by omega)
      refine bind_i hl (fun x6 _ q => inb_i (by omega) (by omega) (mem_i (fun M7 e7 => ?_)))
      obtain ⟨q1, q2, q3, q4⟩ := q
      have t7 : (((36 : Int32) * v2) + v2).toNatClampNeg = (37 * v2.toInt).toNat := by rw [tcn', m22]; omega
      rw [t7] at e7
      have vst : vpR M1 (37 * v2.toInt) := by
        have d1 : (37 * v2.toInt) / 36 = v2.toInt := by omega
        have d2 : (37 * v2.toInt) % 36 = v2.toInt := by omega
        refine ⟨by omega, by omega, ?_, ?_, by rw [d1, d2]; exact .inl rfl⟩
        · rw [d1]; exact ⟨b1, b3, by rw [if_pos rfl]; exact .inr st⟩
        · rw [d2]; exact ⟨b1, b3, by rw [if_neg (by decide)]; exact .inr st⟩
      have qc : QC M1 v2.toInt M7 := by
        refine ⟨by rw [e7]; exact Jw_185 q1 _ _ (by decide) (by decide), by rw [e7]; exact q2.i rfl, by rw [e7]; exact q3, by rw [e7, si_eq]; rfl, fun x hx hd => ?_⟩
        by_cases w : x = (37 * v2.toInt).toNat
        · have : (x : Int) = 37 * v2.toInt := by omega
          rw [this]; exact ⟨vst, .inl rfl⟩
        · rw [e7, si_ne (fun z => w z.2), q4 x (by omega)] at hd; omega
      refine bind_i (sl_wardrobe84 j1 ⟨b1, b2⟩ v1 qc) (fun x23 _ hq => inb_i (by omega) (by omega) ?_)
      have f23 := hq.2.1
      have out23 : (J x23 ∧ ∀ k i, k ≠ 185 → k ≠ 168 → k ≠ 162 → x23.1 k i = M.1 k i) ∧ (∀ i, i ≠ 13 → i ≠ 12 → x23.1 162 i = M.1 162 i) := ⟨⟨hq.1, fun k i n1 _ n3 => (f23 k i n1).trans (f1 k i (by omega))⟩, fun i n1 _ => (f23 162 i (by omega)).trans (f1 162 i (by omega))⟩
      refine if_i (fun e => ?_) (fun _ => ⟨_, rfl, out23⟩)
      have tt : (((36 : Int32) * v1) + v1).toNatClampNeg = (36 * v1.toInt + v1.toInt).toNat := by rw [tcn', m11]
      rw [tt] at e ⊢
      have dl : (x23.1 185 (36 * v1.toInt + v1.toInt).toNat).toInt < 1000000 := lti.mp e
      have r23 := Jr_185 hq.1 (36 * v1.toInt + v1.toInt).toNat
      refine mem_i (fun M24 e24 => ?_)
      have hl2 : ∃ x, iter (lb_Mod_wardrobe_267 (x23.1 185 (36 * v1.toInt + v1.toInt).toNat)) FU (v1, v1, (0 : Int32), M24) = some x ∧ (J x ∧ Fr WP x23 x) := by
        refine iter_r (fun s : Int32 × Int32 × Int32 × Mem => J s.2.2.2 ∧ Fr WP x23 s.2.2.2 ∧ (0 ≤ s.1.toInt ∧ s.1.toInt ≤ 35) ∧ (0 ≤ s.2.1.toInt ∧ s.2.1.toInt ≤ 35) ∧ 0 ≤ s.2.2.1.toInt ∧ (x23.1 185 (36 * s.1.toInt + s.2.1.toInt).toNat).toInt + s.2.2.1.toInt = (x23.1 185 (36 * v1.toInt + v1.toInt).toNat).toInt ∧ (s.2.2.2.1 162 12).toInt ≤ s.2.2.1.toInt ∧ (s.2.2.2.1 162 12).toInt ≤ 10) (fun s : Int32 × Int32 × Int32 × Mem => ((x23.1 185 (36 * v1.toInt + v1.toInt).toNat).toInt - s.2.2.1.toInt).toNat) _ ?_ FU _ ⟨?_, ?_, ?_, ?_, ?_, ?_, ?_, ?_⟩ ?_
        · rintro ⟨a, b, k, N⟩ ⟨i1, i2, i3, i3b, i4, i5, i6, i7⟩
          dsimp only at i1 i2 i3 i3b i4 i5 i6 i7
          unfold lb_Mod_wardrobe_267
          dsimp only
          refine if_i (fun c => ⟨_, rfl, i1, i2⟩) (fun c => ?_)
          have d : k.toInt < (x23.1 185 (36 * v1.toInt + v1.toInt).toNat).toInt := nlei.mp c
          have ek : (k + (1 : Int32)).toInt = k.toInt + 1 := add_ti rfl rfl (by omega) (by omega)
          refine bind_i (sl_wardrobe277 j1 hq i1 i2 (x23.1 185 (36 * v1.toInt + v1.toInt).toNat) a b k i3 i3b ⟨i4, d⟩ (by omega) (by omega) (by omega)) (fun x30 _ q => ?_)
          obtain ⟨qr, y, ey, y1, y2⟩ := q
          have c10 : (10 : Int32).toInt = 10 := rfl
          have dv : (y / (36 : Int32)).toInt = y.toInt / 36 := div_ti rfl rfl y1.1 (by decide)
          have rm : (y - y / (36 : Int32) * (36 : Int32)).toInt = y.toInt % 36 := rem_ti rfl rfl y1.1 (by decide)
          have fin : ∀ K : Mem, J K → Fr WP x23 K → (K.1 162 12).toInt ≤ k.toInt + 1 → (K.1 162 12).toInt ≤ 10 → LPq (fun s : Int32 × Int32 × Int32 × Mem => J s.2.2.2 ∧ Fr WP x23 s.2.2.2 ∧ (0 ≤ s.1.toInt ∧ s.1.toInt ≤ 35) ∧ (0 ≤ s.2.1.toInt ∧ s.2.1.toInt ≤ 35) ∧ 0 ≤ s.2.2.1.toInt ∧ (x23.1 185 (36 * s.1.toInt + s.2.1.toInt).toNat).toInt + s.2.2.1.toInt = (x23.1 185 (36 * v1.toInt + v1.toInt).toNat).toInt ∧ (s.2.2.2.1 162 12).toInt ≤ s.2.2.1.toInt ∧ (s.2.2.2.1 162 12).toInt ≤ 10) (fun s : Int32 × Int32 × Int32 × Mem => ((x23.1 185 (36 * v1.toInt + v1.toInt).toNat).toInt - s.2.2.1.toInt).toNat) (fun x : Mem => J x ∧ Fr WP x23 x) ((x23.1 185 (36 * v1.toInt + v1.toInt).toNat).toInt - k.toInt).toNat (.inl (y / (36 : Int32), y - y / (36 : Int32) * (36 : Int32), k + (1 : Int32), K)) := by
            intro K k1 k2 k3 k4
            refine ⟨⟨k1, k2, ?_, ?_, ?_, ?_, ?_, k4⟩, ?_⟩
            · show 0 ≤ (y / (36 : Int32)).toInt ∧ (y / (36 : Int32)).toInt ≤ 35; omega
            · show 0 ≤ (y - y / (36 : Int32) * (36 : Int32)).toInt ∧ (y - y / (36 : Int32) * (36 : Int32)).toInt ≤ 35; omega
            · show 0 ≤ (k + (1 : Int32)).toInt; omega
            · show (x23.1 185 (36 * (y / (36 : Int32)).toInt + (y - y / (36 : Int32) * (36 : Int32)).toInt).toNat).toInt + (k + (1 : Int32)).toInt = _
              have e : (36 * (y / (36 : Int32)).toInt + (y - y / (36 : Int32) * (36 : Int32)).toInt) = y.toInt := by rw [dv, rm]; omega
              rw [e]; omega
            · show (K.1 162 12).toInt ≤ (k + (1 : Int32)).toInt; omega
            · show ((x23.1 185 (36 * v1.toInt + v1.toInt).toNat).toInt - (k + (1 : Int32)).toInt).toNat < _; omega
          unfold j_Mod_wardrobe_344_267
          refine if_i (fun c => bind_e ey ⟨_, rfl, fin N i1 i2 (by omega) i7⟩) (fun c => ?_)
          have dk := nlei.mp c
          refine bind_i (fs_put i1 x30 (by omega)) (fun x32 _ s => ?_)
          obtain ⟨s1, s2, s3, s4⟩ := s
          have ego : f_Mod_carryTo a b x30 x32 = some y := by
            obtain ⟨z, ez, gz, z1, z2⟩ := fs_carryTo s1 a b x30 i3 i3b qr
            have gq := (some_of (fs_carryTo i1 a b x30 i3 i3b qr) ey).1
            have := crR_fun ((crR_c ⟨s3 162 2 (by decide), s3 162 3 (by decide), fun i => s3 164 i (by omega)⟩).mp gz) gq
            rw [ez, Int32.toInt_inj.mp this]
          exact bind_e ego ⟨_, rfl, fin x32 s1 (i2.t s3) (by omega) (by omega)⟩
        · show J M24; rw [e24]; exact Jw_162_12 hq.1 _ (by decide) (by decide)
        · show Fr WP x23 M24; rw [e24]; exact Fr.i (W := WP) Fr.r (.inr ⟨rfl, rfl⟩)
        · exact ⟨a1, a2⟩
        · exact ⟨a1, a2⟩
        · show (0 : Int) ≤ (0 : Int32).toInt; decide
        · show (x23.1 185 (36 * v1.toInt + v1.toInt).toNat).toInt + (0 : Int) = _; omega
        · show (M24.1 162 12).toInt ≤ 0; rw [e24, si_eq]; decide
        · show (M24.1 162 12).toInt ≤ 10; rw [e24, si_eq]; decide
        · show ((x23.1 185 (36 * v1.toInt + v1.toInt).toNat).toInt - (0 : Int)).toNat < FU; rw [FU_v]; omega
      refine bind_i hl2 (fun x35 _ q => ⟨_, rfl, ⟨q.1, fun k i n1 n2 n3 => ?_⟩, fun i n1 n2 => ?_⟩)
      · exact (q.2 k i (by omega)).trans (out23.1.2 k i n1 n2 n3)
      · exact (q.2 162 i (by omega)).trans (out23.2 i n1 n2)
    · exact if_i (fun _ => ⟨_, rfl, out1⟩) (fun c => absurd rfl c)
  · exact if_i (fun _ => ⟨_, rfl, out1⟩) (fun c => absurd rfl c)
end
