/-! the reference's map: beside, nets, PLANKS, go, as they answer -/
def bes (w h c s : Int) : Int :=
  if 0 ≤ c % w + (if s = 1 then 1 else if s = 3 then -1 else 0) ∧ c % w + (if s = 1 then 1 else if s = 3 then -1 else 0) ≤ w - 1 ∧ 0 ≤ c / w + (if s = 2 then 1 else if s = 0 then -1 else 0) ∧ c / w + (if s = 2 then 1 else if s = 0 then -1 else 0) ≤ h - 1
  then w * (c / w + (if s = 2 then 1 else if s = 0 then -1 else 0)) + (c % w + (if s = 1 then 1 else if s = 3 then -1 else 0)) else -1
theorem some_of {α : Type} {o : Option α} {P : α → Prop} (h : ∃ r, o = some r ∧ P r) {x : α} (e : o = some x) : P x := by
  obtain ⟨r, e1, h1⟩ := h
  rw [e1] at e
  exact Option.some.inj e ▸ h1
theorem fs_beside {M : Mem} (h : J M) (c s : Int32) (hc : 0 ≤ c.toInt ∧ c.toInt ≤ 35) : ∃ r, f_Mod_beside c s M = some r ∧ r.toInt = bes (xw M) (xh M) c.toInt s.toInt := by
  have w := aw h
  have hh := ah h
  have hw0 : xw M = (M.1 162 2).toInt := rfl
  have hh0 : xh M = (M.1 162 3).toInt := rfl
  have wn : ¬ (M.1 162 2) = 0 := nz_of (by omega)
  have rm : (c - c / (M.1 162 2) * (M.1 162 2)).toInt = c.toInt % xw M := rem_ti rfl rfl hc.1 (by omega)
  have rr := rem_rng (a := c) (b := M.1 162 2) hc.1 (by omega)
  have dv : (c / (M.1 162 2)).toInt = c.toInt / xw M := div_ti rfl rfl hc.1 (by omega)
  have dr := div_rng (a := c) (b := M.1 162 2) hc.1 (by omega)
  have k51 : ∀ (v3 w0 : Int32) (x y : Int), v3.toInt = x → w0.toInt = y → (-1 ≤ y ∧ y ≤ 1) → ∃ r, j_Mod_beside_51 v3 w0 (c / (M.1 162 2)) M = some r ∧ r.toInt = if 0 ≤ x ∧ x ≤ xw M - 1 ∧ 0 ≤ c.toInt / xw M + y ∧ c.toInt / xw M + y ≤ xh M - 1 then xw M * (c.toInt / xw M + y) + x else -1 := by
    intro v3 w0 x y ex ey hy
    have e1 : ((M.1 162 2) - (1 : Int32)).toInt = xw M - 1 := sub_ti rfl rfl (by omega) (by omega)
    have e2 : ((M.1 162 3) - (1 : Int32)).toInt = xh M - 1 := sub_ti rfl rfl (by omega) (by omega)
    have e3 : ((c / (M.1 162 2)) + w0).toInt = c.toInt / xw M + y := add_ti dv ey (by rw [← dv]; omega) (by rw [← dv]; omega)
    have z : (0 : Int32).toInt = 0 := rfl
    unfold j_Mod_beside_51
    refine bind_i (sp_in v3 0 _) (fun x1 _ q => ?_)
    rw [e1, z, ex] at q
    rcases q with ⟨rfl, q1, q2⟩ | ⟨rfl, q⟩
    · refine if_i (fun c => absurd c (by decide)) (fun _ => ?_)
      refine bind_i (sp_in _ 0 _) (fun x2 _ q => ?_)
      rw [e2, e3, z] at q
      rcases q with ⟨rfl, q3, q4⟩ | ⟨rfl, q⟩
      · refine if_i (fun c => absurd c (by decide)) (fun _ => ⟨_, rfl, ?_⟩)
        rw [if_pos ⟨q1, q2, q3, q4⟩]
        have hm : 0 ≤ xw M * (c.toInt / xw M + y) ∧ xw M * (c.toInt / xw M + y) ≤ 36 := by
          have hy : c.toInt / xw M + y = 0 ∨ c.toInt / xw M + y = 1 ∨ c.toInt / xw M + y = 2 ∨ c.toInt / xw M + y = 3 ∨ c.toInt / xw M + y = 4 ∨ c.toInt / xw M + y = 5 := by omega
          rcases hy with e | e | e | e | e | e <;> rw [e] <;> omega
        have m1 : ((M.1 162 2) * ((c / (M.1 162 2)) + w0)).toInt = xw M * (c.toInt / xw M + y) := mul_ti rfl e3 (by omega) (by omega)
        exact add_ti m1 ex (by omega) (by omega)
      · refine if_i (fun _ => ⟨_, rfl, ?_⟩) (fun c => absurd rfl c)
        rw [if_neg (fun e => q ⟨e.2.2.1, e.2.2.2⟩)]; rfl
    · refine if_i (fun _ => ⟨_, rfl, ?_⟩) (fun c => absurd rfl c)
      rw [if_neg (fun e => q ⟨e.1, e.2.1⟩)]; rfl
  have k25 : ∀ (w0 : Int32) (x : Int), w0.toInt = x → (-1 ≤ x ∧ x ≤ 1) → ∃ r, j_Mod_beside_25 c s w0 (c - c / (M.1 162 2) * (M.1 162 2)) M = some r ∧ r.toInt = if 0 ≤ c.toInt % xw M + x ∧ c.toInt % xw M + x ≤ xw M - 1 ∧ 0 ≤ c.toInt / xw M + (if s.toInt = 2 then 1 else if s.toInt = 0 then -1 else 0) ∧ c.toInt / xw M + (if s.toInt = 2 then 1 else if s.toInt = 0 then -1 else 0) ≤ xh M - 1 then xw M * (c.toInt / xw M + (if s.toInt = 2 then 1 else if s.toInt = 0 then -1 else 0)) + (c.toInt % xw M + x) else -1 := by
    intro w0 x ex hx
    have e1 : ((c - c / (M.1 162 2) * (M.1 162 2)) + w0).toInt = c.toInt % xw M + x := add_ti rm ex (by rw [← rm]; omega) (by rw [← rm]; omega)
    unfold j_Mod_beside_25
    refine z_i wn (if_i (fun e => ?_) (fun e => if_i (fun e' => ?_) (fun e' => ?_)))
    · have d : s.toInt = 2 := eqi.mp e
      rw [if_pos d]
      exact k51 _ 1 _ 1 e1 rfl (by omega)
    · have d : ¬ s.toInt = 2 := neqi.mp e
      have d' : s.toInt = 0 := eqi.mp e'
      rw [if_neg d, if_pos d']
      exact k51 _ (-1) _ (-1) e1 rfl (by omega)
    · have d : ¬ s.toInt = 2 := neqi.mp e
      have d' : ¬ s.toInt = 0 := neqi.mp e'
      rw [if_neg d, if_neg d']
      exact k51 _ 0 _ 0 e1 rfl (by omega)
  unfold f_Mod_beside bes
  refine z_i wn (if_i (fun e => ?_) (fun e => if_i (fun e' => ?_) (fun e' => ?_)))
  · have d : s.toInt = 1 := eqi.mp e
    rw [if_pos d]
    exact k25 1 1 rfl (by omega)
  · have d : ¬ s.toInt = 1 := neqi.mp e
    have d' : s.toInt = 3 := eqi.mp e'
    rw [if_neg d, if_pos d']
    exact k25 (-1) (-1) rfl (by omega)
  · have d : ¬ s.toInt = 1 := neqi.mp e
    have d' : ¬ s.toInt = 3 := neqi.mp e'
    rw [if_neg d, if_neg d']
    exact k25 0 0 rfl (by omega)
def opp (s : Int) : Int := if s = 0 then 2 else if s = 1 then 3 else if s = 2 then 0 else if s = 3 then 1 else s
def besT : Bool := (List.range 6).all fun w => (List.range 6).all fun h => (List.range 36).all fun c => (List.range 4).all fun s =>
  (((c : Int) < ((w : Int) + 1) * ((h : Int) + 1)) → bes (w + 1) (h + 1) c s ≠ -1 → (0 ≤ bes (w + 1) (h + 1) c s ∧ bes (w + 1) (h + 1) c s < ((w : Int) + 1) * ((h : Int) + 1) ∧ bes (w + 1) (h + 1) (bes (w + 1) (h + 1) c s) (opp s) = c) : Bool)
theorem besT_t : besT = true := by decide +kernel
theorem bes_sym {w h c s : Int} (hw : 1 ≤ w ∧ w ≤ 6) (hh : 1 ≤ h ∧ h ≤ 6) (hc : 0 ≤ c) (hc2 : c < w * h) (hs : 0 ≤ s ∧ s ≤ 3) (hn : bes w h c s ≠ -1) : 0 ≤ bes w h c s ∧ bes w h c s < w * h ∧ bes w h (bes w h c s) (opp s) = c := by
  have h36 := (mul66 hw.1 hw.2 hh.1 hh.2).2
  have t := besT_t
  unfold besT at t
  rw [List.all_eq_true] at t
  have t1 := t (w.toNat - 1) (List.mem_range.mpr (by omega))
  rw [List.all_eq_true] at t1
  have t2 := t1 (h.toNat - 1) (List.mem_range.mpr (by omega))
  rw [List.all_eq_true] at t2
  have t3 := t2 c.toNat (List.mem_range.mpr (by omega))
  rw [List.all_eq_true] at t3
  have t4 := of_decide_eq_true (t3 s.toNat (List.mem_range.mpr (by omega)))
  have ew : (((w.toNat - 1 : Nat) : Int) + 1) = w := by omega
  have eh : (((h.toNat - 1 : Nat) : Int) + 1) = h := by omega
  have ec : ((c.toNat : Nat) : Int) = c := by omega
  have es : ((s.toNat : Nat) : Int) = s := by omega
  rw [ew, eh, ec, es] at t4
  exact t4 hc2 hn
theorem sf_Mod_beside (v1 : Int32) (v2 : Int32) (M : Mem) (hp_v1 : (-1 : Int) ≤ v1.toInt ∧ v1.toInt ≤ (35 : Int)) (hJ : J M) : ∃ r : Int32, f_Mod_beside v1 v2 M = some r ∧ ((-1 : Int) ≤ r.toInt ∧ r.toInt ≤ (35 : Int)) := by
  have w := aw hJ
  have hh := ah hJ
  have wn : ¬ (M.1 162 2) = 0 := nz_of (by have : xw M = (M.1 162 2).toInt := rfl; omega)
  have k51 : ∀ (v3 w0 w1 : Int32), ∃ r : Int32, j_Mod_beside_51 v3 w0 w1 M = some r ∧ ((-1 : Int) ≤ r.toInt ∧ r.toInt ≤ (35 : Int)) := by
    intro v3 w0 w1
    unfold j_Mod_beside_51
    have e1 : ((M.1 162 2) - (1 : Int32)).toInt = xw M - 1 := sub_ti rfl rfl (by show _ ≤ xw M - 1; omega) (by show xw M - 1 ≤ _; omega)
    have e2 : ((M.1 162 3) - (1 : Int32)).toInt = xh M - 1 := sub_ti rfl rfl (by show _ ≤ xh M - 1; omega) (by show xh M - 1 ≤ _; omega)
    have z : (0 : Int32).toInt = 0 := rfl
    have n1 : (-1 : Int32).toInt = -1 := rfl
    refine bind_i (sp_in v3 0 _) (fun x1 _ q => ?_)
    rcases q with ⟨rfl, q1, q2⟩ | ⟨rfl, q⟩
    · refine if_i (fun c => absurd c (by decide)) (fun _ => ?_)
      refine bind_i (sp_in (w1 + w0) 0 _) (fun x2 _ q => ?_)
      rcases q with ⟨rfl, q3, q4⟩ | ⟨rfl, q⟩
      · refine if_i (fun c => absurd c (by decide)) (fun _ => ⟨_, rfl, ?_⟩)
        have hy : (w1 + w0).toInt = 0 ∨ (w1 + w0).toInt = 1 ∨ (w1 + w0).toInt = 2 ∨ (w1 + w0).toInt = 3 ∨ (w1 + w0).toInt = 4 ∨ (w1 + w0).toInt = 5 := by omega
        have hm : 0 ≤ xw M * (w1 + w0).toInt ∧ xw M * (w1 + w0).toInt + v3.toInt ≤ 35 := by
          rcases hy with e | e | e | e | e | e <;> rw [e] <;> omega
        have m1 : ((M.1 162 2) * (w1 + w0)).toInt = xw M * (w1 + w0).toInt := mul_ti rfl rfl (by show _ ≤ xw M * _; omega) (by show xw M * _ ≤ _; omega)
        rw [add_ti m1 rfl (by omega) (by omega)]
        omega
      · exact if_i (fun _ => ⟨_, rfl, by omega⟩) (fun c => absurd rfl c)
    · exact if_i (fun _ => ⟨_, rfl, by omega⟩) (fun c => absurd rfl c)
  have k25 : ∀ (w0 w1 : Int32), ∃ r : Int32, j_Mod_beside_25 v1 v2 w0 w1 M = some r ∧ ((-1 : Int) ≤ r.toInt ∧ r.toInt ≤ (35 : Int)) := by
    intro w0 w1
    unfold j_Mod_beside_25
    exact z_i wn (if_i (fun _ => k51 _ _ _) (fun _ => if_i (fun _ => k51 _ _ _) (fun _ => k51 _ _ _)))
  unfold f_Mod_beside
  exact z_i wn (if_i (fun _ => k25 _ _) (fun _ => if_i (fun _ => k25 _ _) (fun _ => k25 _ _)))
/-! the reference's nets: who is of a net, PLANKS, go -/
def onN (M : Mem) (l c : Int) : Prop := 0 ≤ c ∧ c < xw M * xh M ∧ (if l = 0 then (M.1 164 c.toNat).toInt = 1 ∨ (M.1 164 c.toNat).toInt = 3 else (M.1 164 c.toNat).toInt = 2 ∨ (M.1 164 c.toNat).toInt = 3)
theorem fs_isOf {M : Mem} (h : J M) (l c : Int32) : ∃ r, f_Mod_isOf l c M = some r ∧ ((r = 1 ∧ onN M l.toInt c.toInt) ∨ (r = 0 ∧ ¬ onN M l.toInt c.toInt)) := by
  have k1 : (1 : Int32).toInt = 1 := rfl
  have k2 : (2 : Int32).toInt = 2 := rfl
  have k3 : (3 : Int32).toInt = 3 := rfl
  unfold f_Mod_isOf
  refine bind_i (sp_isCell h c) (fun x _ q => ?_)
  rcases q with ⟨rfl, q1, q2, q3⟩ | ⟨rfl, q⟩
  · refine if_i (fun c => absurd c (by decide)) (fun _ => ?_)
    refine if_i (fun e => ?_) (fun e => ?_)
    · have d : l.toInt = 0 := eqi.mp e
      refine inb_i q1 (by omega) (if_i (fun e => ⟨_, rfl, .inl ⟨rfl, q1, q3, ?_⟩⟩) (fun e1 => inb_i q1 (by omega) (if_i (fun e => ⟨_, rfl, .inl ⟨rfl, q1, q3, ?_⟩⟩) (fun e2 => ⟨_, rfl, .inr ⟨rfl, fun w => ?_⟩⟩))))
      · rw [if_pos d]; exact .inl ((eqi.mp e).trans k1)
      · rw [if_pos d]; exact .inr ((eqi.mp e).trans k3)
      · have w3 := w.2.2
        rw [if_pos d] at w3
        rcases w3 with w3 | w3
        · exact neqi.mp e1 (w3.trans k1.symm)
        · exact neqi.mp e2 (w3.trans k3.symm)
    · have d : ¬ l.toInt = 0 := neqi.mp e
      refine inb_i q1 (by omega) (if_i (fun e => ⟨_, rfl, .inl ⟨rfl, q1, q3, ?_⟩⟩) (fun e1 => inb_i q1 (by omega) (if_i (fun e => ⟨_, rfl, .inl ⟨rfl, q1, q3, ?_⟩⟩) (fun e2 => ⟨_, rfl, .inr ⟨rfl, fun w => ?_⟩⟩))))
      · rw [if_neg d]; exact .inl ((eqi.mp e).trans k2)
      · rw [if_neg d]; exact .inr ((eqi.mp e).trans k3)
      · have w3 := w.2.2
        rw [if_neg d] at w3
        rcases w3 with w3 | w3
        · exact neqi.mp e1 (w3.trans k2.symm)
        · exact neqi.mp e2 (w3.trans k3.symm)
  · exact if_i (fun _ => ⟨_, rfl, .inr ⟨rfl, fun w => q ⟨w.1, w.2.1⟩⟩⟩) (fun c => absurd rfl c)
def plkA (M : Mem) (k : Nat) (a b : Int) (j : Nat) : Prop := ((M.1 k (80 + 2 * j)).toInt = a ∧ (M.1 k (81 + 2 * j)).toInt = b) ∨ ((M.1 k (80 + 2 * j)).toInt = b ∧ (M.1 k (81 + 2 * j)).toInt = a)
def plk (M : Mem) (k : Nat) (a b : Int) : Prop := ∃ j : Nat, (j : Int) < (M.1 k 92).toInt ∧ plkA M k a b j
theorem plk_sym {M : Mem} {k : Nat} {a b : Int} (h : plk M k a b) : plk M k b a := by
  obtain ⟨j, h1, h2⟩ := h
  exact ⟨j, h1, h2.elim .inr .inl⟩
theorem fs_isPlank {M : Mem} (h : J M) (k : Nat) (hs : St k) (a b : Int32) : ∃ r, f_Mod_isPlank k a b M = some r ∧ ((r = 1 ∧ plk M k a.toInt b.toInt) ∨ (r = 0 ∧ ¬ plk M k a.toInt b.toInt)) := by
  have l := St_ln hs
  have p : (0 : Int) ≤ (M.1 k 92).toInt ∧ (M.1 k 92).toInt ≤ 6 := Jst92 h hs
  have hl : ∃ x, iter (lb_Mod_isPlank_2 k a b M) FU (0 : Int32) = some x ∧ SQ (fun _ : Unit => ¬ plk M k a.toInt b.toInt) (fun _ : Unit => plk M k a.toInt b.toInt) x := by
    refine iter_r (fun s : Int32 => 0 ≤ s.toInt ∧ s.toInt ≤ 6 ∧ ∀ j : Nat, (j : Int) < s.toInt → ¬ plkA M k a.toInt b.toInt j) (fun s : Int32 => (6 - s.toInt).toNat) _ ?_ FU _ ⟨by decide, by decide, fun j hj => absurd hj (by have z : (0 : Int32).toInt = 0 := rfl; omega)⟩ (by show (6 - (0 : Int)).toNat < FU; rw [FU_v]; decide)
    rintro s ⟨i1, i2, i3⟩
    unfold lb_Mod_isPlank_2
    refine c_i (inb_st hs (by decide)) ?_
    refine if_i (fun c => ⟨_, rfl, ?_⟩) (fun c => ?_)
    · have d : (M.1 k 92).toInt ≤ s.toInt := lei.mp c
      rintro ⟨j, h1, h2⟩
      exact i3 j (by omega) h2
    have d : s.toInt < (M.1 k 92).toInt := nlei.mp c
    have m1 : ((2 : Int32) * s).toInt = 2 * s.toInt := mul_ti rfl rfl (by omega) (by omega)
    have m2 : ((80 : Int32) + ((2 : Int32) * s)).toInt = 80 + 2 * s.toInt := add_ti rfl m1 (by omega) (by omega)
    have m3 : (((80 : Int32) + ((2 : Int32) * s)) + (1 : Int32)).toInt = 80 + 2 * s.toInt + 1 := add_ti m2 rfl (by omega) (by omega)
    have t2 : ((80 : Int32) + ((2 : Int32) * s)).toNatClampNeg = 80 + 2 * s.toInt.toNat := by rw [tcn', m2]; omega
    have t3 : (((80 : Int32) + ((2 : Int32) * s)) + (1 : Int32)).toNatClampNeg = 81 + 2 * s.toInt.toNat := by rw [tcn', m3]; omega
    have es : (s + (1 : Int32)).toInt = s.toInt + 1 := add_ti rfl rfl (by omega) (by omega)
    refine inb_i (by omega) (by rw [l]; omega) (inb_i (by omega) (by rw [l]; omega) ?_)
    rw [t2, t3]
    have no : ¬ plkA M k a.toInt b.toInt s.toInt.toNat → LPq (fun s : Int32 => 0 ≤ s.toInt ∧ s.toInt ≤ 6 ∧ ∀ j : Nat, (j : Int) < s.toInt → ¬ plkA M k a.toInt b.toInt j) (fun s : Int32 => (6 - s.toInt).toNat) (SQ (fun _ : Unit => ¬ plk M k a.toInt b.toInt) (fun _ : Unit => plk M k a.toInt b.toInt)) (6 - s.toInt).toNat (.inl (s + (1 : Int32))) := by
      intro hn
      refine ⟨⟨by omega, by omega, fun j hj => ?_⟩, ?_⟩
      · by_cases e : (j : Int) < s.toInt
        · exact i3 j e
        · have : j = s.toInt.toNat := by omega
          rw [this]; exact hn
      · show (6 - (s + (1 : Int32)).toInt).toNat < (6 - s.toInt).toNat; omega
    have yes : plkA M k a.toInt b.toInt s.toInt.toNat → plk M k a.toInt b.toInt := fun w => ⟨s.toInt.toNat, by omega, w⟩
    have k44 : ¬ ((M.1 k (80 + 2 * s.toInt.toNat)).toInt = a.toInt ∧ (M.1 k (81 + 2 * s.toInt.toNat)).toInt = b.toInt) → ∃ r, j_Mod_isPlank_44_2 k a b s (M.1 k (80 + 2 * s.toInt.toNat)) (M.1 k (81 + 2 * s.toInt.toNat)) M = some r ∧ LPq (fun s : Int32 => 0 ≤ s.toInt ∧ s.toInt ≤ 6 ∧ ∀ j : Nat, (j : Int) < s.toInt → ¬ plkA M k a.toInt b.toInt j) (fun s : Int32 => (6 - s.toInt).toNat) (SQ (fun _ : Unit => ¬ plk M k a.toInt b.toInt) (fun _ : Unit => plk M k a.toInt b.toInt)) (6 - s.toInt).toNat r := by
      intro hn
      unfold j_Mod_isPlank_44_2
      refine if_i (fun e => if_i (fun e' => ⟨_, rfl, yes (.inr ⟨eqi.mp e, eqi.mp e'⟩)⟩) (fun e' => ⟨_, rfl, no ?_⟩)) (fun e => ⟨_, rfl, no ?_⟩)
      · rintro (w | w)
        · exact hn w
        · exact neqi.mp e' w.2
      · rintro (w | w)
        · exact hn w
        · exact neqi.mp e w.1
    refine if_i (fun e => if_i (fun e' => ⟨_, rfl, yes (.inl ⟨eqi.mp e, eqi.mp e'⟩)⟩) (fun e' => k44 (fun w => neqi.mp e' w.2))) (fun e => k44 (fun w => neqi.mp e w.1))
  unfold f_Mod_isPlank
  refine c_i (St_kd hs) (bind_i hl (fun x _ q => ?_))
  rcases x with y | y
  · exact ⟨_, rfl, .inr ⟨rfl, q⟩⟩
  · exact ⟨_, rfl, .inl ⟨rfl, q⟩⟩
/-- go: from a place by a step to n (-1: one can't) -/
def goR (M : Mem) (k : Nat) (p s n : Int) : Prop :=
  (s = 4 ∧ n = p) ∨ (s ≠ 4 ∧ (
    (bes (xw M) (xh M) (p % 36) s = -1 ∧ n = -1) ∨
    (bes (xw M) (xh M) (p % 36) s ≠ -1 ∧ onN M (p / 36) (bes (xw M) (xh M) (p % 36) s) ∧ n = 36 * (p / 36) + bes (xw M) (xh M) (p % 36) s) ∨
    (bes (xw M) (xh M) (p % 36) s ≠ -1 ∧ ¬ onN M (p / 36) (bes (xw M) (xh M) (p % 36) s) ∧ p / 36 = 0 ∧ n = -1) ∨
    (bes (xw M) (xh M) (p % 36) s ≠ -1 ∧ ¬ onN M (p / 36) (bes (xw M) (xh M) (p % 36) s) ∧ p / 36 ≠ 0 ∧ bes (xw M) (xh M) (bes (xw M) (xh M) (p % 36) s) s ≠ -1 ∧ plk M k (p % 36) (bes (xw M) (xh M) (bes (xw M) (xh M) (p % 36) s) s) ∧ n = 36 + bes (xw M) (xh M) (bes (xw M) (xh M) (p % 36) s) s) ∨
    (bes (xw M) (xh M) (p % 36) s ≠ -1 ∧ ¬ onN M (p / 36) (bes (xw M) (xh M) (p % 36) s) ∧ p / 36 ≠ 0 ∧ ¬ (bes (xw M) (xh M) (bes (xw M) (xh M) (p % 36) s) s ≠ -1 ∧ plk M k (p % 36) (bes (xw M) (xh M) (bes (xw M) (xh M) (p % 36) s) s)) ∧ n = -1)))
theorem fs_go {M : Mem} (h : J M) (k : Nat) (hs : St k) (p s : Int32) (hp : 0 ≤ p.toInt ∧ p.toInt ≤ 71) : ∃ r, f_Mod_go k p s M = some r ∧ (goR M k p.toInt s.toInt r.toInt ∧ -1 ≤ r.toInt ∧ r.toInt ≤ 71) := by
  have n1 : (-1 : Int32).toInt = -1 := rfl
  have c4 : (4 : Int32).toInt = 4 := rfl
  have rm : (p - p / (36 : Int32) * (36 : Int32)).toInt = p.toInt % 36 := rem_ti rfl rfl hp.1 (by decide)
  have dv : (p / (36 : Int32)).toInt = p.toInt / 36 := div_ti rfl rfl hp.1 (by decide)
  unfold f_Mod_go f_Mod_levelOf f_Mod_cellOf f_Mod_placeOf
  refine c_i (St_kd hs) (if_i (fun e => ⟨_, rfl, .inl ⟨(eqi.mp e).trans c4, rfl⟩, by omega, by omega⟩) (fun e => ?_))
  have s4 : s.toInt ≠ 4 := fun w => neqi.mp e (w.trans c4.symm)
  rw [Option.bind_some, Option.bind_some]
  obtain ⟨x3, e3, q3⟩ := fs_beside h (p - p / (36 : Int32) * (36 : Int32)) s (by rw [rm]; omega)
  rw [rm] at q3
  have g3 := some_of (sf_Mod_beside _ s M (by rw [rm]; omega) h) e3
  refine bind_e e3 ?_
  refine if_i (fun e => ⟨_, rfl, .inr ⟨s4, .inl ⟨by rw [← q3]; exact eqi.mp e, n1⟩⟩, by omega, by omega⟩) (fun e => ?_)
  have b1 : bes (xw M) (xh M) (p.toInt % 36) s.toInt ≠ -1 := by rw [← q3]; exact neqi.mp e
  rw [← q3] at b1
  obtain ⟨x4, e4, q4⟩ := fs_isOf h (p / (36 : Int32)) x3
  rw [dv] at q4
  refine bind_e e4 ?_
  have ml : 0 ≤ p.toInt / 36 ∧ p.toInt / 36 ≤ 1 := by omega
  rcases q4 with ⟨rfl, q4⟩ | ⟨rfl, q4⟩
  · refine if_i (fun c => absurd c (by decide)) (fun _ => ?_)
    have m1 : ((36 : Int32) * (p / (36 : Int32))).toInt = 36 * (p.toInt / 36) := mul_ti rfl dv (by omega) (by omega)
    have m2 : (((36 : Int32) * (p / (36 : Int32))) + x3).toInt = 36 * (p.toInt / 36) + x3.toInt := add_ti m1 rfl (by omega) (by omega)
    rw [Option.bind_some]
    refine ⟨_, rfl, .inr ⟨s4, .inr (.inl ⟨by rw [← q3]; exact b1, by rw [← q3]; exact q4, by rw [m2, q3]⟩)⟩, ?_, ?_⟩
    · rw [m2]; omega
    · rw [m2]; have := q4.1; omega
  · refine if_i (fun _ => ?_) (fun c => absurd rfl c)
    refine if_i (fun e => ⟨_, rfl, .inr ⟨s4, .inr (.inr (.inl ⟨by rw [← q3]; exact b1, by rw [← q3]; exact q4, ?_, n1⟩))⟩, by omega, by omega⟩) (fun e => ?_)
    · have := eqi.mp e; rw [dv] at this; exact this
    have l0 : p.toInt / 36 ≠ 0 := by have := neqi.mp e; rw [dv] at this; exact this
    obtain ⟨x5, e5, q5⟩ := fs_beside h x3 s (by omega)
    have g5 := some_of (sf_Mod_beside x3 s M ⟨g3.1, g3.2⟩ h) e5
    rw [q3] at q5
    refine bind_e e5 ?_
    refine if_i (fun e => ⟨_, rfl, .inr ⟨s4, .inr (.inr (.inr (.inr ⟨by rw [← q3]; exact b1, by rw [← q3]; exact q4, l0, fun w => w.1 ?_, n1⟩)))⟩, by omega, by omega⟩) (fun e => ?_)
    · rw [← q5]; exact eqi.mp e
    have b5 : x5.toInt ≠ -1 := neqi.mp e
    rw [Option.bind_some]
    obtain ⟨x7, e7, q7⟩ := fs_isPlank h k hs (p - p / (36 : Int32) * (36 : Int32)) x5
    rw [rm] at q7
    refine bind_e e7 ?_
    rcases q7 with ⟨rfl, q7⟩ | ⟨rfl, q7⟩
    · refine if_i (fun c => absurd c (by decide)) (fun _ => ?_)
      have m2 : (((36 : Int32) * (1 : Int32)) + x5).toInt = 36 + x5.toInt := add_ti rfl rfl (by omega) (by omega)
      rw [Option.bind_some]
      refine ⟨_, rfl, .inr ⟨s4, .inr (.inr (.inr (.inl ⟨by rw [← q3]; exact b1, by rw [← q3]; exact q4, l0, by rw [← q5]; exact b5, by rw [← q5]; exact q7, by rw [m2, q5]⟩)))⟩, ?_, ?_⟩
      · rw [m2]; omega
      · rw [m2]; omega
    · refine if_i (fun _ => ⟨_, rfl, .inr ⟨s4, .inr (.inr (.inr (.inr ⟨by rw [← q3]; exact b1, by rw [← q3]; exact q4, l0, fun w => q7 ?_, n1⟩)))⟩, by omega, by omega⟩) (fun c => absurd rfl c)
      rw [q5]; exact w.2
theorem goR_fun {M : Mem} {k : Nat} {p s n m : Int} (h1 : goR M k p s n) (h2 : goR M k p s m) : n = m := by
  unfold goR at h1 h2
  rcases h1 with ⟨a1, a2⟩ | ⟨a1, a2⟩
  · rcases h2 with ⟨b1, b2⟩ | ⟨b1, b2⟩
    · rw [a2, b2]
    · exact absurd a1 b1
  · rcases h2 with ⟨b1, b2⟩ | ⟨b1, b2⟩
    · exact absurd b1 a1
    · rcases a2 with ⟨u1, u2⟩ | ⟨u1, u2, u3⟩ | ⟨u1, u2, u3, u4⟩ | ⟨u1, u2, u3, u4, u5, u6⟩ | ⟨u1, u2, u3, u4, u5⟩ <;> rcases b2 with ⟨v1, v2⟩ | ⟨v1, v2, v3⟩ | ⟨v1, v2, v3, v4⟩ | ⟨v1, v2, v3, v4, v5, v6⟩ | ⟨v1, v2, v3, v4, v5⟩ <;> first | omega | (exact absurd v1 u1) | (exact absurd u1 v1) | (exact absurd v2 u2) | (exact absurd u2 v2) | (exact absurd v3 u3) | (exact absurd u3 v3) | (exact absurd (And.intro u4 u5) v4) | (exact absurd (And.intro v4 v5) u4)
/-- PLANKS end on roofs -/
def KP (M : Mem) (k o : Nat) : Prop := ∀ j : Nat, (j : Int) < (M.1 k (o + 92)).toInt → onN M 1 (M.1 k (o + 80 + 2 * j)).toInt ∧ onN M 1 (M.1 k (o + 81 + 2 * j)).toInt
theorem plk_on {M : Mem} {k : Nat} (h : KP M k 0) {a b : Int} (hp : plk M k a b) : onN M 1 a ∧ onN M 1 b := by
  obtain ⟨j, h1, h2⟩ := hp
  have := h j (by rw [Nat.zero_add]; exact h1)
  rw [Nat.zero_add, Nat.zero_add] at this
  rcases h2 with ⟨e1, e2⟩ | ⟨e1, e2⟩
  · rw [e1, e2] at this; exact this
  · rw [e1, e2] at this; exact ⟨this.2, this.1⟩
def onP (M : Mem) (p : Int) : Prop := 0 ≤ p ∧ p ≤ 71 ∧ onN M (p / 36) (p % 36)
theorem go_sym {M : Mem} (h : J M) {k : Nat} (hk : KP M k 0) {p s n : Int} (hp : onP M p) (hs : 0 ≤ s ∧ s ≤ 3) (hg : goR M k p s n) (hn : n ≠ -1) : onP M n ∧ goR M k n (opp s) p := by
  obtain ⟨p1, p2, p3⟩ := hp
  have w := aw h
  have hh := ah h
  have wh := awh h
  have o4 : opp s ≠ 4 := by unfold opp; repeat (split; (try decide)); omega
  unfold goR at hg
  rcases hg with ⟨e, _⟩ | ⟨_, hg⟩
  · omega
  rcases hg with ⟨_, u2⟩ | ⟨u1, u2, u3⟩ | ⟨u1, u2, u3, u4⟩ | ⟨u1, u2, u3, u4, u5, u6⟩ | ⟨u1, u2, u3, u4, u5⟩
  · exact absurd u2 hn
  · obtain ⟨s1, s2, s3⟩ := bes_sym w hh p3.1 p3.2.1 hs u1
    have d1 : n / 36 = p / 36 := by omega
    have d2 : n % 36 = bes (xw M) (xh M) (p % 36) s := by omega
    refine ⟨⟨by omega, by omega, by rw [d1, d2]; exact u2⟩, .inr ⟨o4, .inr (.inl ⟨?_, ?_, ?_⟩)⟩⟩
    · rw [d2, s3]; omega
    · rw [d1, d2, s3]; exact p3
    · rw [d1, d2, s3]; omega
  · exact absurd u4 hn
  · obtain ⟨s1, s2, s3⟩ := bes_sym w hh p3.1 p3.2.1 hs u1
    obtain ⟨t1, t2, t3⟩ := bes_sym w hh s1 s2 hs u4
    have l1 : p / 36 = 1 := by omega
    have d1 : n / 36 = 1 := by omega
    have d2 : n % 36 = bes (xw M) (xh M) (bes (xw M) (xh M) (p % 36) s) s := by omega
    rw [l1] at u2
    refine ⟨⟨by omega, by omega, by rw [d1, d2]; exact (plk_on hk u5).2⟩, .inr ⟨o4, .inr (.inr (.inr (.inl ⟨?_, ?_, by omega, ?_, ?_, ?_⟩)))⟩⟩
    · rw [d2, t3]; omega
    · rw [d1, d2, t3]; exact u2
    · rw [d2, t3, s3]; omega
    · rw [d2, t3, s3]; exact plk_sym u5
    · rw [d2, t3, s3]; omega
  · exact absurd u5 hn
