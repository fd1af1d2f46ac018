/-! the reference's calls: each returns and keeps RI -/
def Rx (M N : Mem) : Prop := J N ∧ KK N ∧ (∀ k i, k < 162 → N.1 k i = M.1 k i) ∧ N.1 162 10 = M.1 162 10 ∧ N.1 162 48 = M.1 162 48
theorem Rx_r {M : Mem} (h : J M) (k : KK M) : Rx M M := ⟨h, k, fun _ _ _ => rfl, rfl, rfl⟩
theorem pq_lt {k i : Nat} (hk : k < 162) : pq k i = true := by
  have : decide (k < 162) = true := decide_eq_true hk
  unfold pq pqc
  rw [this]; rfl
theorem Rx_g {v : Nat} (hv : v = 1000 ∨ v = 163) {M A B : Mem} (h : Rx M A) (j : J B) (g : Gd v A B) : Rx M B := by
  have a : ∀ k i, pq k i = true → k ≠ 163 → B.1 k i = A.1 k i := fun k i h1 h2 => by
    refine g k i (.inl ⟨h1, ?_⟩)
    rcases hv with rfl | rfl
    · rintro rfl; exact absurd h1 (by
        have : pq 1000 i = false := rfl
        rw [this]; decide)
    · exact h2
  obtain ⟨h1, h2, h3, h4, h5⟩ := h
  exact ⟨j, KK_c h1 (Gk_Gd hv g) h2, fun k i hk => (a k i (pq_lt hk) (by omega)).trans (h3 k i hk), (a 162 10 (by decide) (by decide)).trans h4, (a 162 48 (by decide) (by decide)).trans h5⟩
theorem Rx_RO {n : Int} {M N : Mem} (h : RI n M) (r : Rx M N) : RO n M (M.1 162 10) N := by
  obtain ⟨r1, r2, r3, r4, r5⟩ := r
  exact ⟨⟨r1, r2, by rw [r5]; exact h.2.2.1, by rw [r5]; have := h.2.2.2; omega⟩, r3, r4⟩
/-- every call begins so -/
theorem Rx_13 {M M1 : Mem} (h : J M) (k : KK M) (e : M1 = s_i M 162 13 (0 : Int32)) : Rx M M1 := Rx_g (v := 1000) (.inl rfl) (Rx_r h k) (by rw [e]; exact Jw_fld okf_162_13 h _) (Gd_i Gd_r e (by decide))
theorem Rx_rem {M A : Mem} (h : Rx M A) (v : Nat) (hs : St v) (hv : KP A v 0) : ∃ r, f_Mod_remember v A = some r ∧ (Rx M r ∧ Fr WM A r) := by
  obtain ⟨h1, h2, h3, h4, h5⟩ := h
  obtain ⟨r, e, r1, r2, r3⟩ := fs_remember v h1 h2 hs hv
  exact ⟨r, e, ⟨r1, r2, fun k i hk => (r3 k i (by omega)).trans (h3 k i hk), (r3 162 10 (by decide)).trans h4, (r3 162 48 (by decide)).trans h5⟩, r3⟩
theorem Rx_put {M A : Mem} (h : Rx M A) (v : Int32) (hr : (A.1 162 12).toInt ≤ 15) : ∃ r, f_Mod_put v A = some r ∧ (Rx M r ∧ (r.1 162 12).toInt = (A.1 162 12).toInt + 1) := by
  obtain ⟨r, e, r1, r2, r3⟩ := sf_Mod_put v A h.1 hr
  exact ⟨r, e, Rx_g (.inl rfl) h r1 r2, r3⟩
theorem Rx_row0 {M A B : Mem} (h : Rx M A) (e : B = s_i A 162 12 (0 : Int32)) : Rx M B ∧ (B.1 162 12).toInt = 0 := ⟨Rx_g (v := 1000) (.inl rfl) h (by rw [e]; exact Jw_162_12 h.1 _ (by decide) (by decide)) (Gd_i Gd_r e (by decide)), by rw [e, si_eq]; rfl⟩
theorem mr_tell {n : Int} {M : Mem} (h : RI n M) (v1 : Int32) : ∃ r, f_Mod_tell v1 M = some r ∧ RO n M (M.1 162 10) r.2 := by
  unfold f_Mod_tell
  refine mem_i (fun M1 e1 => ?_)
  have x1 := Rx_13 h.1 h.2.1 e1
  refine bind_i (sf_Mod_canTell v1 M1 x1.1) (fun x2 _ _ => if_i (fun _ => ⟨_, rfl, Rx_RO h x1⟩) (fun _ => ?_))
  refine bind_i (Rx_rem x1 163 St_163 x1.2.1.1) (fun x3 _ q => mem_i (fun M4 e4 => ?_))
  have x4 : Rx M M4 := Rx_g (v := 163) (.inr rfl) q.1 (by rw [e4]; exact Jws93 q.1.1 St_163 _) (Gd_st Gd_r e4 (by decide))
  exact bind_i (sf_JInteger_bitCount _) (fun x5 _ _ => ⟨_, rfl, Rx_RO h x4⟩)
theorem mr_feast {n : Int} {M : Mem} (h : RI n M) (v1 : Int32) : ∃ r, f_Mod_feast v1 M = some r ∧ RO n M (M.1 162 10) r.2 := by
  unfold f_Mod_feast
  refine mem_i (fun M1 e1 => ?_)
  have x1 := Rx_13 h.1 h.2.1 e1
  refine bind_i (sf_Mod_canFeast v1 M1 x1.1) (fun x2 _ q2 => if_i (fun _ => ⟨_, rfl, Rx_RO h x1⟩) (fun c => ?_))
  refine bind_i (Rx_rem x1 163 St_163 x1.2.1.1) (fun x3 _ q => bind_i (sf_Mod_goFeast v1 x3 (q2.2.2 (neqi.mp c)) q.1.1) (fun x4 _ q4 => ?_))
  have x4' : Rx M x4 := Rx_g (v := 163) (.inr rfl) q.1 q4.1 q4.2
  exact bind_i (sf_Mod_womenBelow x4 q4.1) (fun x5 _ _ => ⟨_, rfl, Rx_RO h x4'⟩)
theorem mr_minute {n : Int} {M : Mem} (h : RI n M) : ∃ r, f_Mod_minute M = some r ∧ RO n M (M.1 162 10) r.2 := by
  unfold f_Mod_minute
  refine mem_i (fun M1 e1 => ?_)
  have x1 := Rx_13 h.1 h.2.1 e1
  refine bind_i (Rx_rem x1 163 St_163 x1.2.1.1) (fun x2 _ q => bind_i (sf_Mod_goMinute 163 x2 St_163 q.1.1) (fun x3 _ q3 => mem_i (fun M4 e4 => ?_)))
  have x3' : Rx M x3 := Rx_g (v := 163) (.inr rfl) q.1 q3.1 q3.2
  obtain ⟨x4, z4⟩ := Rx_row0 x3' e4
  exact bind_i (Rx_put x4 _ (by omega)) (fun x5 _ q5 => bind_i (Rx_put q5.1 _ (by omega)) (fun x6 _ q6 => ⟨_, rfl, Rx_RO h q6.1⟩))
theorem mr_minutes {n : Int} {M : Mem} (h : RI n M) (v1 : Int32) : ∃ r, f_Mod_minutes v1 M = some r ∧ RO n M (M.1 162 10) r.2 := by
  unfold f_Mod_minutes
  refine mem_i (fun M1 e1 => ?_)
  have x1 := Rx_13 h.1 h.2.1 e1
  have lp : ∀ A : Mem, Rx M A → v1.toInt ≤ 60 → ∃ x, iter (lb_Mod_minutes_36 v1) FU ((0 : Int32), (0 : Int32), (0 : Int32), A) = some x ∧ Rx M x.2.2 := by
    intro A hA hv
    refine iter_r (fun s : Int32 × Int32 × Int32 × Mem => Rx M s.2.2.2 ∧ 0 ≤ s.2.2.1.toInt ∧ s.2.2.1.toInt ≤ 60) (fun s : Int32 × Int32 × Int32 × Mem => (60 - s.2.2.1.toInt).toNat) _ ?_ FU _ ⟨hA, (by show (0 : Int) ≤ (0 : Int32).toInt; decide), (by show (0 : Int32).toInt ≤ 60; decide)⟩ (by show (60 - (0 : Int)).toNat < FU; rw [FU_v]; decide)
    rintro ⟨a, b, k, N⟩ ⟨i1, i2, i3⟩
    dsimp only at i1 i2 i3
    unfold lb_Mod_minutes_36
    dsimp only
    refine if_i (fun c => ⟨_, rfl, i1⟩) (fun c => ?_)
    have d := nlei.mp c
    have ek : (k + (1 : Int32)).toInt = k.toInt + 1 := add_ti rfl rfl (by omega) (by omega)
    refine bind_i (sf_Mod_goMinute 163 N St_163 i1.1) (fun x3 _ q3 => bind_i (sf_JInteger_bitCount _) (fun x4 _ _ => ⟨_, rfl, ⟨Rx_g (.inr rfl) i1 q3.1 q3.2, ?_, ?_⟩, ?_⟩))
    · show 0 ≤ (k + (1 : Int32)).toInt; omega
    · show (k + (1 : Int32)).toInt ≤ 60; omega
    · show (60 - (k + (1 : Int32)).toInt).toNat < (60 - k.toInt).toNat; omega
  refine bind_i (sp_in v1 0 60) (fun x2 _ q2 => ?_)
  have c60 : (60 : Int32).toInt = 60 := rfl
  rcases q2 with ⟨rfl, a1, a2⟩ | ⟨rfl, -⟩
  · refine if_i (fun c => absurd c (by decide)) (fun _ => if_i (fun _ => ?_) (fun _ => ?_))
    · refine bind_i (lp M1 x1 (by omega)) (fun x6 _ q6 => mem_i (fun M7 e7 => ?_))
      obtain ⟨x7, z7⟩ := Rx_row0 q6 e7
      exact bind_i (Rx_put x7 _ (by omega)) (fun x8 _ q8 => bind_i (Rx_put q8.1 _ (by omega)) (fun x9 _ q9 => ⟨_, rfl, Rx_RO h q9.1⟩))
    · refine bind_i (Rx_rem x1 163 St_163 x1.2.1.1) (fun x10 _ q10 => bind_i (lp x10 q10.1 (by omega)) (fun x6 _ q6 => mem_i (fun M7 e7 => ?_)))
      obtain ⟨x7, z7⟩ := Rx_row0 q6 e7
      exact bind_i (Rx_put x7 _ (by omega)) (fun x8 _ q8 => bind_i (Rx_put q8.1 _ (by omega)) (fun x9 _ q9 => ⟨_, rfl, Rx_RO h q9.1⟩))
  · exact if_i (fun _ => ⟨_, rfl, Rx_RO h x1⟩) (fun c => absurd rfl c)
theorem mr_sheet {n : Int} {M : Mem} (h : RI n M) (v1 v2 v3 v4 : Int32) : ∃ r, f_Mod_sheet v1 v2 v3 v4 M = some r ∧ RO n M (M.1 162 10) r.2 := by
  obtain ⟨r, e, r1, r2⟩ := sf_Mod_sheet v1 v2 v3 v4 M h.1
  exact ⟨r, e, Rx_RO h (Rx_g (.inr rfl) (Rx_r h.1 h.2.1) r1 r2)⟩
/-- a PLANK more, on roofs -/
theorem fs_layPlank (v1 v2 : Int32) {M : Mem} (h : J M) (h1 : 0 ≤ v1.toInt ∧ v1.toInt ≤ 35) (h2 : 0 ≤ v2.toInt ∧ v2.toInt ≤ 35) (hm : (M.1 163 92).toInt ≤ 5) (hk : KP M 163 0) (o1 : onN M 1 v1.toInt) (o2 : onN M 1 v2.toInt) : ∃ r : Mem, f_Mod_layPlank v1 v2 M = some r ∧ (J r ∧ KP r 163 0 ∧ ∀ k i, k ≠ 163 → r.1 k i = M.1 k i) := by
  have t92 : (92 : Int32).toNatClampNeg = 92 := rfl
  have p : (0 : Int) ≤ (M.1 163 92).toInt ∧ (M.1 163 92).toInt ≤ 6 := Jst92 h St_163
  have m1 : ((2 : Int32) * (M.1 163 92)).toInt = 2 * (M.1 163 92).toInt := mul_ti rfl rfl (by omega) (by omega)
  have m2 : ((80 : Int32) + ((2 : Int32) * (M.1 163 92))).toInt = 80 + 2 * (M.1 163 92).toInt := add_ti rfl m1 (by omega) (by omega)
  have m3 : (((80 : Int32) + ((2 : Int32) * (M.1 163 92))) + (1 : Int32)).toInt = 80 + 2 * (M.1 163 92).toInt + 1 := add_ti m2 rfl (by omega) (by omega)
  have i2 : ((80 : Int32) + ((2 : Int32) * (M.1 163 92))).toNatClampNeg = 80 + 2 * (M.1 163 92).toInt.toNat := by rw [tcn', m2]; omega
  have i3 : (((80 : Int32) + ((2 : Int32) * (M.1 163 92))) + (1 : Int32)).toNatClampNeg = 81 + 2 * (M.1 163 92).toInt.toNat := by rw [tcn', m3]; omega
  unfold f_Mod_layPlank
  rw [t92]
  refine inb_i (by omega) (by omega) (mem_i (fun M1 e1 => inb_i (by omega) (by omega) (mem_i (fun M2 e2 => mem_i (fun M3 e3 => ⟨_, rfl, ?_⟩)))))
  have j1 : J M1 := by rw [e1]; exact Jws80 h St_163 (by omega) (by omega) _ h1.1 h1.2
  have j2 : J M2 := by rw [e2]; exact Jws80 j1 St_163 (by omega) (by omega) _ h2.1 h2.2
  rw [i2] at e1
  rw [i3] at e2
  have k2 : M2.1 163 92 = M.1 163 92 := by rw [e2, si_ne (by omega), e1, si_ne (by omega)]
  have e5 : ((M2.1 163 92) + (1 : Int32)).toInt = (M.1 163 92).toInt + 1 := add_ti (by rw [k2]) rfl (by omega) (by omega)
  have fr : ∀ k i, k ≠ 163 → M3.1 k i = M.1 k i := fun k i hh => by rw [e3, si_ne (fun z => hh z.1), e2, si_ne (fun z => hh z.1), e1, si_ne (fun z => hh z.1)]
  have mp : MapEq M3 M := ⟨fr 162 2 (by decide), fr 162 3 (by decide), fun i => fr 164 i (by decide)⟩
  refine ⟨by rw [e3]; exact Jws92 j2 St_163 _ (by omega) (by omega), ?_, fr⟩
  intro j hj
  have v92 : (M3.1 163 (0 + 92)).toInt = (M.1 163 92).toInt + 1 := by rw [e3]; show ((s_i M2 163 92 _).1 163 92).toInt = _; rw [si_eq]; exact e5
  rw [v92] at hj
  by_cases w : (j : Int) < (M.1 163 92).toInt
  · have := hk j (by rw [Nat.zero_add]; exact w)
    have a1 : M3.1 163 (0 + 80 + 2 * j) = M.1 163 (0 + 80 + 2 * j) := by rw [e3, si_ne (by omega), e2, si_ne (by omega), e1, si_ne (by omega)]
    have a2 : M3.1 163 (0 + 81 + 2 * j) = M.1 163 (0 + 81 + 2 * j) := by rw [e3, si_ne (by omega), e2, si_ne (by omega), e1, si_ne (by omega)]
    rw [a1, a2]
    exact ⟨(onN_c mp).mpr this.1, (onN_c mp).mpr this.2⟩
  · have ej : j = (M.1 163 92).toInt.toNat := by omega
    have a1 : M3.1 163 (0 + 80 + 2 * j) = v1 := by
      rw [e3, si_ne (by omega), e2, si_ne (by omega), e1]
      have : 0 + 80 + 2 * j = 80 + 2 * (M.1 163 92).toInt.toNat := by omega
      rw [this, si_eq]
    have a2 : M3.1 163 (0 + 81 + 2 * j) = v2 := by
      rw [e3, si_ne (by omega), e2]
      have : 0 + 81 + 2 * j = 81 + 2 * (M.1 163 92).toInt.toNat := by omega
      rw [this, si_eq]
    rw [a1, a2]
    exact ⟨(onN_c mp).mpr o1, (onN_c mp).mpr o2⟩
theorem fs_plankRefusal (v1 v2 : Int32) {M : Mem} (hJ : J M) : ∃ r : Int32, f_Mod_plankRefusal v1 v2 M = some r ∧ (0 ≤ r.toInt → (0 ≤ v1.toInt ∧ v1.toInt ≤ 35) ∧ (0 ≤ v2.toInt ∧ v2.toInt ≤ 35) ∧ (M.1 163 92).toInt ≤ 5 ∧ onN M 1 v1.toInt ∧ onN M 1 v2.toInt) := by
  have bad : ∀ b : Int32, b.toInt < 0 → (0 ≤ b.toInt → (0 ≤ v1.toInt ∧ v1.toInt ≤ 35) ∧ (0 ≤ v2.toInt ∧ v2.toInt ≤ 35) ∧ (M.1 163 92).toInt ≤ 5 ∧ onN M 1 v1.toInt ∧ onN M 1 v2.toInt) := fun b hb h => absurd h (by omega)
  have p : (0 : Int) ≤ (M.1 163 92).toInt ∧ (M.1 163 92).toInt ≤ 6 := Jst92 hJ St_163
  have cb : ∀ a b : Int32, (0 ≤ a.toInt ∧ a.toInt ≤ 35) → (0 ≤ b.toInt ∧ b.toInt ≤ 35) → ∃ r, f_Mod_canBridge a b M = some r ∧ (r ≠ 0 → onN M 1 a.toInt ∧ onN M 1 b.toInt) := by
    intro a b ha hb
    have o1 : (1 : Int32).toInt = 1 := rfl
    unfold f_Mod_canBridge
    refine bind_i (sf_Mod_between a b M ha hb hJ) (fun x1 _ _ => if_i (fun _ => ⟨_, rfl, fun w => absurd rfl w⟩) (fun _ => ?_))
    refine bind_i (fs_isOf hJ 1 a) (fun x2 _ q2 => ?_)
    rcases q2 with ⟨rfl, q2⟩ | ⟨rfl, q2⟩
    · refine if_i (fun c => absurd c (by decide)) (fun _ => bind_i (fs_isOf hJ 1 b) (fun x3 _ q3 => ?_))
      rcases q3 with ⟨rfl, q3⟩ | ⟨rfl, q3⟩
      · exact if_i (fun c => absurd c (by decide)) (fun _ => bind_i (fs_isOf hJ 1 x1) (fun x4 _ _ => if_i (fun _ => ⟨_, rfl, fun _ => ⟨q2, q3⟩⟩) (fun _ => ⟨_, rfl, fun w => absurd rfl w⟩)))
      · exact if_i (fun _ => ⟨_, rfl, fun w => absurd rfl w⟩) (fun c => absurd rfl c)
    · exact if_i (fun _ => ⟨_, rfl, fun w => absurd rfl w⟩) (fun c => absurd rfl c)
  unfold f_Mod_plankRefusal
  refine bind_i (sp_isCell hJ v1) (fun x1 _ q => ?_)
  rcases q with ⟨rfl, q1, q2, -⟩ | ⟨rfl, -⟩
  · refine if_i (fun c => absurd c (by decide)) (fun _ => ?_)
    refine bind_i (sp_isCell hJ v2) (fun x2 _ q => ?_)
    rcases q with ⟨rfl, q3, q4, -⟩ | ⟨rfl, -⟩
    · refine if_i (fun c => absurd c (by decide)) (fun _ => ?_)
      refine bind_i (cb v1 v2 ⟨q1, q2⟩ ⟨q3, q4⟩) (fun x3 _ q5 => ?_)
      refine if_i (fun _ => ⟨_, rfl, bad _ (by decide)⟩) (fun c3 => ?_)
      refine bind_i (sf_Mod_isPlank 163 v1 v2 M St_163 hJ) (fun x4 _ _ => ?_)
      refine if_i (fun _ => ?_) (fun _ => ⟨_, rfl, bad _ (by decide)⟩)
      refine if_i (fun _ => ⟨_, rfl, bad _ (by decide)⟩) (fun c => ⟨_, rfl, fun _ => ⟨⟨q1, q2⟩, ⟨q3, q4⟩, ?_, q5 c3⟩⟩)
      have : ¬ (M.1 163 92).toInt = (6 : Int32).toInt := neqi.mp c
      have c6 : (6 : Int32).toInt = 6 := rfl
      omega
    · exact if_i (fun _ => ⟨_, rfl, bad _ (by decide)⟩) (fun c => absurd rfl c)
  · exact if_i (fun _ => ⟨_, rfl, bad _ (by decide)⟩) (fun c => absurd rfl c)
/-- 163 changes, its PLANKS end on roofs -/
theorem Rx_163 {M A B : Mem} (h : Rx M A) (j : J B) (k : KP B 163 0) (f : ∀ y i, y ≠ 163 → B.1 y i = A.1 y i) : Rx M B := by
  obtain ⟨h1, h2, h3, h4, h5⟩ := h
  have mp : MapEq B A := ⟨f 162 2 (by decide), f 162 3 (by decide), fun i => f 164 i (by decide)⟩
  refine ⟨j, ⟨k, fun u hu => ?_, fun t ht => ?_⟩, fun y i hy => (f y i (by omega)).trans (h3 y i hy), (f 162 10 (by decide)).trans h4, (f 162 48 (by decide)).trans h5⟩
  · rw [f 162 27 (by decide)] at hu
    exact KP_c mp (J92 h1 (by decide) u).2 (fun i _ _ => f 173 _ (by decide)) (h2.2.1 u hu)
  · obtain ⟨a, b⟩ := h2.2.2 t ht
    rw [f 191 t (by decide), f 162 48 (by decide), f 190 t (by decide)]
    exact ⟨a, fun e1 e2 => KP_c mp (J92 h1 (by decide) t).2 (fun i _ _ => f 189 _ (by decide)) (b e1 e2)⟩
theorem mr_plank {n : Int} {M : Mem} (h : RI n M) (v1 v2 : Int32) : ∃ r, f_Mod_plank v1 v2 M = some r ∧ RO n M (M.1 162 10) r.2 := by
  unfold f_Mod_plank
  refine mem_i (fun M1 e1 => ?_)
  have x1 := Rx_13 h.1 h.2.1 e1
  refine bind_i (fs_plankRefusal v1 v2 x1.1) (fun x2 _ q => if_i (fun c => ?_) (fun _ => ⟨_, rfl, Rx_RO h x1⟩))
  obtain ⟨q1, q2, q3, q4, q5⟩ := q (lei.mp c)
  refine bind_i (Rx_rem x1 163 St_163 x1.2.1.1) (fun x3 _ p => ?_)
  obtain ⟨p1, p2⟩ := p
  have mp : MapEq x3 M1 := ⟨p2 162 2 (by decide), p2 162 3 (by decide), fun i => p2 164 i (by omega)⟩
  exact bind_i (fs_layPlank v1 v2 p1.1 q1 q2 (by rw [p2 163 92 (by decide)]; exact q3) p1.2.1.1 ((onN_c mp).mpr q4) ((onN_c mp).mpr q5)) (fun x4 _ s => ⟨_, rfl, Rx_RO h (Rx_163 p1 s.1 s.2.1 s.2.2)⟩)
theorem KP_less {M N : Mem} (hm : MapEq N M) (hl : (N.1 163 92).toInt ≤ (M.1 163 92).toInt) (hc : ∀ i, 80 ≤ i → i < 92 → N.1 163 i = M.1 163 i) (h6 : (M.1 163 92).toInt ≤ 6) (h : KP M 163 0) : KP N 163 0 := by
  intro j hj
  rw [Nat.zero_add] at hj
  have := h j (by rw [Nat.zero_add]; omega)
  rw [hc (0 + 80 + 2 * j) (by omega) (by omega), hc (0 + 81 + 2 * j) (by omega) (by omega)]
  exact ⟨(onN_c hm).mpr this.1, (onN_c hm).mpr this.2⟩
theorem Rx_takeoff {M A B : Mem} (h : Rx M A) (hn : (A.1 163 92).toInt ≠ 0) (e : B = s_i A 163 92 ((A.1 163 92) - (1 : Int32))) : Rx M B := by
  have p : (0 : Int) ≤ (A.1 163 92).toInt ∧ (A.1 163 92).toInt ≤ 6 := Jst92 h.1 St_163
  have es : ((A.1 163 92) - (1 : Int32)).toInt = (A.1 163 92).toInt - 1 := sub_ti rfl rfl (by omega) (by omega)
  have f : ∀ y i, y ≠ 163 → B.1 y i = A.1 y i := fun y i hy => by rw [e, si_ne (fun z => hy z.1)]
  refine Rx_163 h (by rw [e]; exact Jws92 h.1 St_163 _ (by omega) (by omega)) ?_ f
  refine KP_less ⟨f 162 2 (by decide), f 162 3 (by decide), fun i => f 164 i (by decide)⟩ ?_ (fun i h1 h2 => by rw [e, si_ne (by omega)]) p.2 h.2.1.1
  rw [e, si_eq]; omega
theorem mr_take {n : Int} {M : Mem} (h : RI n M) : ∃ r, f_Mod_take M = some r ∧ RO n M (M.1 162 10) r.2 := by
  unfold f_Mod_take
  have t92 : (92 : Int32).toNatClampNeg = 92 := rfl
  rw [t92]
  refine mem_i (fun M1 e1 => ?_)
  have x1 := Rx_13 h.1 h.2.1 e1
  refine if_i (fun _ => ⟨_, rfl, Rx_RO h x1⟩) (fun c => ?_)
  refine bind_i (Rx_rem x1 163 St_163 x1.2.1.1) (fun x2 _ q => mem_i (fun M3 e3 => ⟨_, rfl, Rx_RO h (Rx_takeoff q.1 ?_ e3)⟩))
  rw [q.2 163 92 (by decide)]; exact neqi.mp c
theorem mr_undo {n : Int} {M : Mem} (h : RI n M) : ∃ r, f_Mod_undo M = some r ∧ RO n M (M.1 162 10) r.2 := by
  unfold f_Mod_undo
  refine mem_i (fun M1 e1 => ?_)
  have x1 := Rx_13 h.1 h.2.1 e1
  refine if_i (fun _ => ⟨_, rfl, Rx_RO h x1⟩) (fun c => mem_i (fun M2 e2 => ?_))
  have z := Jr_162_27 x1.1
  have d := neqi.mp c
  have zz : (0 : Int32).toInt = 0 := rfl
  have es : ((M1.1 162 27) - (1 : Int32)).toInt = (M1.1 162 27).toInt - 1 := sub_ti rfl rfl (by omega) (by omega)
  have j2 : J M2 := by rw [e2]; exact Jw_162_27 x1.1 _ (by omega) (by omega)
  have f2 : ∀ k i, ¬ (k = 162 ∧ i = 27) → M2.1 k i = M1.1 k i := fun k i hh => by rw [e2, si_ne hh]
  have u2 : (M2.1 162 27).toInt = (M1.1 162 27).toInt - 1 := by rw [e2, si_eq]; exact es
  have hl : ∃ x, iter lb_Mod_undo_26 FU ((0 : Int32), M2) = some x ∧ (J x ∧ (∀ k i, k ≠ 163 → x.1 k i = M2.1 k i) ∧ (∀ i : Nat, (i : Int) < 96 → x.1 163 i = M2.1 173 (96 * (M2.1 162 27).toInt.toNat + i))) := by
    refine cnt_r _ (fun c N => J N ∧ (∀ k i, k ≠ 163 → N.1 k i = M2.1 k i) ∧ (∀ i : Nat, (i : Int) < c → N.1 163 i = M2.1 173 (96 * (M2.1 162 27).toInt.toNat + i))) 96 (by decide) ?_ M2 ⟨j2, fun _ _ _ => rfl, fun i hi => absurd hi (by omega)⟩ (by decide)
    intro k N k0 k1 hI
    obtain ⟨i1, i2, i3⟩ := hI
    have c36 : (96 : Int32).toInt = 96 := rfl
    have e27 : N.1 162 27 = M2.1 162 27 := i2 162 27 (by decide)
    unfold lb_Mod_undo_26
    dsimp only
    rw [e27]
    refine if_i (fun c => ⟨_, rfl, .inl ⟨_, rfl, i1, i2, fun i hi => i3 i (by have := lei.mp c; omega)⟩⟩) (fun c => ?_)
    have d := nlei.mp c
    have m1 : ((96 : Int32) * (M2.1 162 27)).toInt = 96 * (M2.1 162 27).toInt := mul_ti rfl rfl (by omega) (by omega)
    have m2 : (((96 : Int32) * (M2.1 162 27)) + k).toInt = 96 * (M2.1 162 27).toInt + k.toInt := add_ti m1 rfl (by omega) (by omega)
    have t2 : (((96 : Int32) * (M2.1 162 27)) + k).toNatClampNeg = 96 * (M2.1 162 27).toInt.toNat + k.toInt.toNat := by rw [tcn', m2]; omega
    refine inb_i (by omega) (by omega) (inb_i k0 (by omega) (mem_i (fun m e => ⟨_, rfl, .inr ⟨by omega, m, rfl, ?_, fun a b hn => ?_, fun i hi => ?_⟩⟩)))
    · rw [e]
      refine Jwcopy i1 (by decide) (by decide) _ _ ?_
      rw [t2, tcn']; omega
    · rw [e, si_ne (fun z => hn z.1)]; exact i2 a b hn
    · rw [e, t2]
      by_cases w : i = k.toInt.toNat
      · rw [w]; show (s_i N 163 k.toInt.toNat _).1 163 k.toInt.toNat = _; rw [si_eq]; exact i2 173 _ (by decide)
      · show (s_i N 163 k.toInt.toNat _).1 163 i = _; rw [si_ne (fun z => w z.2)]; exact i3 i (by omega)
  refine bind_i hl (fun x5 _ q => ⟨_, rfl, ?_⟩)
  obtain ⟨q1, q2, q3⟩ := q
  have fm : ∀ k i, k ≠ 163 → ¬ (k = 162 ∧ i = 27) → x5.1 k i = M1.1 k i := fun k i a b => (q2 k i a).trans (f2 k i b)
  have mp : MapEq x5 M1 := ⟨fm 162 2 (by decide) (by decide), fm 162 3 (by decide) (by decide), fun i => fm 164 i (by decide) (by omega)⟩
  obtain ⟨a1, a2, a3, a4, a5⟩ := x1
  refine Rx_RO h ⟨q1, ⟨?_, fun u hu => ?_, fun t ht => ?_⟩, fun k i hk => (fm k i (by omega) (by omega)).trans (a3 k i hk), (fm 162 10 (by decide) (by decide)).trans a4, (fm 162 48 (by decide) (by decide)).trans a5⟩
  · refine KP_c (M := M1) (k := 173) (o := 96 * (M2.1 162 27).toInt.toNat) mp (J92 a1 (by decide) _).2 (fun i h1 h2 => ?_) (a2.2.1 _ (by omega))
    rw [Nat.zero_add, q3 i (by omega)]; exact f2 173 _ (by omega)
  · have hu' : (u : Int) < (M1.1 162 27).toInt - 1 := by
      have : (x5.1 162 27).toInt = (M1.1 162 27).toInt - 1 := by rw [q2 162 27 (by decide)]; exact u2
      rw [← this]; exact hu
    exact KP_c mp (J92 a1 (by decide) u).2 (fun i _ _ => fm 173 _ (by decide) (by omega)) (a2.2.1 u (by omega))
  · obtain ⟨b1, b2⟩ := a2.2.2 t ht
    show (0 ≤ (x5.1 191 t).toInt ∧ (x5.1 191 t).toInt ≤ (x5.1 162 48).toInt) ∧ ((x5.1 190 t).toInt ≠ 0 → x5.1 191 t = x5.1 162 48 → KP x5 189 (96 * t))
    rw [fm 191 t (by decide) (by omega), fm 162 48 (by decide) (by decide), fm 190 t (by decide) (by omega)]
    exact ⟨b1, fun e1 e2 => KP_c mp (J92 a1 (by decide) t).2 (fun i _ _ => fm 189 _ (by decide) (by omega)) (b2 e1 e2)⟩
theorem mr_keep {n : Int} {M : Mem} (h : RI n M) (v1 : Int32) : ∃ r, f_Mod_keep v1 M = some r ∧ RO n M (M.1 162 10) r.2 := by
  unfold f_Mod_keep
  refine mem_i (fun M1 e1 => ?_)
  have x1 := Rx_13 h.1 h.2.1 e1
  refine bind_i (sp_in v1 0 1) (fun x2 _ q => ?_)
  have z0 : (0 : Int32).toInt = 0 := rfl
  have z1 : (1 : Int32).toInt = 1 := rfl
  rcases q with ⟨rfl, q1, q2⟩ | ⟨rfl, -⟩
  · refine if_i (fun c => absurd c (by decide)) (fun _ => inb_i (by omega) (by omega) (mem_i (fun M3 e3 => inb_i (by omega) (by omega) (mem_i (fun M4 e4 => ?_)))))
    have j3 : J M3 := by rw [e3]; exact Jw_190 x1.1 _ _ (nar01 _).1 (nar01 _).2
    have j4 : J M4 := by rw [e4]; exact Jw_any ok_191 j3 _ _
    have tv : v1.toNatClampNeg = v1.toInt.toNat := rfl
    rw [tv] at e3 e4
    have f4 : ∀ k i, k ≠ 190 → k ≠ 191 → M4.1 k i = M1.1 k i := fun k i a b => by rw [e4, si_ne (fun z => b z.1), e3, si_ne (fun z => a z.1)]
    have m1 : ((96 : Int32) * v1).toInt = 96 * v1.toInt := mul_ti rfl rfl (by omega) (by omega)
    have tt : ((96 : Int32) * v1).toInt.toNat = 96 * v1.toInt.toNat := by rw [m1]; omega
    have l : ln 189 = 192 := by decide +kernel
    refine bind_i (fs_lay 163 189 _ j4 St_163 (by decide) (by decide +kernel) (by decide) (by omega) (by omega) (by omega) (by omega)) (fun x5 _ q => ⟨_, rfl, ?_⟩)
    obtain ⟨p1, p2, p3⟩ := q
    rw [tt] at p2 p3
    have fm : ∀ k i, k ≠ 190 → k ≠ 191 → k ≠ 189 → x5.1 k i = M1.1 k i := fun k i a b c => (p3 k i (by omega)).trans (f4 k i a b)
    have mp : MapEq x5 M1 := ⟨fm 162 2 (by decide) (by decide) (by decide), fm 162 3 (by decide) (by decide) (by decide), fun i => fm 164 i (by decide) (by decide) (by decide)⟩
    obtain ⟨a1, a2, a3, a4, a5⟩ := x1
    refine Rx_RO h ⟨p1, ⟨?_, fun u hu => ?_, fun t ht => ?_⟩, fun k i hk => (fm k i (by omega) (by omega) (by omega)).trans (a3 k i hk), (fm 162 10 (by decide) (by decide) (by decide)).trans a4, (fm 162 48 (by decide) (by decide) (by decide)).trans a5⟩
    · exact KP_c mp (j92_163 a1) (fun i _ _ => fm 163 _ (by decide) (by decide) (by decide)) a2.1
    · have hu' : (u : Int) < (M1.1 162 27).toInt := by rw [← fm 162 27 (by decide) (by decide) (by decide)]; exact hu
      exact KP_c mp (J92 a1 (by decide) u).2 (fun i _ _ => fm 173 _ (by decide) (by decide) (by decide)) (a2.2.1 u hu')
    · obtain ⟨b1, b2⟩ := a2.2.2 t ht
      have c48 : x5.1 162 48 = M1.1 162 48 := fm 162 48 (by decide) (by decide) (by decide)
      have v191 : x5.1 191 t = if t = v1.toInt.toNat then M1.1 162 48 else M1.1 191 t := by
        rw [p3 191 t (by omega), e4]
        by_cases w : t = v1.toInt.toNat
        · rw [w, si_eq, if_pos rfl, e3, si_ne (by intro z; exact absurd z.1 (by decide))]
        · rw [si_ne (fun z => w z.2), if_neg w, e3, si_ne (by intro z; exact absurd z.1 (by decide))]
      show (0 ≤ (x5.1 191 t).toInt ∧ (x5.1 191 t).toInt ≤ (x5.1 162 48).toInt) ∧ ((x5.1 190 t).toInt ≠ 0 → x5.1 191 t = x5.1 162 48 → KP x5 189 (96 * t))
      rw [v191, c48]
      by_cases w : t = v1.toInt.toNat
      · rw [if_pos w]
        refine ⟨⟨by rw [a5]; exact h.2.2.1, Int.le_refl _⟩, fun _ _ => ?_⟩
        refine KP_c (M := M1) (k := 163) (o := 0) mp (j92_163 a1) (fun i h1 h2 => ?_) a2.1
        rw [w, p2 i (by omega), Nat.zero_add]; exact f4 163 i (by decide) (by decide)
      · rw [if_neg w]
        refine ⟨b1, fun e5 e6 => ?_⟩
        have v190 : x5.1 190 t = M1.1 190 t := by rw [p3 190 t (by omega), e4, si_ne (by intro z; exact absurd z.1 (by decide)), e3, si_ne (fun z => w z.2)]
        rw [v190] at e5
        refine KP_c (M := M1) mp (J92 a1 (by decide) t).2 (fun i h1 h2 => ?_) (b2 e5 e6)
        rw [p3 189 _ (by omega)]; exact f4 189 _ (by decide) (by decide)
  · exact if_i (fun _ => ⟨_, rfl, Rx_RO h x1⟩) (fun c => absurd rfl c)
theorem mr_again {n : Int} {M : Mem} (h : RI n M) (v1 : Int32) : ∃ r, f_Mod_again v1 M = some r ∧ RO n M (M.1 162 10) r.2 := by
  unfold f_Mod_again
  refine mem_i (fun M1 e1 => ?_)
  have x1 := Rx_13 h.1 h.2.1 e1
  refine bind_i (sp_in v1 0 1) (fun x2 _ q => ?_)
  have z0 : (0 : Int32).toInt = 0 := rfl
  have z1 : (1 : Int32).toInt = 1 := rfl
  rcases q with ⟨rfl, q1, q2⟩ | ⟨rfl, -⟩
  · refine if_i (fun c => absurd c (by decide)) (fun _ => inb_i (by omega) (by omega) ?_)
    refine if_i (fun _ => ⟨_, rfl, Rx_RO h x1⟩) (fun c1 => inb_i (by omega) (by omega) (if_i (fun c2 => ?_) (fun _ => ⟨_, rfl, Rx_RO h x1⟩)))
    have hl : ∃ x, iter (lb_Mod_again_40 v1) FU ((0 : Int32), M1) = some x ∧ (J x ∧ (∀ k i, k ≠ 163 → x.1 k i = M1.1 k i) ∧ (∀ i : Nat, (i : Int) < 96 → x.1 163 i = M1.1 189 (96 * v1.toInt.toNat + i))) := by
      refine cnt_r _ (fun c N => J N ∧ (∀ k i, k ≠ 163 → N.1 k i = M1.1 k i) ∧ (∀ i : Nat, (i : Int) < c → N.1 163 i = M1.1 189 (96 * v1.toInt.toNat + i))) 96 (by decide) ?_ M1 ⟨x1.1, fun _ _ _ => rfl, fun i hi => absurd hi (by omega)⟩ (by decide)
      intro k N k0 k1 hI
      obtain ⟨i1, i2, i3⟩ := hI
      have c36 : (96 : Int32).toInt = 96 := rfl
      unfold lb_Mod_again_40
      dsimp only
      refine if_i (fun c => ⟨_, rfl, .inl ⟨_, rfl, i1, i2, fun i hi => i3 i (by have := lei.mp c; omega)⟩⟩) (fun c => ?_)
      have d := nlei.mp c
      have m1 : ((96 : Int32) * v1).toInt = 96 * v1.toInt := mul_ti rfl rfl (by omega) (by omega)
      have m2 : (((96 : Int32) * v1) + k).toInt = 96 * v1.toInt + k.toInt := add_ti m1 rfl (by omega) (by omega)
      have t2 : (((96 : Int32) * v1) + k).toNatClampNeg = 96 * v1.toInt.toNat + k.toInt.toNat := by rw [tcn', m2]; omega
      refine inb_i (by omega) (by omega) (inb_i k0 (by omega) (mem_i (fun m e => ⟨_, rfl, .inr ⟨by omega, m, rfl, ?_, fun a b hn => ?_, fun i hi => ?_⟩⟩)))
      · rw [e]
        refine Jwcopy i1 (by decide) (by decide) _ _ ?_
        rw [t2, tcn']; omega
      · rw [e, si_ne (fun z => hn z.1)]; exact i2 a b hn
      · rw [e, t2]
        by_cases w : i = k.toInt.toNat
        · rw [w]; show (s_i N 163 k.toInt.toNat _).1 163 k.toInt.toNat = _; rw [si_eq]; exact i2 189 _ (by decide)
        · show (s_i N 163 k.toInt.toNat _).1 163 i = _; rw [si_ne (fun z => w z.2)]; exact i3 i (by omega)
    refine bind_i hl (fun x5 _ q => mem_i (fun M6 e6 => ⟨_, rfl, Rx_RO h ?_⟩))
    obtain ⟨p1, p2, p3⟩ := q
    have mp : MapEq x5 M1 := ⟨p2 162 2 (by decide), p2 162 3 (by decide), fun i => p2 164 i (by decide)⟩
    have x5' : Rx M x5 := by
      refine Rx_163 x1 p1 ?_ p2
      refine KP_c (M := M1) (k := 189) (o := 96 * v1.toInt.toNat) mp (J92 x1.1 (by decide) _).2 (fun i h1 h2 => ?_) ((x1.2.1.2.2 v1.toInt.toNat (by omega)).2 (neqi.mp c1) c2)
      rw [Nat.zero_add]; exact p3 i (by omega)
    obtain ⟨a1, a2, a3, a4, a5⟩ := x5'
    have f6 : ∀ k i, ¬ (k = 162 ∧ i = 27) → M6.1 k i = x5.1 k i := fun k i hh => by rw [e6, si_ne hh]
    have mp6 : MapEq M6 x5 := ⟨f6 162 2 (by decide), f6 162 3 (by decide), fun i => f6 164 i (by omega)⟩
    refine ⟨by rw [e6]; exact Jw_162_27 a1 _ (by decide) (by decide), ⟨KP_c mp6 (j92_163 a1) (fun i _ _ => f6 163 _ (by omega)) a2.1, fun u hu => ?_, fun t ht => ?_⟩, fun k i hk => (f6 k i (by omega)).trans (a3 k i hk), (f6 162 10 (by decide)).trans a4, (f6 162 48 (by decide)).trans a5⟩
    · rw [e6, si_eq] at hu; omega
    · obtain ⟨b1, b2⟩ := a2.2.2 t ht
      rw [f6 191 t (by omega), f6 162 48 (by decide), f6 190 t (by omega)]
      exact ⟨b1, fun e1 e2 => KP_c mp6 (J92 a1 (by decide) t).2 (fun i _ _ => f6 189 _ (by omega)) (b2 e1 e2)⟩
  · exact if_i (fun _ => ⟨_, rfl, Rx_RO h x1⟩) (fun c => absurd rfl c)
