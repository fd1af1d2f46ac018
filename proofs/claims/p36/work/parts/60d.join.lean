section
/-! frames -/
theorem wf_Mod_sheet {C : Nat} {L : List Nat} {A : Mem} (v1 : Int32) (v2 : Int32) (v3 : Int32) (v4 : Int32) (M : Mem) (hC : sb 13164036458569660029252852107682149669340548655332796154249216000 C)  (p0 : Fx C L A M) {r : (Int32 × Mem)} (e : f_Mod_sheet v1 v2 v3 v4 M = some r) : (fun r : Int32 × Mem => Fx C L A r.2) r := by
  unfold f_Mod_sheet at e
  obtain ⟨M1, e_M1, e⟩ := mo e
  have p_M1 : Fx C L A M1 := wi1 p0 e_M1 (tb1 hC (by decide +kernel))
  obtain ⟨x2, e_x2, e⟩ := bo e
  rcases io e with ⟨_, e⟩ | ⟨_, e⟩
  · obtain rfl := Option.some.inj e
    exact p_M1
  rcases io e with ⟨_, e⟩ | ⟨_, e⟩
  · rcases io e with ⟨_, e⟩ | ⟨_, e⟩
    · obtain ⟨x9, e_x9, e⟩ := bo e
      have p_x9 : Fx C L A x9.2 := (it_r (I := fun s : Int32 × Int32 × Int32 × Mem => Fx C L A s.2.2.2) (Q := (fun r : Int32 × Mem => Fx C L A r.2)) (fun s_ r_ hs_ er_ => wl_Mod_sheet_43 v1 v2 v4 s_ (sb_t (by decide +kernel) hC) hs_ er_) e_x9 p_M1)
      rcases io e with ⟨_, e⟩ | ⟨_, e⟩
      · obtain rfl := Option.some.inj e
        exact p_x9
      obtain rfl := Option.some.inj e
      exact p_x9
    rcases io e with ⟨_, e⟩ | ⟨_, e⟩
    · obtain ⟨x11, e_x11, e⟩ := bo e
      have p_x11 : Fx C L A x11.2 := (it_r (I := fun s : Int32 × Int32 × Int32 × Mem => Fx C L A s.2.2.2) (Q := (fun r : Int32 × Mem => Fx C L A r.2)) (fun s_ r_ hs_ er_ => wl_Mod_sheet_43 v1 v2 v4 s_ (sb_t (by decide +kernel) hC) hs_ er_) e_x11 p_M1)
      rcases io e with ⟨_, e⟩ | ⟨_, e⟩
      · obtain rfl := Option.some.inj e
        exact p_x11
      obtain rfl := Option.some.inj e
      exact p_x11
    obtain rfl := Option.some.inj e
    exact p_M1
  obtain rfl := Option.some.inj e
  exact p_M1
theorem wf_Mod_tell {C : Nat} {L : List Nat} {A : Mem} (v1 : Int32) (M : Mem) (hC : sb 215692737373663699989986786563021433463352645540770409666382523269120 C)  (p0 : Fx C L A M) {r : (Int32 × Mem)} (e : f_Mod_tell v1 M = some r) : (fun r : Int32 × Mem => Fx C L A r.2) r := by
  unfold f_Mod_tell at e
  obtain ⟨M1, e_M1, e⟩ := mo e
  have p_M1 : Fx C L A M1 := wi1 p0 e_M1 (tb1 hC (by decide +kernel))
  obtain ⟨x2, e_x2, e⟩ := bo e
  rcases io e with ⟨_, e⟩ | ⟨_, e⟩
  · obtain rfl := Option.some.inj e
    exact p_M1
  obtain ⟨x3, e_x3, e⟩ := bo e
  have p_x3 : Fx C L A x3 := (wf_Mod_remember 163 M1 (sb_t (by decide +kernel) hC) p_M1 e_x3)
  obtain ⟨M4, e_M4, e⟩ := mo e
  have p_M4 : Fx C L A M4 := wi p_x3 e_M4 (oc_c hC (by decide +kernel))
  obtain ⟨x5, e_x5, e⟩ := bo e
  obtain rfl := Option.some.inj e
  exact p_M4
theorem wl_Mod_goFeast_10 {C : Nat} {L : List Nat} {A : Mem} (v1 : Int32) (s : Int32 × Mem) (hC : sb 11692013098647223345629478661730264157247460343808 C)  (p0 : Fx C L A s.2) {r : ((Int32 × Mem) ⊕ ((Mem)))} (e : lb_Mod_goFeast_10 v1 s = some r) : (Sum.elim (fun r : Int32 × Mem => Fx C L A r.2) (fun r : Mem => Fx C L A r)) r := by
  unfold lb_Mod_goFeast_10 at e
  rcases io e with ⟨_, e⟩ | ⟨_, e⟩
  · obtain rfl := Option.some.inj e
    exact p0
  obtain ⟨x2, e_x2, e⟩ := bo e
  rcases io e with ⟨_, e⟩ | ⟨_, e⟩
  · obtain rfl := Option.some.inj e
    exact p0
  obtain ⟨_, e⟩ := io_n e
  obtain ⟨x3, e_x3, e⟩ := bo e
  obtain ⟨_, e⟩ := io_n e
  rcases io e with ⟨_, e⟩ | ⟨_, e⟩
  · obtain ⟨_, e⟩ := io_n e
    obtain ⟨x4, e_x4, e⟩ := bo e
    obtain ⟨x5, e_x5, e⟩ := bo e
    obtain ⟨_, e⟩ := io_n e
    obtain ⟨M6, e_M6, e⟩ := mo e
    have p_M6 : Fx C L A M6 := wi p0 e_M6 (oc_c hC (by decide +kernel))
    obtain rfl := Option.some.inj e
    exact p_M6
  obtain rfl := Option.some.inj e
  exact p0
theorem wf_Mod_goFeast {C : Nat} {L : List Nat} {A : Mem} (v1 : Int32) (M : Mem) (hC : sb 11692013098647223345629478661730264157247460343808 C)  (p0 : Fx C L A M) {r : (Mem)} (e : f_Mod_goFeast v1 M = some r) : (fun r : Mem => Fx C L A r) r := by
  unfold f_Mod_goFeast at e
  obtain ⟨M1, e_M1, e⟩ := mo e
  have p_M1 : Fx C L A M1 := wi p0 e_M1 (oc_c hC (by decide +kernel))
  obtain ⟨x10, e_x10, e⟩ := bo e
  have p_x10 : Fx C L A x10 := (it_r (I := fun s : Int32 × Mem => Fx C L A s.2) (Q := (fun r : Mem => Fx C L A r)) (fun s_ r_ hs_ er_ => wl_Mod_goFeast_10 v1 s_ (sb_t (by decide +kernel) hC) hs_ er_) e_x10 p_M1)
  obtain rfl := Option.some.inj e
  exact p_x10
theorem wf_Mod_feast {C : Nat} {L : List Nat} {A : Mem} (v1 : Int32) (M : Mem) (hC : sb 215692737373663699989986786563021433463352645540770409666382523269120 C)  (p0 : Fx C L A M) {r : (Int32 × Mem)} (e : f_Mod_feast v1 M = some r) : (fun r : Int32 × Mem => Fx C L A r.2) r := by
  unfold f_Mod_feast at e
  obtain ⟨M1, e_M1, e⟩ := mo e
  have p_M1 : Fx C L A M1 := wi1 p0 e_M1 (tb1 hC (by decide +kernel))
  obtain ⟨x2, e_x2, e⟩ := bo e
  rcases io e with ⟨_, e⟩ | ⟨_, e⟩
  · obtain rfl := Option.some.inj e
    exact p_M1
  obtain ⟨x3, e_x3, e⟩ := bo e
  have p_x3 : Fx C L A x3 := (wf_Mod_remember 163 M1 (sb_t (by decide +kernel) hC) p_M1 e_x3)
  obtain ⟨x4, e_x4, e⟩ := bo e
  have p_x4 : Fx C L A x4 := (wf_Mod_goFeast v1 x3 (sb_t (by decide +kernel) hC) p_x3 e_x4)
  obtain ⟨x5, e_x5, e⟩ := bo e
  obtain rfl := Option.some.inj e
  exact p_x4
theorem wj_Mod_goMinute_85_12 {C : Nat} {L : List Nat} {A : Mem} (v1 : Nat) (v2 : Int32) (M : Mem) (hC : sb 0 C) (h_v1 : Oc C L (v1)) (p0 : Fx C L A M) {r : ((Int32 × Mem) ⊕ ((Mem)))} (e : j_Mod_goMinute_85_12 v1 v2 M = some r) : (Sum.elim (fun r : Int32 × Mem => Fx C L A r.2) (fun r : Mem => Fx C L A r)) r := by
  unfold j_Mod_goMinute_85_12 at e
  obtain ⟨_, e⟩ := io_n e
  obtain ⟨_, e⟩ := io_n e
  obtain ⟨_, e⟩ := io_m e
  obtain ⟨_, e⟩ := io_n e
  obtain ⟨M5, e_M5, e⟩ := mo e
  have p_M5 : Fx C L A M5 := wi p0 e_M5 h_v1
  obtain rfl := Option.some.inj e
  exact p_M5
theorem wl_Mod_goMinute_12 {C : Nat} {L : List Nat} {A : Mem} (v1 : Nat) (s : Int32 × Mem) (hC : sb 944414303610703711010254392760235519427771491778274292450847268798464 C) (h_v1 : Oc C L (v1)) (p0 : Fx C L A s.2) {r : ((Int32 × Mem) ⊕ ((Mem)))} (e : lb_Mod_goMinute_12 v1 s = some r) : (Sum.elim (fun r : Int32 × Mem => Fx C L A r.2) (fun r : Mem => Fx C L A r)) r := by
  unfold lb_Mod_goMinute_12 at e
  rcases io e with ⟨_, e⟩ | ⟨_, e⟩
  · obtain rfl := Option.some.inj e
    exact p0
  obtain ⟨x3, e_x3, e⟩ := bo e
  have p_x3 : Fx C L A x3.2 := (wf_Mod_goes v1 s.1 s.2 (sb_t (by decide +kernel) hC) p0 e_x3)
  rcases io e with ⟨_, e⟩ | ⟨_, e⟩
  · obtain rfl := Option.some.inj e
    exact p_x3
  obtain ⟨_, e⟩ := io_n e
  obtain ⟨_, e⟩ := io_n e
  obtain ⟨_, e⟩ := io_n e
  obtain ⟨x4, e_x4, e⟩ := bo e
  rcases io e with ⟨_, e⟩ | ⟨_, e⟩
  · exact (wj_Mod_goMinute_85_12 v1 s.1 x3.2 (sb_t (by decide +kernel) hC) h_v1 p_x3 e)
  obtain ⟨_, e⟩ := io_n e
  rcases io e with ⟨_, e⟩ | ⟨_, e⟩
  · exact (wj_Mod_goMinute_85_12 v1 s.1 x3.2 (sb_t (by decide +kernel) hC) h_v1 p_x3 e)
  obtain ⟨_, e⟩ := io_n e
  obtain ⟨M6, e_M6, e⟩ := mo e
  have p_M6 : Fx C L A M6 := wi p_x3 e_M6 h_v1
  obtain ⟨M7, e_M7, e⟩ := mo e
  have p_M7 : Fx C L A M7 := wi1 p_M6 e_M7 (tb1 hC (by decide +kernel))
  exact (wj_Mod_goMinute_85_12 v1 s.1 M7 (sb_t (by decide +kernel) hC) h_v1 p_M7 e)
theorem wl_Mod_goMinute_124 {C : Nat} {L : List Nat} {A : Mem} (v1 : Nat) (v2 : Int32) (s : Int32 × Mem) (hC : sb 3450873173395281893717377931138512726225554486085193277581262111899648 C) (h_v1 : Oc C L (v1)) (p0 : Fx C L A s.2) {r : ((Int32 × Mem) ⊕ ((Mem)))} (e : lb_Mod_goMinute_124 v1 v2 s = some r) : (Sum.elim (fun r : Int32 × Mem => Fx C L A r.2) (fun r : Mem => Fx C L A r)) r := by
  unfold lb_Mod_goMinute_124 at e
  rcases io e with ⟨_, e⟩ | ⟨_, e⟩
  · obtain rfl := Option.some.inj e
    exact p0
  obtain ⟨x13, e_x13, e⟩ := bo e
  rcases io e with ⟨_, e⟩ | ⟨_, e⟩
  · obtain ⟨x14, e_x14, e⟩ := bo e
    rcases io e with ⟨_, e⟩ | ⟨_, e⟩
    · obtain rfl := Option.some.inj e
      exact p0
    obtain ⟨x15, e_x15, e⟩ := bo e
    rcases io e with ⟨_, e⟩ | ⟨_, e⟩
    · obtain rfl := Option.some.inj e
      exact p0
    obtain ⟨_, e⟩ := io_n e
    obtain ⟨_, e⟩ := io_n e
    obtain ⟨M16, e_M16, e⟩ := mo e
    have p_M16 : Fx C L A M16 := wi p0 e_M16 h_v1
    obtain ⟨_, e⟩ := io_n e
    obtain ⟨_, e⟩ := io_n e
    obtain ⟨M17, e_M17, e⟩ := mo e
    have p_M17 : Fx C L A M17 := wi p_M16 e_M17 h_v1
    obtain ⟨M18, e_M18, e⟩ := mo e
    have p_M18 : Fx C L A M18 := wi1 p_M17 e_M18 (tb1 hC (by decide +kernel))
    obtain rfl := Option.some.inj e
    exact p_M18
  obtain rfl := Option.some.inj e
  exact p0
theorem wl_Mod_goMinute_114 {C : Nat} {L : List Nat} {A : Mem} (v1 : Nat) (s : Int32 × Mem) (hC : sb 3450873173395281893717377931138512726225554486085193277581262111899648 C) (h_v1 : Oc C L (v1)) (p0 : Fx C L A s.2) {r : ((Int32 × Mem) ⊕ ((Mem)))} (e : lb_Mod_goMinute_114 v1 s = some r) : (Sum.elim (fun r : Int32 × Mem => Fx C L A r.2) (fun r : Mem => Fx C L A r)) r := by
  unfold lb_Mod_goMinute_114 at e
  rcases io e with ⟨_, e⟩ | ⟨_, e⟩
  · obtain rfl := Option.some.inj e
    exact p0
  obtain ⟨x23, e_x23, e⟩ := bo e
  have p_x23 : Fx C L A x23 := (it_r (I := fun s : Int32 × Mem => Fx C L A s.2) (Q := (fun r : Mem => Fx C L A r)) (fun s_ r_ hs_ er_ => wl_Mod_goMinute_124 v1 s.1 s_ (sb_t (by decide +kernel) hC) h_v1 hs_ er_) e_x23 p0)
  obtain rfl := Option.some.inj e
  exact p_x23
theorem wl_Mod_goMinute_226 {C : Nat} {L : List Nat} {A : Mem} (v1 : Nat) (v2 : Int32) (s : Int32 × Mem) (hC : sb 0 C) (h_v1 : Oc C L (v1)) (p0 : Fx C L A s.2) {r : ((Int32 × Mem) ⊕ ((Mem)))} (e : lb_Mod_goMinute_226 v1 v2 s = some r) : (Sum.elim (fun r : Int32 × Mem => Fx C L A r.2) (fun r : Mem => Fx C L A r)) r := by
  unfold lb_Mod_goMinute_226 at e
  rcases io e with ⟨_, e⟩ | ⟨_, e⟩
  · obtain rfl := Option.some.inj e
    exact p0
  obtain ⟨x26, e_x26, e⟩ := bo e
  rcases io e with ⟨_, e⟩ | ⟨_, e⟩
  · obtain rfl := Option.some.inj e
    exact p0
  obtain ⟨_, e⟩ := io_n e
  obtain ⟨x27, e_x27, e⟩ := bo e
  obtain ⟨_, e⟩ := io_n e
  obtain ⟨M28, e_M28, e⟩ := mo e
  have p_M28 : Fx C L A M28 := wi p0 e_M28 h_v1
  obtain rfl := Option.some.inj e
  exact p_M28
theorem wf_Mod_goMinute {C : Nat} {L : List Nat} {A : Mem} (v1 : Nat) (M : Mem) (hC : sb 6120724063703626551586321289468004608766103220906064208822740436647936 C) (h_v1 : Oc C L (v1)) (p0 : Fx C L A M) {r : (Mem)} (e : f_Mod_goMinute v1 M = some r) : (fun r : Mem => Fx C L A r) r := by
  unfold f_Mod_goMinute at e
  obtain ⟨g_v1, e⟩ := io_n e
  obtain ⟨M1, e_M1, e⟩ := mo e
  have p_M1 : Fx C L A M1 := wi1 p0 e_M1 (tb1 hC (by decide +kernel))
  obtain ⟨M2, e_M2, e⟩ := mo e
  have p_M2 : Fx C L A M2 := wi1 p_M1 e_M2 (tb1 hC (by decide +kernel))
  obtain ⟨x12, e_x12, e⟩ := bo e
  have p_x12 : Fx C L A x12 := (it_r (I := fun s : Int32 × Mem => Fx C L A s.2) (Q := (fun r : Mem => Fx C L A r)) (fun s_ r_ hs_ er_ => wl_Mod_goMinute_12 v1 s_ (sb_t (by decide +kernel) hC) h_v1 hs_ er_) e_x12 p_M2)
  obtain ⟨x25, e_x25, e⟩ := bo e
  have p_x25 : Fx C L A x25 := (it_r (I := fun s : Int32 × Mem => Fx C L A s.2) (Q := (fun r : Mem => Fx C L A r)) (fun s_ r_ hs_ er_ => wl_Mod_goMinute_114 v1 s_ (sb_t (by decide +kernel) hC) h_v1 hs_ er_) e_x25 p_x12)
  obtain ⟨_, e⟩ := io_n e
  obtain ⟨x31, e_x31, e⟩ := bo e
  have p_x31 : Fx C L A x31 := (it_r (I := fun s : Int32 × Mem => Fx C L A s.2) (Q := (fun r : Mem => Fx C L A r)) (fun s_ r_ hs_ er_ => wl_Mod_goMinute_226 v1 (x25.1 v1 (93 : Int32).toNatClampNeg) s_ (sb_t (by decide +kernel) hC) h_v1 hs_ er_) e_x31 p_x25)
  obtain ⟨_, e⟩ := io_n e
  obtain ⟨M32, e_M32, e⟩ := mo e
  have p_M32 : Fx C L A M32 := wi1 p_x31 e_M32 (tb1 hC (by decide +kernel))
  obtain ⟨_, e⟩ := io_n e
  obtain ⟨_, e⟩ := io_n e
  obtain ⟨M33, e_M33, e⟩ := mo e
  have p_M33 : Fx C L A M33 := wi p_M32 e_M33 h_v1
  obtain rfl := Option.some.inj e
  exact p_M33
theorem wf_Mod_minute {C : Nat} {L : List Nat} {A : Mem} (M : Mem) (hC : sb 6336423383095519536774621115064467418691619114565665605840495085355008 C)  (p0 : Fx C L A M) {r : (Int32 × Mem)} (e : f_Mod_minute M = some r) : (fun r : Int32 × Mem => Fx C L A r.2) r := by
  unfold f_Mod_minute at e
  obtain ⟨M1, e_M1, e⟩ := mo e
  have p_M1 : Fx C L A M1 := wi1 p0 e_M1 (tb1 hC (by decide +kernel))
  obtain ⟨x2, e_x2, e⟩ := bo e
  have p_x2 : Fx C L A x2 := (wf_Mod_remember 163 M1 (sb_t (by decide +kernel) hC) p_M1 e_x2)
  obtain ⟨x3, e_x3, e⟩ := bo e
  have p_x3 : Fx C L A x3 := (wf_Mod_goMinute 163 x2 (sb_t (by decide +kernel) hC) (oc_c hC (by decide +kernel)) p_x2 e_x3)
  obtain ⟨M4, e_M4, e⟩ := mo e
  have p_M4 : Fx C L A M4 := wi1 p_x3 e_M4 (tb1 hC (by decide +kernel))
  obtain ⟨x5, e_x5, e⟩ := bo e
  have p_x5 : Fx C L A x5 := (wf_Mod_put (M4.1 162 29) M4 (sb_t (by decide +kernel) hC) p_M4 e_x5)
  obtain ⟨x6, e_x6, e⟩ := bo e
  have p_x6 : Fx C L A x6 := (wf_Mod_put (x5.1 162 30) x5 (sb_t (by decide +kernel) hC) p_x5 e_x6)
  obtain rfl := Option.some.inj e
  exact p_x6
theorem wl_Mod_minutes_36 {C : Nat} {L : List Nat} {A : Mem} (v1 : Int32) (s : Int32 × Int32 × Int32 × Mem) (hC : sb 6120724063703626551598013302566651832111732699567794472979987896991744 C)  (p0 : Fx C L A s.2.2.2) {r : ((Int32 × Int32 × Int32 × Mem) ⊕ ((Int32 × Int32 × Mem)))} (e : lb_Mod_minutes_36 v1 s = some r) : (Sum.elim (fun r : Int32 × Int32 × Int32 × Mem => Fx C L A r.2.2.2) (fun r : Int32 × Int32 × Mem => Fx C L A r.2.2)) r := by
  unfold lb_Mod_minutes_36 at e
  rcases io e with ⟨_, e⟩ | ⟨_, e⟩
  · obtain rfl := Option.some.inj e
    exact p0
  obtain ⟨x3, e_x3, e⟩ := bo e
  have p_x3 : Fx C L A x3 := (wf_Mod_goMinute 163 s.2.2.2 (sb_t (by decide +kernel) hC) (oc_c hC (by decide +kernel)) p0 e_x3)
  obtain ⟨x4, e_x4, e⟩ := bo e
  obtain rfl := Option.some.inj e
  exact p_x3
theorem wf_Mod_minutes {C : Nat} {L : List Nat} {A : Mem} (v1 : Int32) (M : Mem) (hC : sb 6336423383095519536774621115064467418691619114565665605840495085355008 C)  (p0 : Fx C L A M) {r : (Int32 × Mem)} (e : f_Mod_minutes v1 M = some r) : (fun r : Int32 × Mem => Fx C L A r.2) r := by
  unfold f_Mod_minutes at e
  obtain ⟨M1, e_M1, e⟩ := mo e
  have p_M1 : Fx C L A M1 := wi1 p0 e_M1 (tb1 hC (by decide +kernel))
  obtain ⟨x2, e_x2, e⟩ := bo e
  rcases io e with ⟨_, e⟩ | ⟨_, e⟩
  · obtain rfl := Option.some.inj e
    exact p_M1
  rcases io e with ⟨_, e⟩ | ⟨_, e⟩
  · obtain ⟨x6, e_x6, e⟩ := bo e
    have p_x6 : Fx C L A x6.2.2 := (it_r (I := fun s : Int32 × Int32 × Int32 × Mem => Fx C L A s.2.2.2) (Q := (fun r : Int32 × Int32 × Mem => Fx C L A r.2.2)) (fun s_ r_ hs_ er_ => wl_Mod_minutes_36 v1 s_ (sb_t (by decide +kernel) hC) hs_ er_) e_x6 p_M1)
    obtain ⟨M7, e_M7, e⟩ := mo e
    have p_M7 : Fx C L A M7 := wi1 p_x6 e_M7 (tb1 hC (by decide +kernel))
    obtain ⟨x8, e_x8, e⟩ := bo e
    have p_x8 : Fx C L A x8 := (wf_Mod_put x6.2.1 M7 (sb_t (by decide +kernel) hC) p_M7 e_x8)
    obtain ⟨x9, e_x9, e⟩ := bo e
    have p_x9 : Fx C L A x9 := (wf_Mod_put (x8.1 163 (93 : Int32).toNatClampNeg) x8 (sb_t (by decide +kernel) hC) p_x8 e_x9)
    obtain rfl := Option.some.inj e
    exact p_x9
  obtain ⟨x10, e_x10, e⟩ := bo e
  have p_x10 : Fx C L A x10 := (wf_Mod_remember 163 M1 (sb_t (by decide +kernel) hC) p_M1 e_x10)
  obtain ⟨x11, e_x11, e⟩ := bo e
  have p_x11 : Fx C L A x11.2.2 := (it_r (I := fun s : Int32 × Int32 × Int32 × Mem => Fx C L A s.2.2.2) (Q := (fun r : Int32 × Int32 × Mem => Fx C L A r.2.2)) (fun s_ r_ hs_ er_ => wl_Mod_minutes_36 v1 s_ (sb_t (by decide +kernel) hC) hs_ er_) e_x11 p_x10)
  obtain ⟨M12, e_M12, e⟩ := mo e
  have p_M12 : Fx C L A M12 := wi1 p_x11 e_M12 (tb1 hC (by decide +kernel))
  obtain ⟨x13, e_x13, e⟩ := bo e
  have p_x13 : Fx C L A x13 := (wf_Mod_put x11.2.1 M12 (sb_t (by decide +kernel) hC) p_M12 e_x13)
  obtain ⟨x14, e_x14, e⟩ := bo e
  have p_x14 : Fx C L A x14 := (wf_Mod_put (x13.1 163 (93 : Int32).toNatClampNeg) x13 (sb_t (by decide +kernel) hC) p_x13 e_x14)
  obtain rfl := Option.some.inj e
  exact p_x14
theorem wj_Mod_readAct_110 {C : Nat} {L : List Nat} {A : Mem} (v1 : Int32) (v2 : Int32) (M : Mem) (hC : sb 631873750011391010673160225128846292257969019565282753123434102784 C)  (p0 : Fx C L A M) {r : (Mem)} (e : j_Mod_readAct_110 v1 v2 M = some r) : (fun r : Mem => Fx C L A r) r := by
  unfold j_Mod_readAct_110 at e
  rcases io e with ⟨_, e⟩ | ⟨_, e⟩
  · obtain ⟨x6, e_x6, e⟩ := bo e
    obtain ⟨_, e⟩ := io_n e
    obtain ⟨M7, e_M7, e⟩ := mo e
    have p_M7 : Fx C L A M7 := wi p0 e_M7 (oc_c hC (by decide +kernel))
    obtain ⟨x8, e_x8, e⟩ := bo e
    obtain ⟨x9, e_x9, e⟩ := bo e
    rcases io e with ⟨_, e⟩ | ⟨_, e⟩
    · obtain ⟨x11, e_x11, e⟩ := bo e
      have p_x11 : Fx C L A x11 := (wf_Mod_fault (M7.1 162 17) M7 (sb_t (by decide +kernel) hC) p_M7 e_x11)
      obtain ⟨M12, e_M12, e⟩ := mo e
      have p_M12 : Fx C L A M12 := wi1 p_x11 e_M12 (tb1 hC (by decide +kernel))
      obtain rfl := Option.some.inj e
      exact p_M12
    obtain ⟨M10, e_M10, e⟩ := mo e
    have p_M10 : Fx C L A M10 := wi1 p_M7 e_M10 (tb1 hC (by decide +kernel))
    obtain rfl := Option.some.inj e
    exact p_M10
  obtain rfl := Option.some.inj e
  exact p0
theorem wj_Mod_readAct_85 {C : Nat} {L : List Nat} {A : Mem} (v1 : Int32) (v2 : Int32) (M : Mem) (hC : sb 631873750011391010673160225128846292257969019565282753123434102784 C)  (p0 : Fx C L A M) {r : (Mem)} (e : j_Mod_readAct_85 v1 v2 M = some r) : (fun r : Mem => Fx C L A r) r := by
  unfold j_Mod_readAct_85 at e
  rcases io e with ⟨_, e⟩ | ⟨_, e⟩
  · obtain ⟨x15, e_x15, e⟩ := bo e
    have p_x15 : Fx C L A x15 := (wf_Mod_need (45 : Int32) M (sb_t (by decide +kernel) hC) p0 e_x15)
    obtain ⟨x16, e_x16, e⟩ := bo e
    have p_x16 : Fx C L A x16.2 := (wf_Mod_number (2 : Int32) x15 (sb_t (by decide +kernel) hC) p_x15 e_x16)
    obtain ⟨_, e⟩ := io_n e
    obtain ⟨M17, e_M17, e⟩ := mo e
    have p_M17 : Fx C L A M17 := wi p_x16 e_M17 (oc_c hC (by decide +kernel))
    exact (wj_Mod_readAct_110 v1 v2 M17 (sb_t (by decide +kernel) hC) p_M17 e)
  exact (wj_Mod_readAct_110 v1 v2 M (sb_t (by decide +kernel) hC) p0 e)
theorem wj_Mod_readAct_72 {C : Nat} {L : List Nat} {A : Mem} (v1 : Int32) (v2 : Int32) (M : Mem) (hC : sb 631873750011391010673160225128846292257969019565282753123434102784 C)  (p0 : Fx C L A M) {r : (Mem)} (e : j_Mod_readAct_72 v1 v2 M = some r) : (fun r : Mem => Fx C L A r) r := by
  unfold j_Mod_readAct_72 at e
  obtain ⟨x4, e_x4, e⟩ := bo e
  have p_x4 : Fx C L A x4.2 := (wf_Mod_number (2 : Int32) M (sb_t (by decide +kernel) hC) p0 e_x4)
  obtain ⟨_, e⟩ := io_n e
  obtain ⟨M5, e_M5, e⟩ := mo e
  have p_M5 : Fx C L A M5 := wi p_x4 e_M5 (oc_c hC (by decide +kernel))
  exact (wj_Mod_readAct_85 v1 v2 M5 (sb_t (by decide +kernel) hC) p_M5 e)
theorem wj_Mod_readAct_43 {C : Nat} {L : List Nat} {A : Mem} (v1 : Int32) (v2 : Int32) (M : Mem) (hC : sb 631873750011391010673160225128846292257969019565282753123434102784 C)  (p0 : Fx C L A M) {r : (Mem)} (e : j_Mod_readAct_43 v1 v2 M = some r) : (fun r : Mem => Fx C L A r) r := by
  unfold j_Mod_readAct_43 at e
  obtain ⟨M2, e_M2, e⟩ := mo e
  have p_M2 : Fx C L A M2 := wi1 p0 e_M2 (tb1 hC (by decide +kernel))
  obtain ⟨_, e⟩ := io_n e
  obtain ⟨M3, e_M3, e⟩ := mo e
  have p_M3 : Fx C L A M3 := wi p_M2 e_M3 (oc_c hC (by decide +kernel))
  rcases io e with ⟨_, e⟩ | ⟨_, e⟩
  · exact (wj_Mod_readAct_72 v1 v2 M3 (sb_t (by decide +kernel) hC) p_M3 e)
  rcases io e with ⟨_, e⟩ | ⟨_, e⟩
  · exact (wj_Mod_readAct_72 v1 v2 M3 (sb_t (by decide +kernel) hC) p_M3 e)
  exact (wj_Mod_readAct_85 v1 v2 M3 (sb_t (by decide +kernel) hC) p_M3 e)
theorem wf_Mod_readAct {C : Nat} {L : List Nat} {A : Mem} (v1 : Int32) (M : Mem) (hC : sb 631873750011391010673160225128846292257969019565282753123434102784 C)  (p0 : Fx C L A M) {r : (Mem)} (e : f_Mod_readAct v1 M = some r) : (fun r : Mem => Fx C L A r) r := by
  unfold f_Mod_readAct at e
  obtain ⟨x1, e_x1, e⟩ := bo e
  rcases io e with ⟨_, e⟩ | ⟨_, e⟩
  · exact (wj_Mod_readAct_43 v1 x1 M (sb_t (by decide +kernel) hC) p0 e)
  rcases io e with ⟨_, e⟩ | ⟨_, e⟩
  · exact (wj_Mod_readAct_43 v1 x1 M (sb_t (by decide +kernel) hC) p0 e)
  rcases io e with ⟨_, e⟩ | ⟨_, e⟩
  · exact (wj_Mod_readAct_43 v1 x1 M (sb_t (by decide +kernel) hC) p0 e)
  rcases io e with ⟨_, e⟩ | ⟨_, e⟩
  · exact (wj_Mod_readAct_43 v1 x1 M (sb_t (by decide +kernel) hC) p0 e)
  rcases io e with ⟨_, e⟩ | ⟨_, e⟩
  · exact (wj_Mod_readAct_43 v1 x1 M (sb_t (by decide +kernel) hC) p0 e)
  obtain ⟨x21, e_x21, e⟩ := bo e
  have p_x21 : Fx C L A x21 := (wf_Mod_fault (M.1 162 17) M (sb_t (by decide +kernel) hC) p0 e_x21)
  exact (wj_Mod_readAct_43 v1 x1 x21 (sb_t (by decide +kernel) hC) p_x21 e)
theorem wl_Mod_act_66 {C : Nat} {L : List Nat} {A : Mem} (v2 : Int32) (s : Int32 × Mem) (hC : sb 19924216757284754126467525027120702737013950643908567583305036344590336 C)  (p0 : Fx C L A s.2) {r : ((Int32 × Mem) ⊕ ((Mem)))} (e : lb_Mod_act_66 v2 s = some r) : (Sum.elim (fun r : Int32 × Mem => Fx C L A r.2) (fun r : Mem => Fx C L A r)) r := by
  unfold lb_Mod_act_66 at e
  rcases io e with ⟨_, e⟩ | ⟨_, e⟩
  · obtain rfl := Option.some.inj e
    exact p0
  obtain ⟨x4, e_x4, e⟩ := bo e
  have p_x4 : Fx C L A x4 := (wf_Mod_goMinute 163 s.2 (sb_t (by decide +kernel) hC) (oc_c hC (by decide +kernel)) p0 e_x4)
  obtain ⟨M5, e_M5, e⟩ := mo e
  have p_M5 : Fx C L A M5 := wi1 p_x4 e_M5 (tb1 hC (by decide +kernel))
  obtain rfl := Option.some.inj e
  exact p_M5
theorem wf_Mod_act {C : Nat} {L : List Nat} {A : Mem} (v1 : Int32) (M : Mem) (hC : sb 19924216757284754126467525027120702737013950643908567583305036344590336 C)  (p0 : Fx C L A M) {r : (Int32 × Mem)} (e : f_Mod_act v1 M = some r) : (fun r : Int32 × Mem => Fx C L A r.2) r := by
  unfold f_Mod_act at e
  obtain ⟨_, e⟩ := io_n e
  obtain ⟨_, e⟩ := io_n e
  rcases io e with ⟨_, e⟩ | ⟨_, e⟩
  · rcases io e with ⟨_, e⟩ | ⟨_, e⟩
    · obtain ⟨x7, e_x7, e⟩ := bo e
      have p_x7 : Fx C L A x7 := (it_r (I := fun s : Int32 × Mem => Fx C L A s.2) (Q := (fun r : Mem => Fx C L A r)) (fun s_ r_ hs_ er_ => wl_Mod_act_66 (M.1 175 (v1 + (1 : Int32)).toNatClampNeg) s_ (sb_t (by decide +kernel) hC) hs_ er_) e_x7 p0)
      obtain rfl := Option.some.inj e
      exact p_x7
    obtain rfl := Option.some.inj e
    exact p0
  rcases io e with ⟨_, e⟩ | ⟨_, e⟩
  · obtain ⟨x10, e_x10, e⟩ := bo e
    rcases io e with ⟨_, e⟩ | ⟨_, e⟩
    · obtain rfl := Option.some.inj e
      exact p0
    obtain ⟨M11, e_M11, e⟩ := mo e
    have p_M11 : Fx C L A M11 := wi p0 e_M11 (oc_c hC (by decide +kernel))
    obtain rfl := Option.some.inj e
    exact p_M11
  rcases io e with ⟨_, e⟩ | ⟨_, e⟩
  · obtain ⟨_, e⟩ := io_n e
    obtain ⟨x14, e_x14, e⟩ := bo e
    rcases io e with ⟨_, e⟩ | ⟨_, e⟩
    · obtain ⟨_, e⟩ := io_n e
      obtain ⟨x15, e_x15, e⟩ := bo e
      have p_x15 : Fx C L A x15 := (wf_Mod_layPlank (M.1 175 (v1 + (1 : Int32)).toNatClampNeg) (M.1 175 (v1 + (2 : Int32)).toNatClampNeg) M (sb_t (by decide +kernel) hC) p0 e_x15)
      obtain rfl := Option.some.inj e
      exact p_x15
    obtain rfl := Option.some.inj e
    exact p0
  rcases io e with ⟨_, e⟩ | ⟨_, e⟩
  · rcases io e with ⟨_, e⟩ | ⟨_, e⟩
    · obtain rfl := Option.some.inj e
      exact p0
    obtain ⟨M18, e_M18, e⟩ := mo e
    have p_M18 : Fx C L A M18 := wi p0 e_M18 (oc_c hC (by decide +kernel))
    obtain rfl := Option.some.inj e
    exact p_M18
  obtain ⟨x1, e_x1, e⟩ := bo e
  rcases io e with ⟨_, e⟩ | ⟨_, e⟩
  · obtain rfl := Option.some.inj e
    exact p0
  obtain ⟨x2, e_x2, e⟩ := bo e
  have p_x2 : Fx C L A x2 := (wf_Mod_goFeast ((1 : Int32) - (M.1 163 (94 : Int32).toNatClampNeg)) M (sb_t (by decide +kernel) hC) p0 e_x2)
  obtain rfl := Option.some.inj e
  exact p_x2
theorem wl_Mod_evening_39 {C : Nat} {L : List Nat} {A : Mem} (s : Int32 × Int32 × Mem) (hC : sb 631873750011391010673160225128846292257969019565282753123434102784 C)  (p0 : Fx C L A s.2.2) {r : ((Int32 × Int32 × Mem) ⊕ ((Int32 × Mem)))} (e : lb_Mod_evening_39 s = some r) : (Sum.elim (fun r : Int32 × Int32 × Mem => Fx C L A r.2.2) (fun r : Int32 × Mem => Fx C L A r.2)) r := by
  unfold lb_Mod_evening_39 at e
  rcases io e with ⟨_, e⟩ | ⟨_, e⟩
  · obtain rfl := Option.some.inj e
    exact p0
  obtain ⟨x4, e_x4, e⟩ := bo e
  rcases io e with ⟨_, e⟩ | ⟨_, e⟩
  · obtain rfl := Option.some.inj e
    exact p0
  obtain ⟨x5, e_x5, e⟩ := bo e
  have p_x5 : Fx C L A x5 := (wf_Mod_readAct ((3 : Int32) * s.1) s.2.2 (sb_t (by decide +kernel) hC) p0 e_x5)
  obtain ⟨x6, e_x6, e⟩ := bo e
  have p_x6 : Fx C L A x6.2 := (wf_Mod_passes (59 : Int32) x5 (sb_t (by decide +kernel) hC) p_x5 e_x6)
  obtain rfl := Option.some.inj e
  exact p_x6
theorem wl_Mod_evening_122 {C : Nat} {L : List Nat} {A : Mem} (v1 : Int32) (s : Int32 × Mem) (hC : sb 19924216757284754126467525027120702737013950643908567583305036344590336 C)  (p0 : Fx C L A s.2) {r : ((Int32 × Mem) ⊕ ((Int32 × Mem)))} (e : lb_Mod_evening_122 v1 s = some r) : (Sum.elim (fun r : Int32 × Mem => Fx C L A r.2) (fun r : Int32 × Mem => Fx C L A r.2)) r := by
  unfold lb_Mod_evening_122 at e
  rcases io e with ⟨_, e⟩ | ⟨_, e⟩
  · obtain rfl := Option.some.inj e
    exact p0
  obtain ⟨x13, e_x13, e⟩ := bo e
  have p_x13 : Fx C L A x13.2 := (wf_Mod_act ((3 : Int32) * s.1) s.2 (sb_t (by decide +kernel) hC) p0 e_x13)
  rcases io e with ⟨_, e⟩ | ⟨_, e⟩
  · obtain rfl := Option.some.inj e
    exact p_x13
  obtain rfl := Option.some.inj e
  exact p_x13
theorem wj_Mod_evening_171 {C : Nat} {L : List Nat} {A : Mem} (v3 : Int32) (w0 : Int32) (M : Mem) (hC : sb 6582018229285198313039033441376462163248118830987351372125437952 C)  (p0 : Fx C L A M) {r : (Int32 × Mem)} (e : j_Mod_evening_171 v3 w0 M = some r) : (fun r : Int32 × Mem => Fx C L A r.2) r := by
  unfold j_Mod_evening_171 at e
  obtain ⟨x18, e_x18, e⟩ := bo e
  have p_x18 : Fx C L A x18 := (wf_Mod_put w0 M (sb_t (by decide +kernel) hC) p0 e_x18)
  obtain ⟨x19, e_x19, e⟩ := bo e
  have p_x19 : Fx C L A x19 := (wf_Mod_put (x18.1 162 33) x18 (sb_t (by decide +kernel) hC) p_x18 e_x19)
  obtain rfl := Option.some.inj e
  exact p_x19
theorem wj_Mod_evening_155 {C : Nat} {L : List Nat} {A : Mem} (v1 : Int32) (v3 : Int32) (M : Mem) (hC : sb 6582018229285198313039033441376462163248118830987351372125437952 C)  (p0 : Fx C L A M) {r : (Int32 × Mem)} (e : j_Mod_evening_155 v1 v3 M = some r) : (fun r : Int32 × Mem => Fx C L A r.2) r := by
  unfold j_Mod_evening_155 at e
  obtain ⟨M17, e_M17, e⟩ := mo e
  have p_M17 : Fx C L A M17 := wi1 p0 e_M17 (tb1 hC (by decide +kernel))
  rcases io e with ⟨_, e⟩ | ⟨_, e⟩
  · exact (wj_Mod_evening_171 v3 (0 : Int32) M17 (sb_t (by decide +kernel) hC) p_M17 e)
  exact (wj_Mod_evening_171 v3 (1 : Int32) M17 (sb_t (by decide +kernel) hC) p_M17 e)
theorem wj_Mod_evening_143 {C : Nat} {L : List Nat} {A : Mem} (v1 : Int32) (v3 : Int32) (M : Mem) (hC : sb 215686155355434415528270572744355127775846553110946064221600399491072 C)  (p0 : Fx C L A M) {r : (Int32 × Mem)} (e : j_Mod_evening_143 v1 v3 M = some r) : (fun r : Int32 × Mem => Fx C L A r.2) r := by
  unfold j_Mod_evening_143 at e
  rcases io e with ⟨_, e⟩ | ⟨_, e⟩
  · exact (wj_Mod_evening_155 v1 v3 M (sb_t (by decide +kernel) hC) p0 e)
  obtain ⟨x21, e_x21, e⟩ := bo e
  have p_x21 : Fx C L A x21 := (wf_Mod_remember 174 M (sb_t (by decide +kernel) hC) p0 e_x21)
  exact (wj_Mod_evening_155 v1 v3 x21 (sb_t (by decide +kernel) hC) p_x21 e)
theorem wj_Mod_evening_89 {C : Nat} {L : List Nat} {A : Mem} (v1 : Int32) (M : Mem) (hC : sb 20139902912640188565941038425894571276638969496243094641569435528200192 C)  (p0 : Fx C L A M) {r : (Int32 × Mem)} (e : j_Mod_evening_89 v1 M = some r) : (fun r : Int32 × Mem => Fx C L A r.2) r := by
  unfold j_Mod_evening_89 at e
  obtain ⟨x10, e_x10, e⟩ := bo e
  rcases io e with ⟨_, e⟩ | ⟨_, e⟩
  · obtain rfl := Option.some.inj e
    exact p0
  obtain ⟨x11, e_x11, e⟩ := bo e
  have p_x11 : Fx C L A x11 := (wf_Mod_lay 163 174 (0 : Int32) M (sb_t (by decide +kernel) hC) (oc_c hC (by decide +kernel)) p0 e_x11)
  obtain ⟨M12, e_M12, e⟩ := mo e
  have p_M12 : Fx C L A M12 := wi1 p_x11 e_M12 (tb1 hC (by decide +kernel))
  obtain ⟨x16, e_x16, e⟩ := bo e
  have p_x16 : Fx C L A x16.2 := (it_r (I := fun s : Int32 × Mem => Fx C L A s.2) (Q := (fun r : Int32 × Mem => Fx C L A r.2)) (fun s_ r_ hs_ er_ => wl_Mod_evening_122 v1 s_ (sb_t (by decide +kernel) hC) hs_ er_) e_x16 p_M12)
  exact (wj_Mod_evening_143 v1 x16.1 x16.2 (sb_t (by decide +kernel) hC) p_x16 e)
theorem wj_Mod_evening_70 {C : Nat} {L : List Nat} {A : Mem} (v1 : Int32) (M : Mem) (hC : sb 20139902912640188565941038425894571276638969496243094641569435528200192 C)  (p0 : Fx C L A M) {r : (Int32 × Mem)} (e : j_Mod_evening_70 v1 M = some r) : (fun r : Int32 × Mem => Fx C L A r.2) r := by
  unfold j_Mod_evening_70 at e
  rcases io e with ⟨_, e⟩ | ⟨_, e⟩
  · exact (wj_Mod_evening_89 v1 M (sb_t (by decide +kernel) hC) p0 e)
  obtain ⟨x24, e_x24, e⟩ := bo e
  have p_x24 : Fx C L A x24 := (wf_Mod_fault (M.1 162 17) M (sb_t (by decide +kernel) hC) p0 e_x24)
  exact (wj_Mod_evening_89 v1 x24 (sb_t (by decide +kernel) hC) p_x24 e)
theorem wf_Mod_evening {C : Nat} {L : List Nat} {A : Mem} (M : Mem) (hC : sb 20139917722181204504685903472676241116491858939313047331873803233918976 C)  (p0 : Fx C L A M) {r : (Int32 × Mem)} (e : f_Mod_evening M = some r) : (fun r : Int32 × Mem => Fx C L A r.2) r := by
  unfold f_Mod_evening at e
  obtain ⟨M1, e_M1, e⟩ := mo e
  have p_M1 : Fx C L A M1 := wi1 p0 e_M1 (tb1 hC (by decide +kernel))
  obtain ⟨x2, e_x2, e⟩ := bo e
  have p_x2 : Fx C L A x2 := (wf_Mod_begin 167 (M1.1 162 10) (60 : Int32) M1 (sb_t (by decide +kernel) hC) p_M1 e_x2)
  obtain ⟨M3, e_M3, e⟩ := mo e
  have p_M3 : Fx C L A M3 := wi1 p_x2 e_M3 (tb1 hC (by decide +kernel))
  rcases io e with ⟨_, e⟩ | ⟨_, e⟩
  · obtain ⟨x9, e_x9, e⟩ := bo e
    have p_x9 : Fx C L A x9.2 := (it_r (I := fun s : Int32 × Int32 × Mem => Fx C L A s.2.2) (Q := (fun r : Int32 × Mem => Fx C L A r.2)) (fun s_ r_ hs_ er_ => wl_Mod_evening_39  s_ (sb_t (by decide +kernel) hC) hs_ er_) e_x9 p_M3)
    exact (wj_Mod_evening_70 x9.1 x9.2 (sb_t (by decide +kernel) hC) p_x9 e)
  obtain ⟨x26, e_x26, e⟩ := bo e
  have p_x26 : Fx C L A x26.2 := (it_r (I := fun s : Int32 × Int32 × Mem => Fx C L A s.2.2) (Q := (fun r : Int32 × Mem => Fx C L A r.2)) (fun s_ r_ hs_ er_ => wl_Mod_evening_39  s_ (sb_t (by decide +kernel) hC) hs_ er_) e_x26 p_M3)
  exact (wj_Mod_evening_70 x26.1 x26.2 (sb_t (by decide +kernel) hC) p_x26 e)
theorem wl_Mod_undo_26 {C : Nat} {L : List Nat} {A : Mem} (s : Int32 × Mem) (hC : sb 11692013098647223345629478661730264157247460343808 C)  (p0 : Fx C L A s.2) {r : ((Int32 × Mem) ⊕ ((Mem)))} (e : lb_Mod_undo_26 s = some r) : (Sum.elim (fun r : Int32 × Mem => Fx C L A r.2) (fun r : Mem => Fx C L A r)) r := by
  unfold lb_Mod_undo_26 at e
  rcases io e with ⟨_, e⟩ | ⟨_, e⟩
  · obtain rfl := Option.some.inj e
    exact p0
  obtain ⟨_, e⟩ := io_n e
  obtain ⟨_, e⟩ := io_n e
  obtain ⟨M3, e_M3, e⟩ := mo e
  have p_M3 : Fx C L A M3 := wi p0 e_M3 (oc_c hC (by decide +kernel))
  obtain rfl := Option.some.inj e
  exact p_M3
theorem wf_Mod_undo {C : Nat} {L : List Nat} {A : Mem} (M : Mem) (hC : sb 215692737373663688017365373548264727538766495928979912644983131209728 C)  (p0 : Fx C L A M) {r : (Int32 × Mem)} (e : f_Mod_undo M = some r) : (fun r : Int32 × Mem => Fx C L A r.2) r := by
  unfold f_Mod_undo at e
  obtain ⟨M1, e_M1, e⟩ := mo e
  have p_M1 : Fx C L A M1 := wi1 p0 e_M1 (tb1 hC (by decide +kernel))
  rcases io e with ⟨_, e⟩ | ⟨_, e⟩
  · obtain rfl := Option.some.inj e
    exact p_M1
  obtain ⟨M2, e_M2, e⟩ := mo e
  have p_M2 : Fx C L A M2 := wi1 p_M1 e_M2 (tb1 hC (by decide +kernel))
  obtain ⟨x5, e_x5, e⟩ := bo e
  have p_x5 : Fx C L A x5 := (it_r (I := fun s : Int32 × Mem => Fx C L A s.2) (Q := (fun r : Mem => Fx C L A r)) (fun s_ r_ hs_ er_ => wl_Mod_undo_26  s_ (sb_t (by decide +kernel) hC) hs_ er_) e_x5 p_M2)
  obtain rfl := Option.some.inj e
  exact p_x5
theorem wf_Mod_met {C : Nat} {L : List Nat} {A : Mem} (v1 : Int32) (v2 : Int32) (M : Mem) (hC : sb 13164036458569648337239753460458804039861886925068638906788872192 C)  (p0 : Fx C L A M) {r : (Int32 × Mem)} (e : f_Mod_met v1 v2 M = some r) : (fun r : Int32 × Mem => Fx C L A r.2) r := by
  unfold f_Mod_met at e
  obtain ⟨M1, e_M1, e⟩ := mo e
  have p_M1 : Fx C L A M1 := wi1 p0 e_M1 (tb1 hC (by decide +kernel))
  obtain ⟨x2, e_x2, e⟩ := bo e
  rcases io e with ⟨_, e⟩ | ⟨_, e⟩
  · obtain rfl := Option.some.inj e
    exact p_M1
  obtain ⟨_, e⟩ := io_n e
  obtain rfl := Option.some.inj e
  exact p_M1
theorem wl_Mod_ahead_33 {C : Nat} {L : List Nat} {A : Mem} (v1 : Int32) (s : Int32 × Int32 × Mem) (hC : sb 6120724063703626647367292593586058256162792417800388184993935573123072 C)  (p0 : Fx C L A s.2.2) {r : ((Int32 × Int32 × Mem) ⊕ ((Int32 × Mem)))} (e : lb_Mod_ahead_33 v1 s = some r) : (Sum.elim (fun r : Int32 × Int32 × Mem => Fx C L A r.2.2) (fun r : Int32 × Mem => Fx C L A r.2)) r := by
  unfold lb_Mod_ahead_33 at e
  rcases io e with ⟨_, e⟩ | ⟨_, e⟩
  · obtain rfl := Option.some.inj e
    exact p0
  obtain ⟨x4, e_x4, e⟩ := bo e
  have p_x4 : Fx C L A x4 := (wf_Mod_goMinute 176 s.2.2 (sb_t (by decide +kernel) hC) (oc_c hC (by decide +kernel)) p0 e_x4)
  obtain rfl := Option.some.inj e
  exact p_x4
theorem wl_Mod_ahead_66 {C : Nat} {L : List Nat} {A : Mem} (v2 : Int32) (s : Int32 × Mem) (hC : sb 6582018229285198313039033441376462163248118830987351372125437952 C)  (p0 : Fx C L A s.2) {r : ((Int32 × Mem) ⊕ ((Mem)))} (e : lb_Mod_ahead_66 v2 s = some r) : (Sum.elim (fun r : Int32 × Mem => Fx C L A r.2) (fun r : Mem => Fx C L A r)) r := by
  unfold lb_Mod_ahead_66 at e
  rcases io e with ⟨_, e⟩ | ⟨_, e⟩
  · obtain rfl := Option.some.inj e
    exact p0
  obtain ⟨_, e⟩ := io_n e
  obtain ⟨x8, e_x8, e⟩ := bo e
  obtain ⟨x9, e_x9, e⟩ := bo e
  have p_x9 : Fx C L A x9 := (wf_Mod_put x8 s.2 (sb_t (by decide +kernel) hC) p0 e_x9)
  obtain rfl := Option.some.inj e
  exact p_x9
theorem wf_Mod_ahead {C : Nat} {L : List Nat} {A : Mem} (v1 : Int32) (M : Mem) (hC : sb 6120743809758314502213942872372960091428995527806144240984214487433216 C)  (p0 : Fx C L A M) {r : (Int32 × Mem)} (e : f_Mod_ahead v1 M = some r) : (fun r : Int32 × Mem => Fx C L A r.2) r := by
  unfold f_Mod_ahead at e
  obtain ⟨M1, e_M1, e⟩ := mo e
  have p_M1 : Fx C L A M1 := wi1 p0 e_M1 (tb1 hC (by decide +kernel))
  obtain ⟨x2, e_x2, e⟩ := bo e
  rcases io e with ⟨_, e⟩ | ⟨_, e⟩
  · obtain rfl := Option.some.inj e
    exact p_M1
  obtain ⟨x3, e_x3, e⟩ := bo e
  have p_x3 : Fx C L A x3 := (wf_Mod_lay 163 176 (0 : Int32) M1 (sb_t (by decide +kernel) hC) (oc_c hC (by decide +kernel)) p_M1 e_x3)
  obtain ⟨x6, e_x6, e⟩ := bo e
  have p_x6 : Fx C L A x6.2 := (it_r (I := fun s : Int32 × Int32 × Mem => Fx C L A s.2.2) (Q := (fun r : Int32 × Mem => Fx C L A r.2)) (fun s_ r_ hs_ er_ => wl_Mod_ahead_33 v1 s_ (sb_t (by decide +kernel) hC) hs_ er_) e_x6 p_x3)
  obtain ⟨M7, e_M7, e⟩ := mo e
  have p_M7 : Fx C L A M7 := wi1 p_x6 e_M7 (tb1 hC (by decide +kernel))
  obtain ⟨x11, e_x11, e⟩ := bo e
  have p_x11 : Fx C L A x11 := (it_r (I := fun s : Int32 × Mem => Fx C L A s.2) (Q := (fun r : Mem => Fx C L A r)) (fun s_ r_ hs_ er_ => wl_Mod_ahead_66 x6.1 s_ (sb_t (by decide +kernel) hC) hs_ er_) e_x11 p_M7)
  obtain rfl := Option.some.inj e
  exact p_x11
theorem wl_Mod_meet_30 {C : Nat} {L : List Nat} {A : Mem} (v1 : Int32) (v2 : Int32) (s : Int32 × Mem) (hC : sb 6120724063703626647367292593586058256162792417800388184993935573123072 C)  (p0 : Fx C L A s.2) {r : ((Int32 × Mem) ⊕ ((Mem) ⊕ (Int32 × Mem)))} (e : lb_Mod_meet_30 v1 v2 s = some r) : (Sum.elim (fun r : Int32 × Mem => Fx C L A r.2) (Sum.elim (fun r : Mem => Fx C L A r) (fun r : Int32 × Mem => Fx C L A r.2))) r := by
  unfold lb_Mod_meet_30 at e
  rcases io e with ⟨_, e⟩ | ⟨_, e⟩
  · obtain rfl := Option.some.inj e
    exact p0
  obtain ⟨x4, e_x4, e⟩ := bo e
  have p_x4 : Fx C L A x4 := (wf_Mod_goMinute 176 s.2 (sb_t (by decide +kernel) hC) (oc_c hC (by decide +kernel)) p0 e_x4)
  obtain ⟨x5, e_x5, e⟩ := bo e
  obtain ⟨x6, e_x6, e⟩ := bo e
  rcases io e with ⟨_, e⟩ | ⟨_, e⟩
  · obtain rfl := Option.some.inj e
    exact p_x4
  obtain ⟨x7, e_x7, e⟩ := bo e
  rcases io e with ⟨_, e⟩ | ⟨_, e⟩
  · obtain rfl := Option.some.inj e
    exact p_x4
  obtain rfl := Option.some.inj e
  exact p_x4
theorem wf_Mod_meet {C : Nat} {L : List Nat} {A : Mem} (v1 : Int32) (v2 : Int32) (M : Mem) (hC : sb 6120743809758314502213942872372960091428995527806144240984214487433216 C)  (p0 : Fx C L A M) {r : (Int32 × Mem)} (e : f_Mod_meet v1 v2 M = some r) : (fun r : Int32 × Mem => Fx C L A r.2) r := by
  unfold f_Mod_meet at e
  obtain ⟨M1, e_M1, e⟩ := mo e
  have p_M1 : Fx C L A M1 := wi1 p0 e_M1 (tb1 hC (by decide +kernel))
  obtain ⟨x2, e_x2, e⟩ := bo e
  rcases io e with ⟨_, e⟩ | ⟨_, e⟩
  · obtain rfl := Option.some.inj e
    exact p_M1
  obtain ⟨x3, e_x3, e⟩ := bo e
  have p_x3 : Fx C L A x3 := (wf_Mod_lay 163 176 (0 : Int32) M1 (sb_t (by decide +kernel) hC) (oc_c hC (by decide +kernel)) p_M1 e_x3)
  obtain ⟨y_, e_y, e⟩ := bo e
  have q_y := (it_r (I := fun s : Int32 × Mem => Fx C L A s.2) (Q := (Sum.elim (fun r : Mem => Fx C L A r) (fun r : Int32 × Mem => Fx C L A r.2))) (fun s_ r_ hs_ er_ => wl_Mod_meet_30 v1 v2 s_ (sb_t (by decide +kernel) hC) hs_ er_) e_y p_x3)
  rcases y_ with y12 | y13
  · have p_y12 : Fx C L A y12 := q_y
    replace e := el_l e
    obtain rfl := Option.some.inj e
    exact p_y12
  · have p_y13 : Fx C L A y13.2 := q_y
    replace e := el_r e
    obtain ⟨M14, e_M14, e⟩ := mo e
    have p_M14 : Fx C L A M14 := wi1 p_y13 e_M14 (tb1 hC (by decide +kernel))
    obtain ⟨_, e⟩ := io_n e
    obtain ⟨x15, e_x15, e⟩ := bo e
    obtain ⟨x16, e_x16, e⟩ := bo e
    have p_x16 : Fx C L A x16 := (wf_Mod_put x15 M14 (sb_t (by decide +kernel) hC) p_M14 e_x16)
    obtain rfl := Option.some.inj e
    exact p_x16
theorem wj_Mod_known_44_22 {C : Nat} {L : List Nat} {A : Mem} (v1 : Int32) (v2 : Int32) (M : Mem) (hC : sb 0 C)  (p0 : Fx C L A M) {r : ((Int32 × Int32 × Mem) ⊕ ((Int32 × Mem)))} (e : j_Mod_known_44_22 v1 v2 M = some r) : (Sum.elim (fun r : Int32 × Int32 × Mem => Fx C L A r.2.2) (fun r : Int32 × Mem => Fx C L A r.2)) r := by
  unfold j_Mod_known_44_22 at e
  rcases io e with ⟨_, e⟩ | ⟨_, e⟩
  · obtain rfl := Option.some.inj e
    exact p0
  obtain rfl := Option.some.inj e
  exact p0
theorem wl_Mod_known_22 {C : Nat} {L : List Nat} {A : Mem} (s : Int32 × Int32 × Mem) (hC : sb 6120724063703626647367292593586058256162792417800388184993935573123072 C)  (p0 : Fx C L A s.2.2) {r : ((Int32 × Int32 × Mem) ⊕ ((Int32 × Mem)))} (e : lb_Mod_known_22 s = some r) : (Sum.elim (fun r : Int32 × Int32 × Mem => Fx C L A r.2.2) (fun r : Int32 × Mem => Fx C L A r.2)) r := by
  unfold lb_Mod_known_22 at e
  rcases io e with ⟨_, e⟩ | ⟨_, e⟩
  · obtain rfl := Option.some.inj e
    exact p0
  rcases io e with ⟨_, e⟩ | ⟨_, e⟩
  · obtain rfl := Option.some.inj e
    exact p0
  rcases io e with ⟨_, e⟩ | ⟨_, e⟩
  · exact (wj_Mod_known_44_22 s.1 s.2.1 s.2.2 (sb_t (by decide +kernel) hC) p0 e)
  obtain ⟨x4, e_x4, e⟩ := bo e
  have p_x4 : Fx C L A x4 := (wf_Mod_goMinute 176 s.2.2 (sb_t (by decide +kernel) hC) (oc_c hC (by decide +kernel)) p0 e_x4)
  exact (wj_Mod_known_44_22 s.1 s.2.1 x4 (sb_t (by decide +kernel) hC) p_x4 e)
theorem wj_Mod_known_70 {C : Nat} {L : List Nat} {A : Mem} (v1 : Int32) (M : Mem) (hC : sb 6582018229285198313039033441376462163248118830987351372125437952 C)  (p0 : Fx C L A M) {r : (Int32 × Mem)} (e : j_Mod_known_70 v1 M = some r) : (fun r : Int32 × Mem => Fx C L A r.2) r := by
  unfold j_Mod_known_70 at e
  obtain ⟨M9, e_M9, e⟩ := mo e
  have p_M9 : Fx C L A M9 := wi1 p0 e_M9 (tb1 hC (by decide +kernel))
  obtain ⟨x10, e_x10, e⟩ := bo e
  have p_x10 : Fx C L A x10 := (wf_Mod_put (M9.1 176 (93 : Int32).toNatClampNeg) M9 (sb_t (by decide +kernel) hC) p_M9 e_x10)
  obtain rfl := Option.some.inj e
  exact p_x10
theorem wf_Mod_known {C : Nat} {L : List Nat} {A : Mem} (M : Mem) (hC : sb 6120743809758314502213942872372960091428995527806144240984214487433216 C)  (p0 : Fx C L A M) {r : (Int32 × Mem)} (e : f_Mod_known M = some r) : (fun r : Int32 × Mem => Fx C L A r.2) r := by
  unfold f_Mod_known at e
  obtain ⟨M1, e_M1, e⟩ := mo e
  have p_M1 : Fx C L A M1 := wi1 p0 e_M1 (tb1 hC (by decide +kernel))
  obtain ⟨x2, e_x2, e⟩ := bo e
  have p_x2 : Fx C L A x2 := (wf_Mod_lay 163 176 (0 : Int32) M1 (sb_t (by decide +kernel) hC) (oc_c hC (by decide +kernel)) p_M1 e_x2)
  obtain ⟨x8, e_x8, e⟩ := bo e
  have p_x8 : Fx C L A x8.2 := (it_r (I := fun s : Int32 × Int32 × Mem => Fx C L A s.2.2) (Q := (fun r : Int32 × Mem => Fx C L A r.2)) (fun s_ r_ hs_ er_ => wl_Mod_known_22  s_ (sb_t (by decide +kernel) hC) hs_ er_) e_x8 p_x2)
  exact (wj_Mod_known_70 x8.1 x8.2 (sb_t (by decide +kernel) hC) p_x8 e)
theorem wl_Mod_gossip_93 {C : Nat} {L : List Nat} {A : Mem} (v1 : Int32) (v2 : Int32) (v3 : Int32) (v4 : Int32) (s : Int32 × Mem) (hC : sb 6120724063703626647367292593586058256162792417800388184993935573123072 C)  (p0 : Fx C L A s.2) {r : ((Int32 × Mem) ⊕ ((Mem)))} (e : lb_Mod_gossip_93 v1 v2 v3 v4 s = some r) : (Sum.elim (fun r : Int32 × Mem => Fx C L A r.2) (fun r : Mem => Fx C L A r)) r := by
  unfold lb_Mod_gossip_93 at e
  rcases io e with ⟨_, e⟩ | ⟨_, e⟩
  · obtain rfl := Option.some.inj e
    exact p0
  obtain ⟨x4, e_x4, e⟩ := bo e
  have p_x4 : Fx C L A x4 := (wf_Mod_goMinute 176 s.2 (sb_t (by decide +kernel) hC) (oc_c hC (by decide +kernel)) p0 e_x4)
  obtain rfl := Option.some.inj e
  exact p_x4
theorem wj_Mod_gossip_58_25 {C : Nat} {L : List Nat} {A : Mem} (v1 : Int32) (v2 : Int32) (v3 : Int32) (v4 : Int32) (M : Mem) (hC : sb 6120724063703626647367292593586058256162792417800388184993935573123072 C)  (p0 : Fx C L A M) {r : ((Int32 × Int32 × Int32 × Mem) ⊕ ((Int32 × Int32 × Mem)))} (e : j_Mod_gossip_58_25 v1 v2 v3 v4 M = some r) : (Sum.elim (fun r : Int32 × Int32 × Int32 × Mem => Fx C L A r.2.2.2) (fun r : Int32 × Int32 × Mem => Fx C L A r.2.2)) r := by
  unfold j_Mod_gossip_58_25 at e
  obtain ⟨x3, e_x3, e⟩ := bo e
  have p_x3 : Fx C L A x3 := (wf_Mod_lay 163 176 (0 : Int32) M (sb_t (by decide +kernel) hC) (oc_c hC (by decide +kernel)) p0 e_x3)
  rcases io e with ⟨_, e⟩ | ⟨_, e⟩
  · obtain ⟨x6, e_x6, e⟩ := bo e
    have p_x6 : Fx C L A x6 := (it_r (I := fun s : Int32 × Mem => Fx C L A s.2) (Q := (fun r : Mem => Fx C L A r)) (fun s_ r_ hs_ er_ => wl_Mod_gossip_93 v1 v2 v3 v4 s_ (sb_t (by decide +kernel) hC) hs_ er_) e_x6 p_x3)
    obtain ⟨x7, e_x7, e⟩ := bo e
    rcases io e with ⟨_, e⟩ | ⟨_, e⟩
    · obtain rfl := Option.some.inj e
      exact p_x6
    obtain rfl := Option.some.inj e
    exact p_x6
  obtain ⟨M9, e_M9, e⟩ := mo e
  have p_M9 : Fx C L A M9 := wi p_x3 e_M9 (oc_c hC (by decide +kernel))
  obtain ⟨x10, e_x10, e⟩ := bo e
  have p_x10 : Fx C L A x10 := (it_r (I := fun s : Int32 × Mem => Fx C L A s.2) (Q := (fun r : Mem => Fx C L A r)) (fun s_ r_ hs_ er_ => wl_Mod_gossip_93 v1 v2 v3 v4 s_ (sb_t (by decide +kernel) hC) hs_ er_) e_x10 p_M9)
  obtain ⟨x11, e_x11, e⟩ := bo e
  rcases io e with ⟨_, e⟩ | ⟨_, e⟩
  · obtain rfl := Option.some.inj e
    exact p_x10
  obtain rfl := Option.some.inj e
  exact p_x10
theorem wl_Mod_gossip_25 {C : Nat} {L : List Nat} {A : Mem} (v1 : Int32) (s : Int32 × Int32 × Int32 × Mem) (hC : sb 6120724063703626647367292593586058256162792417800388184993935573123072 C)  (p0 : Fx C L A s.2.2.2) {r : ((Int32 × Int32 × Int32 × Mem) ⊕ ((Int32 × Int32 × Mem)))} (e : lb_Mod_gossip_25 v1 s = some r) : (Sum.elim (fun r : Int32 × Int32 × Int32 × Mem => Fx C L A r.2.2.2) (fun r : Int32 × Int32 × Mem => Fx C L A r.2.2)) r := by
  unfold lb_Mod_gossip_25 at e
  rcases io e with ⟨_, e⟩ | ⟨_, e⟩
  · obtain rfl := Option.some.inj e
    exact p0
  rcases io e with ⟨_, e⟩ | ⟨_, e⟩
  · exact (wj_Mod_gossip_58_25 v1 s.1 s.2.1 s.2.2.1 s.2.2.2 (sb_t (by decide +kernel) hC) p0 e)
  obtain ⟨x14, e_x14, e⟩ := bo e
  rcases io e with ⟨_, e⟩ | ⟨_, e⟩
  · exact (wj_Mod_gossip_58_25 v1 s.1 s.2.1 s.2.2.1 s.2.2.2 (sb_t (by decide +kernel) hC) p0 e)
  obtain rfl := Option.some.inj e
  exact p0
theorem wf_Mod_gossip {C : Nat} {L : List Nat} {A : Mem} (v1 : Int32) (M : Mem) (hC : sb 6120743809758314502213942872372960091428995527806144240984214487433216 C)  (p0 : Fx C L A M) {r : (Int32 × Mem)} (e : f_Mod_gossip v1 M = some r) : (fun r : Int32 × Mem => Fx C L A r.2) r := by
  unfold f_Mod_gossip at e
  obtain ⟨M1, e_M1, e⟩ := mo e
  have p_M1 : Fx C L A M1 := wi1 p0 e_M1 (tb1 hC (by decide +kernel))
  obtain ⟨x2, e_x2, e⟩ := bo e
  rcases io e with ⟨_, e⟩ | ⟨_, e⟩
  · obtain rfl := Option.some.inj e
    exact p_M1
  obtain ⟨x18, e_x18, e⟩ := bo e
  have p_x18 : Fx C L A x18.2.2 := (it_r (I := fun s : Int32 × Int32 × Int32 × Mem => Fx C L A s.2.2.2) (Q := (fun r : Int32 × Int32 × Mem => Fx C L A r.2.2)) (fun s_ r_ hs_ er_ => wl_Mod_gossip_25 v1 s_ (sb_t (by decide +kernel) hC) hs_ er_) e_x18 p_M1)
  obtain ⟨M19, e_M19, e⟩ := mo e
  have p_M19 : Fx C L A M19 := wi1 p_x18 e_M19 (tb1 hC (by decide +kernel))
  obtain ⟨x20, e_x20, e⟩ := bo e
  have p_x20 : Fx C L A x20 := (wf_Mod_put x18.2.1 M19 (sb_t (by decide +kernel) hC) p_M19 e_x20)
  obtain rfl := Option.some.inj e
  exact p_x20
theorem wf_Mod_lower {C : Nat} {L : List Nat} {A : Mem} (v1 : Int32) (v2 : Int32) (M : Mem) (hC : sb 191561942608236107294793378393788647952342390272950272 C)  (p0 : Fx C L A M) {r : (Int32 × Mem)} (e : f_Mod_lower v1 v2 M = some r) : (fun r : Int32 × Mem => Fx C L A r.2) r := by
  unfold f_Mod_lower at e
  rcases io e with ⟨_, e⟩ | ⟨_, e⟩
  · obtain rfl := Option.some.inj e
    exact p0
  obtain ⟨_, e⟩ := io_n e
  rcases io e with ⟨_, e⟩ | ⟨_, e⟩
  · obtain ⟨_, e⟩ := io_n e
    obtain ⟨M1, e_M1, e⟩ := mo e
    have p_M1 : Fx C L A M1 := wi p0 e_M1 (oc_c hC (by decide +kernel))
    obtain rfl := Option.some.inj e
    exact p_M1
  obtain rfl := Option.some.inj e
  exact p0
theorem wl_Mod_spread_34 {C : Nat} {L : List Nat} {A : Mem} (v1 : Int32) (v3 : Int32) (s : Int32 × Int32 × Mem) (hC : sb 191561942608236107294793378393788647952342390272950272 C)  (p0 : Fx C L A s.2.2) {r : ((Int32 × Int32 × Mem) ⊕ ((Int32 × Mem)))} (e : lb_Mod_spread_34 v1 v3 s = some r) : (Sum.elim (fun r : Int32 × Int32 × Mem => Fx C L A r.2.2) (fun r : Int32 × Mem => Fx C L A r.2)) r := by
  unfold lb_Mod_spread_34 at e
  rcases io e with ⟨_, e⟩ | ⟨_, e⟩
  · obtain rfl := Option.some.inj e
    exact p0
  obtain ⟨x1, e_x1, e⟩ := bo e
  obtain ⟨_, e⟩ := io_n e
  obtain ⟨x2, e_x2, e⟩ := bo e
  have p_x2 : Fx C L A x2.2 := (wf_Mod_lower x1 ((s.2.2.1 177 v3.toNatClampNeg) + (1 : Int32)) s.2.2 (sb_t (by decide +kernel) hC) p0 e_x2)
  obtain rfl := Option.some.inj e
  exact p_x2
theorem wl_Mod_spread_10 {C : Nat} {L : List Nat} {A : Mem} (v1 : Int32) (s : Int32 × Int32 × Mem) (hC : sb 191561942608236107294793378393788647952342390272950272 C)  (p0 : Fx C L A s.2.2) {r : ((Int32 × Int32 × Mem) ⊕ ((Int32 × Mem)))} (e : lb_Mod_spread_10 v1 s = some r) : (Sum.elim (fun r : Int32 × Int32 × Mem => Fx C L A r.2.2) (fun r : Int32 × Mem => Fx C L A r.2)) r := by
  unfold lb_Mod_spread_10 at e
  rcases io e with ⟨_, e⟩ | ⟨_, e⟩
  · obtain rfl := Option.some.inj e
    exact p0
  obtain ⟨_, e⟩ := io_n e
  rcases io e with ⟨_, e⟩ | ⟨_, e⟩
  · obtain ⟨x4, e_x4, e⟩ := bo e
    have p_x4 : Fx C L A x4.2 := (it_r (I := fun s : Int32 × Int32 × Mem => Fx C L A s.2.2) (Q := (fun r : Int32 × Mem => Fx C L A r.2)) (fun s_ r_ hs_ er_ => wl_Mod_spread_34 v1 s.2.1 s_ (sb_t (by decide +kernel) hC) hs_ er_) e_x4 p0)
    rcases io e with ⟨_, e⟩ | ⟨_, e⟩
    · obtain rfl := Option.some.inj e
      exact p_x4
    obtain ⟨x5, e_x5, e⟩ := bo e
    obtain ⟨_, e⟩ := io_n e
    rcases io e with ⟨_, e⟩ | ⟨_, e⟩
    · obtain ⟨x6, e_x6, e⟩ := bo e
      obtain ⟨x7, e_x7, e⟩ := bo e
      obtain ⟨x8, e_x8, e⟩ := bo e
      obtain ⟨_, e⟩ := io_n e
      obtain ⟨x9, e_x9, e⟩ := bo e
      have p_x9 : Fx C L A x9.2 := (wf_Mod_lower x8 (x4.2.1 177 s.2.1.toNatClampNeg) x4.2 (sb_t (by decide +kernel) hC) p_x4 e_x9)
      obtain rfl := Option.some.inj e
      exact p_x9
    obtain rfl := Option.some.inj e
    exact p_x4
  obtain rfl := Option.some.inj e
  exact p0
theorem wl_Mod_spread_2 {C : Nat} {L : List Nat} {A : Mem} (v1 : Int32) (s : Int32 × Mem) (hC : sb 191561942608236107294793378393788647952342390272950272 C)  (p0 : Fx C L A s.2) {r : ((Int32 × Mem) ⊕ ((Mem)))} (e : lb_Mod_spread_2 v1 s = some r) : (Sum.elim (fun r : Int32 × Mem => Fx C L A r.2) (fun r : Mem => Fx C L A r)) r := by
  unfold lb_Mod_spread_2 at e
  rcases io e with ⟨_, e⟩ | ⟨_, e⟩
  · obtain rfl := Option.some.inj e
    exact p0
  obtain ⟨x14, e_x14, e⟩ := bo e
  have p_x14 : Fx C L A x14.2 := (it_r (I := fun s : Int32 × Int32 × Mem => Fx C L A s.2.2) (Q := (fun r : Int32 × Mem => Fx C L A r.2)) (fun s_ r_ hs_ er_ => wl_Mod_spread_10 v1 s_ (sb_t (by decide +kernel) hC) hs_ er_) e_x14 p0)
  obtain rfl := Option.some.inj e
  exact p_x14
theorem wf_Mod_spread {C : Nat} {L : List Nat} {A : Mem} (v1 : Int32) (M : Mem) (hC : sb 191561942608236107294793378393788647952342390272950272 C)  (p0 : Fx C L A M) {r : (Mem)} (e : f_Mod_spread v1 M = some r) : (fun r : Mem => Fx C L A r) r := by
  unfold f_Mod_spread at e
  obtain ⟨x16, e_x16, e⟩ := bo e
  have p_x16 : Fx C L A x16 := (it_r (I := fun s : Int32 × Mem => Fx C L A s.2) (Q := (fun r : Mem => Fx C L A r)) (fun s_ r_ hs_ er_ => wl_Mod_spread_2 v1 s_ (sb_t (by decide +kernel) hC) hs_ er_) e_x16 p0)
  obtain rfl := Option.some.inj e
  exact p_x16
theorem wl_Mod_findFar_2 {C : Nat} {L : List Nat} {A : Mem} (v1 : Int32) (s : Int32 × Mem) (hC : sb 191561942608236107294793378393788647952342390272950272 C)  (p0 : Fx C L A s.2) {r : ((Int32 × Mem) ⊕ ((Mem)))} (e : lb_Mod_findFar_2 v1 s = some r) : (Sum.elim (fun r : Int32 × Mem => Fx C L A r.2) (fun r : Mem => Fx C L A r)) r := by
  unfold lb_Mod_findFar_2 at e
  rcases io e with ⟨_, e⟩ | ⟨_, e⟩
  · obtain rfl := Option.some.inj e
    exact p0
  obtain ⟨_, e⟩ := io_n e
  obtain ⟨M1, e_M1, e⟩ := mo e
  have p_M1 : Fx C L A M1 := wi p0 e_M1 (oc_c hC (by decide +kernel))
  obtain rfl := Option.some.inj e
  exact p_M1
theorem wf_Mod_findFar {C : Nat} {L : List Nat} {A : Mem} (v1 : Int32) (M : Mem) (hC : sb 191561942608236107294793378393788647952342390272950272 C)  (p0 : Fx C L A M) {r : (Mem)} (e : f_Mod_findFar v1 M = some r) : (fun r : Mem => Fx C L A r) r := by
  unfold f_Mod_findFar at e
  obtain ⟨x3, e_x3, e⟩ := bo e
  have p_x3 : Fx C L A x3 := (it_r (I := fun s : Int32 × Mem => Fx C L A s.2) (Q := (fun r : Mem => Fx C L A r)) (fun s_ r_ hs_ er_ => wl_Mod_findFar_2 v1 s_ (sb_t (by decide +kernel) hC) hs_ er_) e_x3 p0)
  obtain ⟨_, e⟩ := io_n e
  obtain ⟨M4, e_M4, e⟩ := mo e
  have p_M4 : Fx C L A M4 := wi p_x3 e_M4 (oc_c hC (by decide +kernel))
  obtain ⟨x5, e_x5, e⟩ := bo e
  have p_x5 : Fx C L A x5 := (wf_Mod_spread (0 : Int32) M4 (sb_t (by decide +kernel) hC) p_M4 e_x5)
  obtain rfl := Option.some.inj e
  exact p_x5
theorem wl_Mod_putCells_16 {C : Nat} {L : List Nat} {A : Mem} (v1 : Int32) (s : Int32 × Mem) (hC : sb 383123885216472214589586756787577295904684780545900544 C)  (p0 : Fx C L A s.2) {r : ((Int32 × Mem) ⊕ ((Mem)))} (e : lb_Mod_putCells_16 v1 s = some r) : (Sum.elim (fun r : Int32 × Mem => Fx C L A r.2) (fun r : Mem => Fx C L A r)) r := by
  unfold lb_Mod_putCells_16 at e
  rcases io e with ⟨_, e⟩ | ⟨_, e⟩
  · obtain rfl := Option.some.inj e
    exact p0
  obtain ⟨x3, e_x3, e⟩ := bo e
  obtain ⟨_, e⟩ := io_n e
  rcases io e with ⟨_, e⟩ | ⟨_, e⟩
  · obtain rfl := Option.some.inj e
    exact p0
  obtain ⟨_, e⟩ := io_n e
  obtain ⟨_, e⟩ := io_n e
  obtain ⟨M4, e_M4, e⟩ := mo e
  have p_M4 : Fx C L A M4 := wi p0 e_M4 (oc_c hC (by decide +kernel))
  obtain rfl := Option.some.inj e
  exact p_M4
theorem wf_Mod_putCells {C : Nat} {L : List Nat} {A : Mem} (v1 : Int32) (M : Mem) (hC : sb 6582018229668322198255505655966048920035696126892036152671338496 C)  (p0 : Fx C L A M) {r : (Mem)} (e : f_Mod_putCells v1 M = some r) : (fun r : Mem => Fx C L A r) r := by
  unfold f_Mod_putCells at e
  obtain ⟨M1, e_M1, e⟩ := mo e
  have p_M1 : Fx C L A M1 := wi p0 e_M1 (oc_c hC (by decide +kernel))
  obtain ⟨M2, e_M2, e⟩ := mo e
  have p_M2 : Fx C L A M2 := wi p_M1 e_M2 (oc_c hC (by decide +kernel))
  obtain ⟨x7, e_x7, e⟩ := bo e
  have p_x7 : Fx C L A x7 := (it_r (I := fun s : Int32 × Mem => Fx C L A s.2) (Q := (fun r : Mem => Fx C L A r)) (fun s_ r_ hs_ er_ => wl_Mod_putCells_16 v1 s_ (sb_t (by decide +kernel) hC) hs_ er_) e_x7 p_M2)
  obtain ⟨x8, e_x8, e⟩ := bo e
  have p_x8 : Fx C L A x8 := (wf_Mod_put (x7.1 178 (0 : Int32).toNatClampNeg) x7 (sb_t (by decide +kernel) hC) p_x7 e_x8)
  obtain ⟨x9, e_x9, e⟩ := bo e
  have p_x9 : Fx C L A x9 := (wf_Mod_put (x8.1 178 (1 : Int32).toNatClampNeg) x8 (sb_t (by decide +kernel) hC) p_x8 e_x9)
  obtain rfl := Option.some.inj e
  exact p_x9
theorem wl_Mod_pieces_26 {C : Nat} {L : List Nat} {A : Mem} (v1 : Int32) (v2 : Int32) (v3 : Int32) (v4 : Int32) (s : Int32 × Mem) (hC : sb 766247770432944429179173513575154591809369561091801088 C)  (p0 : Fx C L A s.2) {r : ((Int32 × Mem) ⊕ ((Mem)))} (e : lb_Mod_pieces_26 v1 v2 v3 v4 s = some r) : (Sum.elim (fun r : Int32 × Mem => Fx C L A r.2) (fun r : Mem => Fx C L A r)) r := by
  unfold lb_Mod_pieces_26 at e
  rcases io e with ⟨_, e⟩ | ⟨_, e⟩
  · obtain rfl := Option.some.inj e
    exact p0
  obtain ⟨_, e⟩ := io_n e
  obtain ⟨M3, e_M3, e⟩ := mo e
  have p_M3 : Fx C L A M3 := wi p0 e_M3 (oc_c hC (by decide +kernel))
  obtain rfl := Option.some.inj e
  exact p_M3
theorem wl_Mod_pieces_98 {C : Nat} {L : List Nat} {A : Mem} (v1 : Int32) (v2 : Int32) (v3 : Int32) (v4 : Int32) (v5 : Int32) (s : Int32 × Mem) (hC : sb 766247770432944429179173513575154591809369561091801088 C)  (p0 : Fx C L A s.2) {r : ((Int32 × Mem) ⊕ ((Mem)))} (e : lb_Mod_pieces_98 v1 v2 v3 v4 v5 s = some r) : (Sum.elim (fun r : Int32 × Mem => Fx C L A r.2) (fun r : Mem => Fx C L A r)) r := by
  unfold lb_Mod_pieces_98 at e
  rcases io e with ⟨_, e⟩ | ⟨_, e⟩
  · obtain rfl := Option.some.inj e
    exact p0
  obtain ⟨_, e⟩ := io_n e
  obtain ⟨x10, e_x10, e⟩ := bo e
  obtain ⟨_, e⟩ := io_n e
  rcases io e with ⟨_, e⟩ | ⟨_, e⟩
  · obtain ⟨_, e⟩ := io_n e
    obtain ⟨M11, e_M11, e⟩ := mo e
    have p_M11 : Fx C L A M11 := wi p0 e_M11 (oc_c hC (by decide +kernel))
    obtain rfl := Option.some.inj e
    exact p_M11
  obtain ⟨_, e⟩ := io_n e
  obtain ⟨M12, e_M12, e⟩ := mo e
  have p_M12 : Fx C L A M12 := wi p0 e_M12 (oc_c hC (by decide +kernel))
  obtain rfl := Option.some.inj e
  exact p_M12
theorem wl_Mod_pieces_50 {C : Nat} {L : List Nat} {A : Mem} (v1 : Int32) (s : Int32 × Int32 × Int32 × Int32 × Mem) (hC : sb 957809713041180536473966891968943239761711951364751360 C)  (p0 : Fx C L A s.2.2.2.2) {r : ((Int32 × Int32 × Int32 × Int32 × Mem) ⊕ ((Int32 × Int32 × Int32 × Mem)))} (e : lb_Mod_pieces_50 v1 s = some r) : (Sum.elim (fun r : Int32 × Int32 × Int32 × Int32 × Mem => Fx C L A r.2.2.2.2) (fun r : Int32 × Int32 × Int32 × Mem => Fx C L A r.2.2.2)) r := by
  unfold lb_Mod_pieces_50 at e
  obtain ⟨x6, e_x6, e⟩ := bo e
  rcases io e with ⟨_, e⟩ | ⟨_, e⟩
  · obtain rfl := Option.some.inj e
    exact p0
  obtain ⟨x7, e_x7, e⟩ := bo e
  rcases io e with ⟨_, e⟩ | ⟨_, e⟩
  · obtain rfl := Option.some.inj e
    exact p0
  obtain ⟨_, e⟩ := io_n e
  rcases io e with ⟨_, e⟩ | ⟨_, e⟩
  · obtain ⟨x8, e_x8, e⟩ := bo e
    obtain ⟨x9, e_x9, e⟩ := bo e
    have p_x9 : Fx C L A x9 := (wf_Mod_findFar x8 s.2.2.2.2 (sb_t (by decide +kernel) hC) p0 e_x9)
    obtain ⟨x15, e_x15, e⟩ := bo e
    have p_x15 : Fx C L A x15 := (it_r (I := fun s : Int32 × Mem => Fx C L A s.2) (Q := (fun r : Mem => Fx C L A r)) (fun s_ r_ hs_ er_ => wl_Mod_pieces_98 v1 (s.1 + (1 : Int32)) s.2.1 s.2.2.1 s.2.2.2.1 s_ (sb_t (by decide +kernel) hC) hs_ er_) e_x15 p_x9)
    obtain ⟨x16, e_x16, e⟩ := bo e
    rcases io e with ⟨_, e⟩ | ⟨_, e⟩
    · obtain ⟨x17, e_x17, e⟩ := bo e
      obtain rfl := Option.some.inj e
      exact p_x15
    obtain rfl := Option.some.inj e
    exact p_x15
  obtain rfl := Option.some.inj e
  exact p0
theorem wf_Mod_pieces {C : Nat} {L : List Nat} {A : Mem} (v1 : Int32) (M : Mem) (hC : sb 19746054688812656363319967438309233095078948995817702230279061504 C)  (p0 : Fx C L A M) {r : (Int32 × Mem)} (e : f_Mod_pieces v1 M = some r) : (fun r : Int32 × Mem => Fx C L A r.2) r := by
  unfold f_Mod_pieces at e
  obtain ⟨M1, e_M1, e⟩ := mo e
  have p_M1 : Fx C L A M1 := wi1 p0 e_M1 (tb1 hC (by decide +kernel))
  obtain ⟨x2, e_x2, e⟩ := bo e
  rcases io e with ⟨_, e⟩ | ⟨_, e⟩
  · obtain rfl := Option.some.inj e
    exact p_M1
  obtain ⟨x5, e_x5, e⟩ := bo e
  have p_x5 : Fx C L A x5 := (it_r (I := fun s : Int32 × Mem => Fx C L A s.2) (Q := (fun r : Mem => Fx C L A r)) (fun s_ r_ hs_ er_ => wl_Mod_pieces_26 v1 (0 : Int32) (0 : Int32) (-1 : Int32) s_ (sb_t (by decide +kernel) hC) hs_ er_) e_x5 p_M1)
  obtain ⟨x22, e_x22, e⟩ := bo e
  have p_x22 : Fx C L A x22.2.2.2 := (it_r (I := fun s : Int32 × Int32 × Int32 × Int32 × Mem => Fx C L A s.2.2.2.2) (Q := (fun r : Int32 × Int32 × Int32 × Mem => Fx C L A r.2.2.2)) (fun s_ r_ hs_ er_ => wl_Mod_pieces_50 v1 s_ (sb_t (by decide +kernel) hC) hs_ er_) e_x22 p_x5)
  obtain ⟨M23, e_M23, e⟩ := mo e
  have p_M23 : Fx C L A M23 := wi1 p_x22 e_M23 (tb1 hC (by decide +kernel))
  obtain ⟨x24, e_x24, e⟩ := bo e
  have p_x24 : Fx C L A x24 := (wf_Mod_put x22.2.1 M23 (sb_t (by decide +kernel) hC) p_M23 e_x24)
  obtain ⟨x25, e_x25, e⟩ := bo e
  have p_x25 : Fx C L A x25 := (wf_Mod_put x22.2.2.1 x24 (sb_t (by decide +kernel) hC) p_x24 e_x25)
  obtain rfl := Option.some.inj e
  exact p_x25
theorem wf_Mod_reach {C : Nat} {L : List Nat} {A : Mem} (v1 : Int32) (v2 : Int32) (M : Mem) (hC : sb 19746054688429532478103495223719646338291371699913017449733160960 C)  (p0 : Fx C L A M) {r : (Int32 × Mem)} (e : f_Mod_reach v1 v2 M = some r) : (fun r : Int32 × Mem => Fx C L A r.2) r := by
  unfold f_Mod_reach at e
  obtain ⟨M1, e_M1, e⟩ := mo e
  have p_M1 : Fx C L A M1 := wi1 p0 e_M1 (tb1 hC (by decide +kernel))
  obtain ⟨x2, e_x2, e⟩ := bo e
  rcases io e with ⟨_, e⟩ | ⟨_, e⟩
  · obtain rfl := Option.some.inj e
    exact p_M1
  obtain ⟨x3, e_x3, e⟩ := bo e
  rcases io e with ⟨_, e⟩ | ⟨_, e⟩
  · obtain rfl := Option.some.inj e
    exact p_M1
  obtain ⟨x4, e_x4, e⟩ := bo e
  rcases io e with ⟨_, e⟩ | ⟨_, e⟩
  · obtain rfl := Option.some.inj e
    exact p_M1
  obtain ⟨x5, e_x5, e⟩ := bo e
  obtain ⟨x6, e_x6, e⟩ := bo e
  have p_x6 : Fx C L A x6 := (wf_Mod_findFar x5 M1 (sb_t (by decide +kernel) hC) p_M1 e_x6)
  obtain ⟨M7, e_M7, e⟩ := mo e
  have p_M7 : Fx C L A M7 := wi1 p_x6 e_M7 (tb1 hC (by decide +kernel))
  obtain ⟨x8, e_x8, e⟩ := bo e
  have p_x8 : Fx C L A x8 := (wf_Mod_putCells v1 M7 (sb_t (by decide +kernel) hC) p_M7 e_x8)
  obtain ⟨x9, e_x9, e⟩ := bo e
  obtain rfl := Option.some.inj e
  exact p_x8
theorem wj_Mod_path_143_69 {C : Nat} {L : List Nat} {A : Mem} (v4 : Int32) (v5 : Int32) (v6 : Int32) (v7 : Int32) (M : Mem) (hC : sb 0 C)  (p0 : Fx C L A M) {r : ((Int32 × Int32 × Mem) ⊕ ((Mem)))} (e : j_Mod_path_143_69 v4 v5 v6 v7 M = some r) : (Sum.elim (fun r : Int32 × Int32 × Mem => Fx C L A r.2.2) (fun r : Mem => Fx C L A r)) r := by
  unfold j_Mod_path_143_69 at e
  obtain ⟨x13, e_x13, e⟩ := bo e
  obtain rfl := Option.some.inj e
  exact p0
theorem wl_Mod_path_69 {C : Nat} {L : List Nat} {A : Mem} (v5 : Int32) (s : Int32 × Int32 × Mem) (hC : sb 6582018229285198313039033441376462163248118830987351372125437952 C)  (p0 : Fx C L A s.2.2) {r : ((Int32 × Int32 × Mem) ⊕ ((Mem)))} (e : lb_Mod_path_69 v5 s = some r) : (Sum.elim (fun r : Int32 × Int32 × Mem => Fx C L A r.2.2) (fun r : Mem => Fx C L A r)) r := by
  unfold lb_Mod_path_69 at e
  rcases io e with ⟨_, e⟩ | ⟨_, e⟩
  · obtain rfl := Option.some.inj e
    exact p0
  obtain ⟨x12, e_x12, e⟩ := bo e
  rcases io e with ⟨_, e⟩ | ⟨_, e⟩
  · exact (wj_Mod_path_143_69 s.1 v5 s.2.1 x12 s.2.2 (sb_t (by decide +kernel) hC) p0 e)
  obtain ⟨x14, e_x14, e⟩ := bo e
  have p_x14 : Fx C L A x14 := (wf_Mod_put x12 s.2.2 (sb_t (by decide +kernel) hC) p0 e_x14)
  exact (wj_Mod_path_143_69 s.1 v5 s.2.1 x12 x14 (sb_t (by decide +kernel) hC) p_x14 e)
end
section
/-! frames -/
theorem wf_Mod_path {C : Nat} {L : List Nat} {A : Mem} (v1 : Int32) (v2 : Int32) (v3 : Int32) (M : Mem) (hC : sb 19746054688046408592887023009130059581503794404008332669187260416 C)  (p0 : Fx C L A M) {r : (Int32 × Mem)} (e : f_Mod_path v1 v2 v3 M = some r) : (fun r : Int32 × Mem => Fx C L A r.2) r := by
  unfold f_Mod_path at e
  obtain ⟨M1, e_M1, e⟩ := mo e
  have p_M1 : Fx C L A M1 := wi1 p0 e_M1 (tb1 hC (by decide +kernel))
  obtain ⟨x2, e_x2, e⟩ := bo e
  rcases io e with ⟨_, e⟩ | ⟨_, e⟩
  · obtain rfl := Option.some.inj e
    exact p_M1
  obtain ⟨x3, e_x3, e⟩ := bo e
  rcases io e with ⟨_, e⟩ | ⟨_, e⟩
  · obtain rfl := Option.some.inj e
    exact p_M1
  obtain ⟨x4, e_x4, e⟩ := bo e
  obtain ⟨x5, e_x5, e⟩ := bo e
  have p_x5 : Fx C L A x5 := (wf_Mod_findFar x4 M1 (sb_t (by decide +kernel) hC) p_M1 e_x5)
  obtain ⟨x6, e_x6, e⟩ := bo e
  obtain ⟨_, e⟩ := io_n e
  rcases io e with ⟨_, e⟩ | ⟨_, e⟩
  · obtain ⟨M7, e_M7, e⟩ := mo e
    have p_M7 : Fx C L A M7 := wi1 p_x5 e_M7 (tb1 hC (by decide +kernel))
    obtain ⟨x17, e_x17, e⟩ := bo e
    have p_x17 : Fx C L A x17 := (it_r (I := fun s : Int32 × Int32 × Mem => Fx C L A s.2.2) (Q := (fun r : Mem => Fx C L A r)) (fun s_ r_ hs_ er_ => wl_Mod_path_69 (x5.1 177 x6.toNatClampNeg) s_ (sb_t (by decide +kernel) hC) hs_ er_) e_x17 p_M7)
    obtain rfl := Option.some.inj e
    exact p_x17
  obtain rfl := Option.some.inj e
  exact p_x5
theorem wf_Mod_lowerBoth {C : Nat} {L : List Nat} {A : Mem} (v1 : Int32) (v2 : Int32) (M : Mem) (hC : sb 1532495540865888858358347027150309183618739122183602176 C)  (p0 : Fx C L A M) {r : (Int32 × Mem)} (e : f_Mod_lowerBoth v1 v2 M = some r) : (fun r : Int32 × Mem => Fx C L A r.2) r := by
  unfold f_Mod_lowerBoth at e
  rcases io e with ⟨_, e⟩ | ⟨_, e⟩
  · obtain rfl := Option.some.inj e
    exact p0
  obtain ⟨_, e⟩ := io_n e
  rcases io e with ⟨_, e⟩ | ⟨_, e⟩
  · obtain ⟨_, e⟩ := io_n e
    obtain ⟨M1, e_M1, e⟩ := mo e
    have p_M1 : Fx C L A M1 := wi p0 e_M1 (oc_c hC (by decide +kernel))
    obtain rfl := Option.some.inj e
    exact p_M1
  obtain rfl := Option.some.inj e
  exact p0
theorem wl_Mod_both_29 {C : Nat} {L : List Nat} {A : Mem} (v1 : Int32) (v2 : Int32) (v3 : Int32) (v4 : Int32) (s : Int32 × Mem) (hC : sb 1532495540865888858358347027150309183618739122183602176 C)  (p0 : Fx C L A s.2) {r : ((Int32 × Mem) ⊕ ((Mem)))} (e : lb_Mod_both_29 v1 v2 v3 v4 s = some r) : (Sum.elim (fun r : Int32 × Mem => Fx C L A r.2) (fun r : Mem => Fx C L A r)) r := by
  unfold lb_Mod_both_29 at e
  rcases io e with ⟨_, e⟩ | ⟨_, e⟩
  · obtain rfl := Option.some.inj e
    exact p0
  obtain ⟨_, e⟩ := io_n e
  obtain ⟨M4, e_M4, e⟩ := mo e
  have p_M4 : Fx C L A M4 := wi p0 e_M4 (oc_c hC (by decide +kernel))
  obtain rfl := Option.some.inj e
  exact p_M4
theorem wl_Mod_both_103 {C : Nat} {L : List Nat} {A : Mem} (v3 : Int32) (v4 : Int32) (v6 : Int32) (s : Int32 × Int32 × Mem) (hC : sb 1532495540865888858358347027150309183618739122183602176 C)  (p0 : Fx C L A s.2.2) {r : ((Int32 × Int32 × Mem) ⊕ ((Int32 × Mem)))} (e : lb_Mod_both_103 v3 v4 v6 s = some r) : (Sum.elim (fun r : Int32 × Int32 × Mem => Fx C L A r.2.2) (fun r : Int32 × Mem => Fx C L A r.2)) r := by
  unfold lb_Mod_both_103 at e
  rcases io e with ⟨_, e⟩ | ⟨_, e⟩
  · obtain rfl := Option.some.inj e
    exact p0
  obtain ⟨x9, e_x9, e⟩ := bo e
  obtain ⟨_, e⟩ := io_n e
  obtain ⟨x10, e_x10, e⟩ := bo e
  obtain ⟨x11, e_x11, e⟩ := bo e
  have p_x11 : Fx C L A x11.2 := (wf_Mod_lowerBoth x9 (((s.2.2.1 180 v6.toNatClampNeg) + (1000 : Int32)) + x10) s.2.2 (sb_t (by decide +kernel) hC) p0 e_x11)
  obtain rfl := Option.some.inj e
  exact p_x11
theorem wl_Mod_both_77 {C : Nat} {L : List Nat} {A : Mem} (v3 : Int32) (v4 : Int32) (s : Int32 × Int32 × Mem) (hC : sb 1532495540865888858358347027150309183618739122183602176 C)  (p0 : Fx C L A s.2.2) {r : ((Int32 × Int32 × Mem) ⊕ ((Int32 × Mem)))} (e : lb_Mod_both_77 v3 v4 s = some r) : (Sum.elim (fun r : Int32 × Int32 × Mem => Fx C L A r.2.2) (fun r : Int32 × Mem => Fx C L A r.2)) r := by
  unfold lb_Mod_both_77 at e
  rcases io e with ⟨_, e⟩ | ⟨_, e⟩
  · obtain rfl := Option.some.inj e
    exact p0
  obtain ⟨_, e⟩ := io_n e
  rcases io e with ⟨_, e⟩ | ⟨_, e⟩
  · obtain ⟨x13, e_x13, e⟩ := bo e
    have p_x13 : Fx C L A x13.2 := (it_r (I := fun s : Int32 × Int32 × Mem => Fx C L A s.2.2) (Q := (fun r : Int32 × Mem => Fx C L A r.2)) (fun s_ r_ hs_ er_ => wl_Mod_both_103 v3 v4 s.2.1 s_ (sb_t (by decide +kernel) hC) hs_ er_) e_x13 p0)
    obtain ⟨x14, e_x14, e⟩ := bo e
    obtain ⟨_, e⟩ := io_n e
    rcases io e with ⟨_, e⟩ | ⟨_, e⟩
    · obtain ⟨x15, e_x15, e⟩ := bo e
      obtain ⟨x16, e_x16, e⟩ := bo e
      obtain ⟨x17, e_x17, e⟩ := bo e
      obtain ⟨_, e⟩ := io_n e
      obtain ⟨x18, e_x18, e⟩ := bo e
      have p_x18 : Fx C L A x18.2 := (wf_Mod_lowerBoth x17 (x13.2.1 180 s.2.1.toNatClampNeg) x13.2 (sb_t (by decide +kernel) hC) p_x13 e_x18)
      obtain rfl := Option.some.inj e
      exact p_x18
    obtain rfl := Option.some.inj e
    exact p_x13
  obtain rfl := Option.some.inj e
  exact p0
theorem wl_Mod_both_66 {C : Nat} {L : List Nat} {A : Mem} (v3 : Int32) (v4 : Int32) (s : Int32 × Mem) (hC : sb 1532495540865888858358347027150309183618739122183602176 C)  (p0 : Fx C L A s.2) {r : ((Int32 × Mem) ⊕ ((Mem)))} (e : lb_Mod_both_66 v3 v4 s = some r) : (Sum.elim (fun r : Int32 × Mem => Fx C L A r.2) (fun r : Mem => Fx C L A r)) r := by
  unfold lb_Mod_both_66 at e
  rcases io e with ⟨_, e⟩ | ⟨_, e⟩
  · obtain rfl := Option.some.inj e
    exact p0
  obtain ⟨x22, e_x22, e⟩ := bo e
  have p_x22 : Fx C L A x22.2 := (it_r (I := fun s : Int32 × Int32 × Mem => Fx C L A s.2.2) (Q := (fun r : Int32 × Mem => Fx C L A r.2)) (fun s_ r_ hs_ er_ => wl_Mod_both_77 v3 v4 s_ (sb_t (by decide +kernel) hC) hs_ er_) e_x22 p0)
  obtain rfl := Option.some.inj e
  exact p_x22
theorem wf_Mod_both {C : Nat} {L : List Nat} {A : Mem} (v1 : Int32) (v2 : Int32) (v3 : Int32) (v4 : Int32) (M : Mem) (hC : sb 19746054689387342191144675760193613230260314939674729401097912320 C)  (p0 : Fx C L A M) {r : (Int32 × Mem)} (e : f_Mod_both v1 v2 v3 v4 M = some r) : (fun r : Int32 × Mem => Fx C L A r.2) r := by
  unfold f_Mod_both at e
  obtain ⟨M1, e_M1, e⟩ := mo e
  have p_M1 : Fx C L A M1 := wi1 p0 e_M1 (tb1 hC (by decide +kernel))
  obtain ⟨x2, e_x2, e⟩ := bo e
  rcases io e with ⟨_, e⟩ | ⟨_, e⟩
  · obtain rfl := Option.some.inj e
    exact p_M1
  obtain ⟨x3, e_x3, e⟩ := bo e
  rcases io e with ⟨_, e⟩ | ⟨_, e⟩
  · obtain rfl := Option.some.inj e
    exact p_M1
  obtain ⟨x6, e_x6, e⟩ := bo e
  have p_x6 : Fx C L A x6 := (it_r (I := fun s : Int32 × Mem => Fx C L A s.2) (Q := (fun r : Mem => Fx C L A r)) (fun s_ r_ hs_ er_ => wl_Mod_both_29 v1 v2 v3 v4 s_ (sb_t (by decide +kernel) hC) hs_ er_) e_x6 p_M1)
  obtain ⟨x7, e_x7, e⟩ := bo e
  obtain ⟨_, e⟩ := io_n e
  obtain ⟨M8, e_M8, e⟩ := mo e
  have p_M8 : Fx C L A M8 := wi p_x6 e_M8 (oc_c hC (by decide +kernel))
  obtain ⟨x24, e_x24, e⟩ := bo e
  have p_x24 : Fx C L A x24 := (it_r (I := fun s : Int32 × Mem => Fx C L A s.2) (Q := (fun r : Mem => Fx C L A r)) (fun s_ r_ hs_ er_ => wl_Mod_both_66 v3 v4 s_ (sb_t (by decide +kernel) hC) hs_ er_) e_x24 p_M8)
  obtain ⟨x25, e_x25, e⟩ := bo e
  obtain ⟨_, e⟩ := io_n e
  rcases io e with ⟨_, e⟩ | ⟨_, e⟩
  · obtain ⟨M26, e_M26, e⟩ := mo e
    have p_M26 : Fx C L A M26 := wi1 p_x24 e_M26 (tb1 hC (by decide +kernel))
    obtain ⟨x27, e_x27, e⟩ := bo e
    have p_x27 : Fx C L A x27 := (wf_Mod_put ((x24.1 180 x25.toNatClampNeg) - (((x24.1 180 x25.toNatClampNeg) / (1000 : Int32)) * (1000 : Int32))) M26 (sb_t (by decide +kernel) hC) p_M26 e_x27)
    obtain rfl := Option.some.inj e
    exact p_x27
  obtain rfl := Option.some.inj e
  exact p_x24
theorem wl_Mod_copy_2 {C : Nat} {L : List Nat} {A : Mem} (v0 : Nat) (v1 : Nat) (s : Int32 × Mem) (hC : sb 0 C) (h_v1 : Oc C L (v1)) (p0 : Fx C L A s.2) {r : ((Int32 × Mem) ⊕ ((Mem)))} (e : lb_Mod_copy_2 v0 v1 s = some r) : (Sum.elim (fun r : Int32 × Mem => Fx C L A r.2) (fun r : Mem => Fx C L A r)) r := by
  unfold lb_Mod_copy_2 at e
  rcases io e with ⟨_, e⟩ | ⟨_, e⟩
  · obtain rfl := Option.some.inj e
    exact p0
  obtain ⟨_, e⟩ := io_n e
  obtain ⟨_, e⟩ := io_n e
  obtain ⟨M1, e_M1, e⟩ := mo e
  have p_M1 : Fx C L A M1 := wi p0 e_M1 h_v1
  obtain rfl := Option.some.inj e
  exact p_M1
theorem wf_Mod_copy {C : Nat} {L : List Nat} {A : Mem} (v0 : Nat) (v1 : Nat) (M : Mem) (hC : sb 0 C) (h_v1 : Oc C L (v1)) (p0 : Fx C L A M) {r : (Mem)} (e : f_Mod_copy v0 v1 M = some r) : (fun r : Mem => Fx C L A r) r := by
  unfold f_Mod_copy at e
  obtain ⟨g_v0, e⟩ := io_n e
  obtain ⟨g_v1, e⟩ := io_n e
  obtain ⟨x3, e_x3, e⟩ := bo e
  have p_x3 : Fx C L A x3 := (it_r (I := fun s : Int32 × Mem => Fx C L A s.2) (Q := (fun r : Mem => Fx C L A r)) (fun s_ r_ hs_ er_ => wl_Mod_copy_2 v0 v1 s_ (sb_t (by decide +kernel) hC) h_v1 hs_ er_) e_x3 p0)
  obtain rfl := Option.some.inj e
  exact p_x3
theorem wl_Mod_errand_126 {C : Nat} {L : List Nat} {A : Mem} (v7 : Int32) (s : Int32 × Int32 × Int32 × Int32 × Int32 × Mem) (hC : sb 191561942608236107294793378393788647952342390272950272 C)  (p0 : Fx C L A s.2.2.2.2.2) {r : ((Int32 × Int32 × Int32 × Int32 × Int32 × Mem) ⊕ ((Int32 × Int32 × Int32 × Int32 × Mem)))} (e : lb_Mod_errand_126 v7 s = some r) : (Sum.elim (fun r : Int32 × Int32 × Int32 × Int32 × Int32 × Mem => Fx C L A r.2.2.2.2.2) (fun r : Int32 × Int32 × Int32 × Int32 × Mem => Fx C L A r.2.2.2.2)) r := by
  unfold lb_Mod_errand_126 at e
  rcases io e with ⟨_, e⟩ | ⟨_, e⟩
  · obtain rfl := Option.some.inj e
    exact p0
  obtain ⟨x11, e_x11, e⟩ := bo e
  rcases io e with ⟨_, e⟩ | ⟨_, e⟩
  · obtain rfl := Option.some.inj e
    exact p0
  obtain ⟨_, e⟩ := io_n e
  obtain ⟨x12, e_x12, e⟩ := bo e
  rcases io e with ⟨_, e⟩ | ⟨_, e⟩
  · obtain rfl := Option.some.inj e
    exact p0
  obtain ⟨_, e⟩ := io_n e
  obtain ⟨x13, e_x13, e⟩ := bo e
  have p_x13 : Fx C L A x13 := (wf_Mod_findFar (s.2.2.2.2.2.1 163 s.2.2.2.2.1.toNatClampNeg) s.2.2.2.2.2 (sb_t (by decide +kernel) hC) p0 e_x13)
  obtain ⟨x22, e_x22, e⟩ := bo e
  obtain rfl := Option.some.inj e
  exact p_x13
theorem wl_Mod_errand_81 {C : Nat} {L : List Nat} {A : Mem} (s : Int32 × Int32 × Int32 × Int32 × Int32 × Mem) (hC : sb 191561942608236107294793378393788647952342390272950272 C)  (p0 : Fx C L A s.2.2.2.2.2) {r : ((Int32 × Int32 × Int32 × Int32 × Int32 × Mem) ⊕ ((Int32 × Int32 × Int32 × Int32 × Mem)))} (e : lb_Mod_errand_81 s = some r) : (Sum.elim (fun r : Int32 × Int32 × Int32 × Int32 × Int32 × Mem => Fx C L A r.2.2.2.2.2) (fun r : Int32 × Int32 × Int32 × Int32 × Mem => Fx C L A r.2.2.2.2)) r := by
  unfold lb_Mod_errand_81 at e
  rcases io e with ⟨_, e⟩ | ⟨_, e⟩
  · obtain rfl := Option.some.inj e
    exact p0
  obtain ⟨x10, e_x10, e⟩ := bo e
  rcases io e with ⟨_, e⟩ | ⟨_, e⟩
  · obtain ⟨_, e⟩ := io_n e
    obtain ⟨_, e⟩ := io_n e
    rcases io e with ⟨_, e⟩ | ⟨_, e⟩
    · obtain ⟨x26, e_x26, e⟩ := bo e
      have p_x26 : Fx C L A x26.2.2.2.2 := (it_r (I := fun s : Int32 × Int32 × Int32 × Int32 × Int32 × Mem => Fx C L A s.2.2.2.2.2) (Q := (fun r : Int32 × Int32 × Int32 × Int32 × Mem => Fx C L A r.2.2.2.2)) (fun s_ r_ hs_ er_ => wl_Mod_errand_126 s.2.2.2.2.1 s_ (sb_t (by decide +kernel) hC) hs_ er_) e_x26 p0)
      obtain rfl := Option.some.inj e
      exact p_x26
    obtain rfl := Option.some.inj e
    exact p0
  obtain rfl := Option.some.inj e
  exact p0
theorem wf_Mod_errand {C : Nat} {L : List Nat} {A : Mem} (v1 : Int32) (v2 : Int32) (M : Mem) (hC : sb 19746054697241381838082356159280141744405649505720767402288873472 C)  (p0 : Fx C L A M) {r : (Int32 × Mem)} (e : f_Mod_errand v1 v2 M = some r) : (fun r : Int32 × Mem => Fx C L A r.2) r := by
  unfold f_Mod_errand at e
  obtain ⟨M1, e_M1, e⟩ := mo e
  have p_M1 : Fx C L A M1 := wi1 p0 e_M1 (tb1 hC (by decide +kernel))
  obtain ⟨x2, e_x2, e⟩ := bo e
  rcases io e with ⟨_, e⟩ | ⟨_, e⟩
  · obtain rfl := Option.some.inj e
    exact p_M1
  obtain ⟨x3, e_x3, e⟩ := bo e
  rcases io e with ⟨_, e⟩ | ⟨_, e⟩
  · obtain rfl := Option.some.inj e
    exact p_M1
  obtain ⟨x4, e_x4, e⟩ := bo e
  obtain ⟨x5, e_x5, e⟩ := bo e
  have p_x5 : Fx C L A x5 := (wf_Mod_findFar x4 M1 (sb_t (by decide +kernel) hC) p_M1 e_x5)
  obtain ⟨x6, e_x6, e⟩ := bo e
  have p_x6 : Fx C L A x6 := (wf_Mod_copy 177 181 x5 (sb_t (by decide +kernel) hC) (oc_c hC (by decide +kernel)) p_x5 e_x6)
  obtain ⟨x7, e_x7, e⟩ := bo e
  obtain ⟨x8, e_x8, e⟩ := bo e
  have p_x8 : Fx C L A x8 := (wf_Mod_findFar x7 x6 (sb_t (by decide +kernel) hC) p_x6 e_x8)
  obtain ⟨x9, e_x9, e⟩ := bo e
  have p_x9 : Fx C L A x9 := (wf_Mod_copy 177 182 x8 (sb_t (by decide +kernel) hC) (oc_c hC (by decide +kernel)) p_x8 e_x9)
  obtain ⟨x30, e_x30, e⟩ := bo e
  have p_x30 : Fx C L A x30.2.2.2.2 := (it_r (I := fun s : Int32 × Int32 × Int32 × Int32 × Int32 × Mem => Fx C L A s.2.2.2.2.2) (Q := (fun r : Int32 × Int32 × Int32 × Int32 × Mem => Fx C L A r.2.2.2.2)) (fun s_ r_ hs_ er_ => wl_Mod_errand_81  s_ (sb_t (by decide +kernel) hC) hs_ er_) e_x30 p_x9)
  rcases io e with ⟨_, e⟩ | ⟨_, e⟩
  · obtain rfl := Option.some.inj e
    exact p_x30
  obtain ⟨M31, e_M31, e⟩ := mo e
  have p_M31 : Fx C L A M31 := wi1 p_x30 e_M31 (tb1 hC (by decide +kernel))
  obtain ⟨x32, e_x32, e⟩ := bo e
  have p_x32 : Fx C L A x32 := (wf_Mod_put x30.2.1 M31 (sb_t (by decide +kernel) hC) p_M31 e_x32)
  obtain ⟨x33, e_x33, e⟩ := bo e
  have p_x33 : Fx C L A x33 := (wf_Mod_put x30.2.2.1 x32 (sb_t (by decide +kernel) hC) p_x32 e_x33)
  obtain ⟨x34, e_x34, e⟩ := bo e
  have p_x34 : Fx C L A x34 := (wf_Mod_put x30.2.2.2.1 x33 (sb_t (by decide +kernel) hC) p_x33 e_x34)
  obtain rfl := Option.some.inj e
  exact p_x34
theorem wl_Mod_findTryst_38 {C : Nat} {L : List Nat} {A : Mem} (v1 : Int32) (v2 : Int32) (s : Int32 × Int32 × Mem) (hC : sb 7067388259113537318333190002971674063309935587502475832486424805170479104 C)  (p0 : Fx C L A s.2.2) {r : ((Int32 × Int32 × Mem) ⊕ ((Int32 × Mem)))} (e : lb_Mod_findTryst_38 v1 v2 s = some r) : (Sum.elim (fun r : Int32 × Int32 × Mem => Fx C L A r.2.2) (fun r : Int32 × Mem => Fx C L A r.2)) r := by
  unfold lb_Mod_findTryst_38 at e
  obtain ⟨x4, e_x4, e⟩ := bo e
  rcases io e with ⟨_, e⟩ | ⟨_, e⟩
  · obtain rfl := Option.some.inj e
    exact p0
  obtain ⟨_, e⟩ := io_n e
  rcases io e with ⟨_, e⟩ | ⟨_, e⟩
  · obtain ⟨_, e⟩ := io_n e
    obtain ⟨x5, e_x5, e⟩ := bo e
    obtain ⟨x6, e_x6, e⟩ := bo e
    obtain ⟨_, e⟩ := io_n e
    obtain ⟨_, e⟩ := io_n e
    obtain ⟨x7, e_x7, e⟩ := bo e
    obtain ⟨x8, e_x8, e⟩ := bo e
    obtain ⟨_, e⟩ := io_n e
    rcases io e with ⟨_, e⟩ | ⟨_, e⟩
    · obtain ⟨M9, e_M9, e⟩ := mo e
      have p_M9 : Fx C L A M9 := wi1 p0 e_M9 (tb1 hC (by decide +kernel))
      obtain rfl := Option.some.inj e
      exact p_M9
    obtain rfl := Option.some.inj e
    exact p0
  obtain rfl := Option.some.inj e
  exact p0
theorem wf_Mod_findTryst {C : Nat} {L : List Nat} {A : Mem} (v1 : Int32) (v2 : Int32) (M : Mem) (hC : sb 7067388259113537330784716272507021037471505183098737949388680172912246784 C)  (p0 : Fx C L A M) {r : (Int32 × Mem)} (e : f_Mod_findTryst v1 v2 M = some r) : (fun r : Int32 × Mem => Fx C L A r.2) r := by
  unfold f_Mod_findTryst at e
  obtain ⟨_, e⟩ := io_n e
  obtain ⟨x1, e_x1, e⟩ := bo e
  have p_x1 : Fx C L A x1 := (wf_Mod_findFar (M.1 163 v1.toNatClampNeg) M (sb_t (by decide +kernel) hC) p0 e_x1)
  obtain ⟨x2, e_x2, e⟩ := bo e
  have p_x2 : Fx C L A x2 := (wf_Mod_copy 177 183 x1 (sb_t (by decide +kernel) hC) (oc_c hC (by decide +kernel)) p_x1 e_x2)
  obtain ⟨_, e⟩ := io_n e
  obtain ⟨x3, e_x3, e⟩ := bo e
  have p_x3 : Fx C L A x3 := (wf_Mod_findFar (x2.1 163 v2.toNatClampNeg) x2 (sb_t (by decide +kernel) hC) p_x2 e_x3)
  obtain ⟨x13, e_x13, e⟩ := bo e
  have p_x13 : Fx C L A x13.2 := (it_r (I := fun s : Int32 × Int32 × Mem => Fx C L A s.2.2) (Q := (fun r : Int32 × Mem => Fx C L A r.2)) (fun s_ r_ hs_ er_ => wl_Mod_findTryst_38 v1 v2 s_ (sb_t (by decide +kernel) hC) hs_ er_) e_x13 p_x3)
  obtain rfl := Option.some.inj e
  exact p_x13
theorem wf_Mod_tryst {C : Nat} {L : List Nat} {A : Mem} (v1 : Int32) (v2 : Int32) (M : Mem) (hC : sb 7067388278859592018639562922785807939306771386208743705444670451826556928 C)  (p0 : Fx C L A M) {r : (Int32 × Mem)} (e : f_Mod_tryst v1 v2 M = some r) : (fun r : Int32 × Mem => Fx C L A r.2) r := by
  unfold f_Mod_tryst at e
  obtain ⟨M1, e_M1, e⟩ := mo e
  have p_M1 : Fx C L A M1 := wi1 p0 e_M1 (tb1 hC (by decide +kernel))
  obtain ⟨x2, e_x2, e⟩ := bo e
  rcases io e with ⟨_, e⟩ | ⟨_, e⟩
  · obtain rfl := Option.some.inj e
    exact p_M1
  obtain ⟨x3, e_x3, e⟩ := bo e
  have p_x3 : Fx C L A x3.2 := (wf_Mod_findTryst v1 v2 M1 (sb_t (by decide +kernel) hC) p_M1 e_x3)
  rcases io e with ⟨_, e⟩ | ⟨_, e⟩
  · obtain rfl := Option.some.inj e
    exact p_x3
  obtain ⟨M4, e_M4, e⟩ := mo e
  have p_M4 : Fx C L A M4 := wi1 p_x3 e_M4 (tb1 hC (by decide +kernel))
  obtain ⟨x5, e_x5, e⟩ := bo e
  have p_x5 : Fx C L A x5 := (wf_Mod_put x3.1 M4 (sb_t (by decide +kernel) hC) p_M4 e_x5)
  obtain rfl := Option.some.inj e
  exact p_x5
theorem wj_Mod_open_57_27 {C : Nat} {L : List Nat} {A : Mem} (v1 : Int32) (v2 : Int32) (v3 : Int32) (v4 : Int32) (v5 : Int32) (v6 : Int32) (M : Mem) (hC : sb 7067388259113537330784739656533218331918196442056061409916994667832934400 C)  (p0 : Fx C L A M) {r : ((Int32 × Int32 × Int32 × Mem) ⊕ ((Int32 × Int32 × Mem)))} (e : j_Mod_open_57_27 v1 v2 v3 v4 v5 v6 M = some r) : (Sum.elim (fun r : Int32 × Int32 × Int32 × Mem => Fx C L A r.2.2.2) (fun r : Int32 × Int32 × Mem => Fx C L A r.2.2)) r := by
  unfold j_Mod_open_57_27 at e
  obtain ⟨x4, e_x4, e⟩ := bo e
  rcases io e with ⟨_, e⟩ | ⟨_, e⟩
  · obtain ⟨_, e⟩ := io_n e
    obtain ⟨M5, e_M5, e⟩ := mo e
    have p_M5 : Fx C L A M5 := wi p0 e_M5 (oc_c hC (by decide +kernel))
    obtain ⟨x6, e_x6, e⟩ := bo e
    have p_x6 : Fx C L A x6.2 := (wf_Mod_findTryst v1 v2 M5 (sb_t (by decide +kernel) hC) p_M5 e_x6)
    obtain ⟨_, e⟩ := io_n e
    obtain ⟨M7, e_M7, e⟩ := mo e
    have p_M7 : Fx C L A M7 := wi p_x6 e_M7 (oc_c hC (by decide +kernel))
    rcases io e with ⟨_, e⟩ | ⟨_, e⟩
    · obtain rfl := Option.some.inj e
      exact p_M7
    obtain rfl := Option.some.inj e
    exact p_M7
  obtain rfl := Option.some.inj e
  exact p0
theorem wl_Mod_open_27 {C : Nat} {L : List Nat} {A : Mem} (v1 : Int32) (v2 : Int32) (s : Int32 × Int32 × Int32 × Mem) (hC : sb 7067388259113537330784739656533218331918196442056061409916994667832934400 C)  (p0 : Fx C L A s.2.2.2) {r : ((Int32 × Int32 × Int32 × Mem) ⊕ ((Int32 × Int32 × Mem)))} (e : lb_Mod_open_27 v1 v2 s = some r) : (Sum.elim (fun r : Int32 × Int32 × Int32 × Mem => Fx C L A r.2.2.2) (fun r : Int32 × Int32 × Mem => Fx C L A r.2.2)) r := by
  unfold lb_Mod_open_27 at e
  obtain ⟨x3, e_x3, e⟩ := bo e
  rcases io e with ⟨_, e⟩ | ⟨_, e⟩
  · obtain rfl := Option.some.inj e
    exact p0
  obtain ⟨_, e⟩ := io_n e
  rcases io e with ⟨_, e⟩ | ⟨_, e⟩
  · exact (wj_Mod_open_57_27 v1 v2 s.1 s.2.1 s.2.2.1 (s.2.2.2.1 164 s.2.2.1.toNatClampNeg) s.2.2.2 (sb_t (by decide +kernel) hC) p0 e)
  rcases io e with ⟨_, e⟩ | ⟨_, e⟩
  · exact (wj_Mod_open_57_27 v1 v2 s.1 s.2.1 s.2.2.1 (s.2.2.2.1 164 s.2.2.1.toNatClampNeg) s.2.2.2 (sb_t (by decide +kernel) hC) p0 e)
  obtain rfl := Option.some.inj e
  exact p0
theorem wf_Mod_open {C : Nat} {L : List Nat} {A : Mem} (v1 : Int32) (v2 : Int32) (M : Mem) (hC : sb 7067388278859592018639586306812005233753462645166067165972984946747244544 C)  (p0 : Fx C L A M) {r : (Int32 × Mem)} (e : f_Mod_open v1 v2 M = some r) : (fun r : Int32 × Mem => Fx C L A r.2) r := by
  unfold f_Mod_open at e
  obtain ⟨M1, e_M1, e⟩ := mo e
  have p_M1 : Fx C L A M1 := wi1 p0 e_M1 (tb1 hC (by decide +kernel))
  obtain ⟨x2, e_x2, e⟩ := bo e
  rcases io e with ⟨_, e⟩ | ⟨_, e⟩
  · obtain rfl := Option.some.inj e
    exact p_M1
  obtain ⟨x13, e_x13, e⟩ := bo e
  have p_x13 : Fx C L A x13.2.2 := (it_r (I := fun s : Int32 × Int32 × Int32 × Mem => Fx C L A s.2.2.2) (Q := (fun r : Int32 × Int32 × Mem => Fx C L A r.2.2)) (fun s_ r_ hs_ er_ => wl_Mod_open_27 v1 v2 s_ (sb_t (by decide +kernel) hC) hs_ er_) e_x13 p_M1)
  rcases io e with ⟨_, e⟩ | ⟨_, e⟩
  · obtain ⟨M14, e_M14, e⟩ := mo e
    have p_M14 : Fx C L A M14 := wi1 p_x13 e_M14 (tb1 hC (by decide +kernel))
    obtain ⟨x15, e_x15, e⟩ := bo e
    have p_x15 : Fx C L A x15 := (wf_Mod_put x13.2.1 M14 (sb_t (by decide +kernel) hC) p_M14 e_x15)
    obtain rfl := Option.some.inj e
    exact p_x15
  obtain rfl := Option.some.inj e
  exact p_x13
theorem wl_Mod_parts_28 {C : Nat} {L : List Nat} {A : Mem} (rc : Int32 → Int32 → Int32 → Int32 → Int32 → Mem → Option (Int32 × Mem)) (v1 : Int32) (v2 : Int32) (v3 : Int32) (v4 : Int32) (s : Int32 × Mem) (hC : sb 7067388259113537355304668310387440065651748876461008347816820622770569216 C)  (hrc : ∀ u0 u1 u2 u3 u4 (N : Mem) (r : Int32 × Mem), Fx C L A N → rc u0 u1 u2 u3 u4 N = some r → Fx C L A r.2) (p0 : Fx C L A s.2) {r : ((Int32 × Mem) ⊕ ((Mem) ⊕ (Mem)))} (e : lb_Mod_parts_28 rc v1 v2 v3 v4 s = some r) : (Sum.elim (fun r : Int32 × Mem => Fx C L A r.2) (Sum.elim (fun r : Mem => Fx C L A r) (fun r : Mem => Fx C L A r))) r := by
  unfold lb_Mod_parts_28 at e
  obtain ⟨x1, e_x1, e⟩ := bo e
  rcases io e with ⟨_, e⟩ | ⟨_, e⟩
  · obtain rfl := Option.some.inj e
    exact p0
  obtain ⟨_, e⟩ := io_n e
  rcases io e with ⟨_, e⟩ | ⟨_, e⟩
  · obtain ⟨_, e⟩ := io_n e
    obtain ⟨x2, e_x2, e⟩ := bo e
    rcases io e with ⟨_, e⟩ | ⟨_, e⟩
    · obtain rfl := Option.some.inj e
      exact p0
    obtain ⟨_, e⟩ := io_n e
    obtain ⟨x3, e_x3, e⟩ := bo e
    rcases io e with ⟨_, e⟩ | ⟨_, e⟩
    · obtain rfl := Option.some.inj e
      exact p0
    obtain ⟨_, e⟩ := io_n e
    obtain ⟨M4, e_M4, e⟩ := mo e
    have p_M4 : Fx C L A M4 := wi p0 e_M4 (oc_c hC (by decide +kernel))
    obtain ⟨_, e⟩ := io_n e
    obtain ⟨M5, e_M5, e⟩ := mo e
    have p_M5 : Fx C L A M5 := wi p_M4 e_M5 (oc_c hC (by decide +kernel))
    obtain ⟨x6, e_x6, e⟩ := bo e
    have p_x6 : Fx C L A x6.2 := (hrc _ _ _ _ _ _ _ p_M5 e_x6)
    obtain ⟨_, e⟩ := io_n e
    obtain ⟨M7, e_M7, e⟩ := mo e
    have p_M7 : Fx C L A M7 := wi p_x6 e_M7 (oc_c hC (by decide +kernel))
    rcases io e with ⟨_, e⟩ | ⟨_, e⟩
    · obtain rfl := Option.some.inj e
      exact p_M7
    obtain rfl := Option.some.inj e
    exact p_M7
  obtain rfl := Option.some.inj e
  exact p0
theorem wb_Mod_parts {C : Nat} {L : List Nat} {A : Mem} (rc : Int32 → Int32 → Int32 → Int32 → Int32 → Mem → Option (Int32 × Mem)) (v1 : Int32) (v2 : Int32) (v3 : Int32) (v4 : Int32) (v5 : Int32) (M : Mem) (hC : sb 7067388259113537355304668310387440065651748876461008347816820622770569216 C)  (hrc : ∀ u0 u1 u2 u3 u4 (N : Mem) (r : Int32 × Mem), Fx C L A N → rc u0 u1 u2 u3 u4 N = some r → Fx C L A r.2) (p0 : Fx C L A M) {r : (Int32 × Mem)} (e : fb_Mod_parts rc v1 v2 v3 v4 v5 M = some r) : (fun r : Int32 × Mem => Fx C L A r.2) r := by
  unfold fb_Mod_parts at e
  rcases io e with ⟨_, e⟩ | ⟨_, e⟩
  · obtain ⟨x16, e_x16, e⟩ := bo e
    have p_x16 : Fx C L A x16.2 := (wf_Mod_findTryst v1 v2 M (sb_t (by decide +kernel) hC) p0 e_x16)
    rcases io e with ⟨_, e⟩ | ⟨_, e⟩
    · obtain rfl := Option.some.inj e
      exact p_x16
    obtain rfl := Option.some.inj e
    exact p_x16
  obtain ⟨y_, e_y, e⟩ := bo e
  have q_y := (it_r (I := fun s : Int32 × Mem => Fx C L A s.2) (Q := (Sum.elim (fun r : Mem => Fx C L A r) (fun r : Mem => Fx C L A r))) (fun s_ r_ hs_ er_ => wl_Mod_parts_28 rc v1 v2 v3 v4 s_ (sb_t (by decide +kernel) hC) hrc hs_ er_) e_y p0)
  rcases y_ with y14 | y15
  · have p_y14 : Fx C L A y14 := q_y
    replace e := el_l e
    obtain rfl := Option.some.inj e
    exact p_y14
  · have p_y15 : Fx C L A y15 := q_y
    replace e := el_r e
    obtain rfl := Option.some.inj e
    exact p_y15
theorem wf_Mod_parts0 {C : Nat} {L : List Nat} {A : Mem} (hC : sb 7067388259113537355304668310387440065651748876461008347816820622770569216 C) : ∀ (n : Nat) (a0 a1 a2 a3 a4 : Int32) (N : Mem) (r : Int32 × Mem), Fx C L A N → fr_parts n a0 a1 a2 a3 a4 N = some r → Fx C L A r.2 := by
  intro n
  induction n with
  | zero => intro a0 a1 a2 a3 a4 N r p e; simp [fr_parts] at e
  | succ n ih =>
    intro a0 a1 a2 a3 a4 N r p e
    simp only [fr_parts] at e
    exact wb_Mod_parts _ a0 a1 a2 a3 a4 N hC (fun u0 u1 u2 u3 u4 N r p e => ih u0 u1 u2 u3 u4 N r p e) p e
theorem wf_Mod_parts {C : Nat} {L : List Nat} {A : Mem} (a0 a1 a2 a3 a4 : Int32) (M : Mem) (hC : sb 7067388259113537355304668310387440065651748876461008347816820622770569216 C) (p0 : Fx C L A M) {r : Int32 × Mem} (e : f_Mod_parts a0 a1 a2 a3 a4 M = some r) : Fx C L A r.2 := wf_Mod_parts0 hC 8 a0 a1 a2 a3 a4 M r p0 e
theorem wl_Mod_part_18 {C : Nat} {L : List Nat} {A : Mem} (v1 : Int32) (v2 : Int32) (s : Int32 × Mem) (hC : sb 7067388259113537355304668310387440065651748876461008347816820622770569216 C)  (p0 : Fx C L A s.2) {r : ((Int32 × Mem) ⊕ ((Mem) ⊕ (Int32 × Mem)))} (e : lb_Mod_part_18 v1 v2 s = some r) : (Sum.elim (fun r : Int32 × Mem => Fx C L A r.2) (Sum.elim (fun r : Mem => Fx C L A r) (fun r : Int32 × Mem => Fx C L A r.2))) r := by
  unfold lb_Mod_part_18 at e
  rcases io e with ⟨_, e⟩ | ⟨_, e⟩
  · obtain rfl := Option.some.inj e
    exact p0
  obtain ⟨x3, e_x3, e⟩ := bo e
  have p_x3 : Fx C L A x3.2 := (wf_Mod_parts v1 v2 (0 : Int32) s.1 (0 : Int32) s.2 (sb_t (by decide +kernel) hC) p0 e_x3)
  rcases io e with ⟨_, e⟩ | ⟨_, e⟩
  · obtain rfl := Option.some.inj e
    exact p_x3
  obtain rfl := Option.some.inj e
  exact p_x3
theorem wl_Mod_part_46 {C : Nat} {L : List Nat} {A : Mem} (v3 : Int32) (s : Int32 × Mem) (hC : sb 6582018229285198313039033441376462163248118830987351372125437952 C)  (p0 : Fx C L A s.2) {r : ((Int32 × Mem) ⊕ ((Mem)))} (e : lb_Mod_part_46 v3 s = some r) : (Sum.elim (fun r : Int32 × Mem => Fx C L A r.2) (fun r : Mem => Fx C L A r)) r := by
  unfold lb_Mod_part_46 at e
  rcases io e with ⟨_, e⟩ | ⟨_, e⟩
  · obtain rfl := Option.some.inj e
    exact p0
  obtain ⟨_, e⟩ := io_n e
  obtain ⟨x10, e_x10, e⟩ := bo e
  have p_x10 : Fx C L A x10 := (wf_Mod_put (s.2.1 184 s.1.toNatClampNeg) s.2 (sb_t (by decide +kernel) hC) p0 e_x10)
  obtain rfl := Option.some.inj e
  exact p_x10
theorem wf_Mod_part {C : Nat} {L : List Nat} {A : Mem} (v1 : Int32) (v2 : Int32) (M : Mem) (hC : sb 7067388278859592043159514960666226967487015079571014103872810901684879360 C)  (p0 : Fx C L A M) {r : (Int32 × Mem)} (e : f_Mod_part v1 v2 M = some r) : (fun r : Int32 × Mem => Fx C L A r.2) r := by
  unfold f_Mod_part at e
  obtain ⟨M1, e_M1, e⟩ := mo e
  have p_M1 : Fx C L A M1 := wi1 p0 e_M1 (tb1 hC (by decide +kernel))
  obtain ⟨x2, e_x2, e⟩ := bo e
  rcases io e with ⟨_, e⟩ | ⟨_, e⟩
  · obtain rfl := Option.some.inj e
    exact p_M1
  obtain ⟨y_, e_y, e⟩ := bo e
  have q_y := (it_r (I := fun s : Int32 × Mem => Fx C L A s.2) (Q := (Sum.elim (fun r : Mem => Fx C L A r) (fun r : Int32 × Mem => Fx C L A r.2))) (fun s_ r_ hs_ er_ => wl_Mod_part_18 v1 v2 s_ (sb_t (by decide +kernel) hC) hs_ er_) e_y p_M1)
  rcases y_ with y7 | y8
  · have p_y7 : Fx C L A y7 := q_y
    replace e := el_l e
    obtain rfl := Option.some.inj e
    exact p_y7
  · have p_y8 : Fx C L A y8.2 := q_y
    replace e := el_r e
    obtain ⟨M9, e_M9, e⟩ := mo e
    have p_M9 : Fx C L A M9 := wi1 p_y8 e_M9 (tb1 hC (by decide +kernel))
    obtain ⟨x12, e_x12, e⟩ := bo e
    have p_x12 : Fx C L A x12 := (it_r (I := fun s : Int32 × Mem => Fx C L A s.2) (Q := (fun r : Mem => Fx C L A r)) (fun s_ r_ hs_ er_ => wl_Mod_part_46 y8.1 s_ (sb_t (by decide +kernel) hC) hs_ er_) e_x12 p_M9)
    obtain rfl := Option.some.inj e
    exact p_x12
theorem wl_Mod_planks_27 {C : Nat} {L : List Nat} {A : Mem} (v1 : Int32) (v2 : Int32) (s : Int32 × Mem) (hC : sb 1532495540865888858358347027150309183618739122183602176 C)  (p0 : Fx C L A s.2) {r : ((Int32 × Mem) ⊕ ((Mem)))} (e : lb_Mod_planks_27 v1 v2 s = some r) : (Sum.elim (fun r : Int32 × Mem => Fx C L A r.2) (fun r : Mem => Fx C L A r)) r := by
  unfold lb_Mod_planks_27 at e
  rcases io e with ⟨_, e⟩ | ⟨_, e⟩
  · obtain rfl := Option.some.inj e
    exact p0
  obtain ⟨_, e⟩ := io_n e
  obtain ⟨M4, e_M4, e⟩ := mo e
  have p_M4 : Fx C L A M4 := wi p0 e_M4 (oc_c hC (by decide +kernel))
  obtain rfl := Option.some.inj e
  exact p_M4
theorem wj_Mod_planks_172_102 {C : Nat} {L : List Nat} {A : Mem} (v2 : Int32) (v3 : Int32) (v4 : Int32) (v5 : Int32) (w0 : Int32) (M : Mem) (hC : sb 1532495540865888858358347027150309183618739122183602176 C)  (p0 : Fx C L A M) {r : ((Int32 × Int32 × Mem) ⊕ ((Int32 × Mem)))} (e : j_Mod_planks_172_102 v2 v3 v4 v5 w0 M = some r) : (Sum.elim (fun r : Int32 × Int32 × Mem => Fx C L A r.2.2) (fun r : Int32 × Mem => Fx C L A r.2)) r := by
  unfold j_Mod_planks_172_102 at e
  rcases io e with ⟨_, e⟩ | ⟨_, e⟩
  · obtain rfl := Option.some.inj e
    exact p0
  obtain ⟨x17, e_x17, e⟩ := bo e
  rcases io e with ⟨_, e⟩ | ⟨_, e⟩
  · obtain rfl := Option.some.inj e
    exact p0
  obtain ⟨x18, e_x18, e⟩ := bo e
  obtain ⟨x19, e_x19, e⟩ := bo e
  obtain ⟨_, e⟩ := io_n e
  obtain ⟨x20, e_x20, e⟩ := bo e
  have p_x20 : Fx C L A x20.2 := (wf_Mod_lowerBoth x18 ((M.1 180 x19.toNatClampNeg) + (1001 : Int32)) M (sb_t (by decide +kernel) hC) p0 e_x20)
  obtain rfl := Option.some.inj e
  exact p_x20
theorem wl_Mod_planks_102 {C : Nat} {L : List Nat} {A : Mem} (v2 : Int32) (v4 : Int32) (s : Int32 × Int32 × Mem) (hC : sb 1532495540865888858358347027150309183618739122183602176 C)  (p0 : Fx C L A s.2.2) {r : ((Int32 × Int32 × Mem) ⊕ ((Int32 × Mem)))} (e : lb_Mod_planks_102 v2 v4 s = some r) : (Sum.elim (fun r : Int32 × Int32 × Mem => Fx C L A r.2.2) (fun r : Int32 × Mem => Fx C L A r.2)) r := by
  unfold lb_Mod_planks_102 at e
  rcases io e with ⟨_, e⟩ | ⟨_, e⟩
  · obtain rfl := Option.some.inj e
    exact p0
  obtain ⟨x11, e_x11, e⟩ := bo e
  obtain ⟨x12, e_x12, e⟩ := bo e
  obtain ⟨x13, e_x13, e⟩ := bo e
  obtain ⟨_, e⟩ := io_n e
  obtain ⟨x14, e_x14, e⟩ := bo e
  have p_x14 : Fx C L A x14.2 := (wf_Mod_lowerBoth x12 ((s.2.2.1 180 x13.toNatClampNeg) + (1 : Int32)) s.2.2 (sb_t (by decide +kernel) hC) p0 e_x14)
  obtain ⟨x15, e_x15, e⟩ := bo e
  rcases io e with ⟨_, e⟩ | ⟨_, e⟩
  · exact (wj_Mod_planks_172_102 v2 (s.1 ||| x14.1) v4 s.2.1 (-1 : Int32) x14.2 (sb_t (by decide +kernel) hC) p_x14 e)
  obtain ⟨x16, e_x16, e⟩ := bo e
  exact (wj_Mod_planks_172_102 v2 (s.1 ||| x14.1) v4 s.2.1 x16 x14.2 (sb_t (by decide +kernel) hC) p_x14 e)
theorem wl_Mod_planks_70 {C : Nat} {L : List Nat} {A : Mem} (v2 : Int32) (s : Int32 × Int32 × Mem) (hC : sb 1532495540865888858358347027150309183618739122183602176 C)  (p0 : Fx C L A s.2.2) {r : ((Int32 × Int32 × Mem) ⊕ ((Int32 × Mem)))} (e : lb_Mod_planks_70 v2 s = some r) : (Sum.elim (fun r : Int32 × Int32 × Mem => Fx C L A r.2.2) (fun r : Int32 × Mem => Fx C L A r.2)) r := by
  unfold lb_Mod_planks_70 at e
  obtain ⟨x9, e_x9, e⟩ := bo e
  rcases io e with ⟨_, e⟩ | ⟨_, e⟩
  · obtain rfl := Option.some.inj e
    exact p0
  obtain ⟨x10, e_x10, e⟩ := bo e
  obtain ⟨_, e⟩ := io_n e
  rcases io e with ⟨_, e⟩ | ⟨_, e⟩
  · obtain ⟨x25, e_x25, e⟩ := bo e
    have p_x25 : Fx C L A x25.2 := (it_r (I := fun s : Int32 × Int32 × Mem => Fx C L A s.2.2) (Q := (fun r : Int32 × Mem => Fx C L A r.2)) (fun s_ r_ hs_ er_ => wl_Mod_planks_102 v2 s.2.1 s_ (sb_t (by decide +kernel) hC) hs_ er_) e_x25 p0)
    obtain rfl := Option.some.inj e
    exact p_x25
  obtain rfl := Option.some.inj e
  exact p0
theorem wl_Mod_planks_61 {C : Nat} {L : List Nat} {A : Mem} (v2 : Int32) (s : Int32 × Mem) (hC : sb 1532495540865888858358347027150309183618739122183602176 C)  (p0 : Fx C L A s.2) {r : ((Int32 × Mem) ⊕ ((Mem)))} (e : lb_Mod_planks_61 v2 s = some r) : (Sum.elim (fun r : Int32 × Mem => Fx C L A r.2) (fun r : Mem => Fx C L A r)) r := by
  unfold lb_Mod_planks_61 at e
  rcases io e with ⟨_, e⟩ | ⟨_, e⟩
  · obtain rfl := Option.some.inj e
    exact p0
  obtain ⟨x28, e_x28, e⟩ := bo e
  have p_x28 : Fx C L A x28.2 := (it_r (I := fun s : Int32 × Int32 × Mem => Fx C L A s.2.2) (Q := (fun r : Int32 × Mem => Fx C L A r.2)) (fun s_ r_ hs_ er_ => wl_Mod_planks_70 v2 s_ (sb_t (by decide +kernel) hC) hs_ er_) e_x28 p0)
  obtain rfl := Option.some.inj e
  exact p_x28
theorem wf_Mod_planks {C : Nat} {L : List Nat} {A : Mem} (v1 : Int32) (v2 : Int32) (M : Mem) (hC : sb 19746054689387342191144675760193613230260314939674729401097912320 C)  (p0 : Fx C L A M) {r : (Int32 × Mem)} (e : f_Mod_planks v1 v2 M = some r) : (fun r : Int32 × Mem => Fx C L A r.2) r := by
  unfold f_Mod_planks at e
  obtain ⟨M1, e_M1, e⟩ := mo e
  have p_M1 : Fx C L A M1 := wi1 p0 e_M1 (tb1 hC (by decide +kernel))
  obtain ⟨x2, e_x2, e⟩ := bo e
  rcases io e with ⟨_, e⟩ | ⟨_, e⟩
  · obtain rfl := Option.some.inj e
    exact p_M1
  obtain ⟨x3, e_x3, e⟩ := bo e
  rcases io e with ⟨_, e⟩ | ⟨_, e⟩
  · obtain rfl := Option.some.inj e
    exact p_M1
  obtain ⟨x6, e_x6, e⟩ := bo e
  have p_x6 : Fx C L A x6 := (it_r (I := fun s : Int32 × Mem => Fx C L A s.2) (Q := (fun r : Mem => Fx C L A r)) (fun s_ r_ hs_ er_ => wl_Mod_planks_27 v1 v2 s_ (sb_t (by decide +kernel) hC) hs_ er_) e_x6 p_M1)
  obtain ⟨x7, e_x7, e⟩ := bo e
  obtain ⟨_, e⟩ := io_n e
  obtain ⟨M8, e_M8, e⟩ := mo e
  have p_M8 : Fx C L A M8 := wi p_x6 e_M8 (oc_c hC (by decide +kernel))
  obtain ⟨x30, e_x30, e⟩ := bo e
  have p_x30 : Fx C L A x30 := (it_r (I := fun s : Int32 × Mem => Fx C L A s.2) (Q := (fun r : Mem => Fx C L A r)) (fun s_ r_ hs_ er_ => wl_Mod_planks_61 v2 s_ (sb_t (by decide +kernel) hC) hs_ er_) e_x30 p_M8)
  obtain ⟨x31, e_x31, e⟩ := bo e
  obtain ⟨_, e⟩ := io_n e
  rcases io e with ⟨_, e⟩ | ⟨_, e⟩
  · obtain ⟨M32, e_M32, e⟩ := mo e
    have p_M32 : Fx C L A M32 := wi1 p_x30 e_M32 (tb1 hC (by decide +kernel))
    obtain ⟨x33, e_x33, e⟩ := bo e
    have p_x33 : Fx C L A x33 := (wf_Mod_put ((x30.1 180 x31.toNatClampNeg) - (((x30.1 180 x31.toNatClampNeg) / (1000 : Int32)) * (1000 : Int32))) M32 (sb_t (by decide +kernel) hC) p_M32 e_x33)
    obtain rfl := Option.some.inj e
    exact p_x33
  obtain rfl := Option.some.inj e
  exact p_x30
theorem wj_Mod_fire_21 {C : Nat} {L : List Nat} {A : Mem} (v1 : Int32) (M : Mem) (hC : sb 411376139330301510538742295639337626245683966408394965837152256 C)  (p0 : Fx C L A M) {r : (Int32 × Mem)} (e : j_Mod_fire_21 v1 M = some r) : (fun r : Int32 × Mem => Fx C L A r.2) r := by
  unfold j_Mod_fire_21 at e
  obtain ⟨M2, e_M2, e⟩ := mo e
  have p_M2 : Fx C L A M2 := wi1 p0 e_M2 (tb1 hC (by decide +kernel))
  obtain rfl := Option.some.inj e
  exact p_M2
theorem wf_Mod_fire {C : Nat} {L : List Nat} {A : Mem} (v1 : Int32) (M : Mem) (hC : sb 13575412597899949847778495756098141666107570891477033872626024448 C)  (p0 : Fx C L A M) {r : (Int32 × Mem)} (e : f_Mod_fire v1 M = some r) : (fun r : Int32 × Mem => Fx C L A r.2) r := by
  unfold f_Mod_fire at e
  obtain ⟨M1, e_M1, e⟩ := mo e
  have p_M1 : Fx C L A M1 := wi1 p0 e_M1 (tb1 hC (by decide +kernel))
  rcases io e with ⟨_, e⟩ | ⟨_, e⟩
  · exact (wj_Mod_fire_21 v1 M1 (sb_t (by decide +kernel) hC) p_M1 e)
  obtain ⟨x3, e_x3, e⟩ := bo e
  rcases io e with ⟨_, e⟩ | ⟨_, e⟩
  · obtain rfl := Option.some.inj e
    exact p_M1
  exact (wj_Mod_fire_21 v1 M1 (sb_t (by decide +kernel) hC) p_M1 e)
theorem wf_Mod_fights1 {C : Nat} {L : List Nat} {A : Mem} (v1 : Int32) (M : Mem) (hC : sb 191561942608236107294793378393788647952342390272950272 C)  (p0 : Fx C L A M) {r : (Int32 × Mem)} (e : f_Mod_fights1 v1 M = some r) : (fun r : Int32 × Mem => Fx C L A r.2) r := by
  unfold f_Mod_fights1 at e
  obtain ⟨_, e⟩ := io_n e
  obtain ⟨x1, e_x1, e⟩ := bo e
  have p_x1 : Fx C L A x1 := (wf_Mod_findFar (M.1 163 v1.toNatClampNeg) M (sb_t (by decide +kernel) hC) p0 e_x1)
  obtain ⟨x7, e_x7, e⟩ := bo e
  obtain rfl := Option.some.inj e
  exact p_x1
theorem wl_Mod_fights_32 {C : Nat} {L : List Nat} {A : Mem} (v1 : Int32) (s : Int32 × Int32 × Mem) (hC : sb 191561942608236107294793378393788647952342390272950272 C)  (p0 : Fx C L A s.2.2) {r : ((Int32 × Int32 × Mem) ⊕ ((Int32 × Mem)))} (e : lb_Mod_fights_32 v1 s = some r) : (Sum.elim (fun r : Int32 × Int32 × Mem => Fx C L A r.2.2) (fun r : Int32 × Mem => Fx C L A r.2)) r := by
  unfold lb_Mod_fights_32 at e
  rcases io e with ⟨_, e⟩ | ⟨_, e⟩
  · obtain rfl := Option.some.inj e
    exact p0
  obtain ⟨x3, e_x3, e⟩ := bo e
  have p_x3 : Fx C L A x3.2 := (wf_Mod_fights1 s.2.1 s.2.2 (sb_t (by decide +kernel) hC) p0 e_x3)
  rcases io e with ⟨_, e⟩ | ⟨_, e⟩
  · obtain rfl := Option.some.inj e
    exact p_x3
  obtain rfl := Option.some.inj e
  exact p_x3
theorem wf_Mod_fights {C : Nat} {L : List Nat} {A : Mem} (v1 : Int32) (M : Mem) (hC : sb 19746054688046408592887023009130059581503794404008332669187260416 C)  (p0 : Fx C L A M) {r : (Int32 × Mem)} (e : f_Mod_fights v1 M = some r) : (fun r : Int32 × Mem => Fx C L A r.2) r := by
  unfold f_Mod_fights at e
  obtain ⟨M1, e_M1, e⟩ := mo e
  have p_M1 : Fx C L A M1 := wi1 p0 e_M1 (tb1 hC (by decide +kernel))
  obtain ⟨x2, e_x2, e⟩ := bo e
  rcases io e with ⟨_, e⟩ | ⟨_, e⟩
  · obtain rfl := Option.some.inj e
    exact p_M1
  rcases io e with ⟨_, e⟩ | ⟨_, e⟩
  · obtain rfl := Option.some.inj e
    exact p_M1
  obtain ⟨x6, e_x6, e⟩ := bo e
  have p_x6 : Fx C L A x6.2 := (it_r (I := fun s : Int32 × Int32 × Mem => Fx C L A s.2.2) (Q := (fun r : Int32 × Mem => Fx C L A r.2)) (fun s_ r_ hs_ er_ => wl_Mod_fights_32 v1 s_ (sb_t (by decide +kernel) hC) hs_ er_) e_x6 p_M1)
  obtain ⟨M7, e_M7, e⟩ := mo e
  have p_M7 : Fx C L A M7 := wi1 p_x6 e_M7 (tb1 hC (by decide +kernel))
  obtain ⟨x8, e_x8, e⟩ := bo e
  obtain ⟨x9, e_x9, e⟩ := bo e
  have p_x9 : Fx C L A x9 := (wf_Mod_put x8 M7 (sb_t (by decide +kernel) hC) p_M7 e_x9)
  obtain ⟨x10, e_x10, e⟩ := bo e
  obtain ⟨x11, e_x11, e⟩ := bo e
  have p_x11 : Fx C L A x11 := (wf_Mod_put x10 x9 (sb_t (by decide +kernel) hC) p_x9 e_x11)
  obtain rfl := Option.some.inj e
  exact p_x11
theorem wj_Mod_saved_75_32 {C : Nat} {L : List Nat} {A : Mem} (v1 : Int32) (v2 : Int32) (v3 : Int32) (v4 : Int32) (v5 : Int32) (v6 : Int32) (M : Mem) (hC : sb 0 C)  (p0 : Fx C L A M) {r : ((Int32 × Int32 × Int32 × Int32 × Int32 × Mem) ⊕ ((Int32 × Int32 × Int32 × Int32 × Mem)))} (e : j_Mod_saved_75_32 v1 v2 v3 v4 v5 v6 M = some r) : (Sum.elim (fun r : Int32 × Int32 × Int32 × Int32 × Int32 × Mem => Fx C L A r.2.2.2.2.2) (fun r : Int32 × Int32 × Int32 × Int32 × Mem => Fx C L A r.2.2.2.2)) r := by
  unfold j_Mod_saved_75_32 at e
  obtain ⟨x4, e_x4, e⟩ := bo e
  rcases io e with ⟨_, e⟩ | ⟨_, e⟩
  · rcases io e with ⟨_, e⟩ | ⟨_, e⟩
    · obtain rfl := Option.some.inj e
      exact p0
    obtain rfl := Option.some.inj e
    exact p0
  obtain rfl := Option.some.inj e
  exact p0
theorem wl_Mod_saved_32 {C : Nat} {L : List Nat} {A : Mem} (s : Int32 × Int32 × Int32 × Int32 × Int32 × Mem) (hC : sb 191561942608236107294793378393788647952342390272950272 C)  (p0 : Fx C L A s.2.2.2.2.2) {r : ((Int32 × Int32 × Int32 × Int32 × Int32 × Mem) ⊕ ((Int32 × Int32 × Int32 × Int32 × Mem)))} (e : lb_Mod_saved_32 s = some r) : (Sum.elim (fun r : Int32 × Int32 × Int32 × Int32 × Int32 × Mem => Fx C L A r.2.2.2.2.2) (fun r : Int32 × Int32 × Int32 × Int32 × Mem => Fx C L A r.2.2.2.2)) r := by
  unfold lb_Mod_saved_32 at e
  rcases io e with ⟨_, e⟩ | ⟨_, e⟩
  · obtain rfl := Option.some.inj e
    exact p0
  obtain ⟨x2, e_x2, e⟩ := bo e
  have p_x2 : Fx C L A x2.2 := (wf_Mod_fights1 s.2.2.2.2.1 s.2.2.2.2.2 (sb_t (by decide +kernel) hC) p0 e_x2)
  obtain ⟨x3, e_x3, e⟩ := bo e
  rcases io e with ⟨_, e⟩ | ⟨_, e⟩
  · exact (wj_Mod_saved_75_32 s.1 s.2.1 s.2.2.1 s.2.2.2.1 s.2.2.2.2.1 x2.1 x2.2 (sb_t (by decide +kernel) hC) p_x2 e)
  rcases io e with ⟨_, e⟩ | ⟨_, e⟩
  · exact (wj_Mod_saved_75_32 s.1 s.2.1 s.2.2.1 s.2.2.2.1 s.2.2.2.2.1 x2.1 x2.2 (sb_t (by decide +kernel) hC) p_x2 e)
  exact (wj_Mod_saved_75_32 s.1 s.2.2.2.2.1 s.2.2.1 x2.1 s.2.2.2.2.1 x2.1 x2.2 (sb_t (by decide +kernel) hC) p_x2 e)
theorem wf_Mod_saved {C : Nat} {L : List Nat} {A : Mem} (M : Mem) (hC : sb 19746054688046408592887023009130059581503794404008332669187260416 C)  (p0 : Fx C L A M) {r : (Int32 × Mem)} (e : f_Mod_saved M = some r) : (fun r : Int32 × Mem => Fx C L A r.2) r := by
  unfold f_Mod_saved at e
  obtain ⟨M1, e_M1, e⟩ := mo e
  have p_M1 : Fx C L A M1 := wi1 p0 e_M1 (tb1 hC (by decide +kernel))
  rcases io e with ⟨_, e⟩ | ⟨_, e⟩
  · obtain rfl := Option.some.inj e
    exact p_M1
  obtain ⟨x10, e_x10, e⟩ := bo e
  have p_x10 : Fx C L A x10.2.2.2.2 := (it_r (I := fun s : Int32 × Int32 × Int32 × Int32 × Int32 × Mem => Fx C L A s.2.2.2.2.2) (Q := (fun r : Int32 × Int32 × Int32 × Int32 × Mem => Fx C L A r.2.2.2.2)) (fun s_ r_ hs_ er_ => wl_Mod_saved_32  s_ (sb_t (by decide +kernel) hC) hs_ er_) e_x10 p_M1)
  rcases io e with ⟨_, e⟩ | ⟨_, e⟩
  · obtain ⟨M11, e_M11, e⟩ := mo e
    have p_M11 : Fx C L A M11 := wi1 p_x10 e_M11 (tb1 hC (by decide +kernel))
    obtain ⟨x12, e_x12, e⟩ := bo e
    have p_x12 : Fx C L A x12 := (wf_Mod_put x10.1 M11 (sb_t (by decide +kernel) hC) p_M11 e_x12)
    obtain ⟨x13, e_x13, e⟩ := bo e
    have p_x13 : Fx C L A x13 := (wf_Mod_put x10.2.1 x12 (sb_t (by decide +kernel) hC) p_x12 e_x13)
    obtain rfl := Option.some.inj e
    exact p_x13
  obtain rfl := Option.some.inj e
  exact p_x10
theorem wl_Mod_wardrobe_45 {C : Nat} {L : List Nat} {A : Mem} (v1 : Int32) (v2 : Int32) (s : Int32 × Mem) (hC : sb 49039857307708443467467104868809893875799651909875269632 C)  (p0 : Fx C L A s.2) {r : ((Int32 × Mem) ⊕ ((Mem)))} (e : lb_Mod_wardrobe_45 v1 v2 s = some r) : (Sum.elim (fun r : Int32 × Mem => Fx C L A r.2) (fun r : Mem => Fx C L A r)) r := by
  unfold lb_Mod_wardrobe_45 at e
  rcases io e with ⟨_, e⟩ | ⟨_, e⟩
  · obtain rfl := Option.some.inj e
    exact p0
  obtain ⟨_, e⟩ := io_n e
  obtain ⟨M4, e_M4, e⟩ := mo e
  have p_M4 : Fx C L A M4 := wi p0 e_M4 (oc_c hC (by decide +kernel))
  obtain rfl := Option.some.inj e
  exact p_M4
theorem wj_Mod_wardrobe_168_138 {C : Nat} {L : List Nat} {A : Mem} (v1 : Int32) (v3 : Int32) (v4 : Int32) (v5 : Int32) (v6 : Int32) (v7 : Int32) (w0 : Int32) (M : Mem) (hC : sb 49039857307708443467467104868809893875799651909875269632 C)  (p0 : Fx C L A M) {r : ((Int32 × Int32 × Mem) ⊕ ((Int32 × Mem)))} (e : j_Mod_wardrobe_168_138 v1 v3 v4 v5 v6 v7 w0 M = some r) : (Sum.elim (fun r : Int32 × Int32 × Mem => Fx C L A r.2.2) (fun r : Int32 × Mem => Fx C L A r.2)) r := by
  unfold j_Mod_wardrobe_168_138 at e
  rcases io e with ⟨_, e⟩ | ⟨_, e⟩
  · obtain rfl := Option.some.inj e
    exact p0
  obtain ⟨_, e⟩ := io_n e
  rcases io e with ⟨_, e⟩ | ⟨_, e⟩
  · obtain ⟨_, e⟩ := io_n e
    obtain ⟨M11, e_M11, e⟩ := mo e
    have p_M11 : Fx C L A M11 := wi p0 e_M11 (oc_c hC (by decide +kernel))
    obtain rfl := Option.some.inj e
    exact p_M11
  obtain rfl := Option.some.inj e
  exact p0
theorem wl_Mod_wardrobe_138 {C : Nat} {L : List Nat} {A : Mem} (v1 : Int32) (v4 : Int32) (v5 : Int32) (v6 : Int32) (s : Int32 × Int32 × Mem) (hC : sb 49039857307708443467467104868809893875799651909875269632 C)  (p0 : Fx C L A s.2.2) {r : ((Int32 × Int32 × Mem) ⊕ ((Int32 × Mem)))} (e : lb_Mod_wardrobe_138 v1 v4 v5 v6 s = some r) : (Sum.elim (fun r : Int32 × Int32 × Mem => Fx C L A r.2.2) (fun r : Int32 × Mem => Fx C L A r.2)) r := by
  unfold lb_Mod_wardrobe_138 at e
  rcases io e with ⟨_, e⟩ | ⟨_, e⟩
  · obtain rfl := Option.some.inj e
    exact p0
  rcases io e with ⟨_, e⟩ | ⟨_, e⟩
  · obtain ⟨x10, e_x10, e⟩ := bo e
    exact (wj_Mod_wardrobe_168_138 v1 s.1 v4 v5 v6 s.2.1 x10 s.2.2 (sb_t (by decide +kernel) hC) p0 e)
  exact (wj_Mod_wardrobe_168_138 v1 s.1 v4 v5 v6 s.2.1 (-1 : Int32) s.2.2 (sb_t (by decide +kernel) hC) p0 e)
theorem wl_Mod_wardrobe_105 {C : Nat} {L : List Nat} {A : Mem} (v1 : Int32) (v4 : Int32) (v5 : Int32) (s : Int32 × Int32 × Mem) (hC : sb 49039857307708443467467104868809893875799651909875269632 C)  (p0 : Fx C L A s.2.2) {r : ((Int32 × Int32 × Mem) ⊕ ((Int32 × Mem)))} (e : lb_Mod_wardrobe_105 v1 v4 v5 s = some r) : (Sum.elim (fun r : Int32 × Int32 × Mem => Fx C L A r.2.2) (fun r : Int32 × Mem => Fx C L A r.2)) r := by
  unfold lb_Mod_wardrobe_105 at e
  obtain ⟨x9, e_x9, e⟩ := bo e
  rcases io e with ⟨_, e⟩ | ⟨_, e⟩
  · obtain rfl := Option.some.inj e
    exact p0
  obtain ⟨_, e⟩ := io_n e
  rcases io e with ⟨_, e⟩ | ⟨_, e⟩
  · obtain ⟨x16, e_x16, e⟩ := bo e
    have p_x16 : Fx C L A x16.2 := (it_r (I := fun s : Int32 × Int32 × Mem => Fx C L A s.2.2) (Q := (fun r : Int32 × Mem => Fx C L A r.2)) (fun s_ r_ hs_ er_ => wl_Mod_wardrobe_138 v1 v4 v5 s.2.1 s_ (sb_t (by decide +kernel) hC) hs_ er_) e_x16 p0)
    obtain rfl := Option.some.inj e
    exact p_x16
  obtain rfl := Option.some.inj e
  exact p0
theorem wl_Mod_wardrobe_93 {C : Nat} {L : List Nat} {A : Mem} (v1 : Int32) (v4 : Int32) (s : Int32 × Int32 × Mem) (hC : sb 49039857307708443467467104868809893875799651909875269632 C)  (p0 : Fx C L A s.2.2) {r : ((Int32 × Int32 × Mem) ⊕ ((Int32 × Mem)))} (e : lb_Mod_wardrobe_93 v1 v4 s = some r) : (Sum.elim (fun r : Int32 × Int32 × Mem => Fx C L A r.2.2) (fun r : Int32 × Mem => Fx C L A r.2)) r := by
  unfold lb_Mod_wardrobe_93 at e
  obtain ⟨x8, e_x8, e⟩ := bo e
  rcases io e with ⟨_, e⟩ | ⟨_, e⟩
  · obtain rfl := Option.some.inj e
    exact p0
  obtain ⟨x19, e_x19, e⟩ := bo e
  have p_x19 : Fx C L A x19.2 := (it_r (I := fun s : Int32 × Int32 × Mem => Fx C L A s.2.2) (Q := (fun r : Int32 × Mem => Fx C L A r.2)) (fun s_ r_ hs_ er_ => wl_Mod_wardrobe_105 v1 v4 s.2.1 s_ (sb_t (by decide +kernel) hC) hs_ er_) e_x19 p0)
  obtain rfl := Option.some.inj e
  exact p_x19
theorem wl_Mod_wardrobe_84 {C : Nat} {L : List Nat} {A : Mem} (v1 : Int32) (s : Int32 × Int32 × Mem) (hC : sb 49039857307708443467467104868809893875799651909875269632 C)  (p0 : Fx C L A s.2.2) {r : ((Int32 × Int32 × Mem) ⊕ ((Mem)))} (e : lb_Mod_wardrobe_84 v1 s = some r) : (Sum.elim (fun r : Int32 × Int32 × Mem => Fx C L A r.2.2) (fun r : Mem => Fx C L A r)) r := by
  unfold lb_Mod_wardrobe_84 at e
  rcases io e with ⟨_, e⟩ | ⟨_, e⟩
  · obtain rfl := Option.some.inj e
    exact p0
  obtain ⟨x21, e_x21, e⟩ := bo e
  have p_x21 : Fx C L A x21.2 := (it_r (I := fun s : Int32 × Int32 × Mem => Fx C L A s.2.2) (Q := (fun r : Int32 × Mem => Fx C L A r.2)) (fun s_ r_ hs_ er_ => wl_Mod_wardrobe_93 v1 s.2.1 s_ (sb_t (by decide +kernel) hC) hs_ er_) e_x21 p0)
  obtain rfl := Option.some.inj e
  exact p_x21
theorem wj_Mod_wardrobe_344_267 {C : Nat} {L : List Nat} {A : Mem} (v4 : Int32) (v5 : Int32) (v6 : Int32) (v7 : Int32) (v8 : Int32) (M : Mem) (hC : sb 0 C)  (p0 : Fx C L A M) {r : ((Int32 × Int32 × Int32 × Mem) ⊕ ((Mem)))} (e : j_Mod_wardrobe_344_267 v4 v5 v6 v7 v8 M = some r) : (Sum.elim (fun r : Int32 × Int32 × Int32 × Mem => Fx C L A r.2.2.2) (fun r : Mem => Fx C L A r)) r := by
  unfold j_Mod_wardrobe_344_267 at e
  obtain ⟨x31, e_x31, e⟩ := bo e
  obtain rfl := Option.some.inj e
  exact p0
theorem wl_Mod_wardrobe_267 {C : Nat} {L : List Nat} {A : Mem} (v4 : Int32) (s : Int32 × Int32 × Int32 × Mem) (hC : sb 6582018229285198313039033441376462163248118830987351372125437952 C)  (p0 : Fx C L A s.2.2.2) {r : ((Int32 × Int32 × Int32 × Mem) ⊕ ((Mem)))} (e : lb_Mod_wardrobe_267 v4 s = some r) : (Sum.elim (fun r : Int32 × Int32 × Int32 × Mem => Fx C L A r.2.2.2) (fun r : Mem => Fx C L A r)) r := by
  unfold lb_Mod_wardrobe_267 at e
  rcases io e with ⟨_, e⟩ | ⟨_, e⟩
  · obtain rfl := Option.some.inj e
    exact p0
  obtain ⟨x30, e_x30, e⟩ := bo e
  rcases io e with ⟨_, e⟩ | ⟨_, e⟩
  · exact (wj_Mod_wardrobe_344_267 v4 s.1 s.2.1 s.2.2.1 x30 s.2.2.2 (sb_t (by decide +kernel) hC) p0 e)
  obtain ⟨x32, e_x32, e⟩ := bo e
  have p_x32 : Fx C L A x32 := (wf_Mod_put x30 s.2.2.2 (sb_t (by decide +kernel) hC) p0 e_x32)
  exact (wj_Mod_wardrobe_344_267 v4 s.1 s.2.1 s.2.2.1 x30 x32 (sb_t (by decide +kernel) hC) p_x32 e)
theorem wf_Mod_wardrobe {C : Nat} {L : List Nat} {A : Mem} (v1 : Int32) (v2 : Int32) (M : Mem) (hC : sb 19746054736894703957987230369302371071919899631855642188789579776 C)  (p0 : Fx C L A M) {r : (Int32 × Mem)} (e : f_Mod_wardrobe v1 v2 M = some r) : (fun r : Int32 × Mem => Fx C L A r.2) r := by
  unfold f_Mod_wardrobe at e
  obtain ⟨M1, e_M1, e⟩ := mo e
  have p_M1 : Fx C L A M1 := wi1 p0 e_M1 (tb1 hC (by decide +kernel))
  obtain ⟨x2, e_x2, e⟩ := bo e
  rcases io e with ⟨_, e⟩ | ⟨_, e⟩
  · obtain rfl := Option.some.inj e
    exact p_M1
  obtain ⟨x3, e_x3, e⟩ := bo e
  rcases io e with ⟨_, e⟩ | ⟨_, e⟩
  · obtain rfl := Option.some.inj e
    exact p_M1
  obtain ⟨_, e⟩ := io_n e
  rcases io e with ⟨_, e⟩ | ⟨_, e⟩
  · obtain ⟨_, e⟩ := io_n e
    rcases io e with ⟨_, e⟩ | ⟨_, e⟩
    · obtain ⟨x6, e_x6, e⟩ := bo e
      have p_x6 : Fx C L A x6 := (it_r (I := fun s : Int32 × Mem => Fx C L A s.2) (Q := (fun r : Mem => Fx C L A r)) (fun s_ r_ hs_ er_ => wl_Mod_wardrobe_45 v1 v2 s_ (sb_t (by decide +kernel) hC) hs_ er_) e_x6 p_M1)
      obtain ⟨_, e⟩ := io_n e
      obtain ⟨M7, e_M7, e⟩ := mo e
      have p_M7 : Fx C L A M7 := wi p_x6 e_M7 (oc_c hC (by decide +kernel))
      obtain ⟨x23, e_x23, e⟩ := bo e
      have p_x23 : Fx C L A x23 := (it_r (I := fun s : Int32 × Int32 × Mem => Fx C L A s.2.2) (Q := (fun r : Mem => Fx C L A r)) (fun s_ r_ hs_ er_ => wl_Mod_wardrobe_84 v1 s_ (sb_t (by decide +kernel) hC) hs_ er_) e_x23 p_M7)
      obtain ⟨_, e⟩ := io_n e
      rcases io e with ⟨_, e⟩ | ⟨_, e⟩
      · obtain ⟨M24, e_M24, e⟩ := mo e
        have p_M24 : Fx C L A M24 := wi1 p_x23 e_M24 (tb1 hC (by decide +kernel))
        obtain ⟨x35, e_x35, e⟩ := bo e
        have p_x35 : Fx C L A x35 := (it_r (I := fun s : Int32 × Int32 × Int32 × Mem => Fx C L A s.2.2.2) (Q := (fun r : Mem => Fx C L A r)) (fun s_ r_ hs_ er_ => wl_Mod_wardrobe_267 (x23.1 185 (((36 : Int32) * v1) + v1).toNatClampNeg) s_ (sb_t (by decide +kernel) hC) hs_ er_) e_x35 p_M24)
        obtain rfl := Option.some.inj e
        exact p_x35
      obtain rfl := Option.some.inj e
      exact p_x23
    obtain rfl := Option.some.inj e
    exact p_M1
  obtain rfl := Option.some.inj e
  exact p_M1
theorem wl_Mod_goThief_2 {C : Nat} {L : List Nat} {A : Mem} (s : Int32 × Mem) (hC : sb 196159429230833773869868419475239575503198607639501078528 C)  (p0 : Fx C L A s.2) {r : ((Int32 × Mem) ⊕ ((Mem)))} (e : lb_Mod_goThief_2 s = some r) : (Sum.elim (fun r : Int32 × Mem => Fx C L A r.2) (fun r : Mem => Fx C L A r)) r := by
  unfold lb_Mod_goThief_2 at e
  rcases io e with ⟨_, e⟩ | ⟨_, e⟩
  · obtain rfl := Option.some.inj e
    exact p0
  obtain ⟨_, e⟩ := io_n e
  obtain ⟨M1, e_M1, e⟩ := mo e
  have p_M1 : Fx C L A M1 := wi p0 e_M1 (oc_c hC (by decide +kernel))
  obtain rfl := Option.some.inj e
  exact p_M1
theorem wl_Mod_goThief_43 {C : Nat} {L : List Nat} {A : Mem} (v1 : Int32) (s : Int32 × Mem) (hC : sb 196159429230833773869868419475239575503198607639501078528 C)  (p0 : Fx C L A s.2) {r : ((Int32 × Mem) ⊕ ((Mem)))} (e : lb_Mod_goThief_43 v1 s = some r) : (Sum.elim (fun r : Int32 × Mem => Fx C L A r.2) (fun r : Mem => Fx C L A r)) r := by
  unfold lb_Mod_goThief_43 at e
  rcases io e with ⟨_, e⟩ | ⟨_, e⟩
  · obtain rfl := Option.some.inj e
    exact p0
  obtain ⟨x4, e_x4, e⟩ := bo e
  rcases io e with ⟨_, e⟩ | ⟨_, e⟩
  · obtain rfl := Option.some.inj e
    exact p0
  obtain ⟨x5, e_x5, e⟩ := bo e
  obtain ⟨_, e⟩ := io_n e
  obtain ⟨M6, e_M6, e⟩ := mo e
  have p_M6 : Fx C L A M6 := wi p0 e_M6 (oc_c hC (by decide +kernel))
  obtain rfl := Option.some.inj e
  exact p_M6
theorem wl_Mod_goThief_23 {C : Nat} {L : List Nat} {A : Mem} (s : Int32 × Mem) (hC : sb 196159429230833773869868419475239575503198607639501078528 C)  (p0 : Fx C L A s.2) {r : ((Int32 × Mem) ⊕ ((Mem)))} (e : lb_Mod_goThief_23 s = some r) : (Sum.elim (fun r : Int32 × Mem => Fx C L A r.2) (fun r : Mem => Fx C L A r)) r := by
  unfold lb_Mod_goThief_23 at e
  rcases io e with ⟨_, e⟩ | ⟨_, e⟩
  · obtain rfl := Option.some.inj e
    exact p0
  obtain ⟨_, e⟩ := io_n e
  rcases io e with ⟨_, e⟩ | ⟨_, e⟩
  · obtain rfl := Option.some.inj e
    exact p0
  obtain ⟨x9, e_x9, e⟩ := bo e
  have p_x9 : Fx C L A x9 := (it_r (I := fun s : Int32 × Mem => Fx C L A s.2) (Q := (fun r : Mem => Fx C L A r)) (fun s_ r_ hs_ er_ => wl_Mod_goThief_43 s.1 s_ (sb_t (by decide +kernel) hC) hs_ er_) e_x9 p0)
  obtain ⟨x10, e_x10, e⟩ := bo e
  obtain ⟨_, e⟩ := io_n e
  rcases io e with ⟨_, e⟩ | ⟨_, e⟩
  · obtain ⟨x11, e_x11, e⟩ := bo e
    obtain ⟨x12, e_x12, e⟩ := bo e
    obtain ⟨x13, e_x13, e⟩ := bo e
    obtain ⟨_, e⟩ := io_n e
    obtain ⟨M14, e_M14, e⟩ := mo e
    have p_M14 : Fx C L A M14 := wi p_x9 e_M14 (oc_c hC (by decide +kernel))
    obtain rfl := Option.some.inj e
    exact p_M14
  obtain rfl := Option.some.inj e
  exact p_x9
theorem wj_Mod_goThief_163_126 {C : Nat} {L : List Nat} {A : Mem} (v1 : Int32) (v2 : Int32) (w0 : Int32) (w1 : Int32) (M : Mem) (hC : sb 98079714615416886934934209737619787751599303819750539264 C)  (p0 : Fx C L A M) {r : ((Int32 × Int32 × Mem) ⊕ ((Int32 × Mem)))} (e : j_Mod_goThief_163_126 v1 v2 w0 w1 M = some r) : (Sum.elim (fun r : Int32 × Int32 × Mem => Fx C L A r.2.2) (fun r : Int32 × Mem => Fx C L A r.2)) r := by
  unfold j_Mod_goThief_163_126 at e
  obtain ⟨_, e⟩ := io_n e
  obtain ⟨M19, e_M19, e⟩ := mo e
  have p_M19 : Fx C L A M19 := wi p0 e_M19 (oc_c hC (by decide +kernel))
  obtain ⟨_, e⟩ := io_n e
  obtain rfl := Option.some.inj e
  exact p_M19
theorem wl_Mod_goThief_126 {C : Nat} {L : List Nat} {A : Mem} (s : Int32 × Int32 × Mem) (hC : sb 98079714615416886934934209737619787751599303819750539264 C)  (p0 : Fx C L A s.2.2) {r : ((Int32 × Int32 × Mem) ⊕ ((Int32 × Mem)))} (e : lb_Mod_goThief_126 s = some r) : (Sum.elim (fun r : Int32 × Int32 × Mem => Fx C L A r.2.2) (fun r : Int32 × Mem => Fx C L A r.2)) r := by
  unfold lb_Mod_goThief_126 at e
  rcases io e with ⟨_, e⟩ | ⟨_, e⟩
  · obtain rfl := Option.some.inj e
    exact p0
  obtain ⟨_, e⟩ := io_n e
  rcases io e with ⟨_, e⟩ | ⟨_, e⟩
  · exact (wj_Mod_goThief_163_126 s.1 s.2.1 (0 : Int32) s.2.1 s.2.2 (sb_t (by decide +kernel) hC) p0 e)
  obtain ⟨x20, e_x20, e⟩ := bo e
  rcases io e with ⟨_, e⟩ | ⟨_, e⟩
  · exact (wj_Mod_goThief_163_126 s.1 s.2.1 (1 : Int32) s.2.1 s.2.2 (sb_t (by decide +kernel) hC) p0 e)
  exact (wj_Mod_goThief_163_126 s.1 s.2.1 (0 : Int32) s.2.1 s.2.2 (sb_t (by decide +kernel) hC) p0 e)
theorem wf_Mod_goThief {C : Nat} {L : List Nat} {A : Mem} (M : Mem) (hC : sb 294239143846250660804802629212859363254797911459251617792 C)  (p0 : Fx C L A M) {r : (Int32 × Mem)} (e : f_Mod_goThief M = some r) : (fun r : Int32 × Mem => Fx C L A r.2) r := by
  unfold f_Mod_goThief at e
  obtain ⟨x3, e_x3, e⟩ := bo e
  have p_x3 : Fx C L A x3 := (it_r (I := fun s : Int32 × Mem => Fx C L A s.2) (Q := (fun r : Mem => Fx C L A r)) (fun s_ r_ hs_ er_ => wl_Mod_goThief_2  s_ (sb_t (by decide +kernel) hC) hs_ er_) e_x3 p0)
  obtain ⟨x18, e_x18, e⟩ := bo e
  have p_x18 : Fx C L A x18 := (it_r (I := fun s : Int32 × Mem => Fx C L A s.2) (Q := (fun r : Mem => Fx C L A r)) (fun s_ r_ hs_ er_ => wl_Mod_goThief_23  s_ (sb_t (by decide +kernel) hC) hs_ er_) e_x18 p_x3)
  obtain ⟨x24, e_x24, e⟩ := bo e
  have p_x24 : Fx C L A x24.2 := (it_r (I := fun s : Int32 × Int32 × Mem => Fx C L A s.2.2) (Q := (fun r : Int32 × Mem => Fx C L A r.2)) (fun s_ r_ hs_ er_ => wl_Mod_goThief_126  s_ (sb_t (by decide +kernel) hC) hs_ er_) e_x24 p_x18)
  obtain ⟨_, e⟩ := io_n e
  obtain rfl := Option.some.inj e
  exact p_x24
theorem wl_Mod_thiefIn_14 {C : Nat} {L : List Nat} {A : Mem} (v1 : Int32) (v2 : Int32) (s : Int32 × Mem) (hC : sb 98079714615416886934934209737619787751599303819750539264 C)  (p0 : Fx C L A s.2) {r : ((Int32 × Mem) ⊕ ((Mem)))} (e : lb_Mod_thiefIn_14 v1 v2 s = some r) : (Sum.elim (fun r : Int32 × Mem => Fx C L A r.2) (fun r : Mem => Fx C L A r)) r := by
  unfold lb_Mod_thiefIn_14 at e
  rcases io e with ⟨_, e⟩ | ⟨_, e⟩
  · obtain rfl := Option.some.inj e
    exact p0
  rcases io e with ⟨_, e⟩ | ⟨_, e⟩
  · obtain ⟨_, e⟩ := io_n e
    obtain ⟨M3, e_M3, e⟩ := mo e
    have p_M3 : Fx C L A M3 := wi p0 e_M3 (oc_c hC (by decide +kernel))
    obtain rfl := Option.some.inj e
    exact p_M3
  obtain ⟨_, e⟩ := io_n e
  obtain ⟨M2, e_M2, e⟩ := mo e
  have p_M2 : Fx C L A M2 := wi p0 e_M2 (oc_c hC (by decide +kernel))
  obtain rfl := Option.some.inj e
  exact p_M2
theorem wl_Mod_thiefIn_44 {C : Nat} {L : List Nat} {A : Mem} (v2 : Int32) (s : Int32 × Mem) (hC : sb 6120724063703920886511138844246863058792005277163642982905394824740864 C)  (p0 : Fx C L A s.2) {r : ((Int32 × Mem) ⊕ ((Mem) ⊕ (Int32 × Mem)))} (e : lb_Mod_thiefIn_44 v2 s = some r) : (Sum.elim (fun r : Int32 × Mem => Fx C L A r.2) (Sum.elim (fun r : Mem => Fx C L A r) (fun r : Int32 × Mem => Fx C L A r.2))) r := by
  unfold lb_Mod_thiefIn_44 at e
  rcases io e with ⟨_, e⟩ | ⟨_, e⟩
  · obtain rfl := Option.some.inj e
    exact p0
  obtain ⟨x7, e_x7, e⟩ := bo e
  have p_x7 : Fx C L A x7 := (wf_Mod_goMinute 176 s.2 (sb_t (by decide +kernel) hC) (oc_c hC (by decide +kernel)) p0 e_x7)
  obtain ⟨x8, e_x8, e⟩ := bo e
  have p_x8 : Fx C L A x8.2 := (wf_Mod_goThief x7 (sb_t (by decide +kernel) hC) p_x7 e_x8)
  rcases io e with ⟨_, e⟩ | ⟨_, e⟩
  · obtain rfl := Option.some.inj e
    exact p_x8
  obtain rfl := Option.some.inj e
  exact p_x8
theorem wf_Mod_thiefIn {C : Nat} {L : List Nat} {A : Mem} (v1 : Int32) (v2 : Int32) (M : Mem) (hC : sb 6120724063703920886511138844246863058792005277163642982905394824740864 C)  (p0 : Fx C L A M) {r : (Int32 × Mem)} (e : f_Mod_thiefIn v1 v2 M = some r) : (fun r : Int32 × Mem => Fx C L A r.2) r := by
  unfold f_Mod_thiefIn at e
  obtain ⟨x1, e_x1, e⟩ := bo e
  have p_x1 : Fx C L A x1 := (wf_Mod_lay 163 176 (0 : Int32) M (sb_t (by decide +kernel) hC) (oc_c hC (by decide +kernel)) p0 e_x1)
  obtain ⟨x6, e_x6, e⟩ := bo e
  have p_x6 : Fx C L A x6 := (it_r (I := fun s : Int32 × Mem => Fx C L A s.2) (Q := (fun r : Mem => Fx C L A r)) (fun s_ r_ hs_ er_ => wl_Mod_thiefIn_14 v1 v2 s_ (sb_t (by decide +kernel) hC) hs_ er_) e_x6 p_x1)
  obtain ⟨y_, e_y, e⟩ := bo e
  have q_y := (it_r (I := fun s : Int32 × Mem => Fx C L A s.2) (Q := (Sum.elim (fun r : Mem => Fx C L A r) (fun r : Int32 × Mem => Fx C L A r.2))) (fun s_ r_ hs_ er_ => wl_Mod_thiefIn_44 v2 s_ (sb_t (by decide +kernel) hC) hs_ er_) e_y p_x6)
  rcases y_ with y12 | y13
  · have p_y12 : Fx C L A y12 := q_y
    replace e := el_l e
    obtain rfl := Option.some.inj e
    exact p_y12
  · have p_y13 : Fx C L A y13.2 := q_y
    replace e := el_r e
    obtain rfl := Option.some.inj e
    exact p_y13
theorem wl_Mod_putMay_23 {C : Nat} {L : List Nat} {A : Mem} (v1 : Nat) (v2 : Int32) (s : Int32 × Mem) (hC : sb 383123885216472214589586756787577295904684780545900544 C)  (p0 : Fx C L A s.2) {r : ((Int32 × Mem) ⊕ ((Mem)))} (e : lb_Mod_putMay_23 v1 v2 s = some r) : (Sum.elim (fun r : Int32 × Mem => Fx C L A r.2) (fun r : Mem => Fx C L A r)) r := by
  unfold lb_Mod_putMay_23 at e
  rcases io e with ⟨_, e⟩ | ⟨_, e⟩
  · obtain rfl := Option.some.inj e
    exact p0
  obtain ⟨x3, e_x3, e⟩ := bo e
  obtain ⟨_, e⟩ := io_n e
  rcases io e with ⟨_, e⟩ | ⟨_, e⟩
  · obtain rfl := Option.some.inj e
    exact p0
  obtain ⟨_, e⟩ := io_n e
  obtain ⟨_, e⟩ := io_n e
  obtain ⟨M4, e_M4, e⟩ := mo e
  have p_M4 : Fx C L A M4 := wi p0 e_M4 (oc_c hC (by decide +kernel))
  obtain rfl := Option.some.inj e
  exact p_M4
theorem wl_Mod_putMay_2 {C : Nat} {L : List Nat} {A : Mem} (v1 : Nat) (s : Int32 × Mem) (hC : sb 6582018229668322198255505655966048920035696126892036152671338496 C)  (p0 : Fx C L A s.2) {r : ((Int32 × Mem) ⊕ ((Mem)))} (e : lb_Mod_putMay_2 v1 s = some r) : (Sum.elim (fun r : Int32 × Mem => Fx C L A r.2) (fun r : Mem => Fx C L A r)) r := by
  unfold lb_Mod_putMay_2 at e
  rcases io e with ⟨_, e⟩ | ⟨_, e⟩
  · obtain rfl := Option.some.inj e
    exact p0
  obtain ⟨M1, e_M1, e⟩ := mo e
  have p_M1 : Fx C L A M1 := wi p0 e_M1 (oc_c hC (by decide +kernel))
  obtain ⟨M2, e_M2, e⟩ := mo e
  have p_M2 : Fx C L A M2 := wi p_M1 e_M2 (oc_c hC (by decide +kernel))
  obtain ⟨x7, e_x7, e⟩ := bo e
  have p_x7 : Fx C L A x7 := (it_r (I := fun s : Int32 × Mem => Fx C L A s.2) (Q := (fun r : Mem => Fx C L A r)) (fun s_ r_ hs_ er_ => wl_Mod_putMay_23 v1 s.1 s_ (sb_t (by decide +kernel) hC) hs_ er_) e_x7 p_M2)
  obtain ⟨x8, e_x8, e⟩ := bo e
  have p_x8 : Fx C L A x8 := (wf_Mod_put (x7.1 178 (0 : Int32).toNatClampNeg) x7 (sb_t (by decide +kernel) hC) p_x7 e_x8)
  obtain ⟨x9, e_x9, e⟩ := bo e
  have p_x9 : Fx C L A x9 := (wf_Mod_put (x8.1 178 (1 : Int32).toNatClampNeg) x8 (sb_t (by decide +kernel) hC) p_x8 e_x9)
  obtain rfl := Option.some.inj e
  exact p_x9
end
section
/-! frames -/
theorem wf_Mod_putMay {C : Nat} {L : List Nat} {A : Mem} (v1 : Nat) (M : Mem) (hC : sb 6582018229668322198255505655966048920035696126892036152671338496 C)  (p0 : Fx C L A M) {r : (Mem)} (e : f_Mod_putMay v1 M = some r) : (fun r : Mem => Fx C L A r) r := by
  unfold f_Mod_putMay at e
  obtain ⟨g_v1, e⟩ := io_n e
  obtain ⟨x11, e_x11, e⟩ := bo e
  have p_x11 : Fx C L A x11 := (it_r (I := fun s : Int32 × Mem => Fx C L A s.2) (Q := (fun r : Mem => Fx C L A r)) (fun s_ r_ hs_ er_ => wl_Mod_putMay_2 v1 s_ (sb_t (by decide +kernel) hC) hs_ er_) e_x11 p0)
  obtain rfl := Option.some.inj e
  exact p_x11
theorem wj_Mod_flees_47 {C : Nat} {L : List Nat} {A : Mem} (w0 : Int32) (M : Mem) (hC : sb 6582018229668322198255505655966048920035696126892036152671338496 C)  (p0 : Fx C L A M) {r : (Int32 × Mem)} (e : j_Mod_flees_47 w0 M = some r) : (fun r : Int32 × Mem => Fx C L A r.2) r := by
  unfold j_Mod_flees_47 at e
  obtain ⟨M6, e_M6, e⟩ := mo e
  have p_M6 : Fx C L A M6 := wi1 p0 e_M6 (tb1 hC (by decide +kernel))
  obtain ⟨x7, e_x7, e⟩ := bo e
  have p_x7 : Fx C L A x7 := (wf_Mod_putMay 186 M6 (sb_t (by decide +kernel) hC) p_M6 e_x7)
  rcases io e with ⟨_, e⟩ | ⟨_, e⟩
  · obtain rfl := Option.some.inj e
    exact p_x7
  obtain rfl := Option.some.inj e
  exact p_x7
theorem wf_Mod_flees {C : Nat} {L : List Nat} {A : Mem} (v1 : Int32) (v2 : Int32) (v3 : Int32) (M : Mem) (hC : sb 6120743809758609124481674339505979483644965174746694943580454284951552 C)  (p0 : Fx C L A M) {r : (Int32 × Mem)} (e : f_Mod_flees v1 v2 v3 M = some r) : (fun r : Int32 × Mem => Fx C L A r.2) r := by
  unfold f_Mod_flees at e
  obtain ⟨M1, e_M1, e⟩ := mo e
  have p_M1 : Fx C L A M1 := wi1 p0 e_M1 (tb1 hC (by decide +kernel))
  obtain ⟨x2, e_x2, e⟩ := bo e
  rcases io e with ⟨_, e⟩ | ⟨_, e⟩
  · obtain rfl := Option.some.inj e
    exact p_M1
  obtain ⟨x3, e_x3, e⟩ := bo e
  rcases io e with ⟨_, e⟩ | ⟨_, e⟩
  · obtain rfl := Option.some.inj e
    exact p_M1
  obtain ⟨x4, e_x4, e⟩ := bo e
  obtain ⟨x5, e_x5, e⟩ := bo e
  have p_x5 : Fx C L A x5.2 := (wf_Mod_thiefIn x4 v3 M1 (sb_t (by decide +kernel) hC) p_M1 e_x5)
  rcases io e with ⟨_, e⟩ | ⟨_, e⟩
  · exact (wj_Mod_flees_47 (1 : Int32) x5.2 (sb_t (by decide +kernel) hC) p_x5 e)
  exact (wj_Mod_flees_47 (0 : Int32) x5.2 (sb_t (by decide +kernel) hC) p_x5 e)
theorem wj_Mod_lairs_64_21 {C : Nat} {L : List Nat} {A : Mem} (v1 : Int32) (v2 : Int32) (v3 : Int32) (w0 : Int32) (w1 : Int32) (M : Mem) (hC : sb 392318858461667547739736838950479151006397215279002157056 C)  (p0 : Fx C L A M) {r : ((Int32 × Int32 × Mem) ⊕ ((Int32 × Mem)))} (e : j_Mod_lairs_64_21 v1 v2 v3 w0 w1 M = some r) : (Sum.elim (fun r : Int32 × Int32 × Mem => Fx C L A r.2.2) (fun r : Int32 × Mem => Fx C L A r.2)) r := by
  unfold j_Mod_lairs_64_21 at e
  obtain ⟨_, e⟩ := io_n e
  obtain ⟨M6, e_M6, e⟩ := mo e
  have p_M6 : Fx C L A M6 := wi p0 e_M6 (oc_c hC (by decide +kernel))
  obtain ⟨_, e⟩ := io_n e
  rcases io e with ⟨_, e⟩ | ⟨_, e⟩
  · obtain rfl := Option.some.inj e
    exact p_M6
  obtain rfl := Option.some.inj e
  exact p_M6
theorem wl_Mod_lairs_21 {C : Nat} {L : List Nat} {A : Mem} (v1 : Int32) (s : Int32 × Int32 × Mem) (hC : sb 6120724063704313205369600511794602795630955756314649380120673826897920 C)  (p0 : Fx C L A s.2.2) {r : ((Int32 × Int32 × Mem) ⊕ ((Int32 × Mem)))} (e : lb_Mod_lairs_21 v1 s = some r) : (Sum.elim (fun r : Int32 × Int32 × Mem => Fx C L A r.2.2) (fun r : Int32 × Mem => Fx C L A r.2)) r := by
  unfold lb_Mod_lairs_21 at e
  rcases io e with ⟨_, e⟩ | ⟨_, e⟩
  · obtain rfl := Option.some.inj e
    exact p0
  obtain ⟨x3, e_x3, e⟩ := bo e
  obtain ⟨x4, e_x4, e⟩ := bo e
  obtain ⟨x5, e_x5, e⟩ := bo e
  rcases io e with ⟨_, e⟩ | ⟨_, e⟩
  · exact (wj_Mod_lairs_64_21 v1 s.1 s.2.1 (0 : Int32) s.2.1 s.2.2 (sb_t (by decide +kernel) hC) p0 e)
  obtain ⟨x8, e_x8, e⟩ := bo e
  have p_x8 : Fx C L A x8.2 := (wf_Mod_thiefIn s.2.1 v1 s.2.2 (sb_t (by decide +kernel) hC) p0 e_x8)
  rcases io e with ⟨_, e⟩ | ⟨_, e⟩
  · exact (wj_Mod_lairs_64_21 v1 s.1 s.2.1 (1 : Int32) s.2.1 x8.2 (sb_t (by decide +kernel) hC) p_x8 e)
  exact (wj_Mod_lairs_64_21 v1 s.1 s.2.1 (0 : Int32) s.2.1 x8.2 (sb_t (by decide +kernel) hC) p_x8 e)
theorem wf_Mod_lairs {C : Nat} {L : List Nat} {A : Mem} (v1 : Int32) (M : Mem) (hC : sb 6120743809759001443340136007053719220483915653897701340795733287108608 C)  (p0 : Fx C L A M) {r : (Int32 × Mem)} (e : f_Mod_lairs v1 M = some r) : (fun r : Int32 × Mem => Fx C L A r.2) r := by
  unfold f_Mod_lairs at e
  obtain ⟨M1, e_M1, e⟩ := mo e
  have p_M1 : Fx C L A M1 := wi1 p0 e_M1 (tb1 hC (by decide +kernel))
  obtain ⟨x2, e_x2, e⟩ := bo e
  rcases io e with ⟨_, e⟩ | ⟨_, e⟩
  · obtain rfl := Option.some.inj e
    exact p_M1
  obtain ⟨x12, e_x12, e⟩ := bo e
  have p_x12 : Fx C L A x12.2 := (it_r (I := fun s : Int32 × Int32 × Mem => Fx C L A s.2.2) (Q := (fun r : Int32 × Mem => Fx C L A r.2)) (fun s_ r_ hs_ er_ => wl_Mod_lairs_21 v1 s_ (sb_t (by decide +kernel) hC) hs_ er_) e_x12 p_M1)
  obtain ⟨M13, e_M13, e⟩ := mo e
  have p_M13 : Fx C L A M13 := wi1 p_x12 e_M13 (tb1 hC (by decide +kernel))
  obtain ⟨x14, e_x14, e⟩ := bo e
  have p_x14 : Fx C L A x14 := (wf_Mod_putMay 188 M13 (sb_t (by decide +kernel) hC) p_M13 e_x14)
  obtain rfl := Option.some.inj e
  exact p_x14
theorem wf_Mod_caught {C : Nat} {L : List Nat} {A : Mem} (v1 : Int32) (v2 : Int32) (M : Mem) (hC : sb 6120737227740379456159476084000323517596045139050568051544301613613056 C)  (p0 : Fx C L A M) {r : (Int32 × Mem)} (e : f_Mod_caught v1 v2 M = some r) : (fun r : Int32 × Mem => Fx C L A r.2) r := by
  unfold f_Mod_caught at e
  obtain ⟨M1, e_M1, e⟩ := mo e
  have p_M1 : Fx C L A M1 := wi1 p0 e_M1 (tb1 hC (by decide +kernel))
  obtain ⟨x2, e_x2, e⟩ := bo e
  rcases io e with ⟨_, e⟩ | ⟨_, e⟩
  · obtain rfl := Option.some.inj e
    exact p_M1
  obtain ⟨x3, e_x3, e⟩ := bo e
  obtain ⟨x4, e_x4, e⟩ := bo e
  have p_x4 : Fx C L A x4.2 := (wf_Mod_thiefIn x3 (30 : Int32) M1 (sb_t (by decide +kernel) hC) p_M1 e_x4)
  rcases io e with ⟨_, e⟩ | ⟨_, e⟩
  · obtain rfl := Option.some.inj e
    exact p_x4
  obtain rfl := Option.some.inj e
  exact p_x4
theorem wf_Mod_enter {C : Nat} {L : List Nat} {A : Mem} (v1 : Int32) (v2 : Int32) (M : Mem) (hC : sb 98079714615416886934934209737619787751599303819750539264 C)  (p0 : Fx C L A M) {r : (Int32 × Mem)} (e : f_Mod_enter v1 v2 M = some r) : (fun r : Int32 × Mem => Fx C L A r.2) r := by
  unfold f_Mod_enter at e
  rcases io e with ⟨_, e⟩ | ⟨_, e⟩
  · obtain rfl := Option.some.inj e
    exact p0
  obtain ⟨_, e⟩ := io_n e
  rcases io e with ⟨_, e⟩ | ⟨_, e⟩
  · obtain ⟨x1, e_x1, e⟩ := bo e
    rcases io e with ⟨_, e⟩ | ⟨_, e⟩
    · obtain ⟨_, e⟩ := io_n e
      obtain ⟨M2, e_M2, e⟩ := mo e
      have p_M2 : Fx C L A M2 := wi p0 e_M2 (oc_c hC (by decide +kernel))
      obtain rfl := Option.some.inj e
      exact p_M2
    obtain rfl := Option.some.inj e
    exact p0
  obtain rfl := Option.some.inj e
  exact p0
theorem wl_Mod_gets_3 {C : Nat} {L : List Nat} {A : Mem} (v1 : Int32) (v2 : Int32) (v3 : Int32) (s : Int32 × Mem) (hC : sb 98079714615416886934934209737619787751599303819750539264 C)  (p0 : Fx C L A s.2) {r : ((Int32 × Mem) ⊕ ((Mem)))} (e : lb_Mod_gets_3 v1 v2 v3 s = some r) : (Sum.elim (fun r : Int32 × Mem => Fx C L A r.2) (fun r : Mem => Fx C L A r)) r := by
  unfold lb_Mod_gets_3 at e
  rcases io e with ⟨_, e⟩ | ⟨_, e⟩
  · obtain rfl := Option.some.inj e
    exact p0
  rcases io e with ⟨_, e⟩ | ⟨_, e⟩
  · obtain ⟨_, e⟩ := io_n e
    obtain ⟨M2, e_M2, e⟩ := mo e
    have p_M2 : Fx C L A M2 := wi p0 e_M2 (oc_c hC (by decide +kernel))
    obtain rfl := Option.some.inj e
    exact p_M2
  obtain ⟨_, e⟩ := io_n e
  obtain ⟨M1, e_M1, e⟩ := mo e
  have p_M1 : Fx C L A M1 := wi p0 e_M1 (oc_c hC (by decide +kernel))
  obtain rfl := Option.some.inj e
  exact p_M1
theorem wl_Mod_gets_71 {C : Nat} {L : List Nat} {A : Mem} (v2 : Int32) (v3 : Int32) (v5 : Int32) (s : Int32 × Int32 × Mem) (hC : sb 98079714615416886934934209737619787751599303819750539264 C)  (p0 : Fx C L A s.2.2) {r : ((Int32 × Int32 × Mem) ⊕ ((Int32 × Mem)))} (e : lb_Mod_gets_71 v2 v3 v5 s = some r) : (Sum.elim (fun r : Int32 × Int32 × Mem => Fx C L A r.2.2) (fun r : Int32 × Mem => Fx C L A r.2)) r := by
  unfold lb_Mod_gets_71 at e
  rcases io e with ⟨_, e⟩ | ⟨_, e⟩
  · obtain rfl := Option.some.inj e
    exact p0
  obtain ⟨x6, e_x6, e⟩ := bo e
  obtain ⟨x7, e_x7, e⟩ := bo e
  have p_x7 : Fx C L A x7.2 := (wf_Mod_enter x6 v3 s.2.2 (sb_t (by decide +kernel) hC) p0 e_x7)
  obtain rfl := Option.some.inj e
  exact p_x7
theorem wl_Mod_gets_48 {C : Nat} {L : List Nat} {A : Mem} (v2 : Int32) (v3 : Int32) (s : Int32 × Int32 × Mem) (hC : sb 98079714615416886934934209737619787751599303819750539264 C)  (p0 : Fx C L A s.2.2) {r : ((Int32 × Int32 × Mem) ⊕ ((Int32 × Mem)))} (e : lb_Mod_gets_48 v2 v3 s = some r) : (Sum.elim (fun r : Int32 × Int32 × Mem => Fx C L A r.2.2) (fun r : Int32 × Mem => Fx C L A r.2)) r := by
  unfold lb_Mod_gets_48 at e
  rcases io e with ⟨_, e⟩ | ⟨_, e⟩
  · obtain rfl := Option.some.inj e
    exact p0
  obtain ⟨_, e⟩ := io_n e
  rcases io e with ⟨_, e⟩ | ⟨_, e⟩
  · obtain rfl := Option.some.inj e
    exact p0
  obtain ⟨x9, e_x9, e⟩ := bo e
  have p_x9 : Fx C L A x9.2 := (it_r (I := fun s : Int32 × Int32 × Mem => Fx C L A s.2.2) (Q := (fun r : Int32 × Mem => Fx C L A r.2)) (fun s_ r_ hs_ er_ => wl_Mod_gets_71 v2 v3 s.2.1 s_ (sb_t (by decide +kernel) hC) hs_ er_) e_x9 p0)
  obtain ⟨x10, e_x10, e⟩ := bo e
  obtain ⟨_, e⟩ := io_n e
  rcases io e with ⟨_, e⟩ | ⟨_, e⟩
  · obtain ⟨x11, e_x11, e⟩ := bo e
    obtain ⟨x12, e_x12, e⟩ := bo e
    obtain ⟨x13, e_x13, e⟩ := bo e
    obtain ⟨x14, e_x14, e⟩ := bo e
    have p_x14 : Fx C L A x14.2 := (wf_Mod_enter x13 v3 x9.2 (sb_t (by decide +kernel) hC) p_x9 e_x14)
    obtain rfl := Option.some.inj e
    exact p_x14
  obtain rfl := Option.some.inj e
  exact p_x9
theorem wl_Mod_gets_37 {C : Nat} {L : List Nat} {A : Mem} (v2 : Int32) (v3 : Int32) (s : Int32 × Mem) (hC : sb 98079714615416886934934209737619787751599303819750539264 C)  (p0 : Fx C L A s.2) {r : ((Int32 × Mem) ⊕ ((Mem)))} (e : lb_Mod_gets_37 v2 v3 s = some r) : (Sum.elim (fun r : Int32 × Mem => Fx C L A r.2) (fun r : Mem => Fx C L A r)) r := by
  unfold lb_Mod_gets_37 at e
  rcases io e with ⟨_, e⟩ | ⟨_, e⟩
  · obtain rfl := Option.some.inj e
    exact p0
  obtain ⟨x18, e_x18, e⟩ := bo e
  have p_x18 : Fx C L A x18.2 := (it_r (I := fun s : Int32 × Int32 × Mem => Fx C L A s.2.2) (Q := (fun r : Int32 × Mem => Fx C L A r.2)) (fun s_ r_ hs_ er_ => wl_Mod_gets_48 v2 v3 s_ (sb_t (by decide +kernel) hC) hs_ er_) e_x18 p0)
  obtain rfl := Option.some.inj e
  exact p_x18
theorem wf_Mod_gets {C : Nat} {L : List Nat} {A : Mem} (v1 : Int32) (v2 : Int32) (v3 : Int32) (M : Mem) (hC : sb 98079714615416886934934209737619787751599303819750539264 C)  (p0 : Fx C L A M) {r : (Int32 × Mem)} (e : f_Mod_gets v1 v2 v3 M = some r) : (fun r : Int32 × Mem => Fx C L A r.2) r := by
  unfold f_Mod_gets at e
  obtain ⟨x5, e_x5, e⟩ := bo e
  have p_x5 : Fx C L A x5 := (it_r (I := fun s : Int32 × Mem => Fx C L A s.2) (Q := (fun r : Mem => Fx C L A r)) (fun s_ r_ hs_ er_ => wl_Mod_gets_3 v1 v2 v3 s_ (sb_t (by decide +kernel) hC) hs_ er_) e_x5 p0)
  obtain ⟨x20, e_x20, e⟩ := bo e
  have p_x20 : Fx C L A x20 := (it_r (I := fun s : Int32 × Mem => Fx C L A s.2) (Q := (fun r : Mem => Fx C L A r)) (fun s_ r_ hs_ er_ => wl_Mod_gets_37 v2 v3 s_ (sb_t (by decide +kernel) hC) hs_ er_) e_x20 p_x5)
  obtain ⟨_, e⟩ := io_n e
  obtain ⟨_, e⟩ := io_n e
  obtain rfl := Option.some.inj e
  exact p_x20
theorem wj_Mod_watch_65_32 {C : Nat} {L : List Nat} {A : Mem} (v1 : Int32) (v2 : Int32) (v3 : Int32) (v4 : Int32) (v5 : Int32) (v6 : Int32) (M : Mem) (hC : sb 98079714615416886934934209737619787751599303819750539264 C)  (p0 : Fx C L A M) {r : ((Int32 × Int32 × Mem) ⊕ ((Int32 × Mem)))} (e : j_Mod_watch_65_32 v1 v2 v3 v4 v5 v6 M = some r) : (Sum.elim (fun r : Int32 × Int32 × Mem => Fx C L A r.2.2) (fun r : Int32 × Mem => Fx C L A r.2)) r := by
  unfold j_Mod_watch_65_32 at e
  obtain ⟨x4, e_x4, e⟩ := bo e
  obtain ⟨x5, e_x5, e⟩ := bo e
  obtain ⟨x6, e_x6, e⟩ := bo e
  have p_x6 : Fx C L A x6.2 := (wf_Mod_gets x4 x5 v6 M (sb_t (by decide +kernel) hC) p0 e_x6)
  rcases io e with ⟨_, e⟩ | ⟨_, e⟩
  · obtain rfl := Option.some.inj e
    exact p_x6
  obtain rfl := Option.some.inj e
  exact p_x6
theorem wl_Mod_watch_32 {C : Nat} {L : List Nat} {A : Mem} (v1 : Int32) (v2 : Int32) (v3 : Int32) (v4 : Int32) (s : Int32 × Int32 × Mem) (hC : sb 98079714615416886934934209737619787751599303819750539264 C)  (p0 : Fx C L A s.2.2) {r : ((Int32 × Int32 × Mem) ⊕ ((Int32 × Mem)))} (e : lb_Mod_watch_32 v1 v2 v3 v4 s = some r) : (Sum.elim (fun r : Int32 × Int32 × Mem => Fx C L A r.2.2) (fun r : Int32 × Mem => Fx C L A r.2)) r := by
  unfold lb_Mod_watch_32 at e
  rcases io e with ⟨_, e⟩ | ⟨_, e⟩
  · obtain rfl := Option.some.inj e
    exact p0
  rcases io e with ⟨_, e⟩ | ⟨_, e⟩
  · exact (wj_Mod_watch_65_32 v1 v2 v3 v4 s.1 s.2.1 s.2.2 (sb_t (by decide +kernel) hC) p0 e)
  obtain ⟨x8, e_x8, e⟩ := bo e
  obtain ⟨x9, e_x9, e⟩ := bo e
  rcases io e with ⟨_, e⟩ | ⟨_, e⟩
  · exact (wj_Mod_watch_65_32 v1 v2 v3 v4 s.1 s.2.1 s.2.2 (sb_t (by decide +kernel) hC) p0 e)
  obtain rfl := Option.some.inj e
  exact p0
theorem wf_Mod_watch {C : Nat} {L : List Nat} {A : Mem} (v1 : Int32) (v2 : Int32) (v3 : Int32) (v4 : Int32) (M : Mem) (hC : sb 19746054785934561265695673836769475940729793507655294098664849408 C)  (p0 : Fx C L A M) {r : (Int32 × Mem)} (e : f_Mod_watch v1 v2 v3 v4 M = some r) : (fun r : Int32 × Mem => Fx C L A r.2) r := by
  unfold f_Mod_watch at e
  obtain ⟨M1, e_M1, e⟩ := mo e
  have p_M1 : Fx C L A M1 := wi1 p0 e_M1 (tb1 hC (by decide +kernel))
  obtain ⟨x2, e_x2, e⟩ := bo e
  rcases io e with ⟨_, e⟩ | ⟨_, e⟩
  · obtain rfl := Option.some.inj e
    exact p_M1
  obtain ⟨x3, e_x3, e⟩ := bo e
  rcases io e with ⟨_, e⟩ | ⟨_, e⟩
  · obtain rfl := Option.some.inj e
    exact p_M1
  obtain ⟨x13, e_x13, e⟩ := bo e
  have p_x13 : Fx C L A x13.2 := (it_r (I := fun s : Int32 × Int32 × Mem => Fx C L A s.2.2) (Q := (fun r : Int32 × Mem => Fx C L A r.2)) (fun s_ r_ hs_ er_ => wl_Mod_watch_32 v1 v2 v3 v4 s_ (sb_t (by decide +kernel) hC) hs_ er_) e_x13 p_M1)
  rcases io e with ⟨_, e⟩ | ⟨_, e⟩
  · obtain rfl := Option.some.inj e
    exact p_x13
  obtain ⟨M14, e_M14, e⟩ := mo e
  have p_M14 : Fx C L A M14 := wi1 p_x13 e_M14 (tb1 hC (by decide +kernel))
  obtain ⟨x15, e_x15, e⟩ := bo e
  have p_x15 : Fx C L A x15 := (wf_Mod_put x13.1 M14 (sb_t (by decide +kernel) hC) p_M14 e_x15)
  obtain ⟨x16, e_x16, e⟩ := bo e
  obtain rfl := Option.some.inj e
  exact p_x15
theorem wf_Mod_keep {C : Nat} {L : List Nat} {A : Mem} (v1 : Int32) (M : Mem) (hC : sb 13164041951033666800585421816774549346570001014629652812819070976 C)  (p0 : Fx C L A M) {r : (Int32 × Mem)} (e : f_Mod_keep v1 M = some r) : (fun r : Int32 × Mem => Fx C L A r.2) r := by
  unfold f_Mod_keep at e
  obtain ⟨M1, e_M1, e⟩ := mo e
  have p_M1 : Fx C L A M1 := wi1 p0 e_M1 (tb1 hC (by decide +kernel))
  obtain ⟨x2, e_x2, e⟩ := bo e
  rcases io e with ⟨_, e⟩ | ⟨_, e⟩
  · obtain rfl := Option.some.inj e
    exact p_M1
  obtain ⟨_, e⟩ := io_n e
  obtain ⟨M3, e_M3, e⟩ := mo e
  have p_M3 : Fx C L A M3 := wi p_M1 e_M3 (oc_c hC (by decide +kernel))
  obtain ⟨_, e⟩ := io_n e
  obtain ⟨M4, e_M4, e⟩ := mo e
  have p_M4 : Fx C L A M4 := wi p_M3 e_M4 (oc_c hC (by decide +kernel))
  obtain ⟨x5, e_x5, e⟩ := bo e
  have p_x5 : Fx C L A x5 := (wf_Mod_lay 163 189 ((96 : Int32) * v1) M4 (sb_t (by decide +kernel) hC) (oc_c hC (by decide +kernel)) p_M4 e_x5)
  obtain rfl := Option.some.inj e
  exact p_x5
theorem wl_Mod_again_40 {C : Nat} {L : List Nat} {A : Mem} (v1 : Int32) (s : Int32 × Mem) (hC : sb 11692013098647223345629478661730264157247460343808 C)  (p0 : Fx C L A s.2) {r : ((Int32 × Mem) ⊕ ((Mem)))} (e : lb_Mod_again_40 v1 s = some r) : (Sum.elim (fun r : Int32 × Mem => Fx C L A r.2) (fun r : Mem => Fx C L A r)) r := by
  unfold lb_Mod_again_40 at e
  rcases io e with ⟨_, e⟩ | ⟨_, e⟩
  · obtain rfl := Option.some.inj e
    exact p0
  obtain ⟨_, e⟩ := io_n e
  obtain ⟨_, e⟩ := io_n e
  obtain ⟨M3, e_M3, e⟩ := mo e
  have p_M3 : Fx C L A M3 := wi p0 e_M3 (oc_c hC (by decide +kernel))
  obtain rfl := Option.some.inj e
  exact p_M3
theorem wf_Mod_again {C : Nat} {L : List Nat} {A : Mem} (v1 : Int32) (M : Mem) (hC : sb 215692737373663688017365373548264727538766495928979912644983131209728 C)  (p0 : Fx C L A M) {r : (Int32 × Mem)} (e : f_Mod_again v1 M = some r) : (fun r : Int32 × Mem => Fx C L A r.2) r := by
  unfold f_Mod_again at e
  obtain ⟨M1, e_M1, e⟩ := mo e
  have p_M1 : Fx C L A M1 := wi1 p0 e_M1 (tb1 hC (by decide +kernel))
  obtain ⟨x2, e_x2, e⟩ := bo e
  rcases io e with ⟨_, e⟩ | ⟨_, e⟩
  · obtain rfl := Option.some.inj e
    exact p_M1
  obtain ⟨_, e⟩ := io_n e
  rcases io e with ⟨_, e⟩ | ⟨_, e⟩
  · obtain rfl := Option.some.inj e
    exact p_M1
  obtain ⟨_, e⟩ := io_n e
  rcases io e with ⟨_, e⟩ | ⟨_, e⟩
  · obtain ⟨x5, e_x5, e⟩ := bo e
    have p_x5 : Fx C L A x5 := (it_r (I := fun s : Int32 × Mem => Fx C L A s.2) (Q := (fun r : Mem => Fx C L A r)) (fun s_ r_ hs_ er_ => wl_Mod_again_40 v1 s_ (sb_t (by decide +kernel) hC) hs_ er_) e_x5 p_M1)
    obtain ⟨M6, e_M6, e⟩ := mo e
    have p_M6 : Fx C L A M6 := wi1 p_x5 e_M6 (tb1 hC (by decide +kernel))
    obtain rfl := Option.some.inj e
    exact p_M6
  obtain rfl := Option.some.inj e
  exact p_M1
theorem wf_Mod_count {C : Nat} {L : List Nat} {A : Mem} (v1 : Int32) (M : Mem) (hC : sb 13164036458569648337239753460458804039861886925068638906788872192 C)  (p0 : Fx C L A M) {r : (Int32 × Mem)} (e : f_Mod_count v1 M = some r) : (fun r : Int32 × Mem => Fx C L A r.2) r := by
  unfold f_Mod_count at e
  obtain ⟨M1, e_M1, e⟩ := mo e
  have p_M1 : Fx C L A M1 := wi1 p0 e_M1 (tb1 hC (by decide +kernel))
  rcases io e with ⟨_, e⟩ | ⟨_, e⟩
  · obtain ⟨x2, e_x2, e⟩ := bo e
    obtain rfl := Option.some.inj e
    exact p_M1
  rcases io e with ⟨_, e⟩ | ⟨_, e⟩
  · obtain rfl := Option.some.inj e
    exact p_M1
  rcases io e with ⟨_, e⟩ | ⟨_, e⟩
  · obtain rfl := Option.some.inj e
    exact p_M1
  rcases io e with ⟨_, e⟩ | ⟨_, e⟩
  · obtain rfl := Option.some.inj e
    exact p_M1
  rcases io e with ⟨_, e⟩ | ⟨_, e⟩
  · obtain rfl := Option.some.inj e
    exact p_M1
  rcases io e with ⟨_, e⟩ | ⟨_, e⟩
  · obtain rfl := Option.some.inj e
    exact p_M1
  rcases io e with ⟨_, e⟩ | ⟨_, e⟩
  · obtain rfl := Option.some.inj e
    exact p_M1
  rcases io e with ⟨_, e⟩ | ⟨_, e⟩
  · obtain rfl := Option.some.inj e
    exact p_M1
  rcases io e with ⟨_, e⟩ | ⟨_, e⟩
  · obtain ⟨x13, e_x13, e⟩ := bo e
    obtain rfl := Option.some.inj e
    exact p_M1
  rcases io e with ⟨_, e⟩ | ⟨_, e⟩
  · obtain rfl := Option.some.inj e
    exact p_M1
  rcases io e with ⟨_, e⟩ | ⟨_, e⟩
  · obtain rfl := Option.some.inj e
    exact p_M1
  rcases io e with ⟨_, e⟩ | ⟨_, e⟩
  · obtain rfl := Option.some.inj e
    exact p_M1
  rcases io e with ⟨_, e⟩ | ⟨_, e⟩
  · obtain rfl := Option.some.inj e
    exact p_M1
  obtain rfl := Option.some.inj e
  exact p_M1
theorem wf_Mod_row {C : Nat} {L : List Nat} {A : Mem} (v1 : Int32) (M : Mem) (hC : sb 13164036458569648337239753460458804039861886925068638906788872192 C)  (p0 : Fx C L A M) {r : (Int32 × Mem)} (e : f_Mod_row v1 M = some r) : (fun r : Int32 × Mem => Fx C L A r.2) r := by
  unfold f_Mod_row at e
  obtain ⟨M1, e_M1, e⟩ := mo e
  have p_M1 : Fx C L A M1 := wi1 p0 e_M1 (tb1 hC (by decide +kernel))
  obtain ⟨x2, e_x2, e⟩ := bo e
  rcases io e with ⟨_, e⟩ | ⟨_, e⟩
  · obtain ⟨x3, e_x3, e⟩ := bo e
    have p_x3 : Fx C L A x3.2 := (wf_Mod_lost M1 (sb_t (by decide +kernel) hC) p_M1 e_x3)
    obtain rfl := Option.some.inj e
    exact p_x3
  obtain ⟨_, e⟩ := io_n e
  obtain rfl := Option.some.inj e
  exact p_M1
theorem wf_Top_sign {C : Nat} {L : List Nat} {A : Mem} (v1 : Int32) (M : Mem) (hC : sb 3794275180128377091639574036764685364535950857523710002444946112771297432041422852 C)  (p0 : Fx C L A M) {r : (Int32 × Mem)} (e : f_Top_sign v1 M = some r) : (fun r : Int32 × Mem => Fx C L A r.2) r := by
  unfold f_Top_sign at e
  obtain ⟨x1, e_x1, e⟩ := bo e
  have p_x1 : Fx C L A x1.2 := (wf_Signs_add v1 M (sb_t (by decide +kernel) hC) p0 e_x1)
  rcases io e with ⟨_, e⟩ | ⟨_, e⟩
  · obtain rfl := Option.some.inj e
    exact p_x1
  obtain rfl := Option.some.inj e
  exact p_x1
theorem wf_Top_end {C : Nat} {L : List Nat} {A : Mem} (v1 : Int32) (M : Mem) (hC : sb 3794275180128377091639574036764685364535950857523710002444946112771297432041422848 C)  (p0 : Fx C L A M) {r : (Int32 × Mem)} (e : f_Top_end v1 M = some r) : (fun r : Int32 × Mem => Fx C L A r.2) r := by
  unfold f_Top_end at e
  rcases io e with ⟨_, e⟩ | ⟨_, e⟩
  · obtain rfl := Option.some.inj e
    exact p0
  rcases io e with ⟨_, e⟩ | ⟨_, e⟩
  · obtain ⟨M1, e_M1, e⟩ := mo e
    have p_M1 : Fx C L A M1 := wi1 p0 e_M1 (tb1 hC (by decide +kernel))
    obtain rfl := Option.some.inj e
    exact p_M1
  obtain rfl := Option.some.inj e
  exact p0
theorem wf_Top_town {C : Nat} {L : List Nat} {A : Mem} (M : Mem) (hC : sb 102552433394027350449002704298260884017470921964763563113412694891462386257052779449094272268171312 C)  (p0 : Fx C L A M) {r : (Int32 × Mem)} (e : f_Top_town M = some r) : (fun r : Int32 × Mem => Fx C L A r.2) r := by
  unfold f_Top_town at e
  obtain ⟨x1, e_x1, e⟩ := bo e
  have p_x1 : Fx C L A x1.2 := (wf_Ground_read M (sb_t (by decide +kernel) hC) p0 e_x1)
  obtain ⟨M2, e_M2, e⟩ := mo e
  have p_M2 : Fx C L A M2 := wi1 p_x1 e_M2 (tb1 hC (by decide +kernel))
  rcases io e with ⟨_, e⟩ | ⟨_, e⟩
  · obtain ⟨x3, e_x3, e⟩ := bo e
    have p_x3 : Fx C L A x3 := (wf_Crowd_clear M2 (sb_t (by decide +kernel) hC) p_M2 e_x3)
    obtain ⟨x4, e_x4, e⟩ := bo e
    have p_x4 : Fx C L A x4 := (wf_Scene_clear 11 x3 (sb_t (by decide +kernel) hC) (oc_c hC (by decide +kernel)) (oc_c hC (by decide +kernel)) (oc_c hC (by decide +kernel)) (oc_c hC (by decide +kernel)) (oc_c hC (by decide +kernel)) p_x3 e_x4)
    obtain ⟨x5, e_x5, e⟩ := bo e
    have p_x5 : Fx C L A x5 := (wf_History_clear x4 (sb_t (by decide +kernel) hC) p_x4 e_x5)
    obtain ⟨M6, e_M6, e⟩ := mo e
    have p_M6 : Fx C L A M6 := wi1 p_x5 e_M6 (tb1 hC (by decide +kernel))
    obtain ⟨x7, e_x7, e⟩ := bo e
    have p_x7 : Fx C L A x7 := (wf_Nets_lay 32 11 (-1 : Int32) M6 (sb_t (by decide +kernel) hC) (oc_c hC (by decide +kernel)) (oc_c hC (by decide +kernel)) (oc_c hC (by decide +kernel)) p_M6 e_x7)
    obtain rfl := Option.some.inj e
    exact p_x7
  obtain rfl := Option.some.inj e
  exact p_M2
theorem wj_Top_folk_89_48 {C : Nat} {L : List Nat} {A : Mem} (v1 : Int32) (v3 : Int32) (w0 : Int32) (w1 : Int32) (w2 : Int32) (M : Mem) (hC : sb 28672 C)  (p0 : Fx C L A M) {r : ((Int32 × Mem) ⊕ ((Mem)))} (e : j_Top_folk_89_48 v1 v3 w0 w1 w2 M = some r) : (Sum.elim (fun r : Int32 × Mem => Fx C L A r.2) (fun r : Mem => Fx C L A r)) r := by
  unfold j_Top_folk_89_48 at e
  obtain ⟨x5, e_x5, e⟩ := bo e
  have p_x5 : Fx C L A x5 := (wf_Scene_put 11 w2 w1 w0 M (sb_t (by decide +kernel) hC) (oc_c hC (by decide +kernel)) (oc_c hC (by decide +kernel)) (oc_c hC (by decide +kernel)) p0 e_x5)
  obtain rfl := Option.some.inj e
  exact p_x5
theorem wl_Top_folk_48 {C : Nat} {L : List Nat} {A : Mem} (v1 : Int32) (s : Int32 × Mem) (hC : sb 28672 C)  (p0 : Fx C L A s.2) {r : ((Int32 × Mem) ⊕ ((Mem)))} (e : lb_Top_folk_48 v1 s = some r) : (Sum.elim (fun r : Int32 × Mem => Fx C L A r.2) (fun r : Mem => Fx C L A r)) r := by
  unfold lb_Top_folk_48 at e
  rcases io e with ⟨_, e⟩ | ⟨_, e⟩
  · obtain rfl := Option.some.inj e
    exact p0
  obtain ⟨_, e⟩ := io_n e
  obtain ⟨x4, e_x4, e⟩ := bo e
  rcases io e with ⟨_, e⟩ | ⟨_, e⟩
  · exact (wj_Top_folk_89_48 v1 s.1 (0 : Int32) (s.2.1 9 s.1.toNatClampNeg) s.1 s.2 (sb_t (by decide +kernel) hC) p0 e)
  exact (wj_Top_folk_89_48 v1 s.1 (1 : Int32) (s.2.1 9 s.1.toNatClampNeg) s.1 s.2 (sb_t (by decide +kernel) hC) p0 e)
theorem wf_Top_folk {C : Nat} {L : List Nat} {A : Mem} (M : Mem) (hC : sb 239255579121219138776096038136740286193068017241622570866569049541060283259681571797909631448150912 C)  (p0 : Fx C L A M) {r : (Int32 × Mem)} (e : f_Top_folk M = some r) : (fun r : Int32 × Mem => Fx C L A r.2) r := by
  unfold f_Top_folk at e
  obtain ⟨x1, e_x1, e⟩ := bo e
  have p_x1 : Fx C L A x1.2 := (wf_Crowd_read M (sb_t (by decide +kernel) hC) p0 e_x1)
  obtain ⟨M2, e_M2, e⟩ := mo e
  have p_M2 : Fx C L A M2 := wi1 p_x1 e_M2 (tb1 hC (by decide +kernel))
  rcases io e with ⟨_, e⟩ | ⟨_, e⟩
  · obtain ⟨x3, e_x3, e⟩ := bo e
    have p_x3 : Fx C L A x3 := (wf_Crowd_letIn x1.1 M2 (sb_t (by decide +kernel) hC) p_M2 e_x3)
    obtain ⟨x8, e_x8, e⟩ := bo e
    have p_x8 : Fx C L A x8 := (it_r (I := fun s : Int32 × Mem => Fx C L A s.2) (Q := (fun r : Mem => Fx C L A r)) (fun s_ r_ hs_ er_ => wl_Top_folk_48 x1.1 s_ (sb_t (by decide +kernel) hC) hs_ er_) e_x8 p_x3)
    obtain ⟨x9, e_x9, e⟩ := bo e
    have p_x9 : Fx C L A x9 := (wf_History_forget x8 (sb_t (by decide +kernel) hC) p_x8 e_x9)
    obtain ⟨x10, e_x10, e⟩ := bo e
    have p_x10 : Fx C L A x10 := (wf_History_spoil x9 (sb_t (by decide +kernel) hC) p_x9 e_x10)
    obtain rfl := Option.some.inj e
    exact p_x10
  obtain rfl := Option.some.inj e
  exact p_M2
theorem wf_Top_rule {C : Nat} {L : List Nat} {A : Mem} (M : Mem) (hC : sb 4164525379986854704016627065972336210907353318530970535048275087177121640482946596155882996741181538304 C)  (p0 : Fx C L A M) {r : (Int32 × Mem)} (e : f_Top_rule M = some r) : (fun r : Int32 × Mem => Fx C L A r.2) r := by
  unfold f_Top_rule at e
  obtain ⟨x1, e_x1, e⟩ := bo e
  have p_x1 : Fx C L A x1.2 := (wf_Law_read M (sb_t (by decide +kernel) hC) p0 e_x1)
  obtain ⟨M2, e_M2, e⟩ := mo e
  have p_M2 : Fx C L A M2 := wi1 p_x1 e_M2 (tb1 hC (by decide +kernel))
  obtain rfl := Option.some.inj e
  exact p_M2
theorem wj_Top_route_28 {C : Nat} {L : List Nat} {A : Mem} (v1 : Int32) (w0 : Int32) (M : Mem) (hC : sb 25031098077201959303246788996266078417037208306731560598674417551669082357604652743013628395520 C)  (p0 : Fx C L A M) {r : (Int32 × Mem)} (e : j_Top_route_28 v1 w0 M = some r) : (fun r : Int32 × Mem => Fx C L A r.2) r := by
  unfold j_Top_route_28 at e
  obtain ⟨M2, e_M2, e⟩ := mo e
  have p_M2 : Fx C L A M2 := wi1 p0 e_M2 (tb1 hC (by decide +kernel))
  rcases io e with ⟨_, e⟩ | ⟨_, e⟩
  · obtain ⟨_, e⟩ := io_n e
    obtain ⟨M3, e_M3, e⟩ := mo e
    have p_M3 : Fx C L A M3 := wi p_M2 e_M3 (oc_c hC (by decide +kernel))
    obtain ⟨x4, e_x4, e⟩ := bo e
    have p_x4 : Fx C L A x4 := (wf_History_forget M3 (sb_t (by decide +kernel) hC) p_M3 e_x4)
    obtain ⟨x5, e_x5, e⟩ := bo e
    have p_x5 : Fx C L A x5 := (wf_History_spoil x4 (sb_t (by decide +kernel) hC) p_x4 e_x5)
    obtain rfl := Option.some.inj e
    exact p_x5
  obtain rfl := Option.some.inj e
  exact p_M2
theorem wf_Top_route {C : Nat} {L : List Nat} {A : Mem} (v1 : Int32) (M : Mem) (hC : sb 25031098077201959303246788996266078417037208306731560598674417551669082357604652743013628396928 C)  (p0 : Fx C L A M) {r : (Int32 × Mem)} (e : f_Top_route v1 M = some r) : (fun r : Int32 × Mem => Fx C L A r.2) r := by
  unfold f_Top_route at e
  obtain ⟨x1, e_x1, e⟩ := bo e
  rcases io e with ⟨_, e⟩ | ⟨_, e⟩
  · exact (wj_Top_route_28 v1 (-100 : Int32) M (sb_t (by decide +kernel) hC) p0 e)
  obtain ⟨x7, e_x7, e⟩ := bo e
  have p_x7 : Fx C L A x7.2 := (wf_Crowd_tellWay v1 M (sb_t (by decide +kernel) hC) p0 e_x7)
  exact (wj_Top_route_28 v1 x7.1 x7.2 (sb_t (by decide +kernel) hC) p_x7 e)
theorem wf_Top_build {C : Nat} {L : List Nat} {A : Mem} (v1 : Int32) (v2 : Int32) (M : Mem) (hC : sb 25031098077198165028066660619174438843000443621367024647816893841666637411491881445641716498448 C)  (p0 : Fx C L A M) {r : (Int32 × Mem)} (e : f_Top_build v1 v2 M = some r) : (fun r : Int32 × Mem => Fx C L A r.2) r := by
  unfold f_Top_build at e
  obtain ⟨x1, e_x1, e⟩ := bo e
  rcases io e with ⟨_, e⟩ | ⟨_, e⟩
  · obtain rfl := Option.some.inj e
    exact p0
  rcases io e with ⟨_, e⟩ | ⟨_, e⟩
  · obtain rfl := Option.some.inj e
    exact p0
  rcases io e with ⟨_, e⟩ | ⟨_, e⟩
  · obtain rfl := Option.some.inj e
    exact p0
  obtain ⟨x2, e_x2, e⟩ := bo e
  rcases io e with ⟨_, e⟩ | ⟨_, e⟩
  · obtain rfl := Option.some.inj e
    exact p0
  obtain ⟨_, e⟩ := io_n e
  obtain ⟨_, e⟩ := io_n e
  obtain ⟨M3, e_M3, e⟩ := mo e
  have p_M3 : Fx C L A M3 := wi p0 e_M3 (oc_c hC (by decide +kernel))
  obtain ⟨x4, e_x4, e⟩ := bo e
  have p_x4 : Fx C L A x4 := (wf_History_forget M3 (sb_t (by decide +kernel) hC) p_M3 e_x4)
  obtain ⟨x5, e_x5, e⟩ := bo e
  have p_x5 : Fx C L A x5 := (wf_History_spoil x4 (sb_t (by decide +kernel) hC) p_x4 e_x5)
  obtain ⟨x6, e_x6, e⟩ := bo e
  have p_x6 : Fx C L A x6 := (wf_Nets_lay 32 11 (-1 : Int32) x5 (sb_t (by decide +kernel) hC) (oc_c hC (by decide +kernel)) (oc_c hC (by decide +kernel)) (oc_c hC (by decide +kernel)) p_x5 e_x6)
  obtain rfl := Option.some.inj e
  exact p_x6
theorem wf_Top_lay {C : Nat} {L : List Nat} {A : Mem} (v1 : Int32) (v2 : Int32) (M : Mem) (hC : sb 60129740800 C)  (p0 : Fx C L A M) {r : (Int32 × Mem)} (e : f_Top_lay v1 v2 M = some r) : (fun r : Int32 × Mem => Fx C L A r.2) r := by
  unfold f_Top_lay at e
  obtain ⟨x1, e_x1, e⟩ := bo e
  rcases io e with ⟨_, e⟩ | ⟨_, e⟩
  · obtain rfl := Option.some.inj e
    exact p0
  obtain ⟨x2, e_x2, e⟩ := bo e
  rcases io e with ⟨_, e⟩ | ⟨_, e⟩
  · obtain rfl := Option.some.inj e
    exact p0
  obtain ⟨x3, e_x3, e⟩ := bo e
  rcases io e with ⟨_, e⟩ | ⟨_, e⟩
  · obtain rfl := Option.some.inj e
    exact p0
  obtain ⟨x4, e_x4, e⟩ := bo e
  rcases io e with ⟨_, e⟩ | ⟨_, e⟩
  · obtain rfl := Option.some.inj e
    exact p0
  obtain ⟨x5, e_x5, e⟩ := bo e
  rcases io e with ⟨_, e⟩ | ⟨_, e⟩
  · obtain rfl := Option.some.inj e
    exact p0
  obtain ⟨x6, e_x6, e⟩ := bo e
  rcases io e with ⟨_, e⟩ | ⟨_, e⟩
  · obtain ⟨x7, e_x7, e⟩ := bo e
    rcases io e with ⟨_, e⟩ | ⟨_, e⟩
    · obtain ⟨x8, e_x8, e⟩ := bo e
      have p_x8 : Fx C L A x8.2 := (wf_Scene_addPlank 11 v1 v2 M (sb_t (by decide +kernel) hC) (oc_c hC (by decide +kernel)) (oc_c hC (by decide +kernel)) (oc_c hC (by decide +kernel)) p0 e_x8)
      rcases io e with ⟨_, e⟩ | ⟨_, e⟩
      · obtain rfl := Option.some.inj e
        exact p_x8
      obtain ⟨x9, e_x9, e⟩ := bo e
      have p_x9 : Fx C L A x9 := (wf_Nets_lay 32 11 (-1 : Int32) x8.2 (sb_t (by decide +kernel) hC) (oc_c hC (by decide +kernel)) (oc_c hC (by decide +kernel)) (oc_c hC (by decide +kernel)) p_x8 e_x9)
      obtain rfl := Option.some.inj e
      exact p_x9
    obtain rfl := Option.some.inj e
    exact p0
  obtain rfl := Option.some.inj e
  exact p0
theorem wf_Top_plank {C : Nat} {L : List Nat} {A : Mem} (v1 : Int32) (v2 : Int32) (M : Mem) (hC : sb 8343699359066055009355553539724812947666814540455853288567219525540678089576807913271202936832 C)  (p0 : Fx C L A M) {r : (Int32 × Mem)} (e : f_Top_plank v1 v2 M = some r) : (fun r : Int32 × Mem => Fx C L A r.2) r := by
  unfold f_Top_plank at e
  obtain ⟨x1, e_x1, e⟩ := bo e
  have p_x1 : Fx C L A x1 := (wf_Scene_copy 18 11 M (sb_t (by decide +kernel) hC) (oc_c hC (by decide +kernel)) (oc_c hC (by decide +kernel)) (oc_c hC (by decide +kernel)) (oc_c hC (by decide +kernel)) (oc_c hC (by decide +kernel)) (oc_c hC (by decide +kernel)) (oc_c hC (by decide +kernel)) p0 e_x1)
  obtain ⟨x2, e_x2, e⟩ := bo e
  have p_x2 : Fx C L A x2.2 := (wf_Top_lay v1 v2 x1 (sb_t (by decide +kernel) hC) p_x1 e_x2)
  rcases io e with ⟨_, e⟩ | ⟨_, e⟩
  · obtain rfl := Option.some.inj e
    exact p_x2
  obtain ⟨x3, e_x3, e⟩ := bo e
  have p_x3 : Fx C L A x3 := (wf_History_add 18 x2.2 (sb_t (by decide +kernel) hC) p_x2 e_x3)
  obtain rfl := Option.some.inj e
  exact p_x3
theorem wf_Top_lift {C : Nat} {L : List Nat} {A : Mem} (M : Mem) (hC : sb 60129544192 C)  (p0 : Fx C L A M) {r : (Int32 × Mem)} (e : f_Top_lift M = some r) : (fun r : Int32 × Mem => Fx C L A r.2) r := by
  unfold f_Top_lift at e
  rcases io e with ⟨_, e⟩ | ⟨_, e⟩
  · obtain ⟨M1, e_M1, e⟩ := mo e
    have p_M1 : Fx C L A M1 := wi p0 e_M1 (oc_c hC (by decide +kernel))
    obtain ⟨x2, e_x2, e⟩ := bo e
    have p_x2 : Fx C L A x2 := (wf_Nets_lay 32 11 (-1 : Int32) M1 (sb_t (by decide +kernel) hC) (oc_c hC (by decide +kernel)) (oc_c hC (by decide +kernel)) (oc_c hC (by decide +kernel)) p_M1 e_x2)
    obtain rfl := Option.some.inj e
    exact p_x2
  obtain rfl := Option.some.inj e
  exact p0
theorem wf_Top_take {C : Nat} {L : List Nat} {A : Mem} (M : Mem) (hC : sb 8343699359066055009355553539724812947666814540455853288567219525540678089576807913271202936832 C)  (p0 : Fx C L A M) {r : (Int32 × Mem)} (e : f_Top_take M = some r) : (fun r : Int32 × Mem => Fx C L A r.2) r := by
  unfold f_Top_take at e
  obtain ⟨x1, e_x1, e⟩ := bo e
  have p_x1 : Fx C L A x1 := (wf_Scene_copy 18 11 M (sb_t (by decide +kernel) hC) (oc_c hC (by decide +kernel)) (oc_c hC (by decide +kernel)) (oc_c hC (by decide +kernel)) (oc_c hC (by decide +kernel)) (oc_c hC (by decide +kernel)) (oc_c hC (by decide +kernel)) (oc_c hC (by decide +kernel)) p0 e_x1)
  obtain ⟨x2, e_x2, e⟩ := bo e
  have p_x2 : Fx C L A x2.2 := (wf_Top_lift x1 (sb_t (by decide +kernel) hC) p_x1 e_x2)
  rcases io e with ⟨_, e⟩ | ⟨_, e⟩
  · obtain rfl := Option.some.inj e
    exact p_x2
  obtain ⟨x3, e_x3, e⟩ := bo e
  have p_x3 : Fx C L A x3 := (wf_History_add 18 x2.2 (sb_t (by decide +kernel) hC) p_x2 e_x3)
  obtain rfl := Option.some.inj e
  exact p_x3
theorem wj_Top_sheet_78_35 {C : Nat} {L : List Nat} {A : Mem} (v1 : Int32) (v2 : Int32) (v3 : Int32) (v4 : Int32) (v5 : Int32) (v6 : Int32) (v7 : Int32) (M : Mem) (hC : sb 16384 C)  (p0 : Fx C L A M) {r : ((Int32 × Int32 × Mem) ⊕ ((Int32 × Mem)))} (e : j_Top_sheet_78_35 v1 v2 v3 v4 v5 v6 v7 M = some r) : (Sum.elim (fun r : Int32 × Int32 × Mem => Fx C L A r.2.2) (fun r : Int32 × Mem => Fx C L A r.2)) r := by
  unfold j_Top_sheet_78_35 at e
  obtain ⟨_, e⟩ := io_n e
  obtain ⟨M1, e_M1, e⟩ := mo e
  have p_M1 : Fx C L A M1 := wi p0 e_M1 (oc_c hC (by decide +kernel))
  obtain rfl := Option.some.inj e
  exact p_M1
theorem wl_Top_sheet_35 {C : Nat} {L : List Nat} {A : Mem} (v1 : Int32) (v2 : Int32) (v3 : Int32) (v4 : Int32) (s : Int32 × Int32 × Mem) (hC : sb 16384 C)  (p0 : Fx C L A s.2.2) {r : ((Int32 × Int32 × Mem) ⊕ ((Int32 × Mem)))} (e : lb_Top_sheet_35 v1 v2 v3 v4 s = some r) : (Sum.elim (fun r : Int32 × Int32 × Mem => Fx C L A r.2.2) (fun r : Int32 × Mem => Fx C L A r.2)) r := by
  unfold lb_Top_sheet_35 at e
  rcases io e with ⟨_, e⟩ | ⟨_, e⟩
  · obtain rfl := Option.some.inj e
    exact p0
  rcases io e with ⟨_, e⟩ | ⟨_, e⟩
  · exact (wj_Top_sheet_78_35 v1 v2 v3 v4 s.1 s.2.1 (0 : Int32) s.2.2 (sb_t (by decide +kernel) hC) p0 e)
  rcases io e with ⟨_, e⟩ | ⟨_, e⟩
  · exact (wj_Top_sheet_78_35 v1 v2 v3 v4 s.1 s.2.1 (0 : Int32) s.2.2 (sb_t (by decide +kernel) hC) p0 e)
  obtain ⟨x2, e_x2, e⟩ := bo e
  obtain ⟨x3, e_x3, e⟩ := bo e
  exact (wj_Top_sheet_78_35 v1 v2 v3 v4 s.1 s.2.1 x3 s.2.2 (sb_t (by decide +kernel) hC) p0 e)
theorem wf_Top_sheet {C : Nat} {L : List Nat} {A : Mem} (v1 : Int32) (v2 : Int32) (v3 : Int32) (v4 : Int32) (M : Mem) (hC : sb 16384 C)  (p0 : Fx C L A M) {r : (Int32 × Mem)} (e : f_Top_sheet v1 v2 v3 v4 M = some r) : (fun r : Int32 × Mem => Fx C L A r.2) r := by
  unfold f_Top_sheet at e
  rcases io e with ⟨_, e⟩ | ⟨_, e⟩
  · obtain rfl := Option.some.inj e
    exact p0
  rcases io e with ⟨_, e⟩ | ⟨_, e⟩
  · obtain rfl := Option.some.inj e
    exact p0
  rcases io e with ⟨_, e⟩ | ⟨_, e⟩
  · rcases io e with ⟨_, e⟩ | ⟨_, e⟩
    · obtain ⟨x7, e_x7, e⟩ := bo e
      have p_x7 : Fx C L A x7.2 := (it_r (I := fun s : Int32 × Int32 × Mem => Fx C L A s.2.2) (Q := (fun r : Int32 × Mem => Fx C L A r.2)) (fun s_ r_ hs_ er_ => wl_Top_sheet_35 v1 v2 v3 v4 s_ (sb_t (by decide +kernel) hC) hs_ er_) e_x7 p0)
      rcases io e with ⟨_, e⟩ | ⟨_, e⟩
      · obtain rfl := Option.some.inj e
        exact p_x7
      obtain rfl := Option.some.inj e
      exact p_x7
    rcases io e with ⟨_, e⟩ | ⟨_, e⟩
    · obtain ⟨x9, e_x9, e⟩ := bo e
      have p_x9 : Fx C L A x9.2 := (it_r (I := fun s : Int32 × Int32 × Mem => Fx C L A s.2.2) (Q := (fun r : Int32 × Mem => Fx C L A r.2)) (fun s_ r_ hs_ er_ => wl_Top_sheet_35 v1 v2 v3 v4 s_ (sb_t (by decide +kernel) hC) hs_ er_) e_x9 p0)
      rcases io e with ⟨_, e⟩ | ⟨_, e⟩
      · obtain rfl := Option.some.inj e
        exact p_x9
      obtain rfl := Option.some.inj e
      exact p_x9
    obtain rfl := Option.some.inj e
    exact p0
  obtain rfl := Option.some.inj e
  exact p0
theorem wf_Top_give {C : Nat} {L : List Nat} {A : Mem} (v1 : Int32) (M : Mem) (hC : sb 2048 C)  (p0 : Fx C L A M) {r : (Int32 × Mem)} (e : f_Top_give v1 M = some r) : (fun r : Int32 × Mem => Fx C L A r.2) r := by
  unfold f_Top_give at e
  obtain ⟨x1, e_x1, e⟩ := bo e
  rcases io e with ⟨_, e⟩ | ⟨_, e⟩
  · obtain rfl := Option.some.inj e
    exact p0
  rcases io e with ⟨_, e⟩ | ⟨_, e⟩
  · obtain ⟨M2, e_M2, e⟩ := mo e
    have p_M2 : Fx C L A M2 := wi p0 e_M2 (oc_c hC (by decide +kernel))
    obtain rfl := Option.some.inj e
    exact p_M2
  obtain rfl := Option.some.inj e
  exact p0
theorem wf_Top_tell {C : Nat} {L : List Nat} {A : Mem} (v1 : Int32) (M : Mem) (hC : sb 8343699359066055009355553539724812947666814540455853288567219525540678089576807913211073394688 C)  (p0 : Fx C L A M) {r : (Int32 × Mem)} (e : f_Top_tell v1 M = some r) : (fun r : Int32 × Mem => Fx C L A r.2) r := by
  unfold f_Top_tell at e
  obtain ⟨x1, e_x1, e⟩ := bo e
  have p_x1 : Fx C L A x1 := (wf_Scene_copy 18 11 M (sb_t (by decide +kernel) hC) (oc_c hC (by decide +kernel)) (oc_c hC (by decide +kernel)) (oc_c hC (by decide +kernel)) (oc_c hC (by decide +kernel)) (oc_c hC (by decide +kernel)) (oc_c hC (by decide +kernel)) (oc_c hC (by decide +kernel)) p0 e_x1)
  obtain ⟨x2, e_x2, e⟩ := bo e
  have p_x2 : Fx C L A x2.2 := (wf_Top_give v1 x1 (sb_t (by decide +kernel) hC) p_x1 e_x2)
  rcases io e with ⟨_, e⟩ | ⟨_, e⟩
  · obtain rfl := Option.some.inj e
    exact p_x2
  obtain ⟨x3, e_x3, e⟩ := bo e
  have p_x3 : Fx C L A x3 := (wf_History_add 18 x2.2 (sb_t (by decide +kernel) hC) p_x2 e_x3)
  obtain ⟨x4, e_x4, e⟩ := bo e
  obtain rfl := Option.some.inj e
  exact p_x3
theorem wl_Top_celebrate_34 {C : Nat} {L : List Nat} {A : Mem} (v1 : Int32) (s : Int32 × Mem) (hC : sb 8192 C)  (p0 : Fx C L A s.2) {r : ((Int32 × Mem) ⊕ ((Mem)))} (e : lb_Top_celebrate_34 v1 s = some r) : (Sum.elim (fun r : Int32 × Mem => Fx C L A r.2) (fun r : Mem => Fx C L A r)) r := by
  unfold lb_Top_celebrate_34 at e
  rcases io e with ⟨_, e⟩ | ⟨_, e⟩
  · obtain rfl := Option.some.inj e
    exact p0
  obtain ⟨x2, e_x2, e⟩ := bo e
  rcases io e with ⟨_, e⟩ | ⟨_, e⟩
  · obtain rfl := Option.some.inj e
    exact p0
  obtain ⟨_, e⟩ := io_n e
  obtain ⟨x3, e_x3, e⟩ := bo e
  rcases io e with ⟨_, e⟩ | ⟨_, e⟩
  · obtain rfl := Option.some.inj e
    exact p0
  rcases io e with ⟨_, e⟩ | ⟨_, e⟩
  · obtain ⟨_, e⟩ := io_n e
    obtain ⟨M5, e_M5, e⟩ := mo e
    have p_M5 : Fx C L A M5 := wi p0 e_M5 (oc_c hC (by decide +kernel))
    obtain rfl := Option.some.inj e
    exact p_M5
  obtain ⟨_, e⟩ := io_n e
  obtain ⟨M4, e_M4, e⟩ := mo e
  have p_M4 : Fx C L A M4 := wi p0 e_M4 (oc_c hC (by decide +kernel))
  obtain rfl := Option.some.inj e
  exact p_M4
theorem wf_Top_celebrate {C : Nat} {L : List Nat} {A : Mem} (v1 : Int32) (M : Mem) (hC : sb 10240 C)  (p0 : Fx C L A M) {r : (Int32 × Mem)} (e : f_Top_celebrate v1 M = some r) : (fun r : Int32 × Mem => Fx C L A r.2) r := by
  unfold f_Top_celebrate at e
  rcases io e with ⟨_, e⟩ | ⟨_, e⟩
  · obtain rfl := Option.some.inj e
    exact p0
  rcases io e with ⟨_, e⟩ | ⟨_, e⟩
  · obtain ⟨x11, e_x11, e⟩ := bo e
    rcases io e with ⟨_, e⟩ | ⟨_, e⟩
    · obtain ⟨M12, e_M12, e⟩ := mo e
      have p_M12 : Fx C L A M12 := wi p0 e_M12 (oc_c hC (by decide +kernel))
      obtain ⟨x13, e_x13, e⟩ := bo e
      have p_x13 : Fx C L A x13 := (it_r (I := fun s : Int32 × Mem => Fx C L A s.2) (Q := (fun r : Mem => Fx C L A r)) (fun s_ r_ hs_ er_ => wl_Top_celebrate_34 v1 s_ (sb_t (by decide +kernel) hC) hs_ er_) e_x13 p_M12)
      obtain rfl := Option.some.inj e
      exact p_x13
    obtain rfl := Option.some.inj e
    exact p0
  obtain ⟨M1, e_M1, e⟩ := mo e
  have p_M1 : Fx C L A M1 := wi p0 e_M1 (oc_c hC (by decide +kernel))
  obtain ⟨x10, e_x10, e⟩ := bo e
  have p_x10 : Fx C L A x10 := (it_r (I := fun s : Int32 × Mem => Fx C L A s.2) (Q := (fun r : Mem => Fx C L A r)) (fun s_ r_ hs_ er_ => wl_Top_celebrate_34 v1 s_ (sb_t (by decide +kernel) hC) hs_ er_) e_x10 p_M1)
  obtain rfl := Option.some.inj e
  exact p_x10
theorem wf_Top_feast {C : Nat} {L : List Nat} {A : Mem} (v1 : Int32) (M : Mem) (hC : sb 8343699359066055009355553539724812947666814540455853288567219525540678089576807913211073394688 C)  (p0 : Fx C L A M) {r : (Int32 × Mem)} (e : f_Top_feast v1 M = some r) : (fun r : Int32 × Mem => Fx C L A r.2) r := by
  unfold f_Top_feast at e
  obtain ⟨x1, e_x1, e⟩ := bo e
  have p_x1 : Fx C L A x1 := (wf_Scene_copy 18 11 M (sb_t (by decide +kernel) hC) (oc_c hC (by decide +kernel)) (oc_c hC (by decide +kernel)) (oc_c hC (by decide +kernel)) (oc_c hC (by decide +kernel)) (oc_c hC (by decide +kernel)) (oc_c hC (by decide +kernel)) (oc_c hC (by decide +kernel)) p0 e_x1)
  rcases io e with ⟨_, e⟩ | ⟨_, e⟩
  · obtain rfl := Option.some.inj e
    exact p_x1
  rcases io e with ⟨_, e⟩ | ⟨_, e⟩
  · obtain rfl := Option.some.inj e
    exact p_x1
  obtain ⟨x2, e_x2, e⟩ := bo e
  have p_x2 : Fx C L A x2.2 := (wf_Top_celebrate v1 x1 (sb_t (by decide +kernel) hC) p_x1 e_x2)
  rcases io e with ⟨_, e⟩ | ⟨_, e⟩
  · obtain rfl := Option.some.inj e
    exact p_x2
  obtain ⟨x3, e_x3, e⟩ := bo e
  have p_x3 : Fx C L A x3 := (wf_History_add 18 x2.2 (sb_t (by decide +kernel) hC) p_x2 e_x3)
  obtain ⟨x4, e_x4, e⟩ := bo e
  obtain rfl := Option.some.inj e
  exact p_x3
theorem wf_Top_emptyRow {C : Nat} {L : List Nat} {A : Mem} (M : Mem) (hC : sb 63657374260452690195888927762793067532858387302060507832379389042324415617604272068231168 C)  (p0 : Fx C L A M) {r : (Mem)} (e : f_Top_emptyRow M = some r) : (fun r : Mem => Fx C L A r) r := by
  unfold f_Top_emptyRow at e
  obtain ⟨M1, e_M1, e⟩ := mo e
  have p_M1 : Fx C L A M1 := wi1 p0 e_M1 (tb1 hC (by decide +kernel))
  obtain rfl := Option.some.inj e
  exact p_M1
theorem wf_Top_note {C : Nat} {L : List Nat} {A : Mem} (v1 : Int32) (M : Mem) (hC : sb 63657374260452690195888927762793067532861310305335169638215796411989848183643583933317120 C)  (p0 : Fx C L A M) {r : (Mem)} (e : f_Top_note v1 M = some r) : (fun r : Mem => Fx C L A r) r := by
  unfold f_Top_note at e
  rcases io e with ⟨_, e⟩ | ⟨_, e⟩
  · obtain rfl := Option.some.inj e
    exact p0
  rcases io e with ⟨_, e⟩ | ⟨_, e⟩
  · obtain rfl := Option.some.inj e
    exact p0
  obtain ⟨_, e⟩ := io_n e
  obtain ⟨M1, e_M1, e⟩ := mo e
  have p_M1 : Fx C L A M1 := wi p0 e_M1 (oc_c hC (by decide +kernel))
  obtain ⟨M2, e_M2, e⟩ := mo e
  have p_M2 : Fx C L A M2 := wi1 p_M1 e_M2 (tb1 hC (by decide +kernel))
  obtain rfl := Option.some.inj e
  exact p_M2
theorem wf_Top_minute {C : Nat} {L : List Nat} {A : Mem} (M : Mem) (hC : sb 71098737063793332848478207750111811969656932445644603514458882678255966490468263660368172747674942426839040 C)  (p0 : Fx C L A M) {r : (Int32 × Mem)} (e : f_Top_minute M = some r) : (fun r : Int32 × Mem => Fx C L A r.2) r := by
  unfold f_Top_minute at e
  obtain ⟨x1, e_x1, e⟩ := bo e
  have p_x1 : Fx C L A x1 := (wf_Scene_copy 18 11 M (sb_t (by decide +kernel) hC) (oc_c hC (by decide +kernel)) (oc_c hC (by decide +kernel)) (oc_c hC (by decide +kernel)) (oc_c hC (by decide +kernel)) (oc_c hC (by decide +kernel)) (oc_c hC (by decide +kernel)) (oc_c hC (by decide +kernel)) p0 e_x1)
  obtain ⟨x2, e_x2, e⟩ := bo e
  have p_x2 : Fx C L A x2 := (wf_Clock_pass 11 32 x1 (sb_t (by decide +kernel) hC) (oc_c hC (by decide +kernel)) (oc_c hC (by decide +kernel)) (oc_c hC (by decide +kernel)) (oc_c hC (by decide +kernel)) p_x1 e_x2)
  obtain ⟨x3, e_x3, e⟩ := bo e
  have p_x3 : Fx C L A x3 := (wf_History_add 18 x2 (sb_t (by decide +kernel) hC) p_x2 e_x3)
  obtain ⟨x4, e_x4, e⟩ := bo e
  have p_x4 : Fx C L A x4 := (wf_Top_emptyRow x3 (sb_t (by decide +kernel) hC) p_x3 e_x4)
  obtain ⟨x5, e_x5, e⟩ := bo e
  have p_x5 : Fx C L A x5 := (wf_Top_note (x4.1 45 0) x4 (sb_t (by decide +kernel) hC) p_x4 e_x5)
  obtain ⟨x6, e_x6, e⟩ := bo e
  have p_x6 : Fx C L A x6 := (wf_Top_note (x5.1 45 1) x5 (sb_t (by decide +kernel) hC) p_x5 e_x6)
  obtain rfl := Option.some.inj e
  exact p_x6
theorem wl_Top_minutes_32 {C : Nat} {L : List Nat} {A : Mem} (v1 : Int32) (s : Int32 × Mem) (hC : sb 71098737063784989085461767434649766220228279869903869167057116519632229632726926570288747756118147420182528 C)  (p0 : Fx C L A s.2) {r : ((Int32 × Mem) ⊕ ((Mem)))} (e : lb_Top_minutes_32 v1 s = some r) : (Sum.elim (fun r : Int32 × Mem => Fx C L A r.2) (fun r : Mem => Fx C L A r)) r := by
  unfold lb_Top_minutes_32 at e
  rcases io e with ⟨_, e⟩ | ⟨_, e⟩
  · obtain rfl := Option.some.inj e
    exact p0
  obtain ⟨x3, e_x3, e⟩ := bo e
  have p_x3 : Fx C L A x3 := (wf_Clock_pass 11 32 s.2 (sb_t (by decide +kernel) hC) (oc_c hC (by decide +kernel)) (oc_c hC (by decide +kernel)) (oc_c hC (by decide +kernel)) (oc_c hC (by decide +kernel)) p0 e_x3)
  obtain rfl := Option.some.inj e
  exact p_x3
theorem wj_Top_minutes_85 {C : Nat} {L : List Nat} {A : Mem} (M : Mem) (hC : sb 63657374260452690195888927762793067532861310305335169638215796411989848183643583933317120 C)  (p0 : Fx C L A M) {r : (Int32 × Mem)} (e : j_Top_minutes_85 M = some r) : (fun r : Int32 × Mem => Fx C L A r.2) r := by
  unfold j_Top_minutes_85 at e
  obtain ⟨x6, e_x6, e⟩ := bo e
  have p_x6 : Fx C L A x6 := (wf_Top_emptyRow M (sb_t (by decide +kernel) hC) p0 e_x6)
  obtain ⟨x7, e_x7, e⟩ := bo e
  have p_x7 : Fx C L A x7 := (wf_Top_note (x6.1 45 3) x6 (sb_t (by decide +kernel) hC) p_x6 e_x7)
  obtain ⟨x8, e_x8, e⟩ := bo e
  have p_x8 : Fx C L A x8 := (wf_Top_note (x7.1 11 8) x7 (sb_t (by decide +kernel) hC) p_x7 e_x8)
  obtain rfl := Option.some.inj e
  exact p_x8
theorem wf_Top_minutes {C : Nat} {L : List Nat} {A : Mem} (v1 : Int32) (M : Mem) (hC : sb 71098737063793332848478207750111811969656932445644603514458882678255966490468263660368172747674942426839040 C)  (p0 : Fx C L A M) {r : (Int32 × Mem)} (e : f_Top_minutes v1 M = some r) : (fun r : Int32 × Mem => Fx C L A r.2) r := by
  unfold f_Top_minutes at e
  rcases io e with ⟨_, e⟩ | ⟨_, e⟩
  · obtain rfl := Option.some.inj e
    exact p0
  rcases io e with ⟨_, e⟩ | ⟨_, e⟩
  · obtain ⟨x1, e_x1, e⟩ := bo e
    have p_x1 : Fx C L A x1 := (wf_Scene_copy 18 11 M (sb_t (by decide +kernel) hC) (oc_c hC (by decide +kernel)) (oc_c hC (by decide +kernel)) (oc_c hC (by decide +kernel)) (oc_c hC (by decide +kernel)) (oc_c hC (by decide +kernel)) (oc_c hC (by decide +kernel)) (oc_c hC (by decide +kernel)) p0 e_x1)
    obtain ⟨x2, e_x2, e⟩ := bo e
    have p_x2 : Fx C L A x2 := (wf_Clock_reset x1 (sb_t (by decide +kernel) hC) p_x1 e_x2)
    obtain ⟨x5, e_x5, e⟩ := bo e
    have p_x5 : Fx C L A x5 := (it_r (I := fun s : Int32 × Mem => Fx C L A s.2) (Q := (fun r : Mem => Fx C L A r)) (fun s_ r_ hs_ er_ => wl_Top_minutes_32 v1 s_ (sb_t (by decide +kernel) hC) hs_ er_) e_x5 p_x2)
    rcases io e with ⟨_, e⟩ | ⟨_, e⟩
    · exact (wj_Top_minutes_85 x5 (sb_t (by decide +kernel) hC) p_x5 e)
    obtain ⟨x9, e_x9, e⟩ := bo e
    have p_x9 : Fx C L A x9 := (wf_History_add 18 x5 (sb_t (by decide +kernel) hC) p_x5 e_x9)
    exact (wj_Top_minutes_85 x9 (sb_t (by decide +kernel) hC) p_x9 e)
  obtain rfl := Option.some.inj e
  exact p0
theorem wl_Top_lasts_10 {C : Nat} {L : List Nat} {A : Mem} (v1 : Int32) (s : Int32 × Mem) (hC : sb 71098737063784989085461767434649766220228279869903869167057116519632229632726926570288747756118147420182528 C)  (p0 : Fx C L A s.2) {r : ((Int32 × Mem) ⊕ ((Mem)))} (e : lb_Top_lasts_10 v1 s = some r) : (Sum.elim (fun r : Int32 × Mem => Fx C L A r.2) (fun r : Mem => Fx C L A r)) r := by
  unfold lb_Top_lasts_10 at e
  rcases io e with ⟨_, e⟩ | ⟨_, e⟩
  · obtain rfl := Option.some.inj e
    exact p0
  obtain ⟨x1, e_x1, e⟩ := bo e
  have p_x1 : Fx C L A x1 := (wf_Clock_pass 11 32 s.2 (sb_t (by decide +kernel) hC) (oc_c hC (by decide +kernel)) (oc_c hC (by decide +kernel)) (oc_c hC (by decide +kernel)) (oc_c hC (by decide +kernel)) p0 e_x1)
  obtain rfl := Option.some.inj e
  exact p_x1
theorem wf_Top_lasts {C : Nat} {L : List Nat} {A : Mem} (v1 : Int32) (M : Mem) (hC : sb 71098737063784989085461767434649766220228279869903869167057116519632229632726926570288747756118147420182528 C)  (p0 : Fx C L A M) {r : (Int32 × Mem)} (e : f_Top_lasts v1 M = some r) : (fun r : Int32 × Mem => Fx C L A r.2) r := by
  unfold f_Top_lasts at e
  rcases io e with ⟨_, e⟩ | ⟨_, e⟩
  · obtain ⟨x3, e_x3, e⟩ := bo e
    have p_x3 : Fx C L A x3 := (it_r (I := fun s : Int32 × Mem => Fx C L A s.2) (Q := (fun r : Mem => Fx C L A r)) (fun s_ r_ hs_ er_ => wl_Top_lasts_10 v1 s_ (sb_t (by decide +kernel) hC) hs_ er_) e_x3 p0)
    obtain rfl := Option.some.inj e
    exact p_x3
  obtain rfl := Option.some.inj e
  exact p0
theorem wf_Top_does {C : Nat} {L : List Nat} {A : Mem} (v1 : Int32) (M : Mem) (hC : sb 71098737063784989085461767434649766220228279869903869167057116519632229632726926570288747756118207549929472 C)  (p0 : Fx C L A M) {r : (Int32 × Mem)} (e : f_Top_does v1 M = some r) : (fun r : Int32 × Mem => Fx C L A r.2) r := by
  unfold f_Top_does at e
  rcases io e with ⟨_, e⟩ | ⟨_, e⟩
  · obtain rfl := Option.some.inj e
    exact p0
  rcases io e with ⟨_, e⟩ | ⟨_, e⟩
  · obtain ⟨_, e⟩ := io_n e
    rcases io e with ⟨_, e⟩ | ⟨_, e⟩
    · obtain ⟨x1, e_x1, e⟩ := bo e
      have p_x1 : Fx C L A x1.2 := (wf_Top_celebrate ((1 : Int32) - (M.1 11 9)) M (sb_t (by decide +kernel) hC) p0 e_x1)
      obtain ⟨_, e⟩ := io_n e
      obtain rfl := Option.some.inj e
      exact p_x1
    rcases io e with ⟨_, e⟩ | ⟨_, e⟩
    · obtain ⟨_, e⟩ := io_n e
      obtain ⟨x3, e_x3, e⟩ := bo e
      have p_x3 : Fx C L A x3.2 := (wf_Top_lasts (M.1 149 v1.toNatClampNeg) M (sb_t (by decide +kernel) hC) p0 e_x3)
      obtain ⟨_, e⟩ := io_n e
      obtain rfl := Option.some.inj e
      exact p_x3
    rcases io e with ⟨_, e⟩ | ⟨_, e⟩
    · obtain ⟨_, e⟩ := io_n e
      obtain ⟨x5, e_x5, e⟩ := bo e
      have p_x5 : Fx C L A x5.2 := (wf_Top_give (M.1 149 v1.toNatClampNeg) M (sb_t (by decide +kernel) hC) p0 e_x5)
      obtain ⟨_, e⟩ := io_n e
      obtain rfl := Option.some.inj e
      exact p_x5
    rcases io e with ⟨_, e⟩ | ⟨_, e⟩
    · obtain ⟨_, e⟩ := io_n e
      obtain ⟨_, e⟩ := io_n e
      obtain ⟨x7, e_x7, e⟩ := bo e
      have p_x7 : Fx C L A x7.2 := (wf_Top_lay (M.1 149 v1.toNatClampNeg) (M.1 150 v1.toNatClampNeg) M (sb_t (by decide +kernel) hC) p0 e_x7)
      rcases io e with ⟨_, e⟩ | ⟨_, e⟩
      · obtain rfl := Option.some.inj e
        exact p_x7
      obtain rfl := Option.some.inj e
      exact p_x7
    rcases io e with ⟨_, e⟩ | ⟨_, e⟩
    · obtain ⟨x10, e_x10, e⟩ := bo e
      have p_x10 : Fx C L A x10.2 := (wf_Top_lift M (sb_t (by decide +kernel) hC) p0 e_x10)
      obtain ⟨_, e⟩ := io_n e
      obtain rfl := Option.some.inj e
      exact p_x10
    obtain rfl := Option.some.inj e
    exact p0
  obtain rfl := Option.some.inj e
  exact p0
theorem wl_Top_evening_48 {C : Nat} {L : List Nat} {A : Mem} (v1 : Int32) (s : Int32 × Int32 × Mem) (hC : sb 71098737063784989085461767434649766220228279869903869167057116519632229632726926570288747756118207549929472 C)  (p0 : Fx C L A s.2.2) {r : ((Int32 × Int32 × Mem) ⊕ ((Int32 × Mem)))} (e : lb_Top_evening_48 v1 s = some r) : (Sum.elim (fun r : Int32 × Int32 × Mem => Fx C L A r.2.2) (fun r : Int32 × Mem => Fx C L A r.2)) r := by
  unfold lb_Top_evening_48 at e
  rcases io e with ⟨_, e⟩ | ⟨_, e⟩
  · obtain rfl := Option.some.inj e
    exact p0
  rcases io e with ⟨_, e⟩ | ⟨_, e⟩
  · obtain ⟨x5, e_x5, e⟩ := bo e
    have p_x5 : Fx C L A x5.2 := (wf_Top_does s.2.1 s.2.2 (sb_t (by decide +kernel) hC) p0 e_x5)
    rcases io e with ⟨_, e⟩ | ⟨_, e⟩
    · obtain rfl := Option.some.inj e
      exact p_x5
    obtain rfl := Option.some.inj e
    exact p_x5
  obtain rfl := Option.some.inj e
  exact p0
theorem wj_Top_evening_105 {C : Nat} {L : List Nat} {A : Mem} (v2 : Int32) (w0 : Int32) (M : Mem) (hC : sb 63657374260452690195888927762793067532861310305335169638215796411989848183643583933317120 C)  (p0 : Fx C L A M) {r : (Int32 × Mem)} (e : j_Top_evening_105 v2 w0 M = some r) : (fun r : Int32 × Mem => Fx C L A r.2) r := by
  unfold j_Top_evening_105 at e
  obtain ⟨x11, e_x11, e⟩ := bo e
  have p_x11 : Fx C L A x11 := (wf_Top_note w0 M (sb_t (by decide +kernel) hC) p0 e_x11)
  obtain ⟨x12, e_x12, e⟩ := bo e
  have p_x12 : Fx C L A x12 := (wf_Top_note (x11.1 45 4) x11 (sb_t (by decide +kernel) hC) p_x11 e_x12)
  obtain rfl := Option.some.inj e
  exact p_x12
theorem wj_Top_evening_90 {C : Nat} {L : List Nat} {A : Mem} (v1 : Int32) (v2 : Int32) (M : Mem) (hC : sb 63657374260452690195888927762793067532861310305335169638215796411989848183643583933317120 C)  (p0 : Fx C L A M) {r : (Int32 × Mem)} (e : j_Top_evening_90 v1 v2 M = some r) : (fun r : Int32 × Mem => Fx C L A r.2) r := by
  unfold j_Top_evening_90 at e
  obtain ⟨x10, e_x10, e⟩ := bo e
  have p_x10 : Fx C L A x10 := (wf_Top_emptyRow M (sb_t (by decide +kernel) hC) p0 e_x10)
  rcases io e with ⟨_, e⟩ | ⟨_, e⟩
  · exact (wj_Top_evening_105 v2 (0 : Int32) x10 (sb_t (by decide +kernel) hC) p_x10 e)
  exact (wj_Top_evening_105 v2 (1 : Int32) x10 (sb_t (by decide +kernel) hC) p_x10 e)
theorem wj_Top_evening_75 {C : Nat} {L : List Nat} {A : Mem} (v1 : Int32) (v2 : Int32) (M : Mem) (hC : sb 8343763016440315462045749428652575740734347401766158623736857741337090079424991556795006711808 C)  (p0 : Fx C L A M) {r : (Int32 × Mem)} (e : j_Top_evening_75 v1 v2 M = some r) : (fun r : Int32 × Mem => Fx C L A r.2) r := by
  unfold j_Top_evening_75 at e
  rcases io e with ⟨_, e⟩ | ⟨_, e⟩
  · exact (wj_Top_evening_90 v1 v2 M (sb_t (by decide +kernel) hC) p0 e)
  obtain ⟨x14, e_x14, e⟩ := bo e
  have p_x14 : Fx C L A x14 := (wf_History_add 18 M (sb_t (by decide +kernel) hC) p0 e_x14)
  exact (wj_Top_evening_90 v1 v2 x14 (sb_t (by decide +kernel) hC) p_x14 e)
theorem wf_Top_evening {C : Nat} {L : List Nat} {A : Mem} (M : Mem) (hC : sb 18859439399254459155964322993447633571360248598630925679466842751041464202213895610556798944676333411605936128 C)  (p0 : Fx C L A M) {r : (Int32 × Mem)} (e : f_Top_evening M = some r) : (fun r : Int32 × Mem => Fx C L A r.2) r := by
  unfold f_Top_evening at e
  obtain ⟨x1, e_x1, e⟩ := bo e
  have p_x1 : Fx C L A x1.2 := (wf_Acts_read M (sb_t (by decide +kernel) hC) p0 e_x1)
  obtain ⟨M2, e_M2, e⟩ := mo e
  have p_M2 : Fx C L A M2 := wi1 p_x1 e_M2 (tb1 hC (by decide +kernel))
  rcases io e with ⟨_, e⟩ | ⟨_, e⟩
  · obtain ⟨x3, e_x3, e⟩ := bo e
    have p_x3 : Fx C L A x3 := (wf_Scene_copy 18 11 M2 (sb_t (by decide +kernel) hC) (oc_c hC (by decide +kernel)) (oc_c hC (by decide +kernel)) (oc_c hC (by decide +kernel)) (oc_c hC (by decide +kernel)) (oc_c hC (by decide +kernel)) (oc_c hC (by decide +kernel)) (oc_c hC (by decide +kernel)) p_M2 e_x3)
    obtain ⟨x4, e_x4, e⟩ := bo e
    have p_x4 : Fx C L A x4 := (wf_Clock_reset x3 (sb_t (by decide +kernel) hC) p_x3 e_x4)
    obtain ⟨x9, e_x9, e⟩ := bo e
    have p_x9 : Fx C L A x9.2 := (it_r (I := fun s : Int32 × Int32 × Mem => Fx C L A s.2.2) (Q := (fun r : Int32 × Mem => Fx C L A r.2)) (fun s_ r_ hs_ er_ => wl_Top_evening_48 x1.1 s_ (sb_t (by decide +kernel) hC) hs_ er_) e_x9 p_x4)
    exact (wj_Top_evening_75 x1.1 x9.1 x9.2 (sb_t (by decide +kernel) hC) p_x9 e)
  obtain rfl := Option.some.inj e
  exact p_M2
theorem wf_Top_undo {C : Nat} {L : List Nat} {A : Mem} (M : Mem) (hC : sb 8343699359066055009355553539724812947666814540455674882605631280555545803830627148587325454336 C)  (p0 : Fx C L A M) {r : (Int32 × Mem)} (e : f_Top_undo M = some r) : (fun r : Int32 × Mem => Fx C L A r.2) r := by
  unfold f_Top_undo at e
  obtain ⟨x1, e_x1, e⟩ := bo e
  have p_x1 : Fx C L A x1.2 := (wf_History_back 11 M (sb_t (by decide +kernel) hC) (oc_c hC (by decide +kernel)) (oc_c hC (by decide +kernel)) (oc_c hC (by decide +kernel)) (oc_c hC (by decide +kernel)) (oc_c hC (by decide +kernel)) (oc_c hC (by decide +kernel)) (oc_c hC (by decide +kernel)) p0 e_x1)
  rcases io e with ⟨_, e⟩ | ⟨_, e⟩
  · obtain rfl := Option.some.inj e
    exact p_x1
  obtain ⟨x2, e_x2, e⟩ := bo e
  have p_x2 : Fx C L A x2 := (wf_Nets_lay 32 11 (-1 : Int32) x1.2 (sb_t (by decide +kernel) hC) (oc_c hC (by decide +kernel)) (oc_c hC (by decide +kernel)) (oc_c hC (by decide +kernel)) p_x1 e_x2)
  obtain rfl := Option.some.inj e
  exact p_x2
theorem wl_Top_ahead_32 {C : Nat} {L : List Nat} {A : Mem} (v1 : Int32) (s : Int32 × Mem) (hC : sb 71098737063784989085461767434649766220228279869903869167057116519632229632726926570288747756118148326096896 C)  (p0 : Fx C L A s.2) {r : ((Int32 × Mem) ⊕ ((Mem)))} (e : lb_Top_ahead_32 v1 s = some r) : (Sum.elim (fun r : Int32 × Mem => Fx C L A r.2) (fun r : Mem => Fx C L A r)) r := by
  unfold lb_Top_ahead_32 at e
  rcases io e with ⟨_, e⟩ | ⟨_, e⟩
  · obtain rfl := Option.some.inj e
    exact p0
  obtain ⟨x3, e_x3, e⟩ := bo e
  have p_x3 : Fx C L A x3 := (wf_Clock_pass 25 32 s.2 (sb_t (by decide +kernel) hC) (oc_c hC (by decide +kernel)) (oc_c hC (by decide +kernel)) (oc_c hC (by decide +kernel)) (oc_c hC (by decide +kernel)) p0 e_x3)
  obtain rfl := Option.some.inj e
  exact p_x3
theorem wl_Top_ahead_76 {C : Nat} {L : List Nat} {A : Mem} (s : Int32 × Mem) (hC : sb 63657374260452690195888927762793067532861310305335169638215796411989848183643583933317120 C)  (p0 : Fx C L A s.2) {r : ((Int32 × Mem) ⊕ ((Mem)))} (e : lb_Top_ahead_76 s = some r) : (Sum.elim (fun r : Int32 × Mem => Fx C L A r.2) (fun r : Mem => Fx C L A r)) r := by
  unfold lb_Top_ahead_76 at e
  rcases io e with ⟨_, e⟩ | ⟨_, e⟩
  · obtain rfl := Option.some.inj e
    exact p0
  obtain ⟨_, e⟩ := io_n e
  obtain ⟨x7, e_x7, e⟩ := bo e
  have p_x7 : Fx C L A x7 := (wf_Top_note (s.2.1 26 s.1.toNatClampNeg) s.2 (sb_t (by decide +kernel) hC) p0 e_x7)
  obtain rfl := Option.some.inj e
  exact p_x7
theorem wf_Top_ahead {C : Nat} {L : List Nat} {A : Mem} (v1 : Int32) (M : Mem) (hC : sb 71098737063784989149119141695102456416117207632696936699918426824967399270942722982278595939761735614857216 C)  (p0 : Fx C L A M) {r : (Int32 × Mem)} (e : f_Top_ahead v1 M = some r) : (fun r : Int32 × Mem => Fx C L A r.2) r := by
  unfold f_Top_ahead at e
  rcases io e with ⟨_, e⟩ | ⟨_, e⟩
  · obtain rfl := Option.some.inj e
    exact p0
  rcases io e with ⟨_, e⟩ | ⟨_, e⟩
  · obtain ⟨x1, e_x1, e⟩ := bo e
    have p_x1 : Fx C L A x1 := (wf_Scene_copy 25 11 M (sb_t (by decide +kernel) hC) (oc_c hC (by decide +kernel)) (oc_c hC (by decide +kernel)) (oc_c hC (by decide +kernel)) (oc_c hC (by decide +kernel)) (oc_c hC (by decide +kernel)) (oc_c hC (by decide +kernel)) (oc_c hC (by decide +kernel)) p0 e_x1)
    obtain ⟨x2, e_x2, e⟩ := bo e
    have p_x2 : Fx C L A x2 := (wf_Clock_reset x1 (sb_t (by decide +kernel) hC) p_x1 e_x2)
    obtain ⟨x5, e_x5, e⟩ := bo e
    have p_x5 : Fx C L A x5 := (it_r (I := fun s : Int32 × Mem => Fx C L A s.2) (Q := (fun r : Mem => Fx C L A r)) (fun s_ r_ hs_ er_ => wl_Top_ahead_32 v1 s_ (sb_t (by decide +kernel) hC) hs_ er_) e_x5 p_x2)
    obtain ⟨x6, e_x6, e⟩ := bo e
    have p_x6 : Fx C L A x6 := (wf_Top_emptyRow x5 (sb_t (by decide +kernel) hC) p_x5 e_x6)
    obtain ⟨x9, e_x9, e⟩ := bo e
    have p_x9 : Fx C L A x9 := (it_r (I := fun s : Int32 × Mem => Fx C L A s.2) (Q := (fun r : Mem => Fx C L A r)) (fun s_ r_ hs_ er_ => wl_Top_ahead_76  s_ (sb_t (by decide +kernel) hC) hs_ er_) e_x9 p_x6)
    obtain rfl := Option.some.inj e
    exact p_x9
  obtain rfl := Option.some.inj e
  exact p0
end
