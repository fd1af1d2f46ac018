/-! frames -/
theorem wf_Mod_sheet {C : Nat} {L : List Nat} {A : Mem} (v1 : Int32) (v2 : Int32) (v3 : Int32) (v4 : Int32) (M : Mem) (hC : sb 13164036458569660029252852107682149669340548655332796154249216000 C)  (p0 : Fx C L A M) {r : (Int32 × Mem)} (e : f_Mod_sheet v1 v2 v3 v4 M = some r) : (fun r : Int32 × Mem => Fx C L A r.2) r := by
  unfold f_Mod_sheet at e
  obtain ⟨M1, e_M1, e⟩ := mo e
  have p_M1 : Fx C L A M1 := wi1 p0 e_M1 (tb1 hC (by decide +kernel))
  obtain ⟨x2, e_x2, e⟩ := bo e
  rcases io e with ⟨_, e⟩ | ⟨_, e⟩
  · obtain rfl := Option.some.inj e
    exact p_M1
  rcases io e with ⟨_, e⟩ | ⟨_, e⟩
  · rcases io e with ⟨_, e⟩ | ⟨_, e⟩
    · obtain ⟨x9, e_x9, e⟩ := bo e
      have p_x9 : Fx C L A x9.2 := (it_r (I := fun s : Int32 × Int32 × Int32 × Mem => Fx C L A s.2.2.2) (Q := (fun r : Int32 × Mem => Fx C L A r.2)) (fun s_ r_ hs_ er_ => wl_Mod_sheet_43 v1 v2 v4 s_ (sb_t (by decide +kernel) hC) hs_ er_) e_x9 p_M1)
      rcases io e with ⟨_, e⟩ | ⟨_, e⟩
      · obtain rfl := Option.some.inj e
        exact p_x9
      obtain rfl := Option.some.inj e
      exact p_x9
    rcases io e with ⟨_, e⟩ | ⟨_, e⟩
    · obtain ⟨x11, e_x11, e⟩ := bo e
      have p_x11 : Fx C L A x11.2 := (it_r (I := fun s : Int32 × Int32 × Int32 × Mem => Fx C L A s.2.2.2) (Q := (fun r : Int32 × Mem => Fx C L A r.2)) (fun s_ r_ hs_ er_ => wl_Mod_sheet_43 v1 v2 v4 s_ (sb_t (by decide +kernel) hC) hs_ er_) e_x11 p_M1)
      rcases io e with ⟨_, e⟩ | ⟨_, e⟩
      · obtain rfl := Option.some.inj e
        exact p_x11
      obtain rfl := Option.some.inj e
      exact p_x11
    obtain rfl := Option.some.inj e
    exact p_M1
  obtain rfl := Option.some.inj e
  exact p_M1
theorem wf_Mod_tell {C : Nat} {L : List Nat} {A : Mem} (v1 : Int32) (M : Mem) (hC : sb 215692737373663699989986786563021433463352645540770409666382523269120 C)  (p0 : Fx C L A M) {r : (Int32 × Mem)} (e : f_Mod_tell v1 M = some r) : (fun r : Int32 × Mem => Fx C L A r.2) r := by
  unfold f_Mod_tell at e
  obtain ⟨M1, e_M1, e⟩ := mo e
  have p_M1 : Fx C L A M1 := wi1 p0 e_M1 (tb1 hC (by decide +kernel))
  obtain ⟨x2, e_x2, e⟩ := bo e
  rcases io e with ⟨_, e⟩ | ⟨_, e⟩
  · obtain rfl := Option.some.inj e
    exact p_M1
  obtain ⟨x3, e_x3, e⟩ := bo e
  have p_x3 : Fx C L A x3 := (wf_Mod_remember 163 M1 (sb_t (by decide +kernel) hC) p_M1 e_x3)
  obtain ⟨M4, e_M4, e⟩ := mo e
  have p_M4 : Fx C L A M4 := wi p_x3 e_M4 (oc_c hC (by decide +kernel))
  obtain ⟨x5, e_x5, e⟩ := bo e
  obtain rfl := Option.some.inj e
  exact p_M4
theorem wl_Mod_goFeast_10 {C : Nat} {L : List Nat} {A : Mem} (v1 : Int32) (s : Int32 × Mem) (hC : sb 11692013098647223345629478661730264157247460343808 C)  (p0 : Fx C L A s.2) {r : ((Int32 × Mem) ⊕ ((Mem)))} (e : lb_Mod_goFeast_10 v1 s = some r) : (Sum.elim (fun r : Int32 × Mem => Fx C L A r.2) (fun r : Mem => Fx C L A r)) r := by
  unfold lb_Mod_goFeast_10 at e
  rcases io e with ⟨_, e⟩ | ⟨_, e⟩
  · obtain rfl := Option.some.inj e
    exact p0
  obtain ⟨x2, e_x2, e⟩ := bo e
  rcases io e with ⟨_, e⟩ | ⟨_, e⟩
  · obtain rfl := Option.some.inj e
    exact p0
  obtain ⟨_, e⟩ := io_n e
  obtain ⟨x3, e_x3, e⟩ := bo e
  obtain ⟨_, e⟩ := io_n e
  rcases io e with ⟨_, e⟩ | ⟨_, e⟩
  · obtain ⟨_, e⟩ := io_n e
    obtain ⟨x4, e_x4, e⟩ := bo e
    obtain ⟨x5, e_x5, e⟩ := bo e
    obtain ⟨_, e⟩ := io_n e
    obtain ⟨M6, e_M6, e⟩ := mo e
    have p_M6 : Fx C L A M6 := wi p0 e_M6 (oc_c hC (by decide +kernel))
    obtain rfl := Option.some.inj e
    exact p_M6
  obtain rfl := Option.some.inj e
  exact p0
theorem wf_Mod_goFeast {C : Nat} {L : List Nat} {A : Mem} (v1 : Int32) (M : Mem) (hC : sb 11692013098647223345629478661730264157247460343808 C)  (p0 : Fx C L A M) {r : (Mem)} (e : f_Mod_goFeast v1 M = some r) : (fun r : Mem => Fx C L A r) r := by
  unfold f_Mod_goFeast at e
  obtain ⟨M1, e_M1, e⟩ := mo e
  have p_M1 : Fx C L A M1 := wi p0 e_M1 (oc_c hC (by decide +kernel))
  obtain ⟨x10, e_x10, e⟩ := bo e
  have p_x10 : Fx C L A x10 := (it_r (I := fun s : Int32 × Mem => Fx C L A s.2) (Q := (fun r : Mem => Fx C L A r)) (fun s_ r_ hs_ er_ => wl_Mod_goFeast_10 v1 s_ (sb_t (by decide +kernel) hC) hs_ er_) e_x10 p_M1)
  obtain rfl := Option.some.inj e
  exact p_x10
theorem wf_Mod_feast {C : Nat} {L : List Nat} {A : Mem} (v1 : Int32) (M : Mem) (hC : sb 215692737373663699989986786563021433463352645540770409666382523269120 C)  (p0 : Fx C L A M) {r : (Int32 × Mem)} (e : f_Mod_feast v1 M = some r) : (fun r : Int32 × Mem => Fx C L A r.2) r := by
  unfold f_Mod_feast at e
  obtain ⟨M1, e_M1, e⟩ := mo e
  have p_M1 : Fx C L A M1 := wi1 p0 e_M1 (tb1 hC (by decide +kernel))
  obtain ⟨x2, e_x2, e⟩ := bo e
  rcases io e with ⟨_, e⟩ | ⟨_, e⟩
  · obtain rfl := Option.some.inj e
    exact p_M1
  obtain ⟨x3, e_x3, e⟩ := bo e
  have p_x3 : Fx C L A x3 := (wf_Mod_remember 163 M1 (sb_t (by decide +kernel) hC) p_M1 e_x3)
  obtain ⟨x4, e_x4, e⟩ := bo e
  have p_x4 : Fx C L A x4 := (wf_Mod_goFeast v1 x3 (sb_t (by decide +kernel) hC) p_x3 e_x4)
  obtain ⟨x5, e_x5, e⟩ := bo e
  obtain rfl := Option.some.inj e
  exact p_x4
theorem wj_Mod_goMinute_85_12 {C : Nat} {L : List Nat} {A : Mem} (v1 : Nat) (v2 : Int32) (M : Mem) (hC : sb 0 C) (h_v1 : Oc C L (v1)) (p0 : Fx C L A M) {r : ((Int32 × Mem) ⊕ ((Mem)))} (e : j_Mod_goMinute_85_12 v1 v2 M = some r) : (Sum.elim (fun r : Int32 × Mem => Fx C L A r.2) (fun r : Mem => Fx C L A r)) r := by
  unfold j_Mod_goMinute_85_12 at e
  obtain ⟨_, e⟩ := io_n e
  obtain ⟨_, e⟩ := io_n e
  obtain ⟨_, e⟩ := io_m e
  obtain ⟨_, e⟩ := io_n e
  obtain ⟨M5, e_M5, e⟩ := mo e
  have p_M5 : Fx C L A M5 := wi p0 e_M5 h_v1
  obtain rfl := Option.some.inj e
  exact p_M5
theorem wl_Mod_goMinute_12 {C : Nat} {L : List Nat} {A : Mem} (v1 : Nat) (s : Int32 × Mem) (hC : sb 944414303610703711010254392760235519427771491778274292450847268798464 C) (h_v1 : Oc C L (v1)) (p0 : Fx C L A s.2) {r : ((Int32 × Mem) ⊕ ((Mem)))} (e : lb_Mod_goMinute_12 v1 s = some r) : (Sum.elim (fun r : Int32 × Mem => Fx C L A r.2) (fun r : Mem => Fx C L A r)) r := by
  unfold lb_Mod_goMinute_12 at e
  rcases io e with ⟨_, e⟩ | ⟨_, e⟩
  · obtain rfl := Option.some.inj e
    exact p0
  obtain ⟨x3, e_x3, e⟩ := bo e
  have p_x3 : Fx C L A x3.2 := (wf_Mod_goes v1 s.1 s.2 (sb_t (by decide +kernel) hC) p0 e_x3)
  rcases io e with ⟨_, e⟩ | ⟨_, e⟩
  · obtain rfl := Option.some.inj e
    exact p_x3
  obtain ⟨_, e⟩ := io_n e
  obtain ⟨_, e⟩ := io_n e
  obtain ⟨_, e⟩ := io_n e
  obtain ⟨x4, e_x4, e⟩ := bo e
  rcases io e with ⟨_, e⟩ | ⟨_, e⟩
  · exact (wj_Mod_goMinute_85_12 v1 s.1 x3.2 (sb_t (by decide +kernel) hC) h_v1 p_x3 e)
  obtain ⟨_, e⟩ := io_n e
  rcases io e with ⟨_, e⟩ | ⟨_, e⟩
  · exact (wj_Mod_goMinute_85_12 v1 s.1 x3.2 (sb_t (by decide +kernel) hC) h_v1 p_x3 e)
  obtain ⟨_, e⟩ := io_n e
  obtain ⟨M6, e_M6, e⟩ := mo e
  have p_M6 : Fx C L A M6 := wi p_x3 e_M6 h_v1
  obtain ⟨M7, e_M7, e⟩ := mo e
  have p_M7 : Fx C L A M7 := wi1 p_M6 e_M7 (tb1 hC (by decide +kernel))
  exact (wj_Mod_goMinute_85_12 v1 s.1 M7 (sb_t (by decide +kernel) hC) h_v1 p_M7 e)
theorem wl_Mod_goMinute_124 {C : Nat} {L : List Nat} {A : Mem} (v1 : Nat) (v2 : Int32) (s : Int32 × Mem) (hC : sb 3450873173395281893717377931138512726225554486085193277581262111899648 C) (h_v1 : Oc C L (v1)) (p0 : Fx C L A s.2) {r : ((Int32 × Mem) ⊕ ((Mem)))} (e : lb_Mod_goMinute_124 v1 v2 s = some r) : (Sum.elim (fun r : Int32 × Mem => Fx C L A r.2) (fun r : Mem => Fx C L A r)) r := by
  unfold lb_Mod_goMinute_124 at e
  rcases io e with ⟨_, e⟩ | ⟨_, e⟩
  · obtain rfl := Option.some.inj e
    exact p0
  obtain ⟨x13, e_x13, e⟩ := bo e
  rcases io e with ⟨_, e⟩ | ⟨_, e⟩
  · obtain ⟨x14, e_x14, e⟩ := bo e
    rcases io e with ⟨_, e⟩ | ⟨_, e⟩
    · obtain rfl := Option.some.inj e
      exact p0
    obtain ⟨x15, e_x15, e⟩ := bo e
    rcases io e with ⟨_, e⟩ | ⟨_, e⟩
    · obtain rfl := Option.some.inj e
      exact p0
    obtain ⟨_, e⟩ := io_n e
    obtain ⟨_, e⟩ := io_n e
    obtain ⟨M16, e_M16, e⟩ := mo e
    have p_M16 : Fx C L A M16 := wi p0 e_M16 h_v1
    obtain ⟨_, e⟩ := io_n e
    obtain ⟨_, e⟩ := io_n e
    obtain ⟨M17, e_M17, e⟩ := mo e
    have p_M17 : Fx C L A M17 := wi p_M16 e_M17 h_v1
    obtain ⟨M18, e_M18, e⟩ := mo e
    have p_M18 : Fx C L A M18 := wi1 p_M17 e_M18 (tb1 hC (by decide +kernel))
    obtain rfl := Option.some.inj e
    exact p_M18
  obtain rfl := Option.some.inj e
  exact p0
theorem wl_Mod_goMinute_114 {C : Nat} {L : List Nat} {A : Mem} (v1 : Nat) (s : Int32 × Mem) (hC : sb 3450873173395281893717377931138512726225554486085193277581262111899648 C) (h_v1 : Oc C L (v1)) (p0 : Fx C L A s.2) {r : ((Int32 × Mem) ⊕ ((Mem)))} (e : lb_Mod_goMinute_114 v1 s = some r) : (Sum.elim (fun r : Int32 × Mem => Fx C L A r.2) (fun r : Mem => Fx C L A r)) r := by
  unfold lb_Mod_goMinute_114 at e
  rcases io e with ⟨_, e⟩ | ⟨_, e⟩
  · obtain rfl := Option.some.inj e
    exact p0
  obtain ⟨x23, e_x23, e⟩ := bo e
  have p_x23 : Fx C L A x23 := (it_r (I := fun s : Int32 × Mem => Fx C L A s.2) (Q := (fun r : Mem => Fx C L A r)) (fun s_ r_ hs_ er_ => wl_Mod_goMinute_124 v1 s.1 s_ (sb_t (by decide +kernel) hC) h_v1 hs_ er_) e_x23 p0)
  obtain rfl := Option.some.inj e
  exact p_x23
theorem wl_Mod_goMinute_226 {C : Nat} {L : List Nat} {A : Mem} (v1 : Nat) (v2 : Int32) (s : Int32 × Mem) (hC : sb 0 C) (h_v1 : Oc C L (v1)) (p0 : Fx C L A s.2) {r : ((Int32 × Mem) ⊕ ((Mem)))} (e : lb_Mod_goMinute_226 v1 v2 s = some r) : (Sum.elim (fun r : Int32 × Mem => Fx C L A r.2) (fun r : Mem => Fx C L A r)) r := by
  unfold lb_Mod_goMinute_226 at e
  rcases io e with ⟨_, e⟩ | ⟨_, e⟩
  · obtain rfl := Option.some.inj e
    exact p0
  obtain ⟨x26, e_x26, e⟩ := bo e
  rcases io e with ⟨_, e⟩ | ⟨_, e⟩
  · obtain rfl := Option.some.inj e
    exact p0
  obtain ⟨_, e⟩ := io_n e
  obtain ⟨x27, e_x27, e⟩ := bo e
  obtain ⟨_, e⟩ := io_n e
  obtain ⟨M28, e_M28, e⟩ := mo e
  have p_M28 : Fx C L A M28 := wi p0 e_M28 h_v1
  obtain rfl := Option.some.inj e
  exact p_M28
theorem wf_Mod_goMinute {C : Nat} {L : List Nat} {A : Mem} (v1 : Nat) (M : Mem) (hC : sb 6120724063703626551586321289468004608766103220906064208822740436647936 C) (h_v1 : Oc C L (v1)) (p0 : Fx C L A M) {r : (Mem)} (e : f_Mod_goMinute v1 M = some r) : (fun r : Mem => Fx C L A r) r := by
  unfold f_Mod_goMinute at e
  obtain ⟨g_v1, e⟩ := io_n e
  obtain ⟨M1, e_M1, e⟩ := mo e
  have p_M1 : Fx C L A M1 := wi1 p0 e_M1 (tb1 hC (by decide +kernel))
  obtain ⟨M2, e_M2, e⟩ := mo e
  have p_M2 : Fx C L A M2 := wi1 p_M1 e_M2 (tb1 hC (by decide +kernel))
  obtain ⟨x12, e_x12, e⟩ := bo e
  have p_x12 : Fx C L A x12 := (it_r (I := fun s : Int32 × Mem => Fx C L A s.2) (Q := (fun r : Mem => Fx C L A r)) (fun s_ r_ hs_ er_ => wl_Mod_goMinute_12 v1 s_ (sb_t (by decide +kernel) hC) h_v1 hs_ er_) e_x12 p_M2)
  obtain ⟨x25, e_x25, e⟩ := bo e
  have p_x25 : Fx C L A x25 := (it_r (I := fun s : Int32 × Mem => Fx C L A s.2) (Q := (fun r : Mem => Fx C L A r)) (fun s_ r_ hs_ er_ => wl_Mod_goMinute_114 v1 s_ (sb_t (by decide +kernel) hC) h_v1 hs_ er_) e_x25 p_x12)
  obtain ⟨_, e⟩ := io_n e
  obtain ⟨x31, e_x31, e⟩ := bo e
  have p_x31 : Fx C L A x31 := (it_r (I := fun s : Int32 × Mem => Fx C L A s.2) (Q := (fun r : Mem => Fx C L A r)) (fun s_ r_ hs_ er_ => wl_Mod_goMinute_226 v1 (x25.1 v1 (93 : Int32).toNatClampNeg) s_ (sb_t (by decide +kernel) hC) h_v1 hs_ er_) e_x31 p_x25)
  obtain ⟨_, e⟩ := io_n e
  obtain ⟨M32, e_M32, e⟩ := mo e
  have p_M32 : Fx C L A M32 := wi1 p_x31 e_M32 (tb1 hC (by decide +kernel))
  obtain ⟨_, e⟩ := io_n e
  obtain ⟨_, e⟩ := io_n e
  obtain ⟨M33, e_M33, e⟩ := mo e
  have p_M33 : Fx C L A M33 := wi p_M32 e_M33 h_v1
  obtain rfl := Option.some.inj e
  exact p_M33
theorem wf_Mod_minute {C : Nat} {L : List Nat} {A : Mem} (M : Mem) (hC : sb 6336423383095519536774621115064467418691619114565665605840495085355008 C)  (p0 : Fx C L A M) {r : (Int32 × Mem)} (e : f_Mod_minute M = some r) : (fun r : Int32 × Mem => Fx C L A r.2) r := by
  unfold f_Mod_minute at e
  obtain ⟨M1, e_M1, e⟩ := mo e
  have p_M1 : Fx C L A M1 := wi1 p0 e_M1 (tb1 hC (by decide +kernel))
  obtain ⟨x2, e_x2, e⟩ := bo e
  have p_x2 : Fx C L A x2 := (wf_Mod_remember 163 M1 (sb_t (by decide +kernel) hC) p_M1 e_x2)
  obtain ⟨x3, e_x3, e⟩ := bo e
  have p_x3 : Fx C L A x3 := (wf_Mod_goMinute 163 x2 (sb_t (by decide +kernel) hC) (oc_c hC (by decide +kernel)) p_x2 e_x3)
  obtain ⟨M4, e_M4, e⟩ := mo e
  have p_M4 : Fx C L A M4 := wi1 p_x3 e_M4 (tb1 hC (by decide +kernel))
  obtain ⟨x5, e_x5, e⟩ := bo e
  have p_x5 : Fx C L A x5 := (wf_Mod_put (M4.1 162 29) M4 (sb_t (by decide +kernel) hC) p_M4 e_x5)
  obtain ⟨x6, e_x6, e⟩ := bo e
  have p_x6 : Fx C L A x6 := (wf_Mod_put (x5.1 162 30) x5 (sb_t (by decide +kernel) hC) p_x5 e_x6)
  obtain rfl := Option.some.inj e
  exact p_x6
theorem wl_Mod_minutes_36 {C : Nat} {L : List Nat} {A : Mem} (v1 : Int32) (s : Int32 × Int32 × Int32 × Mem) (hC : sb 6120724063703626551598013302566651832111732699567794472979987896991744 C)  (p0 : Fx C L A s.2.2.2) {r : ((Int32 × Int32 × Int32 × Mem) ⊕ ((Int32 × Int32 × Mem)))} (e : lb_Mod_minutes_36 v1 s = some r) : (Sum.elim (fun r : Int32 × Int32 × Int32 × Mem => Fx C L A r.2.2.2) (fun r : Int32 × Int32 × Mem => Fx C L A r.2.2)) r := by
  unfold lb_Mod_minutes_36 at e
  rcases io e with ⟨_, e⟩ | ⟨_, e⟩
  · obtain rfl := Option.some.inj e
    exact p0
  obtain ⟨x3, e_x3, e⟩ := bo e
  have p_x3 : Fx C L A x3 := (wf_Mod_goMinute 163 s.2.2.2 (sb_t (by decide +kernel) hC) (oc_c hC (by decide +kernel)) p0 e_x3)
  obtain ⟨x4, e_x4, e⟩ := bo e
  obtain rfl := Option.some.inj e
  exact p_x3
theorem wf_Mod_minutes {C : Nat} {L : List Nat} {A : Mem} (v1 : Int32) (M : Mem) (hC : sb 6336423383095519536774621115064467418691619114565665605840495085355008 C)  (p0 : Fx C L A M) {r : (Int32 × Mem)} (e : f_Mod_minutes v1 M = some r) : (fun r : Int32 × Mem => Fx C L A r.2) r := by
  unfold f_Mod_minutes at e
  obtain ⟨M1, e_M1, e⟩ := mo e
  have p_M1 : Fx C L A M1 := wi1 p0 e_M1 (tb1 hC (by decide +kernel))
  obtain ⟨x2, e_x2, e⟩ := bo e
  rcases io e with ⟨_, e⟩ | ⟨_, e⟩
  · obtain rfl := Option.some.inj e
    exact p_M1
  rcases io e with ⟨_, e⟩ | ⟨_, e⟩
  · obtain ⟨x6, e_x6, e⟩ := bo e
    have p_x6 : Fx C L A x6.2.2 := (it_r (I := fun s : Int32 × Int32 × Int32 × Mem => Fx C L A s.2.2.2) (Q := (fun r : Int32 × Int32 × Mem => Fx C L A r.2.2)) (fun s_ r_ hs_ er_ => wl_Mod_minutes_36 v1 s_ (sb_t (by decide +kernel) hC) hs_ er_) e_x6 p_M1)
    obtain ⟨M7, e_M7, e⟩ := mo e
    have p_M7 : Fx C L A M7 := wi1 p_x6 e_M7 (tb1 hC (by decide +kernel))
    obtain ⟨x8, e_x8, e⟩ := bo e
    have p_x8 : Fx C L A x8 := (wf_Mod_put x6.2.1 M7 (sb_t (by decide +kernel) hC) p_M7 e_x8)
    obtain ⟨x9, e_x9, e⟩ := bo e
    have p_x9 : Fx C L A x9 := (wf_Mod_put (x8.1 163 (93 : Int32).toNatClampNeg) x8 (sb_t (by decide +kernel) hC) p_x8 e_x9)
    obtain rfl := Option.some.inj e
    exact p_x9
  obtain ⟨x10, e_x10, e⟩ := bo e
  have p_x10 : Fx C L A x10 := (wf_Mod_remember 163 M1 (sb_t (by decide +kernel) hC) p_M1 e_x10)
  obtain ⟨x11, e_x11, e⟩ := bo e
  have p_x11 : Fx C L A x11.2.2 := (it_r (I := fun s : Int32 × Int32 × Int32 × Mem => Fx C L A s.2.2.2) (Q := (fun r : Int32 × Int32 × Mem => Fx C L A r.2.2)) (fun s_ r_ hs_ er_ => wl_Mod_minutes_36 v1 s_ (sb_t (by decide +kernel) hC) hs_ er_) e_x11 p_x10)
  obtain ⟨M12, e_M12, e⟩ := mo e
  have p_M12 : Fx C L A M12 := wi1 p_x11 e_M12 (tb1 hC (by decide +kernel))
  obtain ⟨x13, e_x13, e⟩ := bo e
  have p_x13 : Fx C L A x13 := (wf_Mod_put x11.2.1 M12 (sb_t (by decide +kernel) hC) p_M12 e_x13)
  obtain ⟨x14, e_x14, e⟩ := bo e
  have p_x14 : Fx C L A x14 := (wf_Mod_put (x13.1 163 (93 : Int32).toNatClampNeg) x13 (sb_t (by decide +kernel) hC) p_x13 e_x14)
  obtain rfl := Option.some.inj e
  exact p_x14
theorem wj_Mod_readAct_110 {C : Nat} {L : List Nat} {A : Mem} (v1 : Int32) (v2 : Int32) (M : Mem) (hC : sb 631873750011391010673160225128846292257969019565282753123434102784 C)  (p0 : Fx C L A M) {r : (Mem)} (e : j_Mod_readAct_110 v1 v2 M = some r) : (fun r : Mem => Fx C L A r) r := by
  unfold j_Mod_readAct_110 at e
  rcases io e with ⟨_, e⟩ | ⟨_, e⟩
  · obtain ⟨x6, e_x6, e⟩ := bo e
    obtain ⟨_, e⟩ := io_n e
    obtain ⟨M7, e_M7, e⟩ := mo e
    have p_M7 : Fx C L A M7 := wi p0 e_M7 (oc_c hC (by decide +kernel))
    obtain ⟨x8, e_x8, e⟩ := bo e
    obtain ⟨x9, e_x9, e⟩ := bo e
    rcases io e with ⟨_, e⟩ | ⟨_, e⟩
    · obtain ⟨x11, e_x11, e⟩ := bo e
      have p_x11 : Fx C L A x11 := (wf_Mod_fault (M7.1 162 17) M7 (sb_t (by decide +kernel) hC) p_M7 e_x11)
      obtain ⟨M12, e_M12, e⟩ := mo e
      have p_M12 : Fx C L A M12 := wi1 p_x11 e_M12 (tb1 hC (by decide +kernel))
      obtain rfl := Option.some.inj e
      exact p_M12
    obtain ⟨M10, e_M10, e⟩ := mo e
    have p_M10 : Fx C L A M10 := wi1 p_M7 e_M10 (tb1 hC (by decide +kernel))
    obtain rfl := Option.some.inj e
    exact p_M10
  obtain rfl := Option.some.inj e
  exact p0
theorem wj_Mod_readAct_85 {C : Nat} {L : List Nat} {A : Mem} (v1 : Int32) (v2 : Int32) (M : Mem) (hC : sb 631873750011391010673160225128846292257969019565282753123434102784 C)  (p0 : Fx C L A M) {r : (Mem)} (e : j_Mod_readAct_85 v1 v2 M = some r) : (fun r : Mem => Fx C L A r) r := by
  unfold j_Mod_readAct_85 at e
  rcases io e with ⟨_, e⟩ | ⟨_, e⟩
  · obtain ⟨x15, e_x15, e⟩ := bo e
    have p_x15 : Fx C L A x15 := (wf_Mod_need (45 : Int32) M (sb_t (by decide +kernel) hC) p0 e_x15)
    obtain ⟨x16, e_x16, e⟩ := bo e
    have p_x16 : Fx C L A x16.2 := (wf_Mod_number (2 : Int32) x15 (sb_t (by decide +kernel) hC) p_x15 e_x16)
    obtain ⟨_, e⟩ := io_n e
    obtain ⟨M17, e_M17, e⟩ := mo e
    have p_M17 : Fx C L A M17 := wi p_x16 e_M17 (oc_c hC (by decide +kernel))
    exact (wj_Mod_readAct_110 v1 v2 M17 (sb_t (by decide +kernel) hC) p_M17 e)
  exact (wj_Mod_readAct_110 v1 v2 M (sb_t (by decide +kernel) hC) p0 e)
theorem wj_Mod_readAct_72 {C : Nat} {L : List Nat} {A : Mem} (v1 : Int32) (v2 : Int32) (M : Mem) (hC : sb 631873750011391010673160225128846292257969019565282753123434102784 C)  (p0 : Fx C L A M) {r : (Mem)} (e : j_Mod_readAct_72 v1 v2 M = some r) : (fun r : Mem => Fx C L A r) r := by
  unfold j_Mod_readAct_72 at e
  obtain ⟨x4, e_x4, e⟩ := bo e
  have p_x4 : Fx C L A x4.2 := (wf_Mod_number (2 : Int32) M (sb_t (by decide +kernel) hC) p0 e_x4)
  obtain ⟨_, e⟩ := io_n e
  obtain ⟨M5, e_M5, e⟩ := mo e
  have p_M5 : Fx C L A M5 := wi p_x4 e_M5 (oc_c hC (by decide +kernel))
  exact (wj_Mod_readAct_85 v1 v2 M5 (sb_t (by decide +kernel) hC) p_M5 e)
theorem wj_Mod_readAct_43 {C : Nat} {L : List Nat} {A : Mem} (v1 : Int32) (v2 : Int32) (M : Mem) (hC : sb 631873750011391010673160225128846292257969019565282753123434102784 C)  (p0 : Fx C L A M) {r : (Mem)} (e : j_Mod_readAct_43 v1 v2 M = some r) : (fun r : Mem => Fx C L A r) r := by
  unfold j_Mod_readAct_43 at e
  obtain ⟨M2, e_M2, e⟩ := mo e
  have p_M2 : Fx C L A M2 := wi1 p0 e_M2 (tb1 hC (by decide +kernel))
  obtain ⟨_, e⟩ := io_n e
  obtain ⟨M3, e_M3, e⟩ := mo e
  have p_M3 : Fx C L A M3 := wi p_M2 e_M3 (oc_c hC (by decide +kernel))
  rcases io e with ⟨_, e⟩ | ⟨_, e⟩
  · exact (wj_Mod_readAct_72 v1 v2 M3 (sb_t (by decide +kernel) hC) p_M3 e)
  rcases io e with ⟨_, e⟩ | ⟨_, e⟩
  · exact (wj_Mod_readAct_72 v1 v2 M3 (sb_t (by decide +kernel) hC) p_M3 e)
  exact (wj_Mod_readAct_85 v1 v2 M3 (sb_t (by decide +kernel) hC) p_M3 e)
theorem wf_Mod_readAct {C : Nat} {L : List Nat} {A : Mem} (v1 : Int32) (M : Mem) (hC : sb 631873750011391010673160225128846292257969019565282753123434102784 C)  (p0 : Fx C L A M) {r : (Mem)} (e : f_Mod_readAct v1 M = some r) : (fun r : Mem => Fx C L A r) r := by
  unfold f_Mod_readAct at e
  obtain ⟨x1, e_x1, e⟩ := bo e
  rcases io e with ⟨_, e⟩ | ⟨_, e⟩
  · exact (wj_Mod_readAct_43 v1 x1 M (sb_t (by decide +kernel) hC) p0 e)
  rcases io e with ⟨_, e⟩ | ⟨_, e⟩
  · exact (wj_Mod_readAct_43 v1 x1 M (sb_t (by decide +kernel) hC) p0 e)
  rcases io e with ⟨_, e⟩ | ⟨_, e⟩
  · exact (wj_Mod_readAct_43 v1 x1 M (sb_t (by decide +kernel) hC) p0 e)
  rcases io e with ⟨_, e⟩ | ⟨_, e⟩
  · exact (wj_Mod_readAct_43 v1 x1 M (sb_t (by decide +kernel) hC) p0 e)
  rcases io e with ⟨_, e⟩ | ⟨_, e⟩
  · exact (wj_Mod_readAct_43 v1 x1 M (sb_t (by decide +kernel) hC) p0 e)
  obtain ⟨x21, e_x21, e⟩ := bo e
  have p_x21 : Fx C L A x21 := (wf_Mod_fault (M.1 162 17) M (sb_t (by decide +kernel) hC) p0 e_x21)
  exact (wj_Mod_readAct_43 v1 x1 x21 (sb_t (by decide +kernel) hC) p_x21 e)
theorem wl_Mod_act_66 {C : Nat} {L : List Nat} {A : Mem} (v2 : Int32) (s : Int32 × Mem) (hC : sb 19924216757284754126467525027120702737013950643908567583305036344590336 C)  (p0 : Fx C L A s.2) {r : ((Int32 × Mem) ⊕ ((Mem)))} (e : lb_Mod_act_66 v2 s = some r) : (Sum.elim (fun r : Int32 × Mem => Fx C L A r.2) (fun r : Mem => Fx C L A r)) r := by
  unfold lb_Mod_act_66 at e
  rcases io e with ⟨_, e⟩ | ⟨_, e⟩
  · obtain rfl := Option.some.inj e
    exact p0
  obtain ⟨x4, e_x4, e⟩ := bo e
  have p_x4 : Fx C L A x4 := (wf_Mod_goMinute 163 s.2 (sb_t (by decide +kernel) hC) (oc_c hC (by decide +kernel)) p0 e_x4)
  obtain ⟨M5, e_M5, e⟩ := mo e
  have p_M5 : Fx C L A M5 := wi1 p_x4 e_M5 (tb1 hC (by decide +kernel))
  obtain rfl := Option.some.inj e
  exact p_M5
theorem wf_Mod_act {C : Nat} {L : List Nat} {A : Mem} (v1 : Int32) (M : Mem) (hC : sb 19924216757284754126467525027120702737013950643908567583305036344590336 C)  (p0 : Fx C L A M) {r : (Int32 × Mem)} (e : f_Mod_act v1 M = some r) : (fun r : Int32 × Mem => Fx C L A r.2) r := by
  unfold f_Mod_act at e
  obtain ⟨_, e⟩ := io_n e
  obtain ⟨_, e⟩ := io_n e
  rcases io e with ⟨_, e⟩ | ⟨_, e⟩
  · rcases io e with ⟨_, e⟩ | ⟨_, e⟩
    · obtain ⟨x7, e_x7, e⟩ := bo e
      have p_x7 : Fx C L A x7 := (it_r (I := fun s : Int32 × Mem => Fx C L A s.2) (Q := (fun r : Mem => Fx C L A r)) (fun s_ r_ hs_ er_ => wl_Mod_act_66 (M.1 175 (v1 + (1 : Int32)).toNatClampNeg) s_ (sb_t (by decide +kernel) hC) hs_ er_) e_x7 p0)
      obtain rfl := Option.some.inj e
      exact p_x7
    obtain rfl := Option.some.inj e
    exact p0
  rcases io e with ⟨_, e⟩ | ⟨_, e⟩
  · obtain ⟨x10, e_x10, e⟩ := bo e
    rcases io e with ⟨_, e⟩ | ⟨_, e⟩
    · obtain rfl := Option.some.inj e
      exact p0
    obtain ⟨M11, e_M11, e⟩ := mo e
    have p_M11 : Fx C L A M11 := wi p0 e_M11 (oc_c hC (by decide +kernel))
    obtain rfl := Option.some.inj e
    exact p_M11
  rcases io e with ⟨_, e⟩ | ⟨_, e⟩
  · obtain ⟨_, e⟩ := io_n e
    obtain ⟨x14, e_x14, e⟩ := bo e
    rcases io e with ⟨_, e⟩ | ⟨_, e⟩
    · obtain ⟨_, e⟩ := io_n e
      obtain ⟨x15, e_x15, e⟩ := bo e
      have p_x15 : Fx C L A x15 := (wf_Mod_layPlank (M.1 175 (v1 + (1 : Int32)).toNatClampNeg) (M.1 175 (v1 + (2 : Int32)).toNatClampNeg) M (sb_t (by decide +kernel) hC) p0 e_x15)
      obtain rfl := Option.some.inj e
      exact p_x15
    obtain rfl := Option.some.inj e
    exact p0
  rcases io e with ⟨_, e⟩ | ⟨_, e⟩
  · rcases io e with ⟨_, e⟩ | ⟨_, e⟩
    · obtain rfl := Option.some.inj e
      exact p0
    obtain ⟨M18, e_M18, e⟩ := mo e
    have p_M18 : Fx C L A M18 := wi p0 e_M18 (oc_c hC (by decide +kernel))
    obtain rfl := Option.some.inj e
    exact p_M18
  obtain ⟨x1, e_x1, e⟩ := bo e
  rcases io e with ⟨_, e⟩ | ⟨_, e⟩
  · obtain rfl := Option.some.inj e
    exact p0
  obtain ⟨x2, e_x2, e⟩ := bo e
  have p_x2 : Fx C L A x2 := (wf_Mod_goFeast ((1 : Int32) - (M.1 163 (94 : Int32).toNatClampNeg)) M (sb_t (by decide +kernel) hC) p0 e_x2)
  obtain rfl := Option.some.inj e
  exact p_x2
theorem wl_Mod_evening_39 {C : Nat} {L : List Nat} {A : Mem} (s : Int32 × Int32 × Mem) (hC : sb 631873750011391010673160225128846292257969019565282753123434102784 C)  (p0 : Fx C L A s.2.2) {r : ((Int32 × Int32 × Mem) ⊕ ((Int32 × Mem)))} (e : lb_Mod_evening_39 s = some r) : (Sum.elim (fun r : Int32 × Int32 × Mem => Fx C L A r.2.2) (fun r : Int32 × Mem => Fx C L A r.2)) r := by
  unfold lb_Mod_evening_39 at e
  rcases io e with ⟨_, e⟩ | ⟨_, e⟩
  · obtain rfl := Option.some.inj e
    exact p0
  obtain ⟨x4, e_x4, e⟩ := bo e
  rcases io e with ⟨_, e⟩ | ⟨_, e⟩
  · obtain rfl := Option.some.inj e
    exact p0
  obtain ⟨x5, e_x5, e⟩ := bo e
  have p_x5 : Fx C L A x5 := (wf_Mod_readAct ((3 : Int32) * s.1) s.2.2 (sb_t (by decide +kernel) hC) p0 e_x5)
  obtain ⟨x6, e_x6, e⟩ := bo e
  have p_x6 : Fx C L A x6.2 := (wf_Mod_passes (59 : Int32) x5 (sb_t (by decide +kernel) hC) p_x5 e_x6)
  obtain rfl := Option.some.inj e
  exact p_x6
theorem wl_Mod_evening_122 {C : Nat} {L : List Nat} {A : Mem} (v1 : Int32) (s : Int32 × Mem) (hC : sb 19924216757284754126467525027120702737013950643908567583305036344590336 C)  (p0 : Fx C L A s.2) {r : ((Int32 × Mem) ⊕ ((Int32 × Mem)))} (e : lb_Mod_evening_122 v1 s = some r) : (Sum.elim (fun r : Int32 × Mem => Fx C L A r.2) (fun r : Int32 × Mem => Fx C L A r.2)) r := by
  unfold lb_Mod_evening_122 at e
  rcases io e with ⟨_, e⟩ | ⟨_, e⟩
  · obtain rfl := Option.some.inj e
    exact p0
  obtain ⟨x13, e_x13, e⟩ := bo e
  have p_x13 : Fx C L A x13.2 := (wf_Mod_act ((3 : Int32) * s.1) s.2 (sb_t (by decide +kernel) hC) p0 e_x13)
  rcases io e with ⟨_, e⟩ | ⟨_, e⟩
  · obtain rfl := Option.some.inj e
    exact p_x13
  obtain rfl := Option.some.inj e
  exact p_x13
theorem wj_Mod_evening_171 {C : Nat} {L : List Nat} {A : Mem} (v3 : Int32) (w0 : Int32) (M : Mem) (hC : sb 6582018229285198313039033441376462163248118830987351372125437952 C)  (p0 : Fx C L A M) {r : (Int32 × Mem)} (e : j_Mod_evening_171 v3 w0 M = some r) : (fun r : Int32 × Mem => Fx C L A r.2) r := by
  unfold j_Mod_evening_171 at e
  obtain ⟨x18, e_x18, e⟩ := bo e
  have p_x18 : Fx C L A x18 := (wf_Mod_put w0 M (sb_t (by decide +kernel) hC) p0 e_x18)
  obtain ⟨x19, e_x19, e⟩ := bo e
  have p_x19 : Fx C L A x19 := (wf_Mod_put (x18.1 162 33) x18 (sb_t (by decide +kernel) hC) p_x18 e_x19)
  obtain rfl := Option.some.inj e
  exact p_x19
theorem wj_Mod_evening_155 {C : Nat} {L : List Nat} {A : Mem} (v1 : Int32) (v3 : Int32) (M : Mem) (hC : sb 6582018229285198313039033441376462163248118830987351372125437952 C)  (p0 : Fx C L A M) {r : (Int32 × Mem)} (e : j_Mod_evening_155 v1 v3 M = some r) : (fun r : Int32 × Mem => Fx C L A r.2) r := by
  unfold j_Mod_evening_155 at e
  obtain ⟨M17, e_M17, e⟩ := mo e
  have p_M17 : Fx C L A M17 := wi1 p0 e_M17 (tb1 hC (by decide +kernel))
  rcases io e with ⟨_, e⟩ | ⟨_, e⟩
  · exact (wj_Mod_evening_171 v3 (0 : Int32) M17 (sb_t (by decide +kernel) hC) p_M17 e)
  exact (wj_Mod_evening_171 v3 (1 : Int32) M17 (sb_t (by decide +kernel) hC) p_M17 e)
theorem wj_Mod_evening_143 {C : Nat} {L : List Nat} {A : Mem} (v1 : Int32) (v3 : Int32) (M : Mem) (hC : sb 215686155355434415528270572744355127775846553110946064221600399491072 C)  (p0 : Fx C L A M) {r : (Int32 × Mem)} (e : j_Mod_evening_143 v1 v3 M = some r) : (fun r : Int32 × Mem => Fx C L A r.2) r := by
  unfold j_Mod_evening_143 at e
  rcases io e with ⟨_, e⟩ | ⟨_, e⟩
  · exact (wj_Mod_evening_155 v1 v3 M (sb_t (by decide +kernel) hC) p0 e)
  obtain ⟨x21, e_x21, e⟩ := bo e
  have p_x21 : Fx C L A x21 := (wf_Mod_remember 174 M (sb_t (by decide +kernel) hC) p0 e_x21)
  exact (wj_Mod_evening_155 v1 v3 x21 (sb_t (by decide +kernel) hC) p_x21 e)
theorem wj_Mod_evening_89 {C : Nat} {L : List Nat} {A : Mem} (v1 : Int32) (M : Mem) (hC : sb 20139902912640188565941038425894571276638969496243094641569435528200192 C)  (p0 : Fx C L A M) {r : (Int32 × Mem)} (e : j_Mod_evening_89 v1 M = some r) : (fun r : Int32 × Mem => Fx C L A r.2) r := by
  unfold j_Mod_evening_89 at e
  obtain ⟨x10, e_x10, e⟩ := bo e
  rcases io e with ⟨_, e⟩ | ⟨_, e⟩
  · obtain rfl := Option.some.inj e
    exact p0
  obtain ⟨x11, e_x11, e⟩ := bo e
  have p_x11 : Fx C L A x11 := (wf_Mod_lay 163 174 (0 : Int32) M (sb_t (by decide +kernel) hC) (oc_c hC (by decide +kernel)) p0 e_x11)
  obtain ⟨M12, e_M12, e⟩ := mo e
  have p_M12 : Fx C L A M12 := wi1 p_x11 e_M12 (tb1 hC (by decide +kernel))
  obtain ⟨x16, e_x16, e⟩ := bo e
  have p_x16 : Fx C L A x16.2 := (it_r (I := fun s : Int32 × Mem => Fx C L A s.2) (Q := (fun r : Int32 × Mem => Fx C L A r.2)) (fun s_ r_ hs_ er_ => wl_Mod_evening_122 v1 s_ (sb_t (by decide +kernel) hC) hs_ er_) e_x16 p_M12)
  exact (wj_Mod_evening_143 v1 x16.1 x16.2 (sb_t (by decide +kernel) hC) p_x16 e)
theorem wj_Mod_evening_70 {C : Nat} {L : List Nat} {A : Mem} (v1 : Int32) (M : Mem) (hC : sb 20139902912640188565941038425894571276638969496243094641569435528200192 C)  (p0 : Fx C L A M) {r : (Int32 × Mem)} (e : j_Mod_evening_70 v1 M = some r) : (fun r : Int32 × Mem => Fx C L A r.2) r := by
  unfold j_Mod_evening_70 at e
  rcases io e with ⟨_, e⟩ | ⟨_, e⟩
  · exact (wj_Mod_evening_89 v1 M (sb_t (by decide +kernel) hC) p0 e)
  obtain ⟨x24, e_x24, e⟩ := bo e
  have p_x24 : Fx C L A x24 := (wf_Mod_fault (M.1 162 17) M (sb_t (by decide +kernel) hC) p0 e_x24)
  exact (wj_Mod_evening_89 v1 x24 (sb_t (by decide +kernel) hC) p_x24 e)
theorem wf_Mod_evening {C : Nat} {L : List Nat} {A : Mem} (M : Mem) (hC : sb 20139917722181204504685903472676241116491858939313047331873803233918976 C)  (p0 : Fx C L A M) {r : (Int32 × Mem)} (e : f_Mod_evening M = some r) : (fun r : Int32 × Mem => Fx C L A r.2) r := by
  unfold f_Mod_evening at e
  obtain ⟨M1, e_M1, e⟩ := mo e
  have p_M1 : Fx C L A M1 := wi1 p0 e_M1 (tb1 hC (by decide +kernel))
  obtain ⟨x2, e_x2, e⟩ := bo e
  have p_x2 : Fx C L A x2 := (wf_Mod_begin 167 (M1.1 162 10) (60 : Int32) M1 (sb_t (by decide +kernel) hC) p_M1 e_x2)
  obtain ⟨M3, e_M3, e⟩ := mo e
  have p_M3 : Fx C L A M3 := wi1 p_x2 e_M3 (tb1 hC (by decide +kernel))
  rcases io e with ⟨_, e⟩ | ⟨_, e⟩
  · obtain ⟨x9, e_x9, e⟩ := bo e
    have p_x9 : Fx C L A x9.2 := (it_r (I := fun s : Int32 × Int32 × Mem => Fx C L A s.2.2) (Q := (fun r : Int32 × Mem => Fx C L A r.2)) (fun s_ r_ hs_ er_ => wl_Mod_evening_39  s_ (sb_t (by decide +kernel) hC) hs_ er_) e_x9 p_M3)
    exact (wj_Mod_evening_70 x9.1 x9.2 (sb_t (by decide +kernel) hC) p_x9 e)
  obtain ⟨x26, e_x26, e⟩ := bo e
  have p_x26 : Fx C L A x26.2 := (it_r (I := fun s : Int32 × Int32 × Mem => Fx C L A s.2.2) (Q := (fun r : Int32 × Mem => Fx C L A r.2)) (fun s_ r_ hs_ er_ => wl_Mod_evening_39  s_ (sb_t (by decide +kernel) hC) hs_ er_) e_x26 p_M3)
  exact (wj_Mod_evening_70 x26.1 x26.2 (sb_t (by decide +kernel) hC) p_x26 e)
theorem wl_Mod_undo_26 {C : Nat} {L : List Nat} {A : Mem} (s : Int32 × Mem) (hC : sb 11692013098647223345629478661730264157247460343808 C)  (p0 : Fx C L A s.2) {r : ((Int32 × Mem) ⊕ ((Mem)))} (e : lb_Mod_undo_26 s = some r) : (Sum.elim (fun r : Int32 × Mem => Fx C L A r.2) (fun r : Mem => Fx C L A r)) r := by
  unfold lb_Mod_undo_26 at e
  rcases io e with ⟨_, e⟩ | ⟨_, e⟩
  · obtain rfl := Option.some.inj e
    exact p0
  obtain ⟨_, e⟩ := io_n e
  obtain ⟨_, e⟩ := io_n e
  obtain ⟨M3, e_M3, e⟩ := mo e
  have p_M3 : Fx C L A M3 := wi p0 e_M3 (oc_c hC (by decide +kernel))
  obtain rfl := Option.some.inj e
  exact p_M3
theorem wf_Mod_undo {C : Nat} {L : List Nat} {A : Mem} (M : Mem) (hC : sb 215692737373663688017365373548264727538766495928979912644983131209728 C)  (p0 : Fx C L A M) {r : (Int32 × Mem)} (e : f_Mod_undo M = some r) : (fun r : Int32 × Mem => Fx C L A r.2) r := by
  unfold f_Mod_undo at e
  obtain ⟨M1, e_M1, e⟩ := mo e
  have p_M1 : Fx C L A M1 := wi1 p0 e_M1 (tb1 hC (by decide +kernel))
  rcases io e with ⟨_, e⟩ | ⟨_, e⟩
  · obtain rfl := Option.some.inj e
    exact p_M1
  obtain ⟨M2, e_M2, e⟩ := mo e
  have p_M2 : Fx C L A M2 := wi1 p_M1 e_M2 (tb1 hC (by decide +kernel))
  obtain ⟨x5, e_x5, e⟩ := bo e
  have p_x5 : Fx C L A x5 := (it_r (I := fun s : Int32 × Mem => Fx C L A s.2) (Q := (fun r : Mem => Fx C L A r)) (fun s_ r_ hs_ er_ => wl_Mod_undo_26  s_ (sb_t (by decide +kernel) hC) hs_ er_) e_x5 p_M2)
  obtain rfl := Option.some.inj e
  exact p_x5
theorem wf_Mod_met {C : Nat} {L : List Nat} {A : Mem} (v1 : Int32) (v2 : Int32) (M : Mem) (hC : sb 13164036458569648337239753460458804039861886925068638906788872192 C)  (p0 : Fx C L A M) {r : (Int32 × Mem)} (e : f_Mod_met v1 v2 M = some r) : (fun r : Int32 × Mem => Fx C L A r.2) r := by
  unfold f_Mod_met at e
  obtain ⟨M1, e_M1, e⟩ := mo e
  have p_M1 : Fx C L A M1 := wi1 p0 e_M1 (tb1 hC (by decide +kernel))
  obtain ⟨x2, e_x2, e⟩ := bo e
  rcases io e with ⟨_, e⟩ | ⟨_, e⟩
  · obtain rfl := Option.some.inj e
    exact p_M1
  obtain ⟨_, e⟩ := io_n e
  obtain rfl := Option.some.inj e
  exact p_M1
theorem wl_Mod_ahead_33 {C : Nat} {L : List Nat} {A : Mem} (v1 : Int32) (s : Int32 × Int32 × Mem) (hC : sb 6120724063703626647367292593586058256162792417800388184993935573123072 C)  (p0 : Fx C L A s.2.2) {r : ((Int32 × Int32 × Mem) ⊕ ((Int32 × Mem)))} (e : lb_Mod_ahead_33 v1 s = some r) : (Sum.elim (fun r : Int32 × Int32 × Mem => Fx C L A r.2.2) (fun r : Int32 × Mem => Fx C L A r.2)) r := by
  unfold lb_Mod_ahead_33 at e
  rcases io e with ⟨_, e⟩ | ⟨_, e⟩
  · obtain rfl := Option.some.inj e
    exact p0
  obtain ⟨x4, e_x4, e⟩ := bo e
  have p_x4 : Fx C L A x4 := (wf_Mod_goMinute 176 s.2.2 (sb_t (by decide +kernel) hC) (oc_c hC (by decide +kernel)) p0 e_x4)
  obtain rfl := Option.some.inj e
  exact p_x4
theorem wl_Mod_ahead_66 {C : Nat} {L : List Nat} {A : Mem} (v2 : Int32) (s : Int32 × Mem) (hC : sb 6582018229285198313039033441376462163248118830987351372125437952 C)  (p0 : Fx C L A s.2) {r : ((Int32 × Mem) ⊕ ((Mem)))} (e : lb_Mod_ahead_66 v2 s = some r) : (Sum.elim (fun r : Int32 × Mem => Fx C L A r.2) (fun r : Mem => Fx C L A r)) r := by
  unfold lb_Mod_ahead_66 at e
  rcases io e with ⟨_, e⟩ | ⟨_, e⟩
  · obtain rfl := Option.some.inj e
    exact p0
  obtain ⟨_, e⟩ := io_n e
  obtain ⟨x8, e_x8, e⟩ := bo e
  obtain ⟨x9, e_x9, e⟩ := bo e
  have p_x9 : Fx C L A x9 := (wf_Mod_put x8 s.2 (sb_t (by decide +kernel) hC) p0 e_x9)
  obtain rfl := Option.some.inj e
  exact p_x9
theorem wf_Mod_ahead {C : Nat} {L : List Nat} {A : Mem} (v1 : Int32) (M : Mem) (hC : sb 6120743809758314502213942872372960091428995527806144240984214487433216 C)  (p0 : Fx C L A M) {r : (Int32 × Mem)} (e : f_Mod_ahead v1 M = some r) : (fun r : Int32 × Mem => Fx C L A r.2) r := by
  unfold f_Mod_ahead at e
  obtain ⟨M1, e_M1, e⟩ := mo e
  have p_M1 : Fx C L A M1 := wi1 p0 e_M1 (tb1 hC (by decide +kernel))
  obtain ⟨x2, e_x2, e⟩ := bo e
  rcases io e with ⟨_, e⟩ | ⟨_, e⟩
  · obtain rfl := Option.some.inj e
    exact p_M1
  obtain ⟨x3, e_x3, e⟩ := bo e
  have p_x3 : Fx C L A x3 := (wf_Mod_lay 163 176 (0 : Int32) M1 (sb_t (by decide +kernel) hC) (oc_c hC (by decide +kernel)) p_M1 e_x3)
  obtain ⟨x6, e_x6, e⟩ := bo e
  have p_x6 : Fx C L A x6.2 := (it_r (I := fun s : Int32 × Int32 × Mem => Fx C L A s.2.2) (Q := (fun r : Int32 × Mem => Fx C L A r.2)) (fun s_ r_ hs_ er_ => wl_Mod_ahead_33 v1 s_ (sb_t (by decide +kernel) hC) hs_ er_) e_x6 p_x3)
  obtain ⟨M7, e_M7, e⟩ := mo e
  have p_M7 : Fx C L A M7 := wi1 p_x6 e_M7 (tb1 hC (by decide +kernel))
  obtain ⟨x11, e_x11, e⟩ := bo e
  have p_x11 : Fx C L A x11 := (it_r (I := fun s : Int32 × Mem => Fx C L A s.2) (Q := (fun r : Mem => Fx C L A r)) (fun s_ r_ hs_ er_ => wl_Mod_ahead_66 x6.1 s_ (sb_t (by decide +kernel) hC) hs_ er_) e_x11 p_M7)
  obtain rfl := Option.some.inj e
  exact p_x11
theorem wl_Mod_meet_30 {C : Nat} {L : List Nat} {A : Mem} (v1 : Int32) (v2 : Int32) (s : Int32 × Mem) (hC : sb 6120724063703626647367292593586058256162792417800388184993935573123072 C)  (p0 : Fx C L A s.2) {r : ((Int32 × Mem) ⊕ ((Mem) ⊕ (Int32 × Mem)))} (e : lb_Mod_meet_30 v1 v2 s = some r) : (Sum.elim (fun r : Int32 × Mem => Fx C L A r.2) (Sum.elim (fun r : Mem => Fx C L A r) (fun r : Int32 × Mem => Fx C L A r.2))) r := by
  unfold lb_Mod_meet_30 at e
  rcases io e with ⟨_, e⟩ | ⟨_, e⟩
  · obtain rfl := Option.some.inj e
    exact p0
  obtain ⟨x4, e_x4, e⟩ := bo e
  have p_x4 : Fx C L A x4 := (wf_Mod_goMinute 176 s.2 (sb_t (by decide +kernel) hC) (oc_c hC (by decide +kernel)) p0 e_x4)
  obtain ⟨x5, e_x5, e⟩ := bo e
  obtain ⟨x6, e_x6, e⟩ := bo e
  rcases io e with ⟨_, e⟩ | ⟨_, e⟩
  · obtain rfl := Option.some.inj e
    exact p_x4
  obtain ⟨x7, e_x7, e⟩ := bo e
  rcases io e with ⟨_, e⟩ | ⟨_, e⟩
  · obtain rfl := Option.some.inj e
    exact p_x4
  obtain rfl := Option.some.inj e
  exact p_x4
theorem wf_Mod_meet {C : Nat} {L : List Nat} {A : Mem} (v1 : Int32) (v2 : Int32) (M : Mem) (hC : sb 6120743809758314502213942872372960091428995527806144240984214487433216 C)  (p0 : Fx C L A M) {r : (Int32 × Mem)} (e : f_Mod_meet v1 v2 M = some r) : (fun r : Int32 × Mem => Fx C L A r.2) r := by
  unfold f_Mod_meet at e
  obtain ⟨M1, e_M1, e⟩ := mo e
  have p_M1 : Fx C L A M1 := wi1 p0 e_M1 (tb1 hC (by decide +kernel))
  obtain ⟨x2, e_x2, e⟩ := bo e
  rcases io e with ⟨_, e⟩ | ⟨_, e⟩
  · obtain rfl := Option.some.inj e
    exact p_M1
  obtain ⟨x3, e_x3, e⟩ := bo e
  have p_x3 : Fx C L A x3 := (wf_Mod_lay 163 176 (0 : Int32) M1 (sb_t (by decide +kernel) hC) (oc_c hC (by decide +kernel)) p_M1 e_x3)
  obtain ⟨y_, e_y, e⟩ := bo e
  have q_y := (it_r (I := fun s : Int32 × Mem => Fx C L A s.2) (Q := (Sum.elim (fun r : Mem => Fx C L A r) (fun r : Int32 × Mem => Fx C L A r.2))) (fun s_ r_ hs_ er_ => wl_Mod_meet_30 v1 v2 s_ (sb_t (by decide +kernel) hC) hs_ er_) e_y p_x3)
  rcases y_ with y12 | y13
  · have p_y12 : Fx C L A y12 := q_y
    replace e := el_l e
    obtain rfl := Option.some.inj e
    exact p_y12
  · have p_y13 : Fx C L A y13.2 := q_y
    replace e := el_r e
    obtain ⟨M14, e_M14, e⟩ := mo e
    have p_M14 : Fx C L A M14 := wi1 p_y13 e_M14 (tb1 hC (by decide +kernel))
    obtain ⟨_, e⟩ := io_n e
    obtain ⟨x15, e_x15, e⟩ := bo e
    obtain ⟨x16, e_x16, e⟩ := bo e
    have p_x16 : Fx C L A x16 := (wf_Mod_put x15 M14 (sb_t (by decide +kernel) hC) p_M14 e_x16)
    obtain rfl := Option.some.inj e
    exact p_x16
theorem wj_Mod_known_44_22 {C : Nat} {L : List Nat} {A : Mem} (v1 : Int32) (v2 : Int32) (M : Mem) (hC : sb 0 C)  (p0 : Fx C L A M) {r : ((Int32 × Int32 × Mem) ⊕ ((Int32 × Mem)))} (e : j_Mod_known_44_22 v1 v2 M = some r) : (Sum.elim (fun r : Int32 × Int32 × Mem => Fx C L A r.2.2) (fun r : Int32 × Mem => Fx C L A r.2)) r := by
  unfold j_Mod_known_44_22 at e
  rcases io e with ⟨_, e⟩ | ⟨_, e⟩
  · obtain rfl := Option.some.inj e
    exact p0
  obtain rfl := Option.some.inj e
  exact p0
theorem wl_Mod_known_22 {C : Nat} {L : List Nat} {A : Mem} (s : Int32 × Int32 × Mem) (hC : sb 6120724063703626647367292593586058256162792417800388184993935573123072 C)  (p0 : Fx C L A s.2.2) {r : ((Int32 × Int32 × Mem) ⊕ ((Int32 × Mem)))} (e : lb_Mod_known_22 s = some r) : (Sum.elim (fun r : Int32 × Int32 × Mem => Fx C L A r.2.2) (fun r : Int32 × Mem => Fx C L A r.2)) r := by
  unfold lb_Mod_known_22 at e
  rcases io e with ⟨_, e⟩ | ⟨_, e⟩
  · obtain rfl := Option.some.inj e
    exact p0
  rcases io e with ⟨_, e⟩ | ⟨_, e⟩
  · obtain rfl := Option.some.inj e
    exact p0
  rcases io e with ⟨_, e⟩ | ⟨_, e⟩
  · exact (wj_Mod_known_44_22 s.1 s.2.1 s.2.2 (sb_t (by decide +kernel) hC) p0 e)
  obtain ⟨x4, e_x4, e⟩ := bo e
  have p_x4 : Fx C L A x4 := (wf_Mod_goMinute 176 s.2.2 (sb_t (by decide +kernel) hC) (oc_c hC (by decide +kernel)) p0 e_x4)
  exact (wj_Mod_known_44_22 s.1 s.2.1 x4 (sb_t (by decide +kernel) hC) p_x4 e)
theorem wj_Mod_known_70 {C : Nat} {L : List Nat} {A : Mem} (v1 : Int32) (M : Mem) (hC : sb 6582018229285198313039033441376462163248118830987351372125437952 C)  (p0 : Fx C L A M) {r : (Int32 × Mem)} (e : j_Mod_known_70 v1 M = some r) : (fun r : Int32 × Mem => Fx C L A r.2) r := by
  unfold j_Mod_known_70 at e
  obtain ⟨M9, e_M9, e⟩ := mo e
  have p_M9 : Fx C L A M9 := wi1 p0 e_M9 (tb1 hC (by decide +kernel))
  obtain ⟨x10, e_x10, e⟩ := bo e
  have p_x10 : Fx C L A x10 := (wf_Mod_put (M9.1 176 (93 : Int32).toNatClampNeg) M9 (sb_t (by decide +kernel) hC) p_M9 e_x10)
  obtain rfl := Option.some.inj e
  exact p_x10
theorem wf_Mod_known {C : Nat} {L : List Nat} {A : Mem} (M : Mem) (hC : sb 6120743809758314502213942872372960091428995527806144240984214487433216 C)  (p0 : Fx C L A M) {r : (Int32 × Mem)} (e : f_Mod_known M = some r) : (fun r : Int32 × Mem => Fx C L A r.2) r := by
  unfold f_Mod_known at e
  obtain ⟨M1, e_M1, e⟩ := mo e
  have p_M1 : Fx C L A M1 := wi1 p0 e_M1 (tb1 hC (by decide +kernel))
  obtain ⟨x2, e_x2, e⟩ := bo e
  have p_x2 : Fx C L A x2 := (wf_Mod_lay 163 176 (0 : Int32) M1 (sb_t (by decide +kernel) hC) (oc_c hC (by decide +kernel)) p_M1 e_x2)
  obtain ⟨x8, e_x8, e⟩ := bo e
  have p_x8 : Fx C L A x8.2 := (it_r (I := fun s : Int32 × Int32 × Mem => Fx C L A s.2.2) (Q := (fun r : Int32 × Mem => Fx C L A r.2)) (fun s_ r_ hs_ er_ => wl_Mod_known_22  s_ (sb_t (by decide +kernel) hC) hs_ er_) e_x8 p_x2)
  exact (wj_Mod_known_70 x8.1 x8.2 (sb_t (by decide +kernel) hC) p_x8 e)
theorem wl_Mod_gossip_93 {C : Nat} {L : List Nat} {A : Mem} (v1 : Int32) (v2 : Int32) (v3 : Int32) (v4 : Int32) (s : Int32 × Mem) (hC : sb 6120724063703626647367292593586058256162792417800388184993935573123072 C)  (p0 : Fx C L A s.2) {r : ((Int32 × Mem) ⊕ ((Mem)))} (e : lb_Mod_gossip_93 v1 v2 v3 v4 s = some r) : (Sum.elim (fun r : Int32 × Mem => Fx C L A r.2) (fun r : Mem => Fx C L A r)) r := by
  unfold lb_Mod_gossip_93 at e
  rcases io e with ⟨_, e⟩ | ⟨_, e⟩
  · obtain rfl := Option.some.inj e
    exact p0
  obtain ⟨x4, e_x4, e⟩ := bo e
  have p_x4 : Fx C L A x4 := (wf_Mod_goMinute 176 s.2 (sb_t (by decide +kernel) hC) (oc_c hC (by decide +kernel)) p0 e_x4)
  obtain rfl := Option.some.inj e
  exact p_x4
theorem wj_Mod_gossip_58_25 {C : Nat} {L : List Nat} {A : Mem} (v1 : Int32) (v2 : Int32) (v3 : Int32) (v4 : Int32) (M : Mem) (hC : sb 6120724063703626647367292593586058256162792417800388184993935573123072 C)  (p0 : Fx C L A M) {r : ((Int32 × Int32 × Int32 × Mem) ⊕ ((Int32 × Int32 × Mem)))} (e : j_Mod_gossip_58_25 v1 v2 v3 v4 M = some r) : (Sum.elim (fun r : Int32 × Int32 × Int32 × Mem => Fx C L A r.2.2.2) (fun r : Int32 × Int32 × Mem => Fx C L A r.2.2)) r := by
  unfold j_Mod_gossip_58_25 at e
  obtain ⟨x3, e_x3, e⟩ := bo e
  have p_x3 : Fx C L A x3 := (wf_Mod_lay 163 176 (0 : Int32) M (sb_t (by decide +kernel) hC) (oc_c hC (by decide +kernel)) p0 e_x3)
  rcases io e with ⟨_, e⟩ | ⟨_, e⟩
  · obtain ⟨x6, e_x6, e⟩ := bo e
    have p_x6 : Fx C L A x6 := (it_r (I := fun s : Int32 × Mem => Fx C L A s.2) (Q := (fun r : Mem => Fx C L A r)) (fun s_ r_ hs_ er_ => wl_Mod_gossip_93 v1 v2 v3 v4 s_ (sb_t (by decide +kernel) hC) hs_ er_) e_x6 p_x3)
    obtain ⟨x7, e_x7, e⟩ := bo e
    rcases io e with ⟨_, e⟩ | ⟨_, e⟩
    · obtain rfl := Option.some.inj e
      exact p_x6
    obtain rfl := Option.some.inj e
    exact p_x6
  obtain ⟨M9, e_M9, e⟩ := mo e
  have p_M9 : Fx C L A M9 := wi p_x3 e_M9 (oc_c hC (by decide +kernel))
  obtain ⟨x10, e_x10, e⟩ := bo e
  have p_x10 : Fx C L A x10 := (it_r (I := fun s : Int32 × Mem => Fx C L A s.2) (Q := (fun r : Mem => Fx C L A r)) (fun s_ r_ hs_ er_ => wl_Mod_gossip_93 v1 v2 v3 v4 s_ (sb_t (by decide +kernel) hC) hs_ er_) e_x10 p_M9)
  obtain ⟨x11, e_x11, e⟩ := bo e
  rcases io e with ⟨_, e⟩ | ⟨_, e⟩
  · obtain rfl := Option.some.inj e
    exact p_x10
  obtain rfl := Option.some.inj e
  exact p_x10
theorem wl_Mod_gossip_25 {C : Nat} {L : List Nat} {A : Mem} (v1 : Int32) (s : Int32 × Int32 × Int32 × Mem) (hC : sb 6120724063703626647367292593586058256162792417800388184993935573123072 C)  (p0 : Fx C L A s.2.2.2) {r : ((Int32 × Int32 × Int32 × Mem) ⊕ ((Int32 × Int32 × Mem)))} (e : lb_Mod_gossip_25 v1 s = some r) : (Sum.elim (fun r : Int32 × Int32 × Int32 × Mem => Fx C L A r.2.2.2) (fun r : Int32 × Int32 × Mem => Fx C L A r.2.2)) r := by
  unfold lb_Mod_gossip_25 at e
  rcases io e with ⟨_, e⟩ | ⟨_, e⟩
  · obtain rfl := Option.some.inj e
    exact p0
  rcases io e with ⟨_, e⟩ | ⟨_, e⟩
  · exact (wj_Mod_gossip_58_25 v1 s.1 s.2.1 s.2.2.1 s.2.2.2 (sb_t (by decide +kernel) hC) p0 e)
  obtain ⟨x14, e_x14, e⟩ := bo e
  rcases io e with ⟨_, e⟩ | ⟨_, e⟩
  · exact (wj_Mod_gossip_58_25 v1 s.1 s.2.1 s.2.2.1 s.2.2.2 (sb_t (by decide +kernel) hC) p0 e)
  obtain rfl := Option.some.inj e
  exact p0
theorem wf_Mod_gossip {C : Nat} {L : List Nat} {A : Mem} (v1 : Int32) (M : Mem) (hC : sb 6120743809758314502213942872372960091428995527806144240984214487433216 C)  (p0 : Fx C L A M) {r : (Int32 × Mem)} (e : f_Mod_gossip v1 M = some r) : (fun r : Int32 × Mem => Fx C L A r.2) r := by
  unfold f_Mod_gossip at e
  obtain ⟨M1, e_M1, e⟩ := mo e
  have p_M1 : Fx C L A M1 := wi1 p0 e_M1 (tb1 hC (by decide +kernel))
  obtain ⟨x2, e_x2, e⟩ := bo e
  rcases io e with ⟨_, e⟩ | ⟨_, e⟩
  · obtain rfl := Option.some.inj e
    exact p_M1
  obtain ⟨x18, e_x18, e⟩ := bo e
  have p_x18 : Fx C L A x18.2.2 := (it_r (I := fun s : Int32 × Int32 × Int32 × Mem => Fx C L A s.2.2.2) (Q := (fun r : Int32 × Int32 × Mem => Fx C L A r.2.2)) (fun s_ r_ hs_ er_ => wl_Mod_gossip_25 v1 s_ (sb_t (by decide +kernel) hC) hs_ er_) e_x18 p_M1)
  obtain ⟨M19, e_M19, e⟩ := mo e
  have p_M19 : Fx C L A M19 := wi1 p_x18 e_M19 (tb1 hC (by decide +kernel))
  obtain ⟨x20, e_x20, e⟩ := bo e
  have p_x20 : Fx C L A x20 := (wf_Mod_put x18.2.1 M19 (sb_t (by decide +kernel) hC) p_M19 e_x20)
  obtain rfl := Option.some.inj e
  exact p_x20
theorem wf_Mod_lower {C : Nat} {L : List Nat} {A : Mem} (v1 : Int32) (v2 : Int32) (M : Mem) (hC : sb 191561942608236107294793378393788647952342390272950272 C)  (p0 : Fx C L A M) {r : (Int32 × Mem)} (e : f_Mod_lower v1 v2 M = some r) : (fun r : Int32 × Mem => Fx C L A r.2) r := by
  unfold f_Mod_lower at e
  rcases io e with ⟨_, e⟩ | ⟨_, e⟩
  · obtain rfl := Option.some.inj e
    exact p0
  obtain ⟨_, e⟩ := io_n e
  rcases io e with ⟨_, e⟩ | ⟨_, e⟩
  · obtain ⟨_, e⟩ := io_n e
    obtain ⟨M1, e_M1, e⟩ := mo e
    have p_M1 : Fx C L A M1 := wi p0 e_M1 (oc_c hC (by decide +kernel))
    obtain rfl := Option.some.inj e
    exact p_M1
  obtain rfl := Option.some.inj e
  exact p0
theorem wl_Mod_spread_34 {C : Nat} {L : List Nat} {A : Mem} (v1 : Int32) (v3 : Int32) (s : Int32 × Int32 × Mem) (hC : sb 191561942608236107294793378393788647952342390272950272 C)  (p0 : Fx C L A s.2.2) {r : ((Int32 × Int32 × Mem) ⊕ ((Int32 × Mem)))} (e : lb_Mod_spread_34 v1 v3 s = some r) : (Sum.elim (fun r : Int32 × Int32 × Mem => Fx C L A r.2.2) (fun r : Int32 × Mem => Fx C L A r.2)) r := by
  unfold lb_Mod_spread_34 at e
  rcases io e with ⟨_, e⟩ | ⟨_, e⟩
  · obtain rfl := Option.some.inj e
    exact p0
  obtain ⟨x1, e_x1, e⟩ := bo e
  obtain ⟨_, e⟩ := io_n e
  obtain ⟨x2, e_x2, e⟩ := bo e
  have p_x2 : Fx C L A x2.2 := (wf_Mod_lower x1 ((s.2.2.1 177 v3.toNatClampNeg) + (1 : Int32)) s.2.2 (sb_t (by decide +kernel) hC) p0 e_x2)
  obtain rfl := Option.some.inj e
  exact p_x2
theorem wl_Mod_spread_10 {C : Nat} {L : List Nat} {A : Mem} (v1 : Int32) (s : Int32 × Int32 × Mem) (hC : sb 191561942608236107294793378393788647952342390272950272 C)  (p0 : Fx C L A s.2.2) {r : ((Int32 × Int32 × Mem) ⊕ ((Int32 × Mem)))} (e : lb_Mod_spread_10 v1 s = some r) : (Sum.elim (fun r : Int32 × Int32 × Mem => Fx C L A r.2.2) (fun r : Int32 × Mem => Fx C L A r.2)) r := by
  unfold lb_Mod_spread_10 at e
  rcases io e with ⟨_, e⟩ | ⟨_, e⟩
  · obtain rfl := Option.some.inj e
    exact p0
  obtain ⟨_, e⟩ := io_n e
  rcases io e with ⟨_, e⟩ | ⟨_, e⟩
  · obtain ⟨x4, e_x4, e⟩ := bo e
    have p_x4 : Fx C L A x4.2 := (it_r (I := fun s : Int32 × Int32 × Mem => Fx C L A s.2.2) (Q := (fun r : Int32 × Mem => Fx C L A r.2)) (fun s_ r_ hs_ er_ => wl_Mod_spread_34 v1 s.2.1 s_ (sb_t (by decide +kernel) hC) hs_ er_) e_x4 p0)
    rcases io e with ⟨_, e⟩ | ⟨_, e⟩
    · obtain rfl := Option.some.inj e
      exact p_x4
    obtain ⟨x5, e_x5, e⟩ := bo e
    obtain ⟨_, e⟩ := io_n e
    rcases io e with ⟨_, e⟩ | ⟨_, e⟩
    · obtain ⟨x6, e_x6, e⟩ := bo e
      obtain ⟨x7, e_x7, e⟩ := bo e
      obtain ⟨x8, e_x8, e⟩ := bo e
      obtain ⟨_, e⟩ := io_n e
      obtain ⟨x9, e_x9, e⟩ := bo e
      have p_x9 : Fx C L A x9.2 := (wf_Mod_lower x8 (x4.2.1 177 s.2.1.toNatClampNeg) x4.2 (sb_t (by decide +kernel) hC) p_x4 e_x9)
      obtain rfl := Option.some.inj e
      exact p_x9
    obtain rfl := Option.some.inj e
    exact p_x4
  obtain rfl := Option.some.inj e
  exact p0
theorem wl_Mod_spread_2 {C : Nat} {L : List Nat} {A : Mem} (v1 : Int32) (s : Int32 × Mem) (hC : sb 191561942608236107294793378393788647952342390272950272 C)  (p0 : Fx C L A s.2) {r : ((Int32 × Mem) ⊕ ((Mem)))} (e : lb_Mod_spread_2 v1 s = some r) : (Sum.elim (fun r : Int32 × Mem => Fx C L A r.2) (fun r : Mem => Fx C L A r)) r := by
  unfold lb_Mod_spread_2 at e
  rcases io e with ⟨_, e⟩ | ⟨_, e⟩
  · obtain rfl := Option.some.inj e
    exact p0
  obtain ⟨x14, e_x14, e⟩ := bo e
  have p_x14 : Fx C L A x14.2 := (it_r (I := fun s : Int32 × Int32 × Mem => Fx C L A s.2.2) (Q := (fun r : Int32 × Mem => Fx C L A r.2)) (fun s_ r_ hs_ er_ => wl_Mod_spread_10 v1 s_ (sb_t (by decide +kernel) hC) hs_ er_) e_x14 p0)
  obtain rfl := Option.some.inj e
  exact p_x14
theorem wf_Mod_spread {C : Nat} {L : List Nat} {A : Mem} (v1 : Int32) (M : Mem) (hC : sb 191561942608236107294793378393788647952342390272950272 C)  (p0 : Fx C L A M) {r : (Mem)} (e : f_Mod_spread v1 M = some r) : (fun r : Mem => Fx C L A r) r := by
  unfold f_Mod_spread at e
  obtain ⟨x16, e_x16, e⟩ := bo e
  have p_x16 : Fx C L A x16 := (it_r (I := fun s : Int32 × Mem => Fx C L A s.2) (Q := (fun r : Mem => Fx C L A r)) (fun s_ r_ hs_ er_ => wl_Mod_spread_2 v1 s_ (sb_t (by decide +kernel) hC) hs_ er_) e_x16 p0)
  obtain rfl := Option.some.inj e
  exact p_x16
theorem wl_Mod_findFar_2 {C : Nat} {L : List Nat} {A : Mem} (v1 : Int32) (s : Int32 × Mem) (hC : sb 191561942608236107294793378393788647952342390272950272 C)  (p0 : Fx C L A s.2) {r : ((Int32 × Mem) ⊕ ((Mem)))} (e : lb_Mod_findFar_2 v1 s = some r) : (Sum.elim (fun r : Int32 × Mem => Fx C L A r.2) (fun r : Mem => Fx C L A r)) r := by
  unfold lb_Mod_findFar_2 at e
  rcases io e with ⟨_, e⟩ | ⟨_, e⟩
  · obtain rfl := Option.some.inj e
    exact p0
  obtain ⟨_, e⟩ := io_n e
  obtain ⟨M1, e_M1, e⟩ := mo e
  have p_M1 : Fx C L A M1 := wi p0 e_M1 (oc_c hC (by decide +kernel))
  obtain rfl := Option.some.inj e
  exact p_M1
theorem wf_Mod_findFar {C : Nat} {L : List Nat} {A : Mem} (v1 : Int32) (M : Mem) (hC : sb 191561942608236107294793378393788647952342390272950272 C)  (p0 : Fx C L A M) {r : (Mem)} (e : f_Mod_findFar v1 M = some r) : (fun r : Mem => Fx C L A r) r := by
  unfold f_Mod_findFar at e
  obtain ⟨x3, e_x3, e⟩ := bo e
  have p_x3 : Fx C L A x3 := (it_r (I := fun s : Int32 × Mem => Fx C L A s.2) (Q := (fun r : Mem => Fx C L A r)) (fun s_ r_ hs_ er_ => wl_Mod_findFar_2 v1 s_ (sb_t (by decide +kernel) hC) hs_ er_) e_x3 p0)
  obtain ⟨_, e⟩ := io_n e
  obtain ⟨M4, e_M4, e⟩ := mo e
  have p_M4 : Fx C L A M4 := wi p_x3 e_M4 (oc_c hC (by decide +kernel))
  obtain ⟨x5, e_x5, e⟩ := bo e
  have p_x5 : Fx C L A x5 := (wf_Mod_spread (0 : Int32) M4 (sb_t (by decide +kernel) hC) p_M4 e_x5)
  obtain rfl := Option.some.inj e
  exact p_x5
theorem wl_Mod_putCells_16 {C : Nat} {L : List Nat} {A : Mem} (v1 : Int32) (s : Int32 × Mem) (hC : sb 383123885216472214589586756787577295904684780545900544 C)  (p0 : Fx C L A s.2) {r : ((Int32 × Mem) ⊕ ((Mem)))} (e : lb_Mod_putCells_16 v1 s = some r) : (Sum.elim (fun r : Int32 × Mem => Fx C L A r.2) (fun r : Mem => Fx C L A r)) r := by
  unfold lb_Mod_putCells_16 at e
  rcases io e with ⟨_, e⟩ | ⟨_, e⟩
  · obtain rfl := Option.some.inj e
    exact p0
  obtain ⟨x3, e_x3, e⟩ := bo e
  obtain ⟨_, e⟩ := io_n e
  rcases io e with ⟨_, e⟩ | ⟨_, e⟩
  · obtain rfl := Option.some.inj e
    exact p0
  obtain ⟨_, e⟩ := io_n e
  obtain ⟨_, e⟩ := io_n e
  obtain ⟨M4, e_M4, e⟩ := mo e
  have p_M4 : Fx C L A M4 := wi p0 e_M4 (oc_c hC (by decide +kernel))
  obtain rfl := Option.some.inj e
  exact p_M4
theorem wf_Mod_putCells {C : Nat} {L : List Nat} {A : Mem} (v1 : Int32) (M : Mem) (hC : sb 6582018229668322198255505655966048920035696126892036152671338496 C)  (p0 : Fx C L A M) {r : (Mem)} (e : f_Mod_putCells v1 M = some r) : (fun r : Mem => Fx C L A r) r := by
  unfold f_Mod_putCells at e
  obtain ⟨M1, e_M1, e⟩ := mo e
  have p_M1 : Fx C L A M1 := wi p0 e_M1 (oc_c hC (by decide +kernel))
  obtain ⟨M2, e_M2, e⟩ := mo e
  have p_M2 : Fx C L A M2 := wi p_M1 e_M2 (oc_c hC (by decide +kernel))
  obtain ⟨x7, e_x7, e⟩ := bo e
  have p_x7 : Fx C L A x7 := (it_r (I := fun s : Int32 × Mem => Fx C L A s.2) (Q := (fun r : Mem => Fx C L A r)) (fun s_ r_ hs_ er_ => wl_Mod_putCells_16 v1 s_ (sb_t (by decide +kernel) hC) hs_ er_) e_x7 p_M2)
  obtain ⟨x8, e_x8, e⟩ := bo e
  have p_x8 : Fx C L A x8 := (wf_Mod_put (x7.1 178 (0 : Int32).toNatClampNeg) x7 (sb_t (by decide +kernel) hC) p_x7 e_x8)
  obtain ⟨x9, e_x9, e⟩ := bo e
  have p_x9 : Fx C L A x9 := (wf_Mod_put (x8.1 178 (1 : Int32).toNatClampNeg) x8 (sb_t (by decide +kernel) hC) p_x8 e_x9)
  obtain rfl := Option.some.inj e
  exact p_x9
theorem wl_Mod_pieces_26 {C : Nat} {L : List Nat} {A : Mem} (v1 : Int32) (v2 : Int32) (v3 : Int32) (v4 : Int32) (s : Int32 × Mem) (hC : sb 766247770432944429179173513575154591809369561091801088 C)  (p0 : Fx C L A s.2) {r : ((Int32 × Mem) ⊕ ((Mem)))} (e : lb_Mod_pieces_26 v1 v2 v3 v4 s = some r) : (Sum.elim (fun r : Int32 × Mem => Fx C L A r.2) (fun r : Mem => Fx C L A r)) r := by
  unfold lb_Mod_pieces_26 at e
  rcases io e with ⟨_, e⟩ | ⟨_, e⟩
  · obtain rfl := Option.some.inj e
    exact p0
  obtain ⟨_, e⟩ := io_n e
  obtain ⟨M3, e_M3, e⟩ := mo e
  have p_M3 : Fx C L A M3 := wi p0 e_M3 (oc_c hC (by decide +kernel))
  obtain rfl := Option.some.inj e
  exact p_M3
theorem wl_Mod_pieces_98 {C : Nat} {L : List Nat} {A : Mem} (v1 : Int32) (v2 : Int32) (v3 : Int32) (v4 : Int32) (v5 : Int32) (s : Int32 × Mem) (hC : sb 766247770432944429179173513575154591809369561091801088 C)  (p0 : Fx C L A s.2) {r : ((Int32 × Mem) ⊕ ((Mem)))} (e : lb_Mod_pieces_98 v1 v2 v3 v4 v5 s = some r) : (Sum.elim (fun r : Int32 × Mem => Fx C L A r.2) (fun r : Mem => Fx C L A r)) r := by
  unfold lb_Mod_pieces_98 at e
  rcases io e with ⟨_, e⟩ | ⟨_, e⟩
  · obtain rfl := Option.some.inj e
    exact p0
  obtain ⟨_, e⟩ := io_n e
  obtain ⟨x10, e_x10, e⟩ := bo e
  obtain ⟨_, e⟩ := io_n e
  rcases io e with ⟨_, e⟩ | ⟨_, e⟩
  · obtain ⟨_, e⟩ := io_n e
    obtain ⟨M11, e_M11, e⟩ := mo e
    have p_M11 : Fx C L A M11 := wi p0 e_M11 (oc_c hC (by decide +kernel))
    obtain rfl := Option.some.inj e
    exact p_M11
  obtain ⟨_, e⟩ := io_n e
  obtain ⟨M12, e_M12, e⟩ := mo e
  have p_M12 : Fx C L A M12 := wi p0 e_M12 (oc_c hC (by decide +kernel))
  obtain rfl := Option.some.inj e
  exact p_M12
theorem wl_Mod_pieces_50 {C : Nat} {L : List Nat} {A : Mem} (v1 : Int32) (s : Int32 × Int32 × Int32 × Int32 × Mem) (hC : sb 957809713041180536473966891968943239761711951364751360 C)  (p0 : Fx C L A s.2.2.2.2) {r : ((Int32 × Int32 × Int32 × Int32 × Mem) ⊕ ((Int32 × Int32 × Int32 × Mem)))} (e : lb_Mod_pieces_50 v1 s = some r) : (Sum.elim (fun r : Int32 × Int32 × Int32 × Int32 × Mem => Fx C L A r.2.2.2.2) (fun r : Int32 × Int32 × Int32 × Mem => Fx C L A r.2.2.2)) r := by
  unfold lb_Mod_pieces_50 at e
  obtain ⟨x6, e_x6, e⟩ := bo e
  rcases io e with ⟨_, e⟩ | ⟨_, e⟩
  · obtain rfl := Option.some.inj e
    exact p0
  obtain ⟨x7, e_x7, e⟩ := bo e
  rcases io e with ⟨_, e⟩ | ⟨_, e⟩
  · obtain rfl := Option.some.inj e
    exact p0
  obtain ⟨_, e⟩ := io_n e
  rcases io e with ⟨_, e⟩ | ⟨_, e⟩
  · obtain ⟨x8, e_x8, e⟩ := bo e
    obtain ⟨x9, e_x9, e⟩ := bo e
    have p_x9 : Fx C L A x9 := (wf_Mod_findFar x8 s.2.2.2.2 (sb_t (by decide +kernel) hC) p0 e_x9)
    obtain ⟨x15, e_x15, e⟩ := bo e
    have p_x15 : Fx C L A x15 := (it_r (I := fun s : Int32 × Mem => Fx C L A s.2) (Q := (fun r : Mem => Fx C L A r)) (fun s_ r_ hs_ er_ => wl_Mod_pieces_98 v1 (s.1 + (1 : Int32)) s.2.1 s.2.2.1 s.2.2.2.1 s_ (sb_t (by decide +kernel) hC) hs_ er_) e_x15 p_x9)
    obtain ⟨x16, e_x16, e⟩ := bo e
    rcases io e with ⟨_, e⟩ | ⟨_, e⟩
    · obtain ⟨x17, e_x17, e⟩ := bo e
      obtain rfl := Option.some.inj e
      exact p_x15
    obtain rfl := Option.some.inj e
    exact p_x15
  obtain rfl := Option.some.inj e
  exact p0
theorem wf_Mod_pieces {C : Nat} {L : List Nat} {A : Mem} (v1 : Int32) (M : Mem) (hC : sb 19746054688812656363319967438309233095078948995817702230279061504 C)  (p0 : Fx C L A M) {r : (Int32 × Mem)} (e : f_Mod_pieces v1 M = some r) : (fun r : Int32 × Mem => Fx C L A r.2) r := by
  unfold f_Mod_pieces at e
  obtain ⟨M1, e_M1, e⟩ := mo e
  have p_M1 : Fx C L A M1 := wi1 p0 e_M1 (tb1 hC (by decide +kernel))
  obtain ⟨x2, e_x2, e⟩ := bo e
  rcases io e with ⟨_, e⟩ | ⟨_, e⟩
  · obtain rfl := Option.some.inj e
    exact p_M1
  obtain ⟨x5, e_x5, e⟩ := bo e
  have p_x5 : Fx C L A x5 := (it_r (I := fun s : Int32 × Mem => Fx C L A s.2) (Q := (fun r : Mem => Fx C L A r)) (fun s_ r_ hs_ er_ => wl_Mod_pieces_26 v1 (0 : Int32) (0 : Int32) (-1 : Int32) s_ (sb_t (by decide +kernel) hC) hs_ er_) e_x5 p_M1)
  obtain ⟨x22, e_x22, e⟩ := bo e
  have p_x22 : Fx C L A x22.2.2.2 := (it_r (I := fun s : Int32 × Int32 × Int32 × Int32 × Mem => Fx C L A s.2.2.2.2) (Q := (fun r : Int32 × Int32 × Int32 × Mem => Fx C L A r.2.2.2)) (fun s_ r_ hs_ er_ => wl_Mod_pieces_50 v1 s_ (sb_t (by decide +kernel) hC) hs_ er_) e_x22 p_x5)
  obtain ⟨M23, e_M23, e⟩ := mo e
  have p_M23 : Fx C L A M23 := wi1 p_x22 e_M23 (tb1 hC (by decide +kernel))
  obtain ⟨x24, e_x24, e⟩ := bo e
  have p_x24 : Fx C L A x24 := (wf_Mod_put x22.2.1 M23 (sb_t (by decide +kernel) hC) p_M23 e_x24)
  obtain ⟨x25, e_x25, e⟩ := bo e
  have p_x25 : Fx C L A x25 := (wf_Mod_put x22.2.2.1 x24 (sb_t (by decide +kernel) hC) p_x24 e_x25)
  obtain rfl := Option.some.inj e
  exact p_x25
theorem wf_Mod_reach {C : Nat} {L : List Nat} {A : Mem} (v1 : Int32) (v2 : Int32) (M : Mem) (hC : sb 19746054688429532478103495223719646338291371699913017449733160960 C)  (p0 : Fx C L A M) {r : (Int32 × Mem)} (e : f_Mod_reach v1 v2 M = some r) : (fun r : Int32 × Mem => Fx C L A r.2) r := by
  unfold f_Mod_reach at e
  obtain ⟨M1, e_M1, e⟩ := mo e
  have p_M1 : Fx C L A M1 := wi1 p0 e_M1 (tb1 hC (by decide +kernel))
  obtain ⟨x2, e_x2, e⟩ := bo e
  rcases io e with ⟨_, e⟩ | ⟨_, e⟩
  · obtain rfl := Option.some.inj e
    exact p_M1
  obtain ⟨x3, e_x3, e⟩ := bo e
  rcases io e with ⟨_, e⟩ | ⟨_, e⟩
  · obtain rfl := Option.some.inj e
    exact p_M1
  obtain ⟨x4, e_x4, e⟩ := bo e
  rcases io e with ⟨_, e⟩ | ⟨_, e⟩
  · obtain rfl := Option.some.inj e
    exact p_M1
  obtain ⟨x5, e_x5, e⟩ := bo e
  obtain ⟨x6, e_x6, e⟩ := bo e
  have p_x6 : Fx C L A x6 := (wf_Mod_findFar x5 M1 (sb_t (by decide +kernel) hC) p_M1 e_x6)
  obtain ⟨M7, e_M7, e⟩ := mo e
  have p_M7 : Fx C L A M7 := wi1 p_x6 e_M7 (tb1 hC (by decide +kernel))
  obtain ⟨x8, e_x8, e⟩ := bo e
  have p_x8 : Fx C L A x8 := (wf_Mod_putCells v1 M7 (sb_t (by decide +kernel) hC) p_M7 e_x8)
  obtain ⟨x9, e_x9, e⟩ := bo e
  obtain rfl := Option.some.inj e
  exact p_x8
theorem wj_Mod_path_143_69 {C : Nat} {L : List Nat} {A : Mem} (v4 : Int32) (v5 : Int32) (v6 : Int32) (v7 : Int32) (M : Mem) (hC : sb 0 C)  (p0 : Fx C L A M) {r : ((Int32 × Int32 × Mem) ⊕ ((Mem)))} (e : j_Mod_path_143_69 v4 v5 v6 v7 M = some r) : (Sum.elim (fun r : Int32 × Int32 × Mem => Fx C L A r.2.2) (fun r : Mem => Fx C L A r)) r := by
  unfold j_Mod_path_143_69 at e
  obtain ⟨x13, e_x13, e⟩ := bo e
  obtain rfl := Option.some.inj e
  exact p0
theorem wl_Mod_path_69 {C : Nat} {L : List Nat} {A : Mem} (v5 : Int32) (s : Int32 × Int32 × Mem) (hC : sb 6582018229285198313039033441376462163248118830987351372125437952 C)  (p0 : Fx C L A s.2.2) {r : ((Int32 × Int32 × Mem) ⊕ ((Mem)))} (e : lb_Mod_path_69 v5 s = some r) : (Sum.elim (fun r : Int32 × Int32 × Mem => Fx C L A r.2.2) (fun r : Mem => Fx C L A r)) r := by
  unfold lb_Mod_path_69 at e
  rcases io e with ⟨_, e⟩ | ⟨_, e⟩
  · obtain rfl := Option.some.inj e
    exact p0
  obtain ⟨x12, e_x12, e⟩ := bo e
  rcases io e with ⟨_, e⟩ | ⟨_, e⟩
  · exact (wj_Mod_path_143_69 s.1 v5 s.2.1 x12 s.2.2 (sb_t (by decide +kernel) hC) p0 e)
  obtain ⟨x14, e_x14, e⟩ := bo e
  have p_x14 : Fx C L A x14 := (wf_Mod_put x12 s.2.2 (sb_t (by decide +kernel) hC) p0 e_x14)
  exact (wj_Mod_path_143_69 s.1 v5 s.2.1 x12 x14 (sb_t (by decide +kernel) hC) p_x14 e)
