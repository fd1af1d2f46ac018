/-! frames -/
theorem wf_Mod_path {C : Nat} {L : List Nat} {A : Mem} (v1 : Int32) (v2 : Int32) (v3 : Int32) (M : Mem) (hC : sb 19746054688046408592887023009130059581503794404008332669187260416 C)  (p0 : Fx C L A M) {r : (Int32 × Mem)} (e : f_Mod_path v1 v2 v3 M = some r) : (fun r : Int32 × Mem => Fx C L A r.2) r := by
  unfold f_Mod_path at e
  obtain ⟨M1, e_M1, e⟩ := mo e
  have p_M1 : Fx C L A M1 := wi1 p0 e_M1 (tb1 hC (by decide +kernel))
  obtain ⟨x2, e_x2, e⟩ := bo e
  rcases io e with ⟨_, e⟩ | ⟨_, e⟩
  · obtain rfl := Option.some.inj e
    exact p_M1
  obtain ⟨x3, e_x3, e⟩ := bo e
  rcases io e with ⟨_, e⟩ | ⟨_, e⟩
  · obtain rfl := Option.some.inj e
    exact p_M1
  obtain ⟨x4, e_x4, e⟩ := bo e
  obtain ⟨x5, e_x5, e⟩ := bo e
  have p_x5 : Fx C L A x5 := (wf_Mod_findFar x4 M1 (sb_t (by decide +kernel) hC) p_M1 e_x5)
  obtain ⟨x6, e_x6, e⟩ := bo e
  obtain ⟨_, e⟩ := io_n e
  rcases io e with ⟨_, e⟩ | ⟨_, e⟩
  · obtain ⟨M7, e_M7, e⟩ := mo e
    have p_M7 : Fx C L A M7 := wi1 p_x5 e_M7 (tb1 hC (by decide +kernel))
    obtain ⟨x17, e_x17, e⟩ := bo e
    have p_x17 : Fx C L A x17 := (it_r (I := fun s : Int32 × Int32 × Mem => Fx C L A s.2.2) (Q := (fun r : Mem => Fx C L A r)) (fun s_ r_ hs_ er_ => wl_Mod_path_69 (x5.1 177 x6.toNatClampNeg) s_ (sb_t (by decide +kernel) hC) hs_ er_) e_x17 p_M7)
    obtain rfl := Option.some.inj e
    exact p_x17
  obtain rfl := Option.some.inj e
  exact p_x5
theorem wf_Mod_lowerBoth {C : Nat} {L : List Nat} {A : Mem} (v1 : Int32) (v2 : Int32) (M : Mem) (hC : sb 1532495540865888858358347027150309183618739122183602176 C)  (p0 : Fx C L A M) {r : (Int32 × Mem)} (e : f_Mod_lowerBoth v1 v2 M = some r) : (fun r : Int32 × Mem => Fx C L A r.2) r := by
  unfold f_Mod_lowerBoth at e
  rcases io e with ⟨_, e⟩ | ⟨_, e⟩
  · obtain rfl := Option.some.inj e
    exact p0
  obtain ⟨_, e⟩ := io_n e
  rcases io e with ⟨_, e⟩ | ⟨_, e⟩
  · obtain ⟨_, e⟩ := io_n e
    obtain ⟨M1, e_M1, e⟩ := mo e
    have p_M1 : Fx C L A M1 := wi p0 e_M1 (oc_c hC (by decide +kernel))
    obtain rfl := Option.some.inj e
    exact p_M1
  obtain rfl := Option.some.inj e
  exact p0
theorem wl_Mod_both_29 {C : Nat} {L : List Nat} {A : Mem} (v1 : Int32) (v2 : Int32) (v3 : Int32) (v4 : Int32) (s : Int32 × Mem) (hC : sb 1532495540865888858358347027150309183618739122183602176 C)  (p0 : Fx C L A s.2) {r : ((Int32 × Mem) ⊕ ((Mem)))} (e : lb_Mod_both_29 v1 v2 v3 v4 s = some r) : (Sum.elim (fun r : Int32 × Mem => Fx C L A r.2) (fun r : Mem => Fx C L A r)) r := by
  unfold lb_Mod_both_29 at e
  rcases io e with ⟨_, e⟩ | ⟨_, e⟩
  · obtain rfl := Option.some.inj e
    exact p0
  obtain ⟨_, e⟩ := io_n e
  obtain ⟨M4, e_M4, e⟩ := mo e
  have p_M4 : Fx C L A M4 := wi p0 e_M4 (oc_c hC (by decide +kernel))
  obtain rfl := Option.some.inj e
  exact p_M4
theorem wl_Mod_both_103 {C : Nat} {L : List Nat} {A : Mem} (v3 : Int32) (v4 : Int32) (v6 : Int32) (s : Int32 × Int32 × Mem) (hC : sb 1532495540865888858358347027150309183618739122183602176 C)  (p0 : Fx C L A s.2.2) {r : ((Int32 × Int32 × Mem) ⊕ ((Int32 × Mem)))} (e : lb_Mod_both_103 v3 v4 v6 s = some r) : (Sum.elim (fun r : Int32 × Int32 × Mem => Fx C L A r.2.2) (fun r : Int32 × Mem => Fx C L A r.2)) r := by
  unfold lb_Mod_both_103 at e
  rcases io e with ⟨_, e⟩ | ⟨_, e⟩
  · obtain rfl := Option.some.inj e
    exact p0
  obtain ⟨x9, e_x9, e⟩ := bo e
  obtain ⟨_, e⟩ := io_n e
  obtain ⟨x10, e_x10, e⟩ := bo e
  obtain ⟨x11, e_x11, e⟩ := bo e
  have p_x11 : Fx C L A x11.2 := (wf_Mod_lowerBoth x9 (((s.2.2.1 180 v6.toNatClampNeg) + (1000 : Int32)) + x10) s.2.2 (sb_t (by decide +kernel) hC) p0 e_x11)
  obtain rfl := Option.some.inj e
  exact p_x11
theorem wl_Mod_both_77 {C : Nat} {L : List Nat} {A : Mem} (v3 : Int32) (v4 : Int32) (s : Int32 × Int32 × Mem) (hC : sb 1532495540865888858358347027150309183618739122183602176 C)  (p0 : Fx C L A s.2.2) {r : ((Int32 × Int32 × Mem) ⊕ ((Int32 × Mem)))} (e : lb_Mod_both_77 v3 v4 s = some r) : (Sum.elim (fun r : Int32 × Int32 × Mem => Fx C L A r.2.2) (fun r : Int32 × Mem => Fx C L A r.2)) r := by
  unfold lb_Mod_both_77 at e
  rcases io e with ⟨_, e⟩ | ⟨_, e⟩
  · obtain rfl := Option.some.inj e
    exact p0
  obtain ⟨_, e⟩ := io_n e
  rcases io e with ⟨_, e⟩ | ⟨_, e⟩
  · obtain ⟨x13, e_x13, e⟩ := bo e
    have p_x13 : Fx C L A x13.2 := (it_r (I := fun s : Int32 × Int32 × Mem => Fx C L A s.2.2) (Q := (fun r : Int32 × Mem => Fx C L A r.2)) (fun s_ r_ hs_ er_ => wl_Mod_both_103 v3 v4 s.2.1 s_ (sb_t (by decide +kernel) hC) hs_ er_) e_x13 p0)
    obtain ⟨x14, e_x14, e⟩ := bo e
    obtain ⟨_, e⟩ := io_n e
    rcases io e with ⟨_, e⟩ | ⟨_, e⟩
    · obtain ⟨x15, e_x15, e⟩ := bo e
      obtain ⟨x16, e_x16, e⟩ := bo e
      obtain ⟨x17, e_x17, e⟩ := bo e
      obtain ⟨_, e⟩ := io_n e
      obtain ⟨x18, e_x18, e⟩ := bo e
      have p_x18 : Fx C L A x18.2 := (wf_Mod_lowerBoth x17 (x13.2.1 180 s.2.1.toNatClampNeg) x13.2 (sb_t (by decide +kernel) hC) p_x13 e_x18)
      obtain rfl := Option.some.inj e
      exact p_x18
    obtain rfl := Option.some.inj e
    exact p_x13
  obtain rfl := Option.some.inj e
  exact p0
theorem wl_Mod_both_66 {C : Nat} {L : List Nat} {A : Mem} (v3 : Int32) (v4 : Int32) (s : Int32 × Mem) (hC : sb 1532495540865888858358347027150309183618739122183602176 C)  (p0 : Fx C L A s.2) {r : ((Int32 × Mem) ⊕ ((Mem)))} (e : lb_Mod_both_66 v3 v4 s = some r) : (Sum.elim (fun r : Int32 × Mem => Fx C L A r.2) (fun r : Mem => Fx C L A r)) r := by
  unfold lb_Mod_both_66 at e
  rcases io e with ⟨_, e⟩ | ⟨_, e⟩
  · obtain rfl := Option.some.inj e
    exact p0
  obtain ⟨x22, e_x22, e⟩ := bo e
  have p_x22 : Fx C L A x22.2 := (it_r (I := fun s : Int32 × Int32 × Mem => Fx C L A s.2.2) (Q := (fun r : Int32 × Mem => Fx C L A r.2)) (fun s_ r_ hs_ er_ => wl_Mod_both_77 v3 v4 s_ (sb_t (by decide +kernel) hC) hs_ er_) e_x22 p0)
  obtain rfl := Option.some.inj e
  exact p_x22
theorem wf_Mod_both {C : Nat} {L : List Nat} {A : Mem} (v1 : Int32) (v2 : Int32) (v3 : Int32) (v4 : Int32) (M : Mem) (hC : sb 19746054689387342191144675760193613230260314939674729401097912320 C)  (p0 : Fx C L A M) {r : (Int32 × Mem)} (e : f_Mod_both v1 v2 v3 v4 M = some r) : (fun r : Int32 × Mem => Fx C L A r.2) r := by
  unfold f_Mod_both at e
  obtain ⟨M1, e_M1, e⟩ := mo e
  have p_M1 : Fx C L A M1 := wi1 p0 e_M1 (tb1 hC (by decide +kernel))
  obtain ⟨x2, e_x2, e⟩ := bo e
  rcases io e with ⟨_, e⟩ | ⟨_, e⟩
  · obtain rfl := Option.some.inj e
    exact p_M1
  obtain ⟨x3, e_x3, e⟩ := bo e
  rcases io e with ⟨_, e⟩ | ⟨_, e⟩
  · obtain rfl := Option.some.inj e
    exact p_M1
  obtain ⟨x6, e_x6, e⟩ := bo e
  have p_x6 : Fx C L A x6 := (it_r (I := fun s : Int32 × Mem => Fx C L A s.2) (Q := (fun r : Mem => Fx C L A r)) (fun s_ r_ hs_ er_ => wl_Mod_both_29 v1 v2 v3 v4 s_ (sb_t (by decide +kernel) hC) hs_ er_) e_x6 p_M1)
  obtain ⟨x7, e_x7, e⟩ := bo e
  obtain ⟨_, e⟩ := io_n e
  obtain ⟨M8, e_M8, e⟩ := mo e
  have p_M8 : Fx C L A M8 := wi p_x6 e_M8 (oc_c hC (by decide +kernel))
  obtain ⟨x24, e_x24, e⟩ := bo e
  have p_x24 : Fx C L A x24 := (it_r (I := fun s : Int32 × Mem => Fx C L A s.2) (Q := (fun r : Mem => Fx C L A r)) (fun s_ r_ hs_ er_ => wl_Mod_both_66 v3 v4 s_ (sb_t (by decide +kernel) hC) hs_ er_) e_x24 p_M8)
  obtain ⟨x25, e_x25, e⟩ := bo e
  obtain ⟨_, e⟩ := io_n e
  rcases io e with ⟨_, e⟩ | ⟨_, e⟩
  · obtain ⟨M26, e_M26, e⟩ := mo e
    have p_M26 : Fx C L A M26 := wi1 p_x24 e_M26 (tb1 hC (by decide +kernel))
    obtain ⟨x27, e_x27, e⟩ := bo e
    have p_x27 : Fx C L A x27 := (wf_Mod_put ((x24.1 180 x25.toNatClampNeg) - (((x24.1 180 x25.toNatClampNeg) / (1000 : Int32)) * (1000 : Int32))) M26 (sb_t (by decide +kernel) hC) p_M26 e_x27)
    obtain rfl := Option.some.inj e
    exact p_x27
  obtain rfl := Option.some.inj e
  exact p_x24
theorem wl_Mod_copy_2 {C : Nat} {L : List Nat} {A : Mem} (v0 : Nat) (v1 : Nat) (s : Int32 × Mem) (hC : sb 0 C) (h_v1 : Oc C L (v1)) (p0 : Fx C L A s.2) {r : ((Int32 × Mem) ⊕ ((Mem)))} (e : lb_Mod_copy_2 v0 v1 s = some r) : (Sum.elim (fun r : Int32 × Mem => Fx C L A r.2) (fun r : Mem => Fx C L A r)) r := by
  unfold lb_Mod_copy_2 at e
  rcases io e with ⟨_, e⟩ | ⟨_, e⟩
  · obtain rfl := Option.some.inj e
    exact p0
  obtain ⟨_, e⟩ := io_n e
  obtain ⟨_, e⟩ := io_n e
  obtain ⟨M1, e_M1, e⟩ := mo e
  have p_M1 : Fx C L A M1 := wi p0 e_M1 h_v1
  obtain rfl := Option.some.inj e
  exact p_M1
theorem wf_Mod_copy {C : Nat} {L : List Nat} {A : Mem} (v0 : Nat) (v1 : Nat) (M : Mem) (hC : sb 0 C) (h_v1 : Oc C L (v1)) (p0 : Fx C L A M) {r : (Mem)} (e : f_Mod_copy v0 v1 M = some r) : (fun r : Mem => Fx C L A r) r := by
  unfold f_Mod_copy at e
  obtain ⟨g_v0, e⟩ := io_n e
  obtain ⟨g_v1, e⟩ := io_n e
  obtain ⟨x3, e_x3, e⟩ := bo e
  have p_x3 : Fx C L A x3 := (it_r (I := fun s : Int32 × Mem => Fx C L A s.2) (Q := (fun r : Mem => Fx C L A r)) (fun s_ r_ hs_ er_ => wl_Mod_copy_2 v0 v1 s_ (sb_t (by decide +kernel) hC) h_v1 hs_ er_) e_x3 p0)
  obtain rfl := Option.some.inj e
  exact p_x3
theorem wl_Mod_errand_126 {C : Nat} {L : List Nat} {A : Mem} (v7 : Int32) (s : Int32 × Int32 × Int32 × Int32 × Int32 × Mem) (hC : sb 191561942608236107294793378393788647952342390272950272 C)  (p0 : Fx C L A s.2.2.2.2.2) {r : ((Int32 × Int32 × Int32 × Int32 × Int32 × Mem) ⊕ ((Int32 × Int32 × Int32 × Int32 × Mem)))} (e : lb_Mod_errand_126 v7 s = some r) : (Sum.elim (fun r : Int32 × Int32 × Int32 × Int32 × Int32 × Mem => Fx C L A r.2.2.2.2.2) (fun r : Int32 × Int32 × Int32 × Int32 × Mem => Fx C L A r.2.2.2.2)) r := by
  unfold lb_Mod_errand_126 at e
  rcases io e with ⟨_, e⟩ | ⟨_, e⟩
  · obtain rfl := Option.some.inj e
    exact p0
  obtain ⟨x11, e_x11, e⟩ := bo e
  rcases io e with ⟨_, e⟩ | ⟨_, e⟩
  · obtain rfl := Option.some.inj e
    exact p0
  obtain ⟨_, e⟩ := io_n e
  obtain ⟨x12, e_x12, e⟩ := bo e
  rcases io e with ⟨_, e⟩ | ⟨_, e⟩
  · obtain rfl := Option.some.inj e
    exact p0
  obtain ⟨_, e⟩ := io_n e
  obtain ⟨x13, e_x13, e⟩ := bo e
  have p_x13 : Fx C L A x13 := (wf_Mod_findFar (s.2.2.2.2.2.1 163 s.2.2.2.2.1.toNatClampNeg) s.2.2.2.2.2 (sb_t (by decide +kernel) hC) p0 e_x13)
  obtain ⟨x22, e_x22, e⟩ := bo e
  obtain rfl := Option.some.inj e
  exact p_x13
theorem wl_Mod_errand_81 {C : Nat} {L : List Nat} {A : Mem} (s : Int32 × Int32 × Int32 × Int32 × Int32 × Mem) (hC : sb 191561942608236107294793378393788647952342390272950272 C)  (p0 : Fx C L A s.2.2.2.2.2) {r : ((Int32 × Int32 × Int32 × Int32 × Int32 × Mem) ⊕ ((Int32 × Int32 × Int32 × Int32 × Mem)))} (e : lb_Mod_errand_81 s = some r) : (Sum.elim (fun r : Int32 × Int32 × Int32 × Int32 × Int32 × Mem => Fx C L A r.2.2.2.2.2) (fun r : Int32 × Int32 × Int32 × Int32 × Mem => Fx C L A r.2.2.2.2)) r := by
  unfold lb_Mod_errand_81 at e
  rcases io e with ⟨_, e⟩ | ⟨_, e⟩
  · obtain rfl := Option.some.inj e
    exact p0
  obtain ⟨x10, e_x10, e⟩ := bo e
  rcases io e with ⟨_, e⟩ | ⟨_, e⟩
  · obtain ⟨_, e⟩ := io_n e
    obtain ⟨_, e⟩ := io_n e
    rcases io e with ⟨_, e⟩ | ⟨_, e⟩
    · obtain ⟨x26, e_x26, e⟩ := bo e
      have p_x26 : Fx C L A x26.2.2.2.2 := (it_r (I := fun s : Int32 × Int32 × Int32 × Int32 × Int32 × Mem => Fx C L A s.2.2.2.2.2) (Q := (fun r : Int32 × Int32 × Int32 × Int32 × Mem => Fx C L A r.2.2.2.2)) (fun s_ r_ hs_ er_ => wl_Mod_errand_126 s.2.2.2.2.1 s_ (sb_t (by decide +kernel) hC) hs_ er_) e_x26 p0)
      obtain rfl := Option.some.inj e
      exact p_x26
    obtain rfl := Option.some.inj e
    exact p0
  obtain rfl := Option.some.inj e
  exact p0
theorem wf_Mod_errand {C : Nat} {L : List Nat} {A : Mem} (v1 : Int32) (v2 : Int32) (M : Mem) (hC : sb 19746054697241381838082356159280141744405649505720767402288873472 C)  (p0 : Fx C L A M) {r : (Int32 × Mem)} (e : f_Mod_errand v1 v2 M = some r) : (fun r : Int32 × Mem => Fx C L A r.2) r := by
  unfold f_Mod_errand at e
  obtain ⟨M1, e_M1, e⟩ := mo e
  have p_M1 : Fx C L A M1 := wi1 p0 e_M1 (tb1 hC (by decide +kernel))
  obtain ⟨x2, e_x2, e⟩ := bo e
  rcases io e with ⟨_, e⟩ | ⟨_, e⟩
  · obtain rfl := Option.some.inj e
    exact p_M1
  obtain ⟨x3, e_x3, e⟩ := bo e
  rcases io e with ⟨_, e⟩ | ⟨_, e⟩
  · obtain rfl := Option.some.inj e
    exact p_M1
  obtain ⟨x4, e_x4, e⟩ := bo e
  obtain ⟨x5, e_x5, e⟩ := bo e
  have p_x5 : Fx C L A x5 := (wf_Mod_findFar x4 M1 (sb_t (by decide +kernel) hC) p_M1 e_x5)
  obtain ⟨x6, e_x6, e⟩ := bo e
  have p_x6 : Fx C L A x6 := (wf_Mod_copy 177 181 x5 (sb_t (by decide +kernel) hC) (oc_c hC (by decide +kernel)) p_x5 e_x6)
  obtain ⟨x7, e_x7, e⟩ := bo e
  obtain ⟨x8, e_x8, e⟩ := bo e
  have p_x8 : Fx C L A x8 := (wf_Mod_findFar x7 x6 (sb_t (by decide +kernel) hC) p_x6 e_x8)
  obtain ⟨x9, e_x9, e⟩ := bo e
  have p_x9 : Fx C L A x9 := (wf_Mod_copy 177 182 x8 (sb_t (by decide +kernel) hC) (oc_c hC (by decide +kernel)) p_x8 e_x9)
  obtain ⟨x30, e_x30, e⟩ := bo e
  have p_x30 : Fx C L A x30.2.2.2.2 := (it_r (I := fun s : Int32 × Int32 × Int32 × Int32 × Int32 × Mem => Fx C L A s.2.2.2.2.2) (Q := (fun r : Int32 × Int32 × Int32 × Int32 × Mem => Fx C L A r.2.2.2.2)) (fun s_ r_ hs_ er_ => wl_Mod_errand_81  s_ (sb_t (by decide +kernel) hC) hs_ er_) e_x30 p_x9)
  rcases io e with ⟨_, e⟩ | ⟨_, e⟩
  · obtain rfl := Option.some.inj e
    exact p_x30
  obtain ⟨M31, e_M31, e⟩ := mo e
  have p_M31 : Fx C L A M31 := wi1 p_x30 e_M31 (tb1 hC (by decide +kernel))
  obtain ⟨x32, e_x32, e⟩ := bo e
  have p_x32 : Fx C L A x32 := (wf_Mod_put x30.2.1 M31 (sb_t (by decide +kernel) hC) p_M31 e_x32)
  obtain ⟨x33, e_x33, e⟩ := bo e
  have p_x33 : Fx C L A x33 := (wf_Mod_put x30.2.2.1 x32 (sb_t (by decide +kernel) hC) p_x32 e_x33)
  obtain ⟨x34, e_x34, e⟩ := bo e
  have p_x34 : Fx C L A x34 := (wf_Mod_put x30.2.2.2.1 x33 (sb_t (by decide +kernel) hC) p_x33 e_x34)
  obtain rfl := Option.some.inj e
  exact p_x34
theorem wl_Mod_findTryst_38 {C : Nat} {L : List Nat} {A : Mem} (v1 : Int32) (v2 : Int32) (s : Int32 × Int32 × Mem) (hC : sb 7067388259113537318333190002971674063309935587502475832486424805170479104 C)  (p0 : Fx C L A s.2.2) {r : ((Int32 × Int32 × Mem) ⊕ ((Int32 × Mem)))} (e : lb_Mod_findTryst_38 v1 v2 s = some r) : (Sum.elim (fun r : Int32 × Int32 × Mem => Fx C L A r.2.2) (fun r : Int32 × Mem => Fx C L A r.2)) r := by
  unfold lb_Mod_findTryst_38 at e
  obtain ⟨x4, e_x4, e⟩ := bo e
  rcases io e with ⟨_, e⟩ | ⟨_, e⟩
  · obtain rfl := Option.some.inj e
    exact p0
  obtain ⟨_, e⟩ := io_n e
  rcases io e with ⟨_, e⟩ | ⟨_, e⟩
  · obtain ⟨_, e⟩ := io_n e
    obtain ⟨x5, e_x5, e⟩ := bo e
    obtain ⟨x6, e_x6, e⟩ := bo e
    obtain ⟨_, e⟩ := io_n e
    obtain ⟨_, e⟩ := io_n e
    obtain ⟨x7, e_x7, e⟩ := bo e
    obtain ⟨x8, e_x8, e⟩ := bo e
    obtain ⟨_, e⟩ := io_n e
    rcases io e with ⟨_, e⟩ | ⟨_, e⟩
    · obtain ⟨M9, e_M9, e⟩ := mo e
      have p_M9 : Fx C L A M9 := wi1 p0 e_M9 (tb1 hC (by decide +kernel))
      obtain rfl := Option.some.inj e
      exact p_M9
    obtain rfl := Option.some.inj e
    exact p0
  obtain rfl := Option.some.inj e
  exact p0
theorem wf_Mod_findTryst {C : Nat} {L : List Nat} {A : Mem} (v1 : Int32) (v2 : Int32) (M : Mem) (hC : sb 7067388259113537330784716272507021037471505183098737949388680172912246784 C)  (p0 : Fx C L A M) {r : (Int32 × Mem)} (e : f_Mod_findTryst v1 v2 M = some r) : (fun r : Int32 × Mem => Fx C L A r.2) r := by
  unfold f_Mod_findTryst at e
  obtain ⟨_, e⟩ := io_n e
  obtain ⟨x1, e_x1, e⟩ := bo e
  have p_x1 : Fx C L A x1 := (wf_Mod_findFar (M.1 163 v1.toNatClampNeg) M (sb_t (by decide +kernel) hC) p0 e_x1)
  obtain ⟨x2, e_x2, e⟩ := bo e
  have p_x2 : Fx C L A x2 := (wf_Mod_copy 177 183 x1 (sb_t (by decide +kernel) hC) (oc_c hC (by decide +kernel)) p_x1 e_x2)
  obtain ⟨_, e⟩ := io_n e
  obtain ⟨x3, e_x3, e⟩ := bo e
  have p_x3 : Fx C L A x3 := (wf_Mod_findFar (x2.1 163 v2.toNatClampNeg) x2 (sb_t (by decide +kernel) hC) p_x2 e_x3)
  obtain ⟨x13, e_x13, e⟩ := bo e
  have p_x13 : Fx C L A x13.2 := (it_r (I := fun s : Int32 × Int32 × Mem => Fx C L A s.2.2) (Q := (fun r : Int32 × Mem => Fx C L A r.2)) (fun s_ r_ hs_ er_ => wl_Mod_findTryst_38 v1 v2 s_ (sb_t (by decide +kernel) hC) hs_ er_) e_x13 p_x3)
  obtain rfl := Option.some.inj e
  exact p_x13
theorem wf_Mod_tryst {C : Nat} {L : List Nat} {A : Mem} (v1 : Int32) (v2 : Int32) (M : Mem) (hC : sb 7067388278859592018639562922785807939306771386208743705444670451826556928 C)  (p0 : Fx C L A M) {r : (Int32 × Mem)} (e : f_Mod_tryst v1 v2 M = some r) : (fun r : Int32 × Mem => Fx C L A r.2) r := by
  unfold f_Mod_tryst at e
  obtain ⟨M1, e_M1, e⟩ := mo e
  have p_M1 : Fx C L A M1 := wi1 p0 e_M1 (tb1 hC (by decide +kernel))
  obtain ⟨x2, e_x2, e⟩ := bo e
  rcases io e with ⟨_, e⟩ | ⟨_, e⟩
  · obtain rfl := Option.some.inj e
    exact p_M1
  obtain ⟨x3, e_x3, e⟩ := bo e
  have p_x3 : Fx C L A x3.2 := (wf_Mod_findTryst v1 v2 M1 (sb_t (by decide +kernel) hC) p_M1 e_x3)
  rcases io e with ⟨_, e⟩ | ⟨_, e⟩
  · obtain rfl := Option.some.inj e
    exact p_x3
  obtain ⟨M4, e_M4, e⟩ := mo e
  have p_M4 : Fx C L A M4 := wi1 p_x3 e_M4 (tb1 hC (by decide +kernel))
  obtain ⟨x5, e_x5, e⟩ := bo e
  have p_x5 : Fx C L A x5 := (wf_Mod_put x3.1 M4 (sb_t (by decide +kernel) hC) p_M4 e_x5)
  obtain rfl := Option.some.inj e
  exact p_x5
theorem wj_Mod_open_57_27 {C : Nat} {L : List Nat} {A : Mem} (v1 : Int32) (v2 : Int32) (v3 : Int32) (v4 : Int32) (v5 : Int32) (v6 : Int32) (M : Mem) (hC : sb 7067388259113537330784739656533218331918196442056061409916994667832934400 C)  (p0 : Fx C L A M) {r : ((Int32 × Int32 × Int32 × Mem) ⊕ ((Int32 × Int32 × Mem)))} (e : j_Mod_open_57_27 v1 v2 v3 v4 v5 v6 M = some r) : (Sum.elim (fun r : Int32 × Int32 × Int32 × Mem => Fx C L A r.2.2.2) (fun r : Int32 × Int32 × Mem => Fx C L A r.2.2)) r := by
  unfold j_Mod_open_57_27 at e
  obtain ⟨x4, e_x4, e⟩ := bo e
  rcases io e with ⟨_, e⟩ | ⟨_, e⟩
  · obtain ⟨_, e⟩ := io_n e
    obtain ⟨M5, e_M5, e⟩ := mo e
    have p_M5 : Fx C L A M5 := wi p0 e_M5 (oc_c hC (by decide +kernel))
    obtain ⟨x6, e_x6, e⟩ := bo e
    have p_x6 : Fx C L A x6.2 := (wf_Mod_findTryst v1 v2 M5 (sb_t (by decide +kernel) hC) p_M5 e_x6)
    obtain ⟨_, e⟩ := io_n e
    obtain ⟨M7, e_M7, e⟩ := mo e
    have p_M7 : Fx C L A M7 := wi p_x6 e_M7 (oc_c hC (by decide +kernel))
    rcases io e with ⟨_, e⟩ | ⟨_, e⟩
    · obtain rfl := Option.some.inj e
      exact p_M7
    obtain rfl := Option.some.inj e
    exact p_M7
  obtain rfl := Option.some.inj e
  exact p0
theorem wl_Mod_open_27 {C : Nat} {L : List Nat} {A : Mem} (v1 : Int32) (v2 : Int32) (s : Int32 × Int32 × Int32 × Mem) (hC : sb 7067388259113537330784739656533218331918196442056061409916994667832934400 C)  (p0 : Fx C L A s.2.2.2) {r : ((Int32 × Int32 × Int32 × Mem) ⊕ ((Int32 × Int32 × Mem)))} (e : lb_Mod_open_27 v1 v2 s = some r) : (Sum.elim (fun r : Int32 × Int32 × Int32 × Mem => Fx C L A r.2.2.2) (fun r : Int32 × Int32 × Mem => Fx C L A r.2.2)) r := by
  unfold lb_Mod_open_27 at e
  obtain ⟨x3, e_x3, e⟩ := bo e
  rcases io e with ⟨_, e⟩ | ⟨_, e⟩
  · obtain rfl := Option.some.inj e
    exact p0
  obtain ⟨_, e⟩ := io_n e
  rcases io e with ⟨_, e⟩ | ⟨_, e⟩
  · exact (wj_Mod_open_57_27 v1 v2 s.1 s.2.1 s.2.2.1 (s.2.2.2.1 164 s.2.2.1.toNatClampNeg) s.2.2.2 (sb_t (by decide +kernel) hC) p0 e)
  rcases io e with ⟨_, e⟩ | ⟨_, e⟩
  · exact (wj_Mod_open_57_27 v1 v2 s.1 s.2.1 s.2.2.1 (s.2.2.2.1 164 s.2.2.1.toNatClampNeg) s.2.2.2 (sb_t (by decide +kernel) hC) p0 e)
  obtain rfl := Option.some.inj e
  exact p0
theorem wf_Mod_open {C : Nat} {L : List Nat} {A : Mem} (v1 : Int32) (v2 : Int32) (M : Mem) (hC : sb 7067388278859592018639586306812005233753462645166067165972984946747244544 C)  (p0 : Fx C L A M) {r : (Int32 × Mem)} (e : f_Mod_open v1 v2 M = some r) : (fun r : Int32 × Mem => Fx C L A r.2) r := by
  unfold f_Mod_open at e
  obtain ⟨M1, e_M1, e⟩ := mo e
  have p_M1 : Fx C L A M1 := wi1 p0 e_M1 (tb1 hC (by decide +kernel))
  obtain ⟨x2, e_x2, e⟩ := bo e
  rcases io e with ⟨_, e⟩ | ⟨_, e⟩
  · obtain rfl := Option.some.inj e
    exact p_M1
  obtain ⟨x13, e_x13, e⟩ := bo e
  have p_x13 : Fx C L A x13.2.2 := (it_r (I := fun s : Int32 × Int32 × Int32 × Mem => Fx C L A s.2.2.2) (Q := (fun r : Int32 × Int32 × Mem => Fx C L A r.2.2)) (fun s_ r_ hs_ er_ => wl_Mod_open_27 v1 v2 s_ (sb_t (by decide +kernel) hC) hs_ er_) e_x13 p_M1)
  rcases io e with ⟨_, e⟩ | ⟨_, e⟩
  · obtain ⟨M14, e_M14, e⟩ := mo e
    have p_M14 : Fx C L A M14 := wi1 p_x13 e_M14 (tb1 hC (by decide +kernel))
    obtain ⟨x15, e_x15, e⟩ := bo e
    have p_x15 : Fx C L A x15 := (wf_Mod_put x13.2.1 M14 (sb_t (by decide +kernel) hC) p_M14 e_x15)
    obtain rfl := Option.some.inj e
    exact p_x15
  obtain rfl := Option.some.inj e
  exact p_x13
theorem wl_Mod_parts_28 {C : Nat} {L : List Nat} {A : Mem} (rc : Int32 → Int32 → Int32 → Int32 → Int32 → Mem → Option (Int32 × Mem)) (v1 : Int32) (v2 : Int32) (v3 : Int32) (v4 : Int32) (s : Int32 × Mem) (hC : sb 7067388259113537355304668310387440065651748876461008347816820622770569216 C)  (hrc : ∀ u0 u1 u2 u3 u4 (N : Mem) (r : Int32 × Mem), Fx C L A N → rc u0 u1 u2 u3 u4 N = some r → Fx C L A r.2) (p0 : Fx C L A s.2) {r : ((Int32 × Mem) ⊕ ((Mem) ⊕ (Mem)))} (e : lb_Mod_parts_28 rc v1 v2 v3 v4 s = some r) : (Sum.elim (fun r : Int32 × Mem => Fx C L A r.2) (Sum.elim (fun r : Mem => Fx C L A r) (fun r : Mem => Fx C L A r))) r := by
  unfold lb_Mod_parts_28 at e
  obtain ⟨x1, e_x1, e⟩ := bo e
  rcases io e with ⟨_, e⟩ | ⟨_, e⟩
  · obtain rfl := Option.some.inj e
    exact p0
  obtain ⟨_, e⟩ := io_n e
  rcases io e with ⟨_, e⟩ | ⟨_, e⟩
  · obtain ⟨_, e⟩ := io_n e
    obtain ⟨x2, e_x2, e⟩ := bo e
    rcases io e with ⟨_, e⟩ | ⟨_, e⟩
    · obtain rfl := Option.some.inj e
      exact p0
    obtain ⟨_, e⟩ := io_n e
    obtain ⟨x3, e_x3, e⟩ := bo e
    rcases io e with ⟨_, e⟩ | ⟨_, e⟩
    · obtain rfl := Option.some.inj e
      exact p0
    obtain ⟨_, e⟩ := io_n e
    obtain ⟨M4, e_M4, e⟩ := mo e
    have p_M4 : Fx C L A M4 := wi p0 e_M4 (oc_c hC (by decide +kernel))
    obtain ⟨_, e⟩ := io_n e
    obtain ⟨M5, e_M5, e⟩ := mo e
    have p_M5 : Fx C L A M5 := wi p_M4 e_M5 (oc_c hC (by decide +kernel))
    obtain ⟨x6, e_x6, e⟩ := bo e
    have p_x6 : Fx C L A x6.2 := (hrc _ _ _ _ _ _ _ p_M5 e_x6)
    obtain ⟨_, e⟩ := io_n e
    obtain ⟨M7, e_M7, e⟩ := mo e
    have p_M7 : Fx C L A M7 := wi p_x6 e_M7 (oc_c hC (by decide +kernel))
    rcases io e with ⟨_, e⟩ | ⟨_, e⟩
    · obtain rfl := Option.some.inj e
      exact p_M7
    obtain rfl := Option.some.inj e
    exact p_M7
  obtain rfl := Option.some.inj e
  exact p0
theorem wb_Mod_parts {C : Nat} {L : List Nat} {A : Mem} (rc : Int32 → Int32 → Int32 → Int32 → Int32 → Mem → Option (Int32 × Mem)) (v1 : Int32) (v2 : Int32) (v3 : Int32) (v4 : Int32) (v5 : Int32) (M : Mem) (hC : sb 7067388259113537355304668310387440065651748876461008347816820622770569216 C)  (hrc : ∀ u0 u1 u2 u3 u4 (N : Mem) (r : Int32 × Mem), Fx C L A N → rc u0 u1 u2 u3 u4 N = some r → Fx C L A r.2) (p0 : Fx C L A M) {r : (Int32 × Mem)} (e : fb_Mod_parts rc v1 v2 v3 v4 v5 M = some r) : (fun r : Int32 × Mem => Fx C L A r.2) r := by
  unfold fb_Mod_parts at e
  rcases io e with ⟨_, e⟩ | ⟨_, e⟩
  · obtain ⟨x16, e_x16, e⟩ := bo e
    have p_x16 : Fx C L A x16.2 := (wf_Mod_findTryst v1 v2 M (sb_t (by decide +kernel) hC) p0 e_x16)
    rcases io e with ⟨_, e⟩ | ⟨_, e⟩
    · obtain rfl := Option.some.inj e
      exact p_x16
    obtain rfl := Option.some.inj e
    exact p_x16
  obtain ⟨y_, e_y, e⟩ := bo e
  have q_y := (it_r (I := fun s : Int32 × Mem => Fx C L A s.2) (Q := (Sum.elim (fun r : Mem => Fx C L A r) (fun r : Mem => Fx C L A r))) (fun s_ r_ hs_ er_ => wl_Mod_parts_28 rc v1 v2 v3 v4 s_ (sb_t (by decide +kernel) hC) hrc hs_ er_) e_y p0)
  rcases y_ with y14 | y15
  · have p_y14 : Fx C L A y14 := q_y
    replace e := el_l e
    obtain rfl := Option.some.inj e
    exact p_y14
  · have p_y15 : Fx C L A y15 := q_y
    replace e := el_r e
    obtain rfl := Option.some.inj e
    exact p_y15
theorem wf_Mod_parts0 {C : Nat} {L : List Nat} {A : Mem} (hC : sb 7067388259113537355304668310387440065651748876461008347816820622770569216 C) : ∀ (n : Nat) (a0 a1 a2 a3 a4 : Int32) (N : Mem) (r : Int32 × Mem), Fx C L A N → fr_parts n a0 a1 a2 a3 a4 N = some r → Fx C L A r.2 := by
  intro n
  induction n with
  | zero => intro a0 a1 a2 a3 a4 N r p e; simp [fr_parts] at e
  | succ n ih =>
    intro a0 a1 a2 a3 a4 N r p e
    simp only [fr_parts] at e
    exact wb_Mod_parts _ a0 a1 a2 a3 a4 N hC (fun u0 u1 u2 u3 u4 N r p e => ih u0 u1 u2 u3 u4 N r p e) p e
theorem wf_Mod_parts {C : Nat} {L : List Nat} {A : Mem} (a0 a1 a2 a3 a4 : Int32) (M : Mem) (hC : sb 7067388259113537355304668310387440065651748876461008347816820622770569216 C) (p0 : Fx C L A M) {r : Int32 × Mem} (e : f_Mod_parts a0 a1 a2 a3 a4 M = some r) : Fx C L A r.2 := wf_Mod_parts0 hC 8 a0 a1 a2 a3 a4 M r p0 e
theorem wl_Mod_part_18 {C : Nat} {L : List Nat} {A : Mem} (v1 : Int32) (v2 : Int32) (s : Int32 × Mem) (hC : sb 7067388259113537355304668310387440065651748876461008347816820622770569216 C)  (p0 : Fx C L A s.2) {r : ((Int32 × Mem) ⊕ ((Mem) ⊕ (Int32 × Mem)))} (e : lb_Mod_part_18 v1 v2 s = some r) : (Sum.elim (fun r : Int32 × Mem => Fx C L A r.2) (Sum.elim (fun r : Mem => Fx C L A r) (fun r : Int32 × Mem => Fx C L A r.2))) r := by
  unfold lb_Mod_part_18 at e
  rcases io e with ⟨_, e⟩ | ⟨_, e⟩
  · obtain rfl := Option.some.inj e
    exact p0
  obtain ⟨x3, e_x3, e⟩ := bo e
  have p_x3 : Fx C L A x3.2 := (wf_Mod_parts v1 v2 (0 : Int32) s.1 (0 : Int32) s.2 (sb_t (by decide +kernel) hC) p0 e_x3)
  rcases io e with ⟨_, e⟩ | ⟨_, e⟩
  · obtain rfl := Option.some.inj e
    exact p_x3
  obtain rfl := Option.some.inj e
  exact p_x3
theorem wl_Mod_part_46 {C : Nat} {L : List Nat} {A : Mem} (v3 : Int32) (s : Int32 × Mem) (hC : sb 6582018229285198313039033441376462163248118830987351372125437952 C)  (p0 : Fx C L A s.2) {r : ((Int32 × Mem) ⊕ ((Mem)))} (e : lb_Mod_part_46 v3 s = some r) : (Sum.elim (fun r : Int32 × Mem => Fx C L A r.2) (fun r : Mem => Fx C L A r)) r := by
  unfold lb_Mod_part_46 at e
  rcases io e with ⟨_, e⟩ | ⟨_, e⟩
  · obtain rfl := Option.some.inj e
    exact p0
  obtain ⟨_, e⟩ := io_n e
  obtain ⟨x10, e_x10, e⟩ := bo e
  have p_x10 : Fx C L A x10 := (wf_Mod_put (s.2.1 184 s.1.toNatClampNeg) s.2 (sb_t (by decide +kernel) hC) p0 e_x10)
  obtain rfl := Option.some.inj e
  exact p_x10
theorem wf_Mod_part {C : Nat} {L : List Nat} {A : Mem} (v1 : Int32) (v2 : Int32) (M : Mem) (hC : sb 7067388278859592043159514960666226967487015079571014103872810901684879360 C)  (p0 : Fx C L A M) {r : (Int32 × Mem)} (e : f_Mod_part v1 v2 M = some r) : (fun r : Int32 × Mem => Fx C L A r.2) r := by
  unfold f_Mod_part at e
  obtain ⟨M1, e_M1, e⟩ := mo e
  have p_M1 : Fx C L A M1 := wi1 p0 e_M1 (tb1 hC (by decide +kernel))
  obtain ⟨x2, e_x2, e⟩ := bo e
  rcases io e with ⟨_, e⟩ | ⟨_, e⟩
  · obtain rfl := Option.some.inj e
    exact p_M1
  obtain ⟨y_, e_y, e⟩ := bo e
  have q_y := (it_r (I := fun s : Int32 × Mem => Fx C L A s.2) (Q := (Sum.elim (fun r : Mem => Fx C L A r) (fun r : Int32 × Mem => Fx C L A r.2))) (fun s_ r_ hs_ er_ => wl_Mod_part_18 v1 v2 s_ (sb_t (by decide +kernel) hC) hs_ er_) e_y p_M1)
  rcases y_ with y7 | y8
  · have p_y7 : Fx C L A y7 := q_y
    replace e := el_l e
    obtain rfl := Option.some.inj e
    exact p_y7
  · have p_y8 : Fx C L A y8.2 := q_y
    replace e := el_r e
    obtain ⟨M9, e_M9, e⟩ := mo e
    have p_M9 : Fx C L A M9 := wi1 p_y8 e_M9 (tb1 hC (by decide +kernel))
    obtain ⟨x12, e_x12, e⟩ := bo e
    have p_x12 : Fx C L A x12 := (it_r (I := fun s : Int32 × Mem => Fx C L A s.2) (Q := (fun r : Mem => Fx C L A r)) (fun s_ r_ hs_ er_ => wl_Mod_part_46 y8.1 s_ (sb_t (by decide +kernel) hC) hs_ er_) e_x12 p_M9)
    obtain rfl := Option.some.inj e
    exact p_x12
theorem wl_Mod_planks_27 {C : Nat} {L : List Nat} {A : Mem} (v1 : Int32) (v2 : Int32) (s : Int32 × Mem) (hC : sb 1532495540865888858358347027150309183618739122183602176 C)  (p0 : Fx C L A s.2) {r : ((Int32 × Mem) ⊕ ((Mem)))} (e : lb_Mod_planks_27 v1 v2 s = some r) : (Sum.elim (fun r : Int32 × Mem => Fx C L A r.2) (fun r : Mem => Fx C L A r)) r := by
  unfold lb_Mod_planks_27 at e
  rcases io e with ⟨_, e⟩ | ⟨_, e⟩
  · obtain rfl := Option.some.inj e
    exact p0
  obtain ⟨_, e⟩ := io_n e
  obtain ⟨M4, e_M4, e⟩ := mo e
  have p_M4 : Fx C L A M4 := wi p0 e_M4 (oc_c hC (by decide +kernel))
  obtain rfl := Option.some.inj e
  exact p_M4
theorem wj_Mod_planks_172_102 {C : Nat} {L : List Nat} {A : Mem} (v2 : Int32) (v3 : Int32) (v4 : Int32) (v5 : Int32) (w0 : Int32) (M : Mem) (hC : sb 1532495540865888858358347027150309183618739122183602176 C)  (p0 : Fx C L A M) {r : ((Int32 × Int32 × Mem) ⊕ ((Int32 × Mem)))} (e : j_Mod_planks_172_102 v2 v3 v4 v5 w0 M = some r) : (Sum.elim (fun r : Int32 × Int32 × Mem => Fx C L A r.2.2) (fun r : Int32 × Mem => Fx C L A r.2)) r := by
  unfold j_Mod_planks_172_102 at e
  rcases io e with ⟨_, e⟩ | ⟨_, e⟩
  · obtain rfl := Option.some.inj e
    exact p0
  obtain ⟨x17, e_x17, e⟩ := bo e
  rcases io e with ⟨_, e⟩ | ⟨_, e⟩
  · obtain rfl := Option.some.inj e
    exact p0
  obtain ⟨x18, e_x18, e⟩ := bo e
  obtain ⟨x19, e_x19, e⟩ := bo e
  obtain ⟨_, e⟩ := io_n e
  obtain ⟨x20, e_x20, e⟩ := bo e
  have p_x20 : Fx C L A x20.2 := (wf_Mod_lowerBoth x18 ((M.1 180 x19.toNatClampNeg) + (1001 : Int32)) M (sb_t (by decide +kernel) hC) p0 e_x20)
  obtain rfl := Option.some.inj e
  exact p_x20
theorem wl_Mod_planks_102 {C : Nat} {L : List Nat} {A : Mem} (v2 : Int32) (v4 : Int32) (s : Int32 × Int32 × Mem) (hC : sb 1532495540865888858358347027150309183618739122183602176 C)  (p0 : Fx C L A s.2.2) {r : ((Int32 × Int32 × Mem) ⊕ ((Int32 × Mem)))} (e : lb_Mod_planks_102 v2 v4 s = some r) : (Sum.elim (fun r : Int32 × Int32 × Mem => Fx C L A r.2.2) (fun r : Int32 × Mem => Fx C L A r.2)) r := by
  unfold lb_Mod_planks_102 at e
  rcases io e with ⟨_, e⟩ | ⟨_, e⟩
  · obtain rfl := Option.some.inj e
    exact p0
  obtain ⟨x11, e_x11, e⟩ := bo e
  obtain ⟨x12, e_x12, e⟩ := bo e
  obtain ⟨x13, e_x13, e⟩ := bo e
  obtain ⟨_, e⟩ := io_n e
  obtain ⟨x14, e_x14, e⟩ := bo e
  have p_x14 : Fx C L A x14.2 := (wf_Mod_lowerBoth x12 ((s.2.2.1 180 x13.toNatClampNeg) + (1 : Int32)) s.2.2 (sb_t (by decide +kernel) hC) p0 e_x14)
  obtain ⟨x15, e_x15, e⟩ := bo e
  rcases io e with ⟨_, e⟩ | ⟨_, e⟩
  · exact (wj_Mod_planks_172_102 v2 (s.1 ||| x14.1) v4 s.2.1 (-1 : Int32) x14.2 (sb_t (by decide +kernel) hC) p_x14 e)
  obtain ⟨x16, e_x16, e⟩ := bo e
  exact (wj_Mod_planks_172_102 v2 (s.1 ||| x14.1) v4 s.2.1 x16 x14.2 (sb_t (by decide +kernel) hC) p_x14 e)
theorem wl_Mod_planks_70 {C : Nat} {L : List Nat} {A : Mem} (v2 : Int32) (s : Int32 × Int32 × Mem) (hC : sb 1532495540865888858358347027150309183618739122183602176 C)  (p0 : Fx C L A s.2.2) {r : ((Int32 × Int32 × Mem) ⊕ ((Int32 × Mem)))} (e : lb_Mod_planks_70 v2 s = some r) : (Sum.elim (fun r : Int32 × Int32 × Mem => Fx C L A r.2.2) (fun r : Int32 × Mem => Fx C L A r.2)) r := by
  unfold lb_Mod_planks_70 at e
  obtain ⟨x9, e_x9, e⟩ := bo e
  rcases io e with ⟨_, e⟩ | ⟨_, e⟩
  · obtain rfl := Option.some.inj e
    exact p0
  obtain ⟨x10, e_x10, e⟩ := bo e
  obtain ⟨_, e⟩ := io_n e
  rcases io e with ⟨_, e⟩ | ⟨_, e⟩
  · obtain ⟨x25, e_x25, e⟩ := bo e
    have p_x25 : Fx C L A x25.2 := (it_r (I := fun s : Int32 × Int32 × Mem => Fx C L A s.2.2) (Q := (fun r : Int32 × Mem => Fx C L A r.2)) (fun s_ r_ hs_ er_ => wl_Mod_planks_102 v2 s.2.1 s_ (sb_t (by decide +kernel) hC) hs_ er_) e_x25 p0)
    obtain rfl := Option.some.inj e
    exact p_x25
  obtain rfl := Option.some.inj e
  exact p0
theorem wl_Mod_planks_61 {C : Nat} {L : List Nat} {A : Mem} (v2 : Int32) (s : Int32 × Mem) (hC : sb 1532495540865888858358347027150309183618739122183602176 C)  (p0 : Fx C L A s.2) {r : ((Int32 × Mem) ⊕ ((Mem)))} (e : lb_Mod_planks_61 v2 s = some r) : (Sum.elim (fun r : Int32 × Mem => Fx C L A r.2) (fun r : Mem => Fx C L A r)) r := by
  unfold lb_Mod_planks_61 at e
  rcases io e with ⟨_, e⟩ | ⟨_, e⟩
  · obtain rfl := Option.some.inj e
    exact p0
  obtain ⟨x28, e_x28, e⟩ := bo e
  have p_x28 : Fx C L A x28.2 := (it_r (I := fun s : Int32 × Int32 × Mem => Fx C L A s.2.2) (Q := (fun r : Int32 × Mem => Fx C L A r.2)) (fun s_ r_ hs_ er_ => wl_Mod_planks_70 v2 s_ (sb_t (by decide +kernel) hC) hs_ er_) e_x28 p0)
  obtain rfl := Option.some.inj e
  exact p_x28
theorem wf_Mod_planks {C : Nat} {L : List Nat} {A : Mem} (v1 : Int32) (v2 : Int32) (M : Mem) (hC : sb 19746054689387342191144675760193613230260314939674729401097912320 C)  (p0 : Fx C L A M) {r : (Int32 × Mem)} (e : f_Mod_planks v1 v2 M = some r) : (fun r : Int32 × Mem => Fx C L A r.2) r := by
  unfold f_Mod_planks at e
  obtain ⟨M1, e_M1, e⟩ := mo e
  have p_M1 : Fx C L A M1 := wi1 p0 e_M1 (tb1 hC (by decide +kernel))
  obtain ⟨x2, e_x2, e⟩ := bo e
  rcases io e with ⟨_, e⟩ | ⟨_, e⟩
  · obtain rfl := Option.some.inj e
    exact p_M1
  obtain ⟨x3, e_x3, e⟩ := bo e
  rcases io e with ⟨_, e⟩ | ⟨_, e⟩
  · obtain rfl := Option.some.inj e
    exact p_M1
  obtain ⟨x6, e_x6, e⟩ := bo e
  have p_x6 : Fx C L A x6 := (it_r (I := fun s : Int32 × Mem => Fx C L A s.2) (Q := (fun r : Mem => Fx C L A r)) (fun s_ r_ hs_ er_ => wl_Mod_planks_27 v1 v2 s_ (sb_t (by decide +kernel) hC) hs_ er_) e_x6 p_M1)
  obtain ⟨x7, e_x7, e⟩ := bo e
  obtain ⟨_, e⟩ := io_n e
  obtain ⟨M8, e_M8, e⟩ := mo e
  have p_M8 : Fx C L A M8 := wi p_x6 e_M8 (oc_c hC (by decide +kernel))
  obtain ⟨x30, e_x30, e⟩ := bo e
  have p_x30 : Fx C L A x30 := (it_r (I := fun s : Int32 × Mem => Fx C L A s.2) (Q := (fun r : Mem => Fx C L A r)) (fun s_ r_ hs_ er_ => wl_Mod_planks_61 v2 s_ (sb_t (by decide +kernel) hC) hs_ er_) e_x30 p_M8)
  obtain ⟨x31, e_x31, e⟩ := bo e
  obtain ⟨_, e⟩ := io_n e
  rcases io e with ⟨_, e⟩ | ⟨_, e⟩
  · obtain ⟨M32, e_M32, e⟩ := mo e
    have p_M32 : Fx C L A M32 := wi1 p_x30 e_M32 (tb1 hC (by decide +kernel))
    obtain ⟨x33, e_x33, e⟩ := bo e
    have p_x33 : Fx C L A x33 := (wf_Mod_put ((x30.1 180 x31.toNatClampNeg) - (((x30.1 180 x31.toNatClampNeg) / (1000 : Int32)) * (1000 : Int32))) M32 (sb_t (by decide +kernel) hC) p_M32 e_x33)
    obtain rfl := Option.some.inj e
    exact p_x33
  obtain rfl := Option.some.inj e
  exact p_x30
theorem wj_Mod_fire_21 {C : Nat} {L : List Nat} {A : Mem} (v1 : Int32) (M : Mem) (hC : sb 411376139330301510538742295639337626245683966408394965837152256 C)  (p0 : Fx C L A M) {r : (Int32 × Mem)} (e : j_Mod_fire_21 v1 M = some r) : (fun r : Int32 × Mem => Fx C L A r.2) r := by
  unfold j_Mod_fire_21 at e
  obtain ⟨M2, e_M2, e⟩ := mo e
  have p_M2 : Fx C L A M2 := wi1 p0 e_M2 (tb1 hC (by decide +kernel))
  obtain rfl := Option.some.inj e
  exact p_M2
theorem wf_Mod_fire {C : Nat} {L : List Nat} {A : Mem} (v1 : Int32) (M : Mem) (hC : sb 13575412597899949847778495756098141666107570891477033872626024448 C)  (p0 : Fx C L A M) {r : (Int32 × Mem)} (e : f_Mod_fire v1 M = some r) : (fun r : Int32 × Mem => Fx C L A r.2) r := by
  unfold f_Mod_fire at e
  obtain ⟨M1, e_M1, e⟩ := mo e
  have p_M1 : Fx C L A M1 := wi1 p0 e_M1 (tb1 hC (by decide +kernel))
  rcases io e with ⟨_, e⟩ | ⟨_, e⟩
  · exact (wj_Mod_fire_21 v1 M1 (sb_t (by decide +kernel) hC) p_M1 e)
  obtain ⟨x3, e_x3, e⟩ := bo e
  rcases io e with ⟨_, e⟩ | ⟨_, e⟩
  · obtain rfl := Option.some.inj e
    exact p_M1
  exact (wj_Mod_fire_21 v1 M1 (sb_t (by decide +kernel) hC) p_M1 e)
theorem wf_Mod_fights1 {C : Nat} {L : List Nat} {A : Mem} (v1 : Int32) (M : Mem) (hC : sb 191561942608236107294793378393788647952342390272950272 C)  (p0 : Fx C L A M) {r : (Int32 × Mem)} (e : f_Mod_fights1 v1 M = some r) : (fun r : Int32 × Mem => Fx C L A r.2) r := by
  unfold f_Mod_fights1 at e
  obtain ⟨_, e⟩ := io_n e
  obtain ⟨x1, e_x1, e⟩ := bo e
  have p_x1 : Fx C L A x1 := (wf_Mod_findFar (M.1 163 v1.toNatClampNeg) M (sb_t (by decide +kernel) hC) p0 e_x1)
  obtain ⟨x7, e_x7, e⟩ := bo e
  obtain rfl := Option.some.inj e
  exact p_x1
theorem wl_Mod_fights_32 {C : Nat} {L : List Nat} {A : Mem} (v1 : Int32) (s : Int32 × Int32 × Mem) (hC : sb 191561942608236107294793378393788647952342390272950272 C)  (p0 : Fx C L A s.2.2) {r : ((Int32 × Int32 × Mem) ⊕ ((Int32 × Mem)))} (e : lb_Mod_fights_32 v1 s = some r) : (Sum.elim (fun r : Int32 × Int32 × Mem => Fx C L A r.2.2) (fun r : Int32 × Mem => Fx C L A r.2)) r := by
  unfold lb_Mod_fights_32 at e
  rcases io e with ⟨_, e⟩ | ⟨_, e⟩
  · obtain rfl := Option.some.inj e
    exact p0
  obtain ⟨x3, e_x3, e⟩ := bo e
  have p_x3 : Fx C L A x3.2 := (wf_Mod_fights1 s.2.1 s.2.2 (sb_t (by decide +kernel) hC) p0 e_x3)
  rcases io e with ⟨_, e⟩ | ⟨_, e⟩
  · obtain rfl := Option.some.inj e
    exact p_x3
  obtain rfl := Option.some.inj e
  exact p_x3
theorem wf_Mod_fights {C : Nat} {L : List Nat} {A : Mem} (v1 : Int32) (M : Mem) (hC : sb 19746054688046408592887023009130059581503794404008332669187260416 C)  (p0 : Fx C L A M) {r : (Int32 × Mem)} (e : f_Mod_fights v1 M = some r) : (fun r : Int32 × Mem => Fx C L A r.2) r := by
  unfold f_Mod_fights at e
  obtain ⟨M1, e_M1, e⟩ := mo e
  have p_M1 : Fx C L A M1 := wi1 p0 e_M1 (tb1 hC (by decide +kernel))
  obtain ⟨x2, e_x2, e⟩ := bo e
  rcases io e with ⟨_, e⟩ | ⟨_, e⟩
  · obtain rfl := Option.some.inj e
    exact p_M1
  rcases io e with ⟨_, e⟩ | ⟨_, e⟩
  · obtain rfl := Option.some.inj e
    exact p_M1
  obtain ⟨x6, e_x6, e⟩ := bo e
  have p_x6 : Fx C L A x6.2 := (it_r (I := fun s : Int32 × Int32 × Mem => Fx C L A s.2.2) (Q := (fun r : Int32 × Mem => Fx C L A r.2)) (fun s_ r_ hs_ er_ => wl_Mod_fights_32 v1 s_ (sb_t (by decide +kernel) hC) hs_ er_) e_x6 p_M1)
  obtain ⟨M7, e_M7, e⟩ := mo e
  have p_M7 : Fx C L A M7 := wi1 p_x6 e_M7 (tb1 hC (by decide +kernel))
  obtain ⟨x8, e_x8, e⟩ := bo e
  obtain ⟨x9, e_x9, e⟩ := bo e
  have p_x9 : Fx C L A x9 := (wf_Mod_put x8 M7 (sb_t (by decide +kernel) hC) p_M7 e_x9)
  obtain ⟨x10, e_x10, e⟩ := bo e
  obtain ⟨x11, e_x11, e⟩ := bo e
  have p_x11 : Fx C L A x11 := (wf_Mod_put x10 x9 (sb_t (by decide +kernel) hC) p_x9 e_x11)
  obtain rfl := Option.some.inj e
  exact p_x11
theorem wj_Mod_saved_75_32 {C : Nat} {L : List Nat} {A : Mem} (v1 : Int32) (v2 : Int32) (v3 : Int32) (v4 : Int32) (v5 : Int32) (v6 : Int32) (M : Mem) (hC : sb 0 C)  (p0 : Fx C L A M) {r : ((Int32 × Int32 × Int32 × Int32 × Int32 × Mem) ⊕ ((Int32 × Int32 × Int32 × Int32 × Mem)))} (e : j_Mod_saved_75_32 v1 v2 v3 v4 v5 v6 M = some r) : (Sum.elim (fun r : Int32 × Int32 × Int32 × Int32 × Int32 × Mem => Fx C L A r.2.2.2.2.2) (fun r : Int32 × Int32 × Int32 × Int32 × Mem => Fx C L A r.2.2.2.2)) r := by
  unfold j_Mod_saved_75_32 at e
  obtain ⟨x4, e_x4, e⟩ := bo e
  rcases io e with ⟨_, e⟩ | ⟨_, e⟩
  · rcases io e with ⟨_, e⟩ | ⟨_, e⟩
    · obtain rfl := Option.some.inj e
      exact p0
    obtain rfl := Option.some.inj e
    exact p0
  obtain rfl := Option.some.inj e
  exact p0
theorem wl_Mod_saved_32 {C : Nat} {L : List Nat} {A : Mem} (s : Int32 × Int32 × Int32 × Int32 × Int32 × Mem) (hC : sb 191561942608236107294793378393788647952342390272950272 C)  (p0 : Fx C L A s.2.2.2.2.2) {r : ((Int32 × Int32 × Int32 × Int32 × Int32 × Mem) ⊕ ((Int32 × Int32 × Int32 × Int32 × Mem)))} (e : lb_Mod_saved_32 s = some r) : (Sum.elim (fun r : Int32 × Int32 × Int32 × Int32 × Int32 × Mem => Fx C L A r.2.2.2.2.2) (fun r : Int32 × Int32 × Int32 × Int32 × Mem => Fx C L A r.2.2.2.2)) r := by
  unfold lb_Mod_saved_32 at e
  rcases io e with ⟨_, e⟩ | ⟨_, e⟩
  · obtain rfl := Option.some.inj e
    exact p0
  obtain ⟨x2, e_x2, e⟩ := bo e
  have p_x2 : Fx C L A x2.2 := (wf_Mod_fights1 s.2.2.2.2.1 s.2.2.2.2.2 (sb_t (by decide +kernel) hC) p0 e_x2)
  obtain ⟨x3, e_x3, e⟩ := bo e
  rcases io e with ⟨_, e⟩ | ⟨_, e⟩
  · exact (wj_Mod_saved_75_32 s.1 s.2.1 s.2.2.1 s.2.2.2.1 s.2.2.2.2.1 x2.1 x2.2 (sb_t (by decide +kernel) hC) p_x2 e)
  rcases io e with ⟨_, e⟩ | ⟨_, e⟩
  · exact (wj_Mod_saved_75_32 s.1 s.2.1 s.2.2.1 s.2.2.2.1 s.2.2.2.2.1 x2.1 x2.2 (sb_t (by decide +kernel) hC) p_x2 e)
  exact (wj_Mod_saved_75_32 s.1 s.2.2.2.2.1 s.2.2.1 x2.1 s.2.2.2.2.1 x2.1 x2.2 (sb_t (by decide +kernel) hC) p_x2 e)
theorem wf_Mod_saved {C : Nat} {L : List Nat} {A : Mem} (M : Mem) (hC : sb 19746054688046408592887023009130059581503794404008332669187260416 C)  (p0 : Fx C L A M) {r : (Int32 × Mem)} (e : f_Mod_saved M = some r) : (fun r : Int32 × Mem => Fx C L A r.2) r := by
  unfold f_Mod_saved at e
  obtain ⟨M1, e_M1, e⟩ := mo e
  have p_M1 : Fx C L A M1 := wi1 p0 e_M1 (tb1 hC (by decide +kernel))
  rcases io e with ⟨_, e⟩ | ⟨_, e⟩
  · obtain rfl := Option.some.inj e
    exact p_M1
  obtain ⟨x10, e_x10, e⟩ := bo e
  have p_x10 : Fx C L A x10.2.2.2.2 := (it_r (I := fun s : Int32 × Int32 × Int32 × Int32 × Int32 × Mem => Fx C L A s.2.2.2.2.2) (Q := (fun r : Int32 × Int32 × Int32 × Int32 × Mem => Fx C L A r.2.2.2.2)) (fun s_ r_ hs_ er_ => wl_Mod_saved_32  s_ (sb_t (by decide +kernel) hC) hs_ er_) e_x10 p_M1)
  rcases io e with ⟨_, e⟩ | ⟨_, e⟩
  · obtain ⟨M11, e_M11, e⟩ := mo e
    have p_M11 : Fx C L A M11 := wi1 p_x10 e_M11 (tb1 hC (by decide +kernel))
    obtain ⟨x12, e_x12, e⟩ := bo e
    have p_x12 : Fx C L A x12 := (wf_Mod_put x10.1 M11 (sb_t (by decide +kernel) hC) p_M11 e_x12)
    obtain ⟨x13, e_x13, e⟩ := bo e
    have p_x13 : Fx C L A x13 := (wf_Mod_put x10.2.1 x12 (sb_t (by decide +kernel) hC) p_x12 e_x13)
    obtain rfl := Option.some.inj e
    exact p_x13
  obtain rfl := Option.some.inj e
  exact p_x10
theorem wl_Mod_wardrobe_45 {C : Nat} {L : List Nat} {A : Mem} (v1 : Int32) (v2 : Int32) (s : Int32 × Mem) (hC : sb 49039857307708443467467104868809893875799651909875269632 C)  (p0 : Fx C L A s.2) {r : ((Int32 × Mem) ⊕ ((Mem)))} (e : lb_Mod_wardrobe_45 v1 v2 s = some r) : (Sum.elim (fun r : Int32 × Mem => Fx C L A r.2) (fun r : Mem => Fx C L A r)) r := by
  unfold lb_Mod_wardrobe_45 at e
  rcases io e with ⟨_, e⟩ | ⟨_, e⟩
  · obtain rfl := Option.some.inj e
    exact p0
  obtain ⟨_, e⟩ := io_n e
  obtain ⟨M4, e_M4, e⟩ := mo e
  have p_M4 : Fx C L A M4 := wi p0 e_M4 (oc_c hC (by decide +kernel))
  obtain rfl := Option.some.inj e
  exact p_M4
theorem wj_Mod_wardrobe_168_138 {C : Nat} {L : List Nat} {A : Mem} (v1 : Int32) (v3 : Int32) (v4 : Int32) (v5 : Int32) (v6 : Int32) (v7 : Int32) (w0 : Int32) (M : Mem) (hC : sb 49039857307708443467467104868809893875799651909875269632 C)  (p0 : Fx C L A M) {r : ((Int32 × Int32 × Mem) ⊕ ((Int32 × Mem)))} (e : j_Mod_wardrobe_168_138 v1 v3 v4 v5 v6 v7 w0 M = some r) : (Sum.elim (fun r : Int32 × Int32 × Mem => Fx C L A r.2.2) (fun r : Int32 × Mem => Fx C L A r.2)) r := by
  unfold j_Mod_wardrobe_168_138 at e
  rcases io e with ⟨_, e⟩ | ⟨_, e⟩
  · obtain rfl := Option.some.inj e
    exact p0
  obtain ⟨_, e⟩ := io_n e
  rcases io e with ⟨_, e⟩ | ⟨_, e⟩
  · obtain ⟨_, e⟩ := io_n e
    obtain ⟨M11, e_M11, e⟩ := mo e
    have p_M11 : Fx C L A M11 := wi p0 e_M11 (oc_c hC (by decide +kernel))
    obtain rfl := Option.some.inj e
    exact p_M11
  obtain rfl := Option.some.inj e
  exact p0
theorem wl_Mod_wardrobe_138 {C : Nat} {L : List Nat} {A : Mem} (v1 : Int32) (v4 : Int32) (v5 : Int32) (v6 : Int32) (s : Int32 × Int32 × Mem) (hC : sb 49039857307708443467467104868809893875799651909875269632 C)  (p0 : Fx C L A s.2.2) {r : ((Int32 × Int32 × Mem) ⊕ ((Int32 × Mem)))} (e : lb_Mod_wardrobe_138 v1 v4 v5 v6 s = some r) : (Sum.elim (fun r : Int32 × Int32 × Mem => Fx C L A r.2.2) (fun r : Int32 × Mem => Fx C L A r.2)) r := by
  unfold lb_Mod_wardrobe_138 at e
  rcases io e with ⟨_, e⟩ | ⟨_, e⟩
  · obtain rfl := Option.some.inj e
    exact p0
  rcases io e with ⟨_, e⟩ | ⟨_, e⟩
  · obtain ⟨x10, e_x10, e⟩ := bo e
    exact (wj_Mod_wardrobe_168_138 v1 s.1 v4 v5 v6 s.2.1 x10 s.2.2 (sb_t (by decide +kernel) hC) p0 e)
  exact (wj_Mod_wardrobe_168_138 v1 s.1 v4 v5 v6 s.2.1 (-1 : Int32) s.2.2 (sb_t (by decide +kernel) hC) p0 e)
theorem wl_Mod_wardrobe_105 {C : Nat} {L : List Nat} {A : Mem} (v1 : Int32) (v4 : Int32) (v5 : Int32) (s : Int32 × Int32 × Mem) (hC : sb 49039857307708443467467104868809893875799651909875269632 C)  (p0 : Fx C L A s.2.2) {r : ((Int32 × Int32 × Mem) ⊕ ((Int32 × Mem)))} (e : lb_Mod_wardrobe_105 v1 v4 v5 s = some r) : (Sum.elim (fun r : Int32 × Int32 × Mem => Fx C L A r.2.2) (fun r : Int32 × Mem => Fx C L A r.2)) r := by
  unfold lb_Mod_wardrobe_105 at e
  obtain ⟨x9, e_x9, e⟩ := bo e
  rcases io e with ⟨_, e⟩ | ⟨_, e⟩
  · obtain rfl := Option.some.inj e
    exact p0
  obtain ⟨_, e⟩ := io_n e
  rcases io e with ⟨_, e⟩ | ⟨_, e⟩
  · obtain ⟨x16, e_x16, e⟩ := bo e
    have p_x16 : Fx C L A x16.2 := (it_r (I := fun s : Int32 × Int32 × Mem => Fx C L A s.2.2) (Q := (fun r : Int32 × Mem => Fx C L A r.2)) (fun s_ r_ hs_ er_ => wl_Mod_wardrobe_138 v1 v4 v5 s.2.1 s_ (sb_t (by decide +kernel) hC) hs_ er_) e_x16 p0)
    obtain rfl := Option.some.inj e
    exact p_x16
  obtain rfl := Option.some.inj e
  exact p0
theorem wl_Mod_wardrobe_93 {C : Nat} {L : List Nat} {A : Mem} (v1 : Int32) (v4 : Int32) (s : Int32 × Int32 × Mem) (hC : sb 49039857307708443467467104868809893875799651909875269632 C)  (p0 : Fx C L A s.2.2) {r : ((Int32 × Int32 × Mem) ⊕ ((Int32 × Mem)))} (e : lb_Mod_wardrobe_93 v1 v4 s = some r) : (Sum.elim (fun r : Int32 × Int32 × Mem => Fx C L A r.2.2) (fun r : Int32 × Mem => Fx C L A r.2)) r := by
  unfold lb_Mod_wardrobe_93 at e
  obtain ⟨x8, e_x8, e⟩ := bo e
  rcases io e with ⟨_, e⟩ | ⟨_, e⟩
  · obtain rfl := Option.some.inj e
    exact p0
  obtain ⟨x19, e_x19, e⟩ := bo e
  have p_x19 : Fx C L A x19.2 := (it_r (I := fun s : Int32 × Int32 × Mem => Fx C L A s.2.2) (Q := (fun r : Int32 × Mem => Fx C L A r.2)) (fun s_ r_ hs_ er_ => wl_Mod_wardrobe_105 v1 v4 s.2.1 s_ (sb_t (by decide +kernel) hC) hs_ er_) e_x19 p0)
  obtain rfl := Option.some.inj e
  exact p_x19
theorem wl_Mod_wardrobe_84 {C : Nat} {L : List Nat} {A : Mem} (v1 : Int32) (s : Int32 × Int32 × Mem) (hC : sb 49039857307708443467467104868809893875799651909875269632 C)  (p0 : Fx C L A s.2.2) {r : ((Int32 × Int32 × Mem) ⊕ ((Mem)))} (e : lb_Mod_wardrobe_84 v1 s = some r) : (Sum.elim (fun r : Int32 × Int32 × Mem => Fx C L A r.2.2) (fun r : Mem => Fx C L A r)) r := by
  unfold lb_Mod_wardrobe_84 at e
  rcases io e with ⟨_, e⟩ | ⟨_, e⟩
  · obtain rfl := Option.some.inj e
    exact p0
  obtain ⟨x21, e_x21, e⟩ := bo e
  have p_x21 : Fx C L A x21.2 := (it_r (I := fun s : Int32 × Int32 × Mem => Fx C L A s.2.2) (Q := (fun r : Int32 × Mem => Fx C L A r.2)) (fun s_ r_ hs_ er_ => wl_Mod_wardrobe_93 v1 s.2.1 s_ (sb_t (by decide +kernel) hC) hs_ er_) e_x21 p0)
  obtain rfl := Option.some.inj e
  exact p_x21
theorem wj_Mod_wardrobe_344_267 {C : Nat} {L : List Nat} {A : Mem} (v4 : Int32) (v5 : Int32) (v6 : Int32) (v7 : Int32) (v8 : Int32) (M : Mem) (hC : sb 0 C)  (p0 : Fx C L A M) {r : ((Int32 × Int32 × Int32 × Mem) ⊕ ((Mem)))} (e : j_Mod_wardrobe_344_267 v4 v5 v6 v7 v8 M = some r) : (Sum.elim (fun r : Int32 × Int32 × Int32 × Mem => Fx C L A r.2.2.2) (fun r : Mem => Fx C L A r)) r := by
  unfold j_Mod_wardrobe_344_267 at e
  obtain ⟨x31, e_x31, e⟩ := bo e
  obtain rfl := Option.some.inj e
  exact p0
theorem wl_Mod_wardrobe_267 {C : Nat} {L : List Nat} {A : Mem} (v4 : Int32) (s : Int32 × Int32 × Int32 × Mem) (hC : sb 6582018229285198313039033441376462163248118830987351372125437952 C)  (p0 : Fx C L A s.2.2.2) {r : ((Int32 × Int32 × Int32 × Mem) ⊕ ((Mem)))} (e : lb_Mod_wardrobe_267 v4 s = some r) : (Sum.elim (fun r : Int32 × Int32 × Int32 × Mem => Fx C L A r.2.2.2) (fun r : Mem => Fx C L A r)) r := by
  unfold lb_Mod_wardrobe_267 at e
  rcases io e with ⟨_, e⟩ | ⟨_, e⟩
  · obtain rfl := Option.some.inj e
    exact p0
  obtain ⟨x30, e_x30, e⟩ := bo e
  rcases io e with ⟨_, e⟩ | ⟨_, e⟩
  · exact (wj_Mod_wardrobe_344_267 v4 s.1 s.2.1 s.2.2.1 x30 s.2.2.2 (sb_t (by decide +kernel) hC) p0 e)
  obtain ⟨x32, e_x32, e⟩ := bo e
  have p_x32 : Fx C L A x32 := (wf_Mod_put x30 s.2.2.2 (sb_t (by decide +kernel) hC) p0 e_x32)
  exact (wj_Mod_wardrobe_344_267 v4 s.1 s.2.1 s.2.2.1 x30 x32 (sb_t (by decide +kernel) hC) p_x32 e)
theorem wf_Mod_wardrobe {C : Nat} {L : List Nat} {A : Mem} (v1 : Int32) (v2 : Int32) (M : Mem) (hC : sb 19746054736894703957987230369302371071919899631855642188789579776 C)  (p0 : Fx C L A M) {r : (Int32 × Mem)} (e : f_Mod_wardrobe v1 v2 M = some r) : (fun r : Int32 × Mem => Fx C L A r.2) r := by
  unfold f_Mod_wardrobe at e
  obtain ⟨M1, e_M1, e⟩ := mo e
  have p_M1 : Fx C L A M1 := wi1 p0 e_M1 (tb1 hC (by decide +kernel))
  obtain ⟨x2, e_x2, e⟩ := bo e
  rcases io e with ⟨_, e⟩ | ⟨_, e⟩
  · obtain rfl := Option.some.inj e
    exact p_M1
  obtain ⟨x3, e_x3, e⟩ := bo e
  rcases io e with ⟨_, e⟩ | ⟨_, e⟩
  · obtain rfl := Option.some.inj e
    exact p_M1
  obtain ⟨_, e⟩ := io_n e
  rcases io e with ⟨_, e⟩ | ⟨_, e⟩
  · obtain ⟨_, e⟩ := io_n e
    rcases io e with ⟨_, e⟩ | ⟨_, e⟩
    · obtain ⟨x6, e_x6, e⟩ := bo e
      have p_x6 : Fx C L A x6 := (it_r (I := fun s : Int32 × Mem => Fx C L A s.2) (Q := (fun r : Mem => Fx C L A r)) (fun s_ r_ hs_ er_ => wl_Mod_wardrobe_45 v1 v2 s_ (sb_t (by decide +kernel) hC) hs_ er_) e_x6 p_M1)
      obtain ⟨_, e⟩ := io_n e
      obtain ⟨M7, e_M7, e⟩ := mo e
      have p_M7 : Fx C L A M7 := wi p_x6 e_M7 (oc_c hC (by decide +kernel))
      obtain ⟨x23, e_x23, e⟩ := bo e
      have p_x23 : Fx C L A x23 := (it_r (I := fun s : Int32 × Int32 × Mem => Fx C L A s.2.2) (Q := (fun r : Mem => Fx C L A r)) (fun s_ r_ hs_ er_ => wl_Mod_wardrobe_84 v1 s_ (sb_t (by decide +kernel) hC) hs_ er_) e_x23 p_M7)
      obtain ⟨_, e⟩ := io_n e
      rcases io e with ⟨_, e⟩ | ⟨_, e⟩
      · obtain ⟨M24, e_M24, e⟩ := mo e
        have p_M24 : Fx C L A M24 := wi1 p_x23 e_M24 (tb1 hC (by decide +kernel))
        obtain ⟨x35, e_x35, e⟩ := bo e
        have p_x35 : Fx C L A x35 := (it_r (I := fun s : Int32 × Int32 × Int32 × Mem => Fx C L A s.2.2.2) (Q := (fun r : Mem => Fx C L A r)) (fun s_ r_ hs_ er_ => wl_Mod_wardrobe_267 (x23.1 185 (((36 : Int32) * v1) + v1).toNatClampNeg) s_ (sb_t (by decide +kernel) hC) hs_ er_) e_x35 p_M24)
        obtain rfl := Option.some.inj e
        exact p_x35
      obtain rfl := Option.some.inj e
      exact p_x23
    obtain rfl := Option.some.inj e
    exact p_M1
  obtain rfl := Option.some.inj e
  exact p_M1
theorem wl_Mod_goThief_2 {C : Nat} {L : List Nat} {A : Mem} (s : Int32 × Mem) (hC : sb 196159429230833773869868419475239575503198607639501078528 C)  (p0 : Fx C L A s.2) {r : ((Int32 × Mem) ⊕ ((Mem)))} (e : lb_Mod_goThief_2 s = some r) : (Sum.elim (fun r : Int32 × Mem => Fx C L A r.2) (fun r : Mem => Fx C L A r)) r := by
  unfold lb_Mod_goThief_2 at e
  rcases io e with ⟨_, e⟩ | ⟨_, e⟩
  · obtain rfl := Option.some.inj e
    exact p0
  obtain ⟨_, e⟩ := io_n e
  obtain ⟨M1, e_M1, e⟩ := mo e
  have p_M1 : Fx C L A M1 := wi p0 e_M1 (oc_c hC (by decide +kernel))
  obtain rfl := Option.some.inj e
  exact p_M1
theorem wl_Mod_goThief_43 {C : Nat} {L : List Nat} {A : Mem} (v1 : Int32) (s : Int32 × Mem) (hC : sb 196159429230833773869868419475239575503198607639501078528 C)  (p0 : Fx C L A s.2) {r : ((Int32 × Mem) ⊕ ((Mem)))} (e : lb_Mod_goThief_43 v1 s = some r) : (Sum.elim (fun r : Int32 × Mem => Fx C L A r.2) (fun r : Mem => Fx C L A r)) r := by
  unfold lb_Mod_goThief_43 at e
  rcases io e with ⟨_, e⟩ | ⟨_, e⟩
  · obtain rfl := Option.some.inj e
    exact p0
  obtain ⟨x4, e_x4, e⟩ := bo e
  rcases io e with ⟨_, e⟩ | ⟨_, e⟩
  · obtain rfl := Option.some.inj e
    exact p0
  obtain ⟨x5, e_x5, e⟩ := bo e
  obtain ⟨_, e⟩ := io_n e
  obtain ⟨M6, e_M6, e⟩ := mo e
  have p_M6 : Fx C L A M6 := wi p0 e_M6 (oc_c hC (by decide +kernel))
  obtain rfl := Option.some.inj e
  exact p_M6
theorem wl_Mod_goThief_23 {C : Nat} {L : List Nat} {A : Mem} (s : Int32 × Mem) (hC : sb 196159429230833773869868419475239575503198607639501078528 C)  (p0 : Fx C L A s.2) {r : ((Int32 × Mem) ⊕ ((Mem)))} (e : lb_Mod_goThief_23 s = some r) : (Sum.elim (fun r : Int32 × Mem => Fx C L A r.2) (fun r : Mem => Fx C L A r)) r := by
  unfold lb_Mod_goThief_23 at e
  rcases io e with ⟨_, e⟩ | ⟨_, e⟩
  · obtain rfl := Option.some.inj e
    exact p0
  obtain ⟨_, e⟩ := io_n e
  rcases io e with ⟨_, e⟩ | ⟨_, e⟩
  · obtain rfl := Option.some.inj e
    exact p0
  obtain ⟨x9, e_x9, e⟩ := bo e
  have p_x9 : Fx C L A x9 := (it_r (I := fun s : Int32 × Mem => Fx C L A s.2) (Q := (fun r : Mem => Fx C L A r)) (fun s_ r_ hs_ er_ => wl_Mod_goThief_43 s.1 s_ (sb_t (by decide +kernel) hC) hs_ er_) e_x9 p0)
  obtain ⟨x10, e_x10, e⟩ := bo e
  obtain ⟨_, e⟩ := io_n e
  rcases io e with ⟨_, e⟩ | ⟨_, e⟩
  · obtain ⟨x11, e_x11, e⟩ := bo e
    obtain ⟨x12, e_x12, e⟩ := bo e
    obtain ⟨x13, e_x13, e⟩ := bo e
    obtain ⟨_, e⟩ := io_n e
    obtain ⟨M14, e_M14, e⟩ := mo e
    have p_M14 : Fx C L A M14 := wi p_x9 e_M14 (oc_c hC (by decide +kernel))
    obtain rfl := Option.some.inj e
    exact p_M14
  obtain rfl := Option.some.inj e
  exact p_x9
theorem wj_Mod_goThief_163_126 {C : Nat} {L : List Nat} {A : Mem} (v1 : Int32) (v2 : Int32) (w0 : Int32) (w1 : Int32) (M : Mem) (hC : sb 98079714615416886934934209737619787751599303819750539264 C)  (p0 : Fx C L A M) {r : ((Int32 × Int32 × Mem) ⊕ ((Int32 × Mem)))} (e : j_Mod_goThief_163_126 v1 v2 w0 w1 M = some r) : (Sum.elim (fun r : Int32 × Int32 × Mem => Fx C L A r.2.2) (fun r : Int32 × Mem => Fx C L A r.2)) r := by
  unfold j_Mod_goThief_163_126 at e
  obtain ⟨_, e⟩ := io_n e
  obtain ⟨M19, e_M19, e⟩ := mo e
  have p_M19 : Fx C L A M19 := wi p0 e_M19 (oc_c hC (by decide +kernel))
  obtain ⟨_, e⟩ := io_n e
  obtain rfl := Option.some.inj e
  exact p_M19
theorem wl_Mod_goThief_126 {C : Nat} {L : List Nat} {A : Mem} (s : Int32 × Int32 × Mem) (hC : sb 98079714615416886934934209737619787751599303819750539264 C)  (p0 : Fx C L A s.2.2) {r : ((Int32 × Int32 × Mem) ⊕ ((Int32 × Mem)))} (e : lb_Mod_goThief_126 s = some r) : (Sum.elim (fun r : Int32 × Int32 × Mem => Fx C L A r.2.2) (fun r : Int32 × Mem => Fx C L A r.2)) r := by
  unfold lb_Mod_goThief_126 at e
  rcases io e with ⟨_, e⟩ | ⟨_, e⟩
  · obtain rfl := Option.some.inj e
    exact p0
  obtain ⟨_, e⟩ := io_n e
  rcases io e with ⟨_, e⟩ | ⟨_, e⟩
  · exact (wj_Mod_goThief_163_126 s.1 s.2.1 (0 : Int32) s.2.1 s.2.2 (sb_t (by decide +kernel) hC) p0 e)
  obtain ⟨x20, e_x20, e⟩ := bo e
  rcases io e with ⟨_, e⟩ | ⟨_, e⟩
  · exact (wj_Mod_goThief_163_126 s.1 s.2.1 (1 : Int32) s.2.1 s.2.2 (sb_t (by decide +kernel) hC) p0 e)
  exact (wj_Mod_goThief_163_126 s.1 s.2.1 (0 : Int32) s.2.1 s.2.2 (sb_t (by decide +kernel) hC) p0 e)
theorem wf_Mod_goThief {C : Nat} {L : List Nat} {A : Mem} (M : Mem) (hC : sb 294239143846250660804802629212859363254797911459251617792 C)  (p0 : Fx C L A M) {r : (Int32 × Mem)} (e : f_Mod_goThief M = some r) : (fun r : Int32 × Mem => Fx C L A r.2) r := by
  unfold f_Mod_goThief at e
  obtain ⟨x3, e_x3, e⟩ := bo e
  have p_x3 : Fx C L A x3 := (it_r (I := fun s : Int32 × Mem => Fx C L A s.2) (Q := (fun r : Mem => Fx C L A r)) (fun s_ r_ hs_ er_ => wl_Mod_goThief_2  s_ (sb_t (by decide +kernel) hC) hs_ er_) e_x3 p0)
  obtain ⟨x18, e_x18, e⟩ := bo e
  have p_x18 : Fx C L A x18 := (it_r (I := fun s : Int32 × Mem => Fx C L A s.2) (Q := (fun r : Mem => Fx C L A r)) (fun s_ r_ hs_ er_ => wl_Mod_goThief_23  s_ (sb_t (by decide +kernel) hC) hs_ er_) e_x18 p_x3)
  obtain ⟨x24, e_x24, e⟩ := bo e
  have p_x24 : Fx C L A x24.2 := (it_r (I := fun s : Int32 × Int32 × Mem => Fx C L A s.2.2) (Q := (fun r : Int32 × Mem => Fx C L A r.2)) (fun s_ r_ hs_ er_ => wl_Mod_goThief_126  s_ (sb_t (by decide +kernel) hC) hs_ er_) e_x24 p_x18)
  obtain ⟨_, e⟩ := io_n e
  obtain rfl := Option.some.inj e
  exact p_x24
theorem wl_Mod_thiefIn_14 {C : Nat} {L : List Nat} {A : Mem} (v1 : Int32) (v2 : Int32) (s : Int32 × Mem) (hC : sb 98079714615416886934934209737619787751599303819750539264 C)  (p0 : Fx C L A s.2) {r : ((Int32 × Mem) ⊕ ((Mem)))} (e : lb_Mod_thiefIn_14 v1 v2 s = some r) : (Sum.elim (fun r : Int32 × Mem => Fx C L A r.2) (fun r : Mem => Fx C L A r)) r := by
  unfold lb_Mod_thiefIn_14 at e
  rcases io e with ⟨_, e⟩ | ⟨_, e⟩
  · obtain rfl := Option.some.inj e
    exact p0
  rcases io e with ⟨_, e⟩ | ⟨_, e⟩
  · obtain ⟨_, e⟩ := io_n e
    obtain ⟨M3, e_M3, e⟩ := mo e
    have p_M3 : Fx C L A M3 := wi p0 e_M3 (oc_c hC (by decide +kernel))
    obtain rfl := Option.some.inj e
    exact p_M3
  obtain ⟨_, e⟩ := io_n e
  obtain ⟨M2, e_M2, e⟩ := mo e
  have p_M2 : Fx C L A M2 := wi p0 e_M2 (oc_c hC (by decide +kernel))
  obtain rfl := Option.some.inj e
  exact p_M2
theorem wl_Mod_thiefIn_44 {C : Nat} {L : List Nat} {A : Mem} (v2 : Int32) (s : Int32 × Mem) (hC : sb 6120724063703920886511138844246863058792005277163642982905394824740864 C)  (p0 : Fx C L A s.2) {r : ((Int32 × Mem) ⊕ ((Mem) ⊕ (Int32 × Mem)))} (e : lb_Mod_thiefIn_44 v2 s = some r) : (Sum.elim (fun r : Int32 × Mem => Fx C L A r.2) (Sum.elim (fun r : Mem => Fx C L A r) (fun r : Int32 × Mem => Fx C L A r.2))) r := by
  unfold lb_Mod_thiefIn_44 at e
  rcases io e with ⟨_, e⟩ | ⟨_, e⟩
  · obtain rfl := Option.some.inj e
    exact p0
  obtain ⟨x7, e_x7, e⟩ := bo e
  have p_x7 : Fx C L A x7 := (wf_Mod_goMinute 176 s.2 (sb_t (by decide +kernel) hC) (oc_c hC (by decide +kernel)) p0 e_x7)
  obtain ⟨x8, e_x8, e⟩ := bo e
  have p_x8 : Fx C L A x8.2 := (wf_Mod_goThief x7 (sb_t (by decide +kernel) hC) p_x7 e_x8)
  rcases io e with ⟨_, e⟩ | ⟨_, e⟩
  · obtain rfl := Option.some.inj e
    exact p_x8
  obtain rfl := Option.some.inj e
  exact p_x8
theorem wf_Mod_thiefIn {C : Nat} {L : List Nat} {A : Mem} (v1 : Int32) (v2 : Int32) (M : Mem) (hC : sb 6120724063703920886511138844246863058792005277163642982905394824740864 C)  (p0 : Fx C L A M) {r : (Int32 × Mem)} (e : f_Mod_thiefIn v1 v2 M = some r) : (fun r : Int32 × Mem => Fx C L A r.2) r := by
  unfold f_Mod_thiefIn at e
  obtain ⟨x1, e_x1, e⟩ := bo e
  have p_x1 : Fx C L A x1 := (wf_Mod_lay 163 176 (0 : Int32) M (sb_t (by decide +kernel) hC) (oc_c hC (by decide +kernel)) p0 e_x1)
  obtain ⟨x6, e_x6, e⟩ := bo e
  have p_x6 : Fx C L A x6 := (it_r (I := fun s : Int32 × Mem => Fx C L A s.2) (Q := (fun r : Mem => Fx C L A r)) (fun s_ r_ hs_ er_ => wl_Mod_thiefIn_14 v1 v2 s_ (sb_t (by decide +kernel) hC) hs_ er_) e_x6 p_x1)
  obtain ⟨y_, e_y, e⟩ := bo e
  have q_y := (it_r (I := fun s : Int32 × Mem => Fx C L A s.2) (Q := (Sum.elim (fun r : Mem => Fx C L A r) (fun r : Int32 × Mem => Fx C L A r.2))) (fun s_ r_ hs_ er_ => wl_Mod_thiefIn_44 v2 s_ (sb_t (by decide +kernel) hC) hs_ er_) e_y p_x6)
  rcases y_ with y12 | y13
  · have p_y12 : Fx C L A y12 := q_y
    replace e := el_l e
    obtain rfl := Option.some.inj e
    exact p_y12
  · have p_y13 : Fx C L A y13.2 := q_y
    replace e := el_r e
    obtain rfl := Option.some.inj e
    exact p_y13
theorem wl_Mod_putMay_23 {C : Nat} {L : List Nat} {A : Mem} (v1 : Nat) (v2 : Int32) (s : Int32 × Mem) (hC : sb 383123885216472214589586756787577295904684780545900544 C)  (p0 : Fx C L A s.2) {r : ((Int32 × Mem) ⊕ ((Mem)))} (e : lb_Mod_putMay_23 v1 v2 s = some r) : (Sum.elim (fun r : Int32 × Mem => Fx C L A r.2) (fun r : Mem => Fx C L A r)) r := by
  unfold lb_Mod_putMay_23 at e
  rcases io e with ⟨_, e⟩ | ⟨_, e⟩
  · obtain rfl := Option.some.inj e
    exact p0
  obtain ⟨x3, e_x3, e⟩ := bo e
  obtain ⟨_, e⟩ := io_n e
  rcases io e with ⟨_, e⟩ | ⟨_, e⟩
  · obtain rfl := Option.some.inj e
    exact p0
  obtain ⟨_, e⟩ := io_n e
  obtain ⟨_, e⟩ := io_n e
  obtain ⟨M4, e_M4, e⟩ := mo e
  have p_M4 : Fx C L A M4 := wi p0 e_M4 (oc_c hC (by decide +kernel))
  obtain rfl := Option.some.inj e
  exact p_M4
theorem wl_Mod_putMay_2 {C : Nat} {L : List Nat} {A : Mem} (v1 : Nat) (s : Int32 × Mem) (hC : sb 6582018229668322198255505655966048920035696126892036152671338496 C)  (p0 : Fx C L A s.2) {r : ((Int32 × Mem) ⊕ ((Mem)))} (e : lb_Mod_putMay_2 v1 s = some r) : (Sum.elim (fun r : Int32 × Mem => Fx C L A r.2) (fun r : Mem => Fx C L A r)) r := by
  unfold lb_Mod_putMay_2 at e
  rcases io e with ⟨_, e⟩ | ⟨_, e⟩
  · obtain rfl := Option.some.inj e
    exact p0
  obtain ⟨M1, e_M1, e⟩ := mo e
  have p_M1 : Fx C L A M1 := wi p0 e_M1 (oc_c hC (by decide +kernel))
  obtain ⟨M2, e_M2, e⟩ := mo e
  have p_M2 : Fx C L A M2 := wi p_M1 e_M2 (oc_c hC (by decide +kernel))
  obtain ⟨x7, e_x7, e⟩ := bo e
  have p_x7 : Fx C L A x7 := (it_r (I := fun s : Int32 × Mem => Fx C L A s.2) (Q := (fun r : Mem => Fx C L A r)) (fun s_ r_ hs_ er_ => wl_Mod_putMay_23 v1 s.1 s_ (sb_t (by decide +kernel) hC) hs_ er_) e_x7 p_M2)
  obtain ⟨x8, e_x8, e⟩ := bo e
  have p_x8 : Fx C L A x8 := (wf_Mod_put (x7.1 178 (0 : Int32).toNatClampNeg) x7 (sb_t (by decide +kernel) hC) p_x7 e_x8)
  obtain ⟨x9, e_x9, e⟩ := bo e
  have p_x9 : Fx C L A x9 := (wf_Mod_put (x8.1 178 (1 : Int32).toNatClampNeg) x8 (sb_t (by decide +kernel) hC) p_x8 e_x9)
  obtain rfl := Option.some.inj e
  exact p_x9
