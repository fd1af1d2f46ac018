/-! frames -/
theorem wl_Mod_town_225 {C : Nat} {L : List Nat} {A : Mem} (v1 : Int32) (v2 : Int32) (s : Int32 × Mem) (hC : sb 23384026197294446691258957323460528314494920687616 C)  (p0 : Fx C L A s.2) {r : ((Int32 × Mem) ⊕ ((Mem)))} (e : lb_Mod_town_225 v1 v2 s = some r) : (Sum.elim (fun r : Int32 × Mem => Fx C L A r.2) (fun r : Mem => Fx C L A r)) r := by
  unfold lb_Mod_town_225 at e
  rcases io e with ⟨_, e⟩ | ⟨_, e⟩
  · obtain rfl := Option.some.inj e
    exact p0
  rcases io e with ⟨_, e⟩ | ⟨_, e⟩
  · obtain ⟨_, e⟩ := io_n e
    obtain ⟨M33, e_M33, e⟩ := mo e
    have p_M33 : Fx C L A M33 := wi p0 e_M33 (oc_c hC (by decide +kernel))
    obtain rfl := Option.some.inj e
    exact p_M33
  obtain ⟨_, e⟩ := io_n e
  obtain ⟨_, e⟩ := io_n e
  obtain ⟨M34, e_M34, e⟩ := mo e
  have p_M34 : Fx C L A M34 := wi p0 e_M34 (oc_c hC (by decide +kernel))
  obtain rfl := Option.some.inj e
  exact p_M34
theorem wl_Mod_town_282 {C : Nat} {L : List Nat} {A : Mem} (v1 : Int32) (v2 : Int32) (s : Int32 × Mem) (hC : sb 11692013098647223345629478661730264157247460343808 C)  (p0 : Fx C L A s.2) {r : ((Int32 × Mem) ⊕ ((Mem)))} (e : lb_Mod_town_282 v1 v2 s = some r) : (Sum.elim (fun r : Int32 × Mem => Fx C L A r.2) (fun r : Mem => Fx C L A r)) r := by
  unfold lb_Mod_town_282 at e
  rcases io e with ⟨_, e⟩ | ⟨_, e⟩
  · obtain rfl := Option.some.inj e
    exact p0
  obtain ⟨_, e⟩ := io_n e
  obtain ⟨M41, e_M41, e⟩ := mo e
  have p_M41 : Fx C L A M41 := wi p0 e_M41 (oc_c hC (by decide +kernel))
  obtain rfl := Option.some.inj e
  exact p_M41
theorem wl_Mod_town_311 {C : Nat} {L : List Nat} {A : Mem} (v1 : Int32) (v2 : Int32) (s : Int32 × Mem) (hC : sb 1569275433846670190958947355801916604025588861116008628224 C)  (p0 : Fx C L A s.2) {r : ((Int32 × Mem) ⊕ ((Mem)))} (e : lb_Mod_town_311 v1 v2 s = some r) : (Sum.elim (fun r : Int32 × Mem => Fx C L A r.2) (fun r : Mem => Fx C L A r)) r := by
  unfold lb_Mod_town_311 at e
  rcases io e with ⟨_, e⟩ | ⟨_, e⟩
  · obtain rfl := Option.some.inj e
    exact p0
  obtain ⟨_, e⟩ := io_n e
  obtain ⟨M45, e_M45, e⟩ := mo e
  have p_M45 : Fx C L A M45 := wi p0 e_M45 (oc_c hC (by decide +kernel))
  obtain rfl := Option.some.inj e
  exact p_M45
theorem wj_Mod_town_198 {C : Nat} {L : List Nat} {A : Mem} (v1 : Int32) (v2 : Int32) (M : Mem) (hC : sb 215680081131196379667185901443078842589169904985686996544223226888192 C)  (p0 : Fx C L A M) {r : (Int32 × Mem)} (e : j_Mod_town_198 v1 v2 M = some r) : (fun r : Int32 × Mem => Fx C L A r.2) r := by
  unfold j_Mod_town_198 at e
  obtain ⟨x30, e_x30, e⟩ := bo e
  rcases io e with ⟨_, e⟩ | ⟨_, e⟩
  · obtain rfl := Option.some.inj e
    exact p0
  obtain ⟨M31, e_M31, e⟩ := mo e
  have p_M31 : Fx C L A M31 := wi1 p0 e_M31 (tb1 hC (by decide +kernel))
  obtain ⟨M32, e_M32, e⟩ := mo e
  have p_M32 : Fx C L A M32 := wi1 p_M31 e_M32 (tb1 hC (by decide +kernel))
  obtain ⟨x37, e_x37, e⟩ := bo e
  have p_x37 : Fx C L A x37 := (it_r (I := fun s : Int32 × Mem => Fx C L A s.2) (Q := (fun r : Mem => Fx C L A r)) (fun s_ r_ hs_ er_ => wl_Mod_town_225 v1 v2 s_ (sb_t (by decide +kernel) hC) hs_ er_) e_x37 p_M32)
  obtain ⟨M38, e_M38, e⟩ := mo e
  have p_M38 : Fx C L A M38 := wi1 p_x37 e_M38 (tb1 hC (by decide +kernel))
  obtain ⟨M39, e_M39, e⟩ := mo e
  have p_M39 : Fx C L A M39 := wi1 p_M38 e_M39 (tb1 hC (by decide +kernel))
  obtain ⟨M40, e_M40, e⟩ := mo e
  have p_M40 : Fx C L A M40 := wi1 p_M39 e_M40 (tb1 hC (by decide +kernel))
  obtain ⟨x43, e_x43, e⟩ := bo e
  have p_x43 : Fx C L A x43 := (it_r (I := fun s : Int32 × Mem => Fx C L A s.2) (Q := (fun r : Mem => Fx C L A r)) (fun s_ r_ hs_ er_ => wl_Mod_town_282 v1 v2 s_ (sb_t (by decide +kernel) hC) hs_ er_) e_x43 p_M40)
  obtain ⟨M44, e_M44, e⟩ := mo e
  have p_M44 : Fx C L A M44 := wi1 p_x43 e_M44 (tb1 hC (by decide +kernel))
  obtain ⟨x47, e_x47, e⟩ := bo e
  have p_x47 : Fx C L A x47 := (it_r (I := fun s : Int32 × Mem => Fx C L A s.2) (Q := (fun r : Mem => Fx C L A r)) (fun s_ r_ hs_ er_ => wl_Mod_town_311 v1 v2 s_ (sb_t (by decide +kernel) hC) hs_ er_) e_x47 p_M44)
  obtain rfl := Option.some.inj e
  exact p_x47
theorem wj_Mod_town_179 {C : Nat} {L : List Nat} {A : Mem} (v1 : Int32) (v2 : Int32) (M : Mem) (hC : sb 216101330297870608413977573553813524318445485367289192989240470798336 C)  (p0 : Fx C L A M) {r : (Int32 × Mem)} (e : j_Mod_town_179 v1 v2 M = some r) : (fun r : Int32 × Mem => Fx C L A r.2) r := by
  unfold j_Mod_town_179 at e
  rcases io e with ⟨_, e⟩ | ⟨_, e⟩
  · exact (wj_Mod_town_198 v1 v2 M (sb_t (by decide +kernel) hC) p0 e)
  obtain ⟨x49, e_x49, e⟩ := bo e
  have p_x49 : Fx C L A x49 := (wf_Mod_fault (M.1 162 17) M (sb_t (by decide +kernel) hC) p0 e_x49)
  exact (wj_Mod_town_198 v1 v2 x49 (sb_t (by decide +kernel) hC) p_x49 e)
theorem wf_Mod_town {C : Nat} {L : List Nat} {A : Mem} (M : Mem) (hC : sb 216511060932643589466762999193692598714472820948568860439051736449024 C)  (p0 : Fx C L A M) {r : (Int32 × Mem)} (e : f_Mod_town M = some r) : (fun r : Int32 × Mem => Fx C L A r.2) r := by
  unfold f_Mod_town at e
  obtain ⟨M1, e_M1, e⟩ := mo e
  have p_M1 : Fx C L A M1 := wi1 p0 e_M1 (tb1 hC (by decide +kernel))
  obtain ⟨x2, e_x2, e⟩ := bo e
  have p_x2 : Fx C L A x2 := (wf_Mod_begin 167 (M1.1 162 10) (80 : Int32) M1 (sb_t (by decide +kernel) hC) p_M1 e_x2)
  obtain ⟨M3, e_M3, e⟩ := mo e
  have p_M3 : Fx C L A M3 := wi1 p_x2 e_M3 (tb1 hC (by decide +kernel))
  obtain ⟨x29, e_x29, e⟩ := bo e
  have p_x29 : Fx C L A x29.2.2 := (it_r (I := fun s : Int32 × Int32 × Int32 × Mem => Fx C L A s.2.2.2) (Q := (fun r : Int32 × Int32 × Mem => Fx C L A r.2.2)) (fun s_ r_ hs_ er_ => wl_Mod_town_30  s_ (sb_t (by decide +kernel) hC) hs_ er_) e_x29 p_M3)
  exact (wj_Mod_town_179 x29.1 x29.2.1 x29.2.2 (sb_t (by decide +kernel) hC) p_x29 e)
theorem wl_Mod_readRoute_2 {C : Nat} {L : List Nat} {A : Mem} (v1 : Nat) (v2 : Int32) (s : Int32 × Mem) (hC : sb 631873750011343120187508166102022593913370572403294667525865865216 C) (h_v1 : Oc C L (v1)) (p0 : Fx C L A s.2) {r : ((Int32 × Mem) ⊕ ((Int32 × Mem)))} (e : lb_Mod_readRoute_2 v1 v2 s = some r) : (Sum.elim (fun r : Int32 × Mem => Fx C L A r.2) (fun r : Int32 × Mem => Fx C L A r.2)) r := by
  unfold lb_Mod_readRoute_2 at e
  obtain ⟨x1, e_x1, e⟩ := bo e
  rcases io e with ⟨_, e⟩ | ⟨_, e⟩
  · obtain rfl := Option.some.inj e
    exact p0
  obtain ⟨x2, e_x2, e⟩ := bo e
  obtain ⟨x3, e_x3, e⟩ := bo e
  rcases io e with ⟨_, e⟩ | ⟨_, e⟩
  · obtain rfl := Option.some.inj e
    exact p0
  rcases io e with ⟨_, e⟩ | ⟨_, e⟩
  · obtain ⟨x8, e_x8, e⟩ := bo e
    have p_x8 : Fx C L A x8 := (wf_Mod_fault (s.2.1 162 17) s.2 (sb_t (by decide +kernel) hC) p0 e_x8)
    obtain rfl := Option.some.inj e
    exact p_x8
  obtain ⟨x4, e_x4, e⟩ := bo e
  obtain ⟨x5, e_x5, e⟩ := bo e
  obtain ⟨_, e⟩ := io_n e
  obtain ⟨M6, e_M6, e⟩ := mo e
  have p_M6 : Fx C L A M6 := wi p0 e_M6 h_v1
  obtain ⟨M7, e_M7, e⟩ := mo e
  have p_M7 : Fx C L A M7 := wi1 p_M6 e_M7 (tb1 hC (by decide +kernel))
  obtain rfl := Option.some.inj e
  exact p_M7
theorem wj_Mod_readRoute_65 {C : Nat} {L : List Nat} {A : Mem} (v3 : Int32) (M : Mem) (hC : sb 421249166674228746791672110734681729275580381602196445017243910144 C)  (p0 : Fx C L A M) {r : (Int32 × Mem)} (e : j_Mod_readRoute_65 v3 M = some r) : (fun r : Int32 × Mem => Fx C L A r.2) r := by
  unfold j_Mod_readRoute_65 at e
  rcases io e with ⟨_, e⟩ | ⟨_, e⟩
  · obtain ⟨x13, e_x13, e⟩ := bo e
    have p_x13 : Fx C L A x13 := (wf_Mod_fault (M.1 162 17) M (sb_t (by decide +kernel) hC) p0 e_x13)
    obtain rfl := Option.some.inj e
    exact p_x13
  obtain rfl := Option.some.inj e
  exact p0
theorem wf_Mod_readRoute {C : Nat} {L : List Nat} {A : Mem} (v1 : Nat) (v2 : Int32) (M : Mem) (hC : sb 631873750011343120187508166102022593913370572403294667525865865216 C) (h_v1 : Oc C L (v1)) (p0 : Fx C L A M) {r : (Int32 × Mem)} (e : f_Mod_readRoute v1 v2 M = some r) : (fun r : Int32 × Mem => Fx C L A r.2) r := by
  unfold f_Mod_readRoute at e
  obtain ⟨g_v1, e⟩ := io_n e
  obtain ⟨x12, e_x12, e⟩ := bo e
  have p_x12 : Fx C L A x12.2 := (it_r (I := fun s : Int32 × Mem => Fx C L A s.2) (Q := (fun r : Int32 × Mem => Fx C L A r.2)) (fun s_ r_ hs_ er_ => wl_Mod_readRoute_2 v1 v2 s_ (sb_t (by decide +kernel) hC) h_v1 hs_ er_) e_x12 p0)
  exact (wj_Mod_readRoute_65 x12.1 x12.2 (sb_t (by decide +kernel) hC) p_x12 e)
theorem wj_Mod_readOne_107 {C : Nat} {L : List Nat} {A : Mem} (v1 : Int32) (M : Mem) (hC : sb 631873750011344616765184792946610834486639273877106795200789872640 C)  (p0 : Fx C L A M) {r : (Mem)} (e : j_Mod_readOne_107 v1 M = some r) : (fun r : Mem => Fx C L A r) r := by
  unfold j_Mod_readOne_107 at e
  obtain ⟨x8, e_x8, e⟩ := bo e
  have p_x8 : Fx C L A x8 := (wf_Mod_need (58 : Int32) M (sb_t (by decide +kernel) hC) p0 e_x8)
  obtain ⟨x9, e_x9, e⟩ := bo e
  have p_x9 : Fx C L A x9.2 := (wf_Mod_readRoute 170 (v1 + (3 : Int32)) x8 (sb_t (by decide +kernel) hC) (oc_c hC (by decide +kernel)) p_x8 e_x9)
  obtain ⟨_, e⟩ := io_n e
  obtain ⟨M10, e_M10, e⟩ := mo e
  have p_M10 : Fx C L A M10 := wi p_x9 e_M10 (oc_c hC (by decide +kernel))
  obtain rfl := Option.some.inj e
  exact p_M10
theorem wj_Mod_readOne_46 {C : Nat} {L : List Nat} {A : Mem} (v1 : Int32) (M : Mem) (hC : sb 631873750011344616765184792946610834486639273877106795200789872640 C)  (p0 : Fx C L A M) {r : (Mem)} (e : j_Mod_readOne_46 v1 M = some r) : (fun r : Mem => Fx C L A r) r := by
  unfold j_Mod_readOne_46 at e
  obtain ⟨M4, e_M4, e⟩ := mo e
  have p_M4 : Fx C L A M4 := wi1 p0 e_M4 (tb1 hC (by decide +kernel))
  obtain ⟨x5, e_x5, e⟩ := bo e
  have p_x5 : Fx C L A x5.2 := (wf_Mod_number (2 : Int32) M4 (sb_t (by decide +kernel) hC) p_M4 e_x5)
  obtain ⟨_, e⟩ := io_n e
  obtain ⟨M6, e_M6, e⟩ := mo e
  have p_M6 : Fx C L A M6 := wi p_x5 e_M6 (oc_c hC (by decide +kernel))
  obtain ⟨x7, e_x7, e⟩ := bo e
  rcases io e with ⟨_, e⟩ | ⟨_, e⟩
  · exact (wj_Mod_readOne_107 v1 M6 (sb_t (by decide +kernel) hC) p_M6 e)
  obtain ⟨_, e⟩ := io_n e
  obtain ⟨_, e⟩ := io_n e
  obtain ⟨x11, e_x11, e⟩ := bo e
  rcases io e with ⟨_, e⟩ | ⟨_, e⟩
  · obtain ⟨x12, e_x12, e⟩ := bo e
    have p_x12 : Fx C L A x12 := (wf_Mod_fault ((M6.1 162 17) - (1 : Int32)) M6 (sb_t (by decide +kernel) hC) p_M6 e_x12)
    exact (wj_Mod_readOne_107 v1 x12 (sb_t (by decide +kernel) hC) p_x12 e)
  exact (wj_Mod_readOne_107 v1 M6 (sb_t (by decide +kernel) hC) p_M6 e)
theorem wj_Mod_readOne_19 {C : Nat} {L : List Nat} {A : Mem} (v1 : Int32) (w0 : Int32) (w1 : Int32) (M : Mem) (hC : sb 631873750011344616765184792946610834486639273877106795200789872640 C)  (p0 : Fx C L A M) {r : (Mem)} (e : j_Mod_readOne_19 v1 w0 w1 M = some r) : (fun r : Mem => Fx C L A r) r := by
  unfold j_Mod_readOne_19 at e
  obtain ⟨_, e⟩ := io_n e
  obtain ⟨M2, e_M2, e⟩ := mo e
  have p_M2 : Fx C L A M2 := wi p0 e_M2 (oc_c hC (by decide +kernel))
  obtain ⟨x3, e_x3, e⟩ := bo e
  rcases io e with ⟨_, e⟩ | ⟨_, e⟩
  · exact (wj_Mod_readOne_46 v1 M2 (sb_t (by decide +kernel) hC) p_M2 e)
  obtain ⟨x15, e_x15, e⟩ := bo e
  rcases io e with ⟨_, e⟩ | ⟨_, e⟩
  · exact (wj_Mod_readOne_46 v1 M2 (sb_t (by decide +kernel) hC) p_M2 e)
  obtain ⟨x16, e_x16, e⟩ := bo e
  have p_x16 : Fx C L A x16 := (wf_Mod_fault (M2.1 162 17) M2 (sb_t (by decide +kernel) hC) p_M2 e_x16)
  exact (wj_Mod_readOne_46 v1 x16 (sb_t (by decide +kernel) hC) p_x16 e)
theorem wf_Mod_readOne {C : Nat} {L : List Nat} {A : Mem} (v1 : Int32) (M : Mem) (hC : sb 631873750011344616765184792946610834486639273877106795200789872640 C)  (p0 : Fx C L A M) {r : (Mem)} (e : f_Mod_readOne v1 M = some r) : (fun r : Mem => Fx C L A r) r := by
  unfold f_Mod_readOne at e
  obtain ⟨x1, e_x1, e⟩ := bo e
  rcases io e with ⟨_, e⟩ | ⟨_, e⟩
  · exact (wj_Mod_readOne_19 v1 (1 : Int32) v1 M (sb_t (by decide +kernel) hC) p0 e)
  exact (wj_Mod_readOne_19 v1 (0 : Int32) v1 M (sb_t (by decide +kernel) hC) p0 e)
theorem wl_Mod_come_57 {C : Nat} {L : List Nat} {A : Mem} (v1 : Int32) (v2 : Int32) (s : Int32 × Mem) (hC : sb 11692013098647223345629478661730264157247460343808 C)  (p0 : Fx C L A s.2) {r : ((Int32 × Mem) ⊕ ((Mem)))} (e : lb_Mod_come_57 v1 v2 s = some r) : (Sum.elim (fun r : Int32 × Mem => Fx C L A r.2) (fun r : Mem => Fx C L A r)) r := by
  unfold lb_Mod_come_57 at e
  rcases io e with ⟨_, e⟩ | ⟨_, e⟩
  · obtain rfl := Option.some.inj e
    exact p0
  obtain ⟨_, e⟩ := io_n e
  obtain ⟨M5, e_M5, e⟩ := mo e
  have p_M5 : Fx C L A M5 := wi p0 e_M5 (oc_c hC (by decide +kernel))
  obtain ⟨_, e⟩ := io_n e
  obtain ⟨M6, e_M6, e⟩ := mo e
  have p_M6 : Fx C L A M6 := wi p_M5 e_M6 (oc_c hC (by decide +kernel))
  obtain rfl := Option.some.inj e
  exact p_M6
theorem wl_Mod_come_115 {C : Nat} {L : List Nat} {A : Mem} (v1 : Int32) (v2 : Int32) (s : Int32 × Mem) (hC : sb 46768052394588893382517914646921056628989841375232 C)  (p0 : Fx C L A s.2) {r : ((Int32 × Mem) ⊕ ((Mem)))} (e : lb_Mod_come_115 v1 v2 s = some r) : (Sum.elim (fun r : Int32 × Mem => Fx C L A r.2) (fun r : Mem => Fx C L A r)) r := by
  unfold lb_Mod_come_115 at e
  obtain ⟨_, e⟩ := io_n e
  rcases io e with ⟨_, e⟩ | ⟨_, e⟩
  · obtain rfl := Option.some.inj e
    exact p0
  obtain ⟨_, e⟩ := io_n e
  obtain ⟨_, e⟩ := io_n e
  obtain ⟨M10, e_M10, e⟩ := mo e
  have p_M10 : Fx C L A M10 := wi p0 e_M10 (oc_c hC (by decide +kernel))
  obtain rfl := Option.some.inj e
  exact p_M10
theorem wf_Mod_come {C : Nat} {L : List Nat} {A : Mem} (v1 : Int32) (M : Mem) (hC : sb 77133026124583529396296594335868988143668237135618273078935552 C)  (p0 : Fx C L A M) {r : (Mem)} (e : f_Mod_come v1 M = some r) : (fun r : Mem => Fx C L A r) r := by
  unfold f_Mod_come at e
  obtain ⟨_, e⟩ := io_n e
  obtain ⟨_, e⟩ := io_n e
  obtain ⟨x1, e_x1, e⟩ := bo e
  obtain ⟨_, e⟩ := io_n e
  obtain ⟨M2, e_M2, e⟩ := mo e
  have p_M2 : Fx C L A M2 := wi p0 e_M2 (oc_c hC (by decide +kernel))
  obtain ⟨_, e⟩ := io_n e
  obtain ⟨M3, e_M3, e⟩ := mo e
  have p_M3 : Fx C L A M3 := wi1 p_M2 e_M3 (tb1 hC (by decide +kernel))
  obtain ⟨_, e⟩ := io_n e
  obtain ⟨M4, e_M4, e⟩ := mo e
  have p_M4 : Fx C L A M4 := wi p_M3 e_M4 (oc_c hC (by decide +kernel))
  obtain ⟨x8, e_x8, e⟩ := bo e
  have p_x8 : Fx C L A x8 := (it_r (I := fun s : Int32 × Mem => Fx C L A s.2) (Q := (fun r : Mem => Fx C L A r)) (fun s_ r_ hs_ er_ => wl_Mod_come_57 v1 (M.1 162 4) s_ (sb_t (by decide +kernel) hC) hs_ er_) e_x8 p_M4)
  obtain ⟨_, e⟩ := io_n e
  obtain ⟨_, e⟩ := io_n e
  obtain ⟨M9, e_M9, e⟩ := mo e
  have p_M9 : Fx C L A M9 := wi p_x8 e_M9 (oc_c hC (by decide +kernel))
  obtain ⟨x12, e_x12, e⟩ := bo e
  have p_x12 : Fx C L A x12 := (it_r (I := fun s : Int32 × Mem => Fx C L A s.2) (Q := (fun r : Mem => Fx C L A r)) (fun s_ r_ hs_ er_ => wl_Mod_come_115 v1 (M.1 162 4) s_ (sb_t (by decide +kernel) hC) hs_ er_) e_x12 p_M9)
  obtain ⟨M13, e_M13, e⟩ := mo e
  have p_M13 : Fx C L A M13 := wi1 p_x12 e_M13 (tb1 hC (by decide +kernel))
  obtain rfl := Option.some.inj e
  exact p_M13
theorem wj_Mod_folk_78_37 {C : Nat} {L : List Nat} {A : Mem} (v1 : Int32) (M : Mem) (hC : sb 210624583337114373395836055367340864637790190801098222508621955072 C)  (p0 : Fx C L A M) {r : ((Int32 × Int32 × Mem) ⊕ ((Int32 × Mem)))} (e : j_Mod_folk_78_37 v1 M = some r) : (Sum.elim (fun r : Int32 × Int32 × Mem => Fx C L A r.2.2) (fun r : Int32 × Mem => Fx C L A r.2)) r := by
  unfold j_Mod_folk_78_37 at e
  obtain ⟨x6, e_x6, e⟩ := bo e
  have p_x6 : Fx C L A x6.2 := (wf_Mod_passes (59 : Int32) M (sb_t (by decide +kernel) hC) p0 e_x6)
  obtain rfl := Option.some.inj e
  exact p_x6
theorem wl_Mod_folk_37 {C : Nat} {L : List Nat} {A : Mem} (s : Int32 × Int32 × Mem) (hC : sb 631873750011344616765184792946610834486639273877106795200789872640 C)  (p0 : Fx C L A s.2.2) {r : ((Int32 × Int32 × Mem) ⊕ ((Int32 × Mem)))} (e : lb_Mod_folk_37 s = some r) : (Sum.elim (fun r : Int32 × Int32 × Mem => Fx C L A r.2.2) (fun r : Int32 × Mem => Fx C L A r.2)) r := by
  unfold lb_Mod_folk_37 at e
  rcases io e with ⟨_, e⟩ | ⟨_, e⟩
  · obtain rfl := Option.some.inj e
    exact p0
  obtain ⟨x4, e_x4, e⟩ := bo e
  rcases io e with ⟨_, e⟩ | ⟨_, e⟩
  · obtain rfl := Option.some.inj e
    exact p0
  rcases io e with ⟨_, e⟩ | ⟨_, e⟩
  · obtain ⟨x7, e_x7, e⟩ := bo e
    have p_x7 : Fx C L A x7 := (wf_Mod_fault (s.2.2.1 162 17) s.2.2 (sb_t (by decide +kernel) hC) p0 e_x7)
    exact (wj_Mod_folk_78_37 s.1 x7 (sb_t (by decide +kernel) hC) p_x7 e)
  obtain ⟨x5, e_x5, e⟩ := bo e
  have p_x5 : Fx C L A x5 := (wf_Mod_readOne ((12 : Int32) * s.1) s.2.2 (sb_t (by decide +kernel) hC) p0 e_x5)
  exact (wj_Mod_folk_78_37 s.1 x5 (sb_t (by decide +kernel) hC) p_x5 e)
theorem wl_Mod_folk_126 {C : Nat} {L : List Nat} {A : Mem} (v1 : Int32) (s : Int32 × Mem) (hC : sb 77133026124583529396296594335868988143668237135618273078935552 C)  (p0 : Fx C L A s.2) {r : ((Int32 × Mem) ⊕ ((Mem)))} (e : lb_Mod_folk_126 v1 s = some r) : (Sum.elim (fun r : Int32 × Mem => Fx C L A r.2) (fun r : Mem => Fx C L A r)) r := by
  unfold lb_Mod_folk_126 at e
  rcases io e with ⟨_, e⟩ | ⟨_, e⟩
  · obtain rfl := Option.some.inj e
    exact p0
  obtain ⟨x13, e_x13, e⟩ := bo e
  have p_x13 : Fx C L A x13 := (wf_Mod_come ((12 : Int32) * s.1) s.2 (sb_t (by decide +kernel) hC) p0 e_x13)
  obtain rfl := Option.some.inj e
  exact p_x13
theorem wj_Mod_folk_110 {C : Nat} {L : List Nat} {A : Mem} (v1 : Int32) (M : Mem) (hC : sb 452313064262916858604567101055704132803217135685457501840846654632871591936 C)  (p0 : Fx C L A M) {r : (Int32 × Mem)} (e : j_Mod_folk_110 v1 M = some r) : (fun r : Int32 × Mem => Fx C L A r.2) r := by
  unfold j_Mod_folk_110 at e
  obtain ⟨x12, e_x12, e⟩ := bo e
  rcases io e with ⟨_, e⟩ | ⟨_, e⟩
  · obtain rfl := Option.some.inj e
    exact p0
  obtain ⟨x15, e_x15, e⟩ := bo e
  have p_x15 : Fx C L A x15 := (it_r (I := fun s : Int32 × Mem => Fx C L A s.2) (Q := (fun r : Mem => Fx C L A r)) (fun s_ r_ hs_ er_ => wl_Mod_folk_126 v1 s_ (sb_t (by decide +kernel) hC) hs_ er_) e_x15 p0)
  obtain ⟨M16, e_M16, e⟩ := mo e
  have p_M16 : Fx C L A M16 := wi1 p_x15 e_M16 (tb1 hC (by decide +kernel))
  obtain ⟨M17, e_M17, e⟩ := mo e
  have p_M17 : Fx C L A M17 := wi1 p_M16 e_M17 (tb1 hC (by decide +kernel))
  obtain rfl := Option.some.inj e
  exact p_M17
theorem wj_Mod_folk_91 {C : Nat} {L : List Nat} {A : Mem} (v1 : Int32) (M : Mem) (hC : sb 452313064684166025278795847847376243537898864961037883443043099650115502080 C)  (p0 : Fx C L A M) {r : (Int32 × Mem)} (e : j_Mod_folk_91 v1 M = some r) : (fun r : Int32 × Mem => Fx C L A r.2) r := by
  unfold j_Mod_folk_91 at e
  rcases io e with ⟨_, e⟩ | ⟨_, e⟩
  · exact (wj_Mod_folk_110 v1 M (sb_t (by decide +kernel) hC) p0 e)
  obtain ⟨x19, e_x19, e⟩ := bo e
  have p_x19 : Fx C L A x19 := (wf_Mod_fault (M.1 162 17) M (sb_t (by decide +kernel) hC) p0 e_x19)
  exact (wj_Mod_folk_110 v1 x19 (sb_t (by decide +kernel) hC) p_x19 e)
theorem wf_Mod_folk {C : Nat} {L : List Nat} {A : Mem} (M : Mem) (hC : sb 452313065093896660051777648921640196839267381275007815459616613298843156480 C)  (p0 : Fx C L A M) {r : (Int32 × Mem)} (e : f_Mod_folk M = some r) : (fun r : Int32 × Mem => Fx C L A r.2) r := by
  unfold f_Mod_folk at e
  obtain ⟨M1, e_M1, e⟩ := mo e
  have p_M1 : Fx C L A M1 := wi1 p0 e_M1 (tb1 hC (by decide +kernel))
  obtain ⟨x2, e_x2, e⟩ := bo e
  have p_x2 : Fx C L A x2 := (wf_Mod_begin 167 (M1.1 162 10) (76 : Int32) M1 (sb_t (by decide +kernel) hC) p_M1 e_x2)
  obtain ⟨M3, e_M3, e⟩ := mo e
  have p_M3 : Fx C L A M3 := wi1 p_x2 e_M3 (tb1 hC (by decide +kernel))
  rcases io e with ⟨_, e⟩ | ⟨_, e⟩
  · obtain rfl := Option.some.inj e
    exact p_M3
  obtain ⟨x11, e_x11, e⟩ := bo e
  have p_x11 : Fx C L A x11.2 := (it_r (I := fun s : Int32 × Int32 × Mem => Fx C L A s.2.2) (Q := (fun r : Int32 × Mem => Fx C L A r.2)) (fun s_ r_ hs_ er_ => wl_Mod_folk_37  s_ (sb_t (by decide +kernel) hC) hs_ er_) e_x11 p_M3)
  exact (wj_Mod_folk_91 x11.1 x11.2 (sb_t (by decide +kernel) hC) p_x11 e)
theorem wl_Mod_route_87 {C : Nat} {L : List Nat} {A : Mem} (v1 : Int32) (v2 : Int32) (s : Int32 × Mem) (hC : sb 46768052394588893382517914646921056628989841375232 C)  (p0 : Fx C L A s.2) {r : ((Int32 × Mem) ⊕ ((Mem)))} (e : lb_Mod_route_87 v1 v2 s = some r) : (Sum.elim (fun r : Int32 × Mem => Fx C L A r.2) (fun r : Mem => Fx C L A r)) r := by
  unfold lb_Mod_route_87 at e
  rcases io e with ⟨_, e⟩ | ⟨_, e⟩
  · obtain rfl := Option.some.inj e
    exact p0
  obtain ⟨_, e⟩ := io_n e
  obtain ⟨_, e⟩ := io_n e
  obtain ⟨M8, e_M8, e⟩ := mo e
  have p_M8 : Fx C L A M8 := wi p0 e_M8 (oc_c hC (by decide +kernel))
  obtain rfl := Option.some.inj e
  exact p_M8
theorem wj_Mod_route_64 {C : Nat} {L : List Nat} {A : Mem} (v1 : Int32) (v2 : Int32) (M : Mem) (hC : sb 452313064262839725578442669522478118622784759880536436097145080576777125888 C)  (p0 : Fx C L A M) {r : (Int32 × Mem)} (e : j_Mod_route_64 v1 v2 M = some r) : (fun r : Int32 × Mem => Fx C L A r.2) r := by
  unfold j_Mod_route_64 at e
  obtain ⟨x6, e_x6, e⟩ := bo e
  rcases io e with ⟨_, e⟩ | ⟨_, e⟩
  · obtain rfl := Option.some.inj e
    exact p0
  obtain ⟨_, e⟩ := io_n e
  obtain ⟨M7, e_M7, e⟩ := mo e
  have p_M7 : Fx C L A M7 := wi p0 e_M7 (oc_c hC (by decide +kernel))
  obtain ⟨x10, e_x10, e⟩ := bo e
  have p_x10 : Fx C L A x10 := (it_r (I := fun s : Int32 × Mem => Fx C L A s.2) (Q := (fun r : Mem => Fx C L A r)) (fun s_ r_ hs_ er_ => wl_Mod_route_87 v1 v2 s_ (sb_t (by decide +kernel) hC) hs_ er_) e_x10 p_M7)
  obtain ⟨_, e⟩ := io_n e
  obtain ⟨M11, e_M11, e⟩ := mo e
  have p_M11 : Fx C L A M11 := wi p_x10 e_M11 (oc_c hC (by decide +kernel))
  obtain ⟨M12, e_M12, e⟩ := mo e
  have p_M12 : Fx C L A M12 := wi1 p_M11 e_M12 (tb1 hC (by decide +kernel))
  obtain ⟨M13, e_M13, e⟩ := mo e
  have p_M13 : Fx C L A M13 := wi1 p_M12 e_M13 (tb1 hC (by decide +kernel))
  obtain rfl := Option.some.inj e
  exact p_M13
theorem wf_Mod_route {C : Nat} {L : List Nat} {A : Mem} (v1 : Int32) (M : Mem) (hC : sb 452313065093819527025654713966090809503423246043355451189727166917672697856 C)  (p0 : Fx C L A M) {r : (Int32 × Mem)} (e : f_Mod_route v1 M = some r) : (fun r : Int32 × Mem => Fx C L A r.2) r := by
  unfold f_Mod_route at e
  obtain ⟨M1, e_M1, e⟩ := mo e
  have p_M1 : Fx C L A M1 := wi1 p0 e_M1 (tb1 hC (by decide +kernel))
  obtain ⟨x2, e_x2, e⟩ := bo e
  have p_x2 : Fx C L A x2 := (wf_Mod_begin 167 (M1.1 162 10) (80 : Int32) M1 (sb_t (by decide +kernel) hC) p_M1 e_x2)
  obtain ⟨M3, e_M3, e⟩ := mo e
  have p_M3 : Fx C L A M3 := wi1 p_x2 e_M3 (tb1 hC (by decide +kernel))
  obtain ⟨x4, e_x4, e⟩ := bo e
  rcases io e with ⟨_, e⟩ | ⟨_, e⟩
  · obtain rfl := Option.some.inj e
    exact p_M3
  obtain ⟨x5, e_x5, e⟩ := bo e
  have p_x5 : Fx C L A x5.2 := (wf_Mod_readRoute 171 (0 : Int32) M3 (sb_t (by decide +kernel) hC) (oc_c hC (by decide +kernel)) p_M3 e_x5)
  rcases io e with ⟨_, e⟩ | ⟨_, e⟩
  · exact (wj_Mod_route_64 v1 x5.1 x5.2 (sb_t (by decide +kernel) hC) p_x5 e)
  obtain ⟨x15, e_x15, e⟩ := bo e
  have p_x15 : Fx C L A x15 := (wf_Mod_fault (x5.2.1 162 17) x5.2 (sb_t (by decide +kernel) hC) p_x5 e_x15)
  exact (wj_Mod_route_64 v1 x5.1 x15 (sb_t (by decide +kernel) hC) p_x15 e)
theorem wb_Mod_held {C : Nat} {L : List Nat} {A : Mem} (rc : Nat → Int32 → Mem → Option (Int32 × Mem)) (v1 : Int32) (M : Mem) (hC : sb 631873750011343120187508166102022593913370572403294667525865865216 C)  (hrc : ∀ u0 u1 (N : Mem) (r : Int32 × Mem), Fx C L A N → rc u0 u1 N = some r → Fx C L A r.2) (p0 : Fx C L A M) {r : (Int32 × Mem)} (e : fb_Mod_held rc v1 M = some r) : (fun r : Int32 × Mem => Fx C L A r.2) r := by
  unfold fb_Mod_held at e
  obtain ⟨x1, e_x1, e⟩ := bo e
  have p_x1 : Fx C L A x1.2 := (hrc _ _ _ _ p0 e_x1)
  obtain ⟨x2, e_x2, e⟩ := bo e
  have p_x2 : Fx C L A x2.2 := (wf_Mod_passes (60 : Int32) x1.2 (sb_t (by decide +kernel) hC) p_x1 e_x2)
  rcases io e with ⟨_, e⟩ | ⟨_, e⟩
  · obtain ⟨x3, e_x3, e⟩ := bo e
    have p_x3 : Fx C L A x3.2 := (wf_Mod_passes (62 : Int32) x2.2 (sb_t (by decide +kernel) hC) p_x2 e_x3)
    rcases io e with ⟨_, e⟩ | ⟨_, e⟩
    · obtain ⟨x4, e_x4, e⟩ := bo e
      have p_x4 : Fx C L A x4.2 := (wf_Mod_passes (61 : Int32) x3.2 (sb_t (by decide +kernel) hC) p_x3 e_x4)
      rcases io e with ⟨_, e⟩ | ⟨_, e⟩
      · obtain rfl := Option.some.inj e
        exact p_x4
      obtain ⟨x5, e_x5, e⟩ := bo e
      have p_x5 : Fx C L A x5.2 := (hrc _ _ _ _ p_x4 e_x5)
      rcases io e with ⟨_, e⟩ | ⟨_, e⟩
      · obtain rfl := Option.some.inj e
        exact p_x5
      obtain rfl := Option.some.inj e
      exact p_x5
    obtain ⟨x8, e_x8, e⟩ := bo e
    have p_x8 : Fx C L A x8.2 := (hrc _ _ _ _ p_x3 e_x8)
    rcases io e with ⟨_, e⟩ | ⟨_, e⟩
    · obtain rfl := Option.some.inj e
      exact p_x8
    obtain rfl := Option.some.inj e
    exact p_x8
  obtain ⟨x11, e_x11, e⟩ := bo e
  have p_x11 : Fx C L A x11.2 := (hrc _ _ _ _ p_x2 e_x11)
  rcases io e with ⟨_, e⟩ | ⟨_, e⟩
  · obtain rfl := Option.some.inj e
    exact p_x11
  obtain rfl := Option.some.inj e
  exact p_x11
theorem wj_Mod_sum_45_6 {C : Nat} {L : List Nat} {A : Mem} (rc : Nat → Int32 → Mem → Option (Int32 × Mem)) (v1 : Int32) (v2 : Int32) (w0 : Int32) (M : Mem) (hC : sb 631873750011343120187508166102022593913370572403294667525865865216 C)  (hrc : ∀ u0 u1 (N : Mem) (r : Int32 × Mem), Fx C L A N → rc u0 u1 N = some r → Fx C L A r.2) (p0 : Fx C L A M) {r : ((Int32 × Mem) ⊕ ((Int32 × Mem)))} (e : j_Mod_sum_45_6 rc v1 v2 w0 M = some r) : (Sum.elim (fun r : Int32 × Mem => Fx C L A r.2) (fun r : Int32 × Mem => Fx C L A r.2)) r := by
  unfold j_Mod_sum_45_6 at e
  obtain ⟨M5, e_M5, e⟩ := mo e
  have p_M5 : Fx C L A M5 := wi1 p0 e_M5 (tb1 hC (by decide +kernel))
  obtain ⟨x6, e_x6, e⟩ := bo e
  have p_x6 : Fx C L A x6.2 := (hrc _ _ _ _ p_M5 e_x6)
  rcases io e with ⟨_, e⟩ | ⟨_, e⟩
  · obtain rfl := Option.some.inj e
    exact p_x6
  obtain rfl := Option.some.inj e
  exact p_x6
theorem wj_Mod_sum_31_6 {C : Nat} {L : List Nat} {A : Mem} (rc : Nat → Int32 → Mem → Option (Int32 × Mem)) (v1 : Int32) (v2 : Int32) (M : Mem) (hC : sb 631873750011343120187508166102022593913370572403294667525865865216 C)  (hrc : ∀ u0 u1 (N : Mem) (r : Int32 × Mem), Fx C L A N → rc u0 u1 N = some r → Fx C L A r.2) (p0 : Fx C L A M) {r : ((Int32 × Mem) ⊕ ((Int32 × Mem)))} (e : j_Mod_sum_31_6 rc v1 v2 M = some r) : (Sum.elim (fun r : Int32 × Mem => Fx C L A r.2) (fun r : Int32 × Mem => Fx C L A r.2)) r := by
  unfold j_Mod_sum_31_6 at e
  obtain ⟨x4, e_x4, e⟩ := bo e
  rcases io e with ⟨_, e⟩ | ⟨_, e⟩
  · exact (wj_Mod_sum_45_6 rc v1 v2 (1 : Int32) M (sb_t (by decide +kernel) hC) hrc p0 e)
  exact (wj_Mod_sum_45_6 rc v1 v2 (0 : Int32) M (sb_t (by decide +kernel) hC) hrc p0 e)
theorem wl_Mod_sum_6 {C : Nat} {L : List Nat} {A : Mem} (rc : Nat → Int32 → Mem → Option (Int32 × Mem)) (v1 : Int32) (s : Int32 × Mem) (hC : sb 631873750011343120187508166102022593913370572403294667525865865216 C)  (hrc : ∀ u0 u1 (N : Mem) (r : Int32 × Mem), Fx C L A N → rc u0 u1 N = some r → Fx C L A r.2) (p0 : Fx C L A s.2) {r : ((Int32 × Mem) ⊕ ((Int32 × Mem)))} (e : lb_Mod_sum_6 rc v1 s = some r) : (Sum.elim (fun r : Int32 × Mem => Fx C L A r.2) (fun r : Int32 × Mem => Fx C L A r.2)) r := by
  unfold lb_Mod_sum_6 at e
  obtain ⟨x2, e_x2, e⟩ := bo e
  rcases io e with ⟨_, e⟩ | ⟨_, e⟩
  · obtain rfl := Option.some.inj e
    exact p0
  obtain ⟨x3, e_x3, e⟩ := bo e
  rcases io e with ⟨_, e⟩ | ⟨_, e⟩
  · exact (wj_Mod_sum_31_6 rc v1 s.1 s.2 (sb_t (by decide +kernel) hC) hrc p0 e)
  obtain ⟨x9, e_x9, e⟩ := bo e
  rcases io e with ⟨_, e⟩ | ⟨_, e⟩
  · exact (wj_Mod_sum_31_6 rc v1 s.1 s.2 (sb_t (by decide +kernel) hC) hrc p0 e)
  obtain rfl := Option.some.inj e
  exact p0
theorem wb_Mod_sum {C : Nat} {L : List Nat} {A : Mem} (rc : Nat → Int32 → Mem → Option (Int32 × Mem)) (v1 : Int32) (M : Mem) (hC : sb 631873750011343120187508166102022593913370572403294667525865865216 C)  (hrc : ∀ u0 u1 (N : Mem) (r : Int32 × Mem), Fx C L A N → rc u0 u1 N = some r → Fx C L A r.2) (p0 : Fx C L A M) {r : (Int32 × Mem)} (e : fb_Mod_sum rc v1 M = some r) : (fun r : Int32 × Mem => Fx C L A r.2) r := by
  unfold fb_Mod_sum at e
  obtain ⟨x1, e_x1, e⟩ := bo e
  have p_x1 : Fx C L A x1.2 := (hrc _ _ _ _ p0 e_x1)
  obtain ⟨x13, e_x13, e⟩ := bo e
  have p_x13 : Fx C L A x13.2 := (it_r (I := fun s : Int32 × Mem => Fx C L A s.2) (Q := (fun r : Int32 × Mem => Fx C L A r.2)) (fun s_ r_ hs_ er_ => wl_Mod_sum_6 rc v1 s_ (sb_t (by decide +kernel) hC) hrc hs_ er_) e_x13 p_x1)
  obtain rfl := Option.some.inj e
  exact p_x13
theorem wj_Mod_product_45_6 {C : Nat} {L : List Nat} {A : Mem} (rc : Nat → Int32 → Mem → Option (Int32 × Mem)) (v1 : Int32) (v2 : Int32) (w0 : Int32) (M : Mem) (hC : sb 631873750011343120187508166102022593913370572403294667525865865216 C)  (hrc : ∀ u0 u1 (N : Mem) (r : Int32 × Mem), Fx C L A N → rc u0 u1 N = some r → Fx C L A r.2) (p0 : Fx C L A M) {r : ((Int32 × Mem) ⊕ ((Int32 × Mem)))} (e : j_Mod_product_45_6 rc v1 v2 w0 M = some r) : (Sum.elim (fun r : Int32 × Mem => Fx C L A r.2) (fun r : Int32 × Mem => Fx C L A r.2)) r := by
  unfold j_Mod_product_45_6 at e
  obtain ⟨M5, e_M5, e⟩ := mo e
  have p_M5 : Fx C L A M5 := wi1 p0 e_M5 (tb1 hC (by decide +kernel))
  obtain ⟨x6, e_x6, e⟩ := bo e
  have p_x6 : Fx C L A x6.2 := (hrc _ _ _ _ p_M5 e_x6)
  rcases io e with ⟨_, e⟩ | ⟨_, e⟩
  · rcases io e with ⟨_, e⟩ | ⟨_, e⟩
    · obtain rfl := Option.some.inj e
      exact p_x6
    obtain ⟨_, e⟩ := io_m e
    obtain rfl := Option.some.inj e
    exact p_x6
  obtain rfl := Option.some.inj e
  exact p_x6
theorem wj_Mod_product_31_6 {C : Nat} {L : List Nat} {A : Mem} (rc : Nat → Int32 → Mem → Option (Int32 × Mem)) (v1 : Int32) (v2 : Int32) (M : Mem) (hC : sb 631873750011343120187508166102022593913370572403294667525865865216 C)  (hrc : ∀ u0 u1 (N : Mem) (r : Int32 × Mem), Fx C L A N → rc u0 u1 N = some r → Fx C L A r.2) (p0 : Fx C L A M) {r : ((Int32 × Mem) ⊕ ((Int32 × Mem)))} (e : j_Mod_product_31_6 rc v1 v2 M = some r) : (Sum.elim (fun r : Int32 × Mem => Fx C L A r.2) (fun r : Int32 × Mem => Fx C L A r.2)) r := by
  unfold j_Mod_product_31_6 at e
  obtain ⟨x4, e_x4, e⟩ := bo e
  rcases io e with ⟨_, e⟩ | ⟨_, e⟩
  · exact (wj_Mod_product_45_6 rc v1 v2 (1 : Int32) M (sb_t (by decide +kernel) hC) hrc p0 e)
  exact (wj_Mod_product_45_6 rc v1 v2 (0 : Int32) M (sb_t (by decide +kernel) hC) hrc p0 e)
theorem wl_Mod_product_6 {C : Nat} {L : List Nat} {A : Mem} (rc : Nat → Int32 → Mem → Option (Int32 × Mem)) (v1 : Int32) (s : Int32 × Mem) (hC : sb 631873750011343120187508166102022593913370572403294667525865865216 C)  (hrc : ∀ u0 u1 (N : Mem) (r : Int32 × Mem), Fx C L A N → rc u0 u1 N = some r → Fx C L A r.2) (p0 : Fx C L A s.2) {r : ((Int32 × Mem) ⊕ ((Int32 × Mem)))} (e : lb_Mod_product_6 rc v1 s = some r) : (Sum.elim (fun r : Int32 × Mem => Fx C L A r.2) (fun r : Int32 × Mem => Fx C L A r.2)) r := by
  unfold lb_Mod_product_6 at e
  obtain ⟨x2, e_x2, e⟩ := bo e
  rcases io e with ⟨_, e⟩ | ⟨_, e⟩
  · obtain rfl := Option.some.inj e
    exact p0
  obtain ⟨x3, e_x3, e⟩ := bo e
  rcases io e with ⟨_, e⟩ | ⟨_, e⟩
  · exact (wj_Mod_product_31_6 rc v1 s.1 s.2 (sb_t (by decide +kernel) hC) hrc p0 e)
  obtain ⟨x10, e_x10, e⟩ := bo e
  rcases io e with ⟨_, e⟩ | ⟨_, e⟩
  · exact (wj_Mod_product_31_6 rc v1 s.1 s.2 (sb_t (by decide +kernel) hC) hrc p0 e)
  obtain rfl := Option.some.inj e
  exact p0
theorem wb_Mod_product {C : Nat} {L : List Nat} {A : Mem} (rc : Nat → Int32 → Mem → Option (Int32 × Mem)) (v1 : Int32) (M : Mem) (hC : sb 631873750011343120187508166102022593913370572403294667525865865216 C)  (hrc : ∀ u0 u1 (N : Mem) (r : Int32 × Mem), Fx C L A N → rc u0 u1 N = some r → Fx C L A r.2) (p0 : Fx C L A M) {r : (Int32 × Mem)} (e : fb_Mod_product rc v1 M = some r) : (fun r : Int32 × Mem => Fx C L A r.2) r := by
  unfold fb_Mod_product at e
  obtain ⟨x1, e_x1, e⟩ := bo e
  have p_x1 : Fx C L A x1.2 := (hrc _ _ _ _ p0 e_x1)
  obtain ⟨x14, e_x14, e⟩ := bo e
  have p_x14 : Fx C L A x14.2 := (it_r (I := fun s : Int32 × Mem => Fx C L A s.2) (Q := (fun r : Int32 × Mem => Fx C L A r.2)) (fun s_ r_ hs_ er_ => wl_Mod_product_6 rc v1 s_ (sb_t (by decide +kernel) hC) hrc hs_ er_) e_x14 p_x1)
  obtain rfl := Option.some.inj e
  exact p_x14
theorem wj_Mod_thing_142 {C : Nat} {L : List Nat} {A : Mem} (rc : Nat → Int32 → Mem → Option (Int32 × Mem)) (v2 : Int32) (M : Mem) (hC : sb 631873750011343120187508166102022593913370572403294667525865865216 C)  (hrc : ∀ u0 u1 (N : Mem) (r : Int32 × Mem), Fx C L A N → rc u0 u1 N = some r → Fx C L A r.2) (p0 : Fx C L A M) {r : (Int32 × Mem)} (e : j_Mod_thing_142 rc v2 M = some r) : (fun r : Int32 × Mem => Fx C L A r.2) r := by
  unfold j_Mod_thing_142 at e
  obtain ⟨M5, e_M5, e⟩ := mo e
  have p_M5 : Fx C L A M5 := wi1 p0 e_M5 (tb1 hC (by decide +kernel))
  rcases io e with ⟨_, e⟩ | ⟨_, e⟩
  · obtain rfl := Option.some.inj e
    exact p_M5
  obtain ⟨a6, e_a6, e⟩ := bo e
  obtain ⟨g_a6, e⟩ := io_n e
  obtain ⟨x7, e_x7, e⟩ := bo e
  obtain rfl := Option.some.inj e
  exact p_M5
theorem wj_Mod_thing_67 {C : Nat} {L : List Nat} {A : Mem} (rc : Nat → Int32 → Mem → Option (Int32 × Mem)) (v2 : Int32) (M : Mem) (hC : sb 631873750011343120187508166102022593913370572403294667525865865216 C)  (hrc : ∀ u0 u1 (N : Mem) (r : Int32 × Mem), Fx C L A N → rc u0 u1 N = some r → Fx C L A r.2) (p0 : Fx C L A M) {r : (Int32 × Mem)} (e : j_Mod_thing_67 rc v2 M = some r) : (fun r : Int32 × Mem => Fx C L A r.2) r := by
  unfold j_Mod_thing_67 at e
  obtain ⟨x4, e_x4, e⟩ := bo e
  rcases io e with ⟨_, e⟩ | ⟨_, e⟩
  · rcases io e with ⟨_, e⟩ | ⟨_, e⟩
    · exact (wj_Mod_thing_142 rc v2 M (sb_t (by decide +kernel) hC) hrc p0 e)
    rcases io e with ⟨_, e⟩ | ⟨_, e⟩
    · exact (wj_Mod_thing_142 rc v2 M (sb_t (by decide +kernel) hC) hrc p0 e)
    rcases io e with ⟨_, e⟩ | ⟨_, e⟩
    · exact (wj_Mod_thing_142 rc v2 M (sb_t (by decide +kernel) hC) hrc p0 e)
    rcases io e with ⟨_, e⟩ | ⟨_, e⟩
    · exact (wj_Mod_thing_142 rc v2 M (sb_t (by decide +kernel) hC) hrc p0 e)
    rcases io e with ⟨_, e⟩ | ⟨_, e⟩
    · exact (wj_Mod_thing_142 rc v2 M (sb_t (by decide +kernel) hC) hrc p0 e)
    rcases io e with ⟨_, e⟩ | ⟨_, e⟩
    · exact (wj_Mod_thing_142 rc v2 M (sb_t (by decide +kernel) hC) hrc p0 e)
    rcases io e with ⟨_, e⟩ | ⟨_, e⟩
    · exact (wj_Mod_thing_142 rc v2 M (sb_t (by decide +kernel) hC) hrc p0 e)
    rcases io e with ⟨_, e⟩ | ⟨_, e⟩
    · exact (wj_Mod_thing_142 rc v2 M (sb_t (by decide +kernel) hC) hrc p0 e)
    obtain ⟨x9, e_x9, e⟩ := bo e
    have p_x9 : Fx C L A x9 := (wf_Mod_fault (M.1 162 17) M (sb_t (by decide +kernel) hC) p0 e_x9)
    obtain rfl := Option.some.inj e
    exact p_x9
  obtain ⟨x18, e_x18, e⟩ := bo e
  have p_x18 : Fx C L A x18.2 := (wf_Mod_number (3 : Int32) M (sb_t (by decide +kernel) hC) p0 e_x18)
  obtain rfl := Option.some.inj e
  exact p_x18
theorem wb_Mod_thing {C : Nat} {L : List Nat} {A : Mem} (rc : Nat → Int32 → Mem → Option (Int32 × Mem)) (v1 : Int32) (M : Mem) (hC : sb 631873750011343120187508166102022593913370572403294667525865865216 C)  (hrc : ∀ u0 u1 (N : Mem) (r : Int32 × Mem), Fx C L A N → rc u0 u1 N = some r → Fx C L A r.2) (p0 : Fx C L A M) {r : (Int32 × Mem)} (e : fb_Mod_thing rc v1 M = some r) : (fun r : Int32 × Mem => Fx C L A r.2) r := by
  unfold fb_Mod_thing at e
  obtain ⟨x1, e_x1, e⟩ := bo e
  have p_x1 : Fx C L A x1.2 := (wf_Mod_passes (45 : Int32) M (sb_t (by decide +kernel) hC) p0 e_x1)
  rcases io e with ⟨_, e⟩ | ⟨_, e⟩
  · obtain ⟨x2, e_x2, e⟩ := bo e
    rcases io e with ⟨_, e⟩ | ⟨_, e⟩
    · obtain rfl := Option.some.inj e
      exact p_x1
    obtain ⟨x3, e_x3, e⟩ := bo e
    rcases io e with ⟨_, e⟩ | ⟨_, e⟩
    · rcases io e with ⟨_, e⟩ | ⟨_, e⟩
      · exact (wj_Mod_thing_67 rc x3 x1.2 (sb_t (by decide +kernel) hC) hrc p_x1 e)
      obtain ⟨M20, e_M20, e⟩ := mo e
      have p_M20 : Fx C L A M20 := wi1 p_x1 e_M20 (tb1 hC (by decide +kernel))
      obtain ⟨x21, e_x21, e⟩ := bo e
      have p_x21 : Fx C L A x21.2 := (hrc _ _ _ _ p_M20 e_x21)
      obtain ⟨x22, e_x22, e⟩ := bo e
      have p_x22 : Fx C L A x22 := (wf_Mod_need (41 : Int32) x21.2 (sb_t (by decide +kernel) hC) p_x21 e_x22)
      obtain rfl := Option.some.inj e
      exact p_x22
    exact (wj_Mod_thing_67 rc x3 x1.2 (sb_t (by decide +kernel) hC) hrc p_x1 e)
  obtain ⟨x26, e_x26, e⟩ := bo e
  have p_x26 : Fx C L A x26.2 := (hrc _ _ _ _ p_x1 e_x26)
  obtain rfl := Option.some.inj e
  exact p_x26
theorem wf_Mod_expr {C : Nat} {L : List Nat} {A : Mem} (hC : sb 631873750011343120187508166102022593913370572403294667525865865216 C) : ∀ (n w : Nat) (a0 : Int32) (N : Mem) (r : Int32 × Mem), Fx C L A N → fr_expr n w a0 N = some r → Fx C L A r.2 := by
  intro n
  induction n with
  | zero => intro w a0 N r p e; simp [fr_expr] at e
  | succ n ih =>
    intro w a0 N r p e
    simp only [fr_expr] at e
    rcases io e with ⟨_, e⟩ | ⟨_, e⟩
    · exact wb_Mod_held _ a0 N hC (fun u0 u1 N r p e => ih u0 u1 N r p e) p e
    rcases io e with ⟨_, e⟩ | ⟨_, e⟩
    · exact wb_Mod_sum _ a0 N hC (fun u0 u1 N r p e => ih u0 u1 N r p e) p e
    rcases io e with ⟨_, e⟩ | ⟨_, e⟩
    · exact wb_Mod_product _ a0 N hC (fun u0 u1 N r p e => ih u0 u1 N r p e) p e
    exact wb_Mod_thing _ a0 N hC (fun u0 u1 N r p e => ih u0 u1 N r p e) p e
theorem wf_Mod_held {C : Nat} {L : List Nat} {A : Mem} (a0 : Int32) (M : Mem) (hC : sb 631873750011343120187508166102022593913370572403294667525865865216 C) (p0 : Fx C L A M) {r : Int32 × Mem} (e : f_Mod_held a0 M = some r) : Fx C L A r.2 := wf_Mod_expr hC 100 0 a0 M r p0 e
theorem wf_Mod_sum {C : Nat} {L : List Nat} {A : Mem} (a0 : Int32) (M : Mem) (hC : sb 631873750011343120187508166102022593913370572403294667525865865216 C) (p0 : Fx C L A M) {r : Int32 × Mem} (e : f_Mod_sum a0 M = some r) : Fx C L A r.2 := wf_Mod_expr hC 100 1 a0 M r p0 e
theorem wf_Mod_product {C : Nat} {L : List Nat} {A : Mem} (a0 : Int32) (M : Mem) (hC : sb 631873750011343120187508166102022593913370572403294667525865865216 C) (p0 : Fx C L A M) {r : Int32 × Mem} (e : f_Mod_product a0 M = some r) : Fx C L A r.2 := wf_Mod_expr hC 100 2 a0 M r p0 e
theorem wf_Mod_thing {C : Nat} {L : List Nat} {A : Mem} (a0 : Int32) (M : Mem) (hC : sb 631873750011343120187508166102022593913370572403294667525865865216 C) (p0 : Fx C L A M) {r : Int32 × Mem} (e : f_Mod_thing a0 M = some r) : Fx C L A r.2 := wf_Mod_expr hC 100 3 a0 M r p0 e
theorem wl_Mod_rule_73 {C : Nat} {L : List Nat} {A : Mem} (v1 : Int32) (s : Int32 × Mem) (hC : sb 5986310706507378352962293074805895248510699696029696 C)  (p0 : Fx C L A s.2) {r : ((Int32 × Mem) ⊕ ((Mem)))} (e : lb_Mod_rule_73 v1 s = some r) : (Sum.elim (fun r : Int32 × Mem => Fx C L A r.2) (fun r : Mem => Fx C L A r)) r := by
  unfold lb_Mod_rule_73 at e
  rcases io e with ⟨_, e⟩ | ⟨_, e⟩
  · obtain rfl := Option.some.inj e
    exact p0
  obtain ⟨_, e⟩ := io_n e
  obtain ⟨_, e⟩ := io_n e
  obtain ⟨M5, e_M5, e⟩ := mo e
  have p_M5 : Fx C L A M5 := wi p0 e_M5 (oc_c hC (by decide +kernel))
  obtain rfl := Option.some.inj e
  exact p_M5
theorem wj_Mod_rule_57 {C : Nat} {L : List Nat} {A : Mem} (v1 : Int32) (M : Mem) (hC : sb 13479973333575325883644214050888168299111647017165534751251501154304 C)  (p0 : Fx C L A M) {r : (Int32 × Mem)} (e : j_Mod_rule_57 v1 M = some r) : (fun r : Int32 × Mem => Fx C L A r.2) r := by
  unfold j_Mod_rule_57 at e
  obtain ⟨x10, e_x10, e⟩ := bo e
  rcases io e with ⟨_, e⟩ | ⟨_, e⟩
  · obtain rfl := Option.some.inj e
    exact p0
  obtain ⟨x11, e_x11, e⟩ := bo e
  have p_x11 : Fx C L A x11 := (it_r (I := fun s : Int32 × Mem => Fx C L A s.2) (Q := (fun r : Mem => Fx C L A r)) (fun s_ r_ hs_ er_ => wl_Mod_rule_73 v1 s_ (sb_t (by decide +kernel) hC) hs_ er_) e_x11 p0)
  obtain ⟨M12, e_M12, e⟩ := mo e
  have p_M12 : Fx C L A M12 := wi1 p_x11 e_M12 (tb1 hC (by decide +kernel))
  obtain rfl := Option.some.inj e
  exact p_M12
theorem wf_Mod_rule {C : Nat} {L : List Nat} {A : Mem} (M : Mem) (hC : sb 41270899802173174729599488575099260977765073051851065063346158960640 C)  (p0 : Fx C L A M) {r : (Int32 × Mem)} (e : f_Mod_rule M = some r) : (fun r : Int32 × Mem => Fx C L A r.2) r := by
  unfold f_Mod_rule at e
  obtain ⟨M1, e_M1, e⟩ := mo e
  have p_M1 : Fx C L A M1 := wi1 p0 e_M1 (tb1 hC (by decide +kernel))
  obtain ⟨x2, e_x2, e⟩ := bo e
  have p_x2 : Fx C L A x2 := (wf_Mod_begin 167 (M1.1 162 10) (40 : Int32) M1 (sb_t (by decide +kernel) hC) p_M1 e_x2)
  obtain ⟨M3, e_M3, e⟩ := mo e
  have p_M3 : Fx C L A M3 := wi1 p_x2 e_M3 (tb1 hC (by decide +kernel))
  obtain ⟨M4, e_M4, e⟩ := mo e
  have p_M4 : Fx C L A M4 := wq1 p_M3 e_M4 (tb1 hC (by decide +kernel))
  rcases io e with ⟨_, e⟩ | ⟨_, e⟩
  · obtain ⟨x7, e_x7, e⟩ := bo e
    have p_x7 : Fx C L A x7 := (it_r (I := fun s : Int32 × Mem => Fx C L A s.2) (Q := (fun r : Mem => Fx C L A r)) (fun s_ r_ hs_ er_ => wl_Mod_rule_73 (M1.1 162 10) s_ (sb_t (by decide +kernel) hC) hs_ er_) e_x7 p_M4)
    obtain ⟨M8, e_M8, e⟩ := mo e
    have p_M8 : Fx C L A M8 := wi1 p_x7 e_M8 (tb1 hC (by decide +kernel))
    obtain rfl := Option.some.inj e
    exact p_M8
  obtain ⟨x9, e_x9, e⟩ := bo e
  have p_x9 : Fx C L A x9.2 := (wf_Mod_held (0 : Int32) M4 (sb_t (by decide +kernel) hC) p_M4 e_x9)
  rcases io e with ⟨_, e⟩ | ⟨_, e⟩
  · exact (wj_Mod_rule_57 (M1.1 162 10) x9.2 (sb_t (by decide +kernel) hC) p_x9 e)
  obtain ⟨x14, e_x14, e⟩ := bo e
  have p_x14 : Fx C L A x14 := (wf_Mod_fault (x9.2.1 162 17) x9.2 (sb_t (by decide +kernel) hC) p_x9 e_x14)
  exact (wj_Mod_rule_57 (M1.1 162 10) x14 (sb_t (by decide +kernel) hC) p_x14 e)
theorem wj_Mod_goes_31 {C : Nat} {L : List Nat} {A : Mem} (v1 : Nat) (v2 : Int32) (M : Mem) (hC : sb 81696010261883237580909909975607337871382870256975973055531740823552 C)  (p0 : Fx C L A M) {r : (Int32 × Mem)} (e : j_Mod_goes_31 v1 v2 M = some r) : (fun r : Int32 × Mem => Fx C L A r.2) r := by
  unfold j_Mod_goes_31 at e
  rcases io e with ⟨_, e⟩ | ⟨_, e⟩
  · obtain rfl := Option.some.inj e
    exact p0
  obtain ⟨x1, e_x1, e⟩ := bo e
  have p_x1 : Fx C L A x1 := (wf_Mod_begin 172 (M.1 162 23) (40 : Int32) M (sb_t (by decide +kernel) hC) p0 e_x1)
  obtain ⟨M2, e_M2, e⟩ := mo e
  have p_M2 : Fx C L A M2 := wq1 p_x1 e_M2 (tb1 hC (by decide +kernel))
  obtain ⟨M3, e_M3, e⟩ := mo e
  have p_M3 : Fx C L A M3 := wi1 p_M2 e_M3 (tb1 hC (by decide +kernel))
  obtain ⟨x4, e_x4, e⟩ := bo e
  have p_x4 : Fx C L A x4.2 := (wf_Mod_held (0 : Int32) M3 (sb_t (by decide +kernel) hC) p_M3 e_x4)
  rcases io e with ⟨_, e⟩ | ⟨_, e⟩
  · obtain rfl := Option.some.inj e
    exact p_x4
  obtain rfl := Option.some.inj e
  exact p_x4
theorem wf_Mod_goes {C : Nat} {L : List Nat} {A : Mem} (v1 : Nat) (v2 : Int32) (M : Mem) (hC : sb 81696010261883237580909909975607337871382870256975973055531740823552 C)  (p0 : Fx C L A M) {r : (Int32 × Mem)} (e : f_Mod_goes v1 v2 M = some r) : (fun r : Int32 × Mem => Fx C L A r.2) r := by
  unfold f_Mod_goes at e
  obtain ⟨g_v1, e⟩ := io_n e
  obtain ⟨_, e⟩ := io_n e
  rcases io e with ⟨_, e⟩ | ⟨_, e⟩
  · obtain ⟨x7, e_x7, e⟩ := bo e
    rcases io e with ⟨_, e⟩ | ⟨_, e⟩
    · exact (wj_Mod_goes_31 v1 v2 M (sb_t (by decide +kernel) hC) p0 e)
    obtain ⟨_, e⟩ := io_n e
    obtain ⟨x8, e_x8, e⟩ := bo e
    rcases io e with ⟨_, e⟩ | ⟨_, e⟩
    · obtain rfl := Option.some.inj e
      exact p0
    exact (wj_Mod_goes_31 v1 v2 M (sb_t (by decide +kernel) hC) p0 e)
  exact (wj_Mod_goes_31 v1 v2 M (sb_t (by decide +kernel) hC) p0 e)
theorem wj_Mod_cell_22 {C : Nat} {L : List Nat} {A : Mem} (M : Mem) (hC : sb 13164036458569648337239753460458804039861886925068638906788872192 C)  (p0 : Fx C L A M) {r : (Int32 × Mem)} (e : j_Mod_cell_22 M = some r) : (fun r : Int32 × Mem => Fx C L A r.2) r := by
  unfold j_Mod_cell_22 at e
  obtain ⟨x3, e_x3, e⟩ := bo e
  have p_x3 : Fx C L A x3.2 := (wf_Mod_lost M (sb_t (by decide +kernel) hC) p0 e_x3)
  obtain rfl := Option.some.inj e
  exact p_x3
theorem wf_Mod_cell {C : Nat} {L : List Nat} {A : Mem} (v1 : Int32) (v2 : Int32) (M : Mem) (hC : sb 13164036458569648337239753460458804039861886925068638906788872192 C)  (p0 : Fx C L A M) {r : (Int32 × Mem)} (e : f_Mod_cell v1 v2 M = some r) : (fun r : Int32 × Mem => Fx C L A r.2) r := by
  unfold f_Mod_cell at e
  obtain ⟨M1, e_M1, e⟩ := mo e
  have p_M1 : Fx C L A M1 := wi1 p0 e_M1 (tb1 hC (by decide +kernel))
  obtain ⟨x2, e_x2, e⟩ := bo e
  rcases io e with ⟨_, e⟩ | ⟨_, e⟩
  · exact (wj_Mod_cell_22 M1 (sb_t (by decide +kernel) hC) p_M1 e)
  obtain ⟨x4, e_x4, e⟩ := bo e
  rcases io e with ⟨_, e⟩ | ⟨_, e⟩
  · exact (wj_Mod_cell_22 M1 (sb_t (by decide +kernel) hC) p_M1 e)
  rcases io e with ⟨_, e⟩ | ⟨_, e⟩
  · obtain ⟨_, e⟩ := io_n e
    obtain rfl := Option.some.inj e
    exact p_M1
  rcases io e with ⟨_, e⟩ | ⟨_, e⟩
  · obtain ⟨x7, e_x7, e⟩ := bo e
    obtain ⟨x8, e_x8, e⟩ := bo e
    obtain rfl := Option.some.inj e
    exact p_M1
  rcases io e with ⟨_, e⟩ | ⟨_, e⟩
  · obtain ⟨x7, e_x7, e⟩ := bo e
    obtain ⟨x8, e_x8, e⟩ := bo e
    obtain rfl := Option.some.inj e
    exact p_M1
  rcases io e with ⟨_, e⟩ | ⟨_, e⟩
  · obtain ⟨x14, e_x14, e⟩ := bo e
    obtain rfl := Option.some.inj e
    exact p_M1
  obtain ⟨x5, e_x5, e⟩ := bo e
  obtain rfl := Option.some.inj e
  exact p_M1
theorem wj_Mod_person_23 {C : Nat} {L : List Nat} {A : Mem} (M : Mem) (hC : sb 13164036458569648337239753460458804039861886925068638906788872192 C)  (p0 : Fx C L A M) {r : (Int32 × Mem)} (e : j_Mod_person_23 M = some r) : (fun r : Int32 × Mem => Fx C L A r.2) r := by
  unfold j_Mod_person_23 at e
  obtain ⟨x3, e_x3, e⟩ := bo e
  have p_x3 : Fx C L A x3.2 := (wf_Mod_lost M (sb_t (by decide +kernel) hC) p0 e_x3)
  obtain rfl := Option.some.inj e
  exact p_x3
theorem wf_Mod_person {C : Nat} {L : List Nat} {A : Mem} (v1 : Int32) (v2 : Int32) (M : Mem) (hC : sb 81709174298341807229247149729067796675422732143901041694438529695744 C)  (p0 : Fx C L A M) {r : (Int32 × Mem)} (e : f_Mod_person v1 v2 M = some r) : (fun r : Int32 × Mem => Fx C L A r.2) r := by
  unfold f_Mod_person at e
  obtain ⟨M1, e_M1, e⟩ := mo e
  have p_M1 : Fx C L A M1 := wi1 p0 e_M1 (tb1 hC (by decide +kernel))
  obtain ⟨x2, e_x2, e⟩ := bo e
  rcases io e with ⟨_, e⟩ | ⟨_, e⟩
  · exact (wj_Mod_person_23 M1 (sb_t (by decide +kernel) hC) p_M1 e)
  obtain ⟨x4, e_x4, e⟩ := bo e
  rcases io e with ⟨_, e⟩ | ⟨_, e⟩
  · exact (wj_Mod_person_23 M1 (sb_t (by decide +kernel) hC) p_M1 e)
  rcases io e with ⟨_, e⟩ | ⟨_, e⟩
  · obtain rfl := Option.some.inj e
    exact p_M1
  rcases io e with ⟨_, e⟩ | ⟨_, e⟩
  · obtain ⟨_, e⟩ := io_n e
    obtain ⟨x8, e_x8, e⟩ := bo e
    obtain rfl := Option.some.inj e
    exact p_M1
  rcases io e with ⟨_, e⟩ | ⟨_, e⟩
  · obtain ⟨_, e⟩ := io_n e
    obtain ⟨x10, e_x10, e⟩ := bo e
    obtain rfl := Option.some.inj e
    exact p_M1
  rcases io e with ⟨_, e⟩ | ⟨_, e⟩
  · obtain ⟨_, e⟩ := io_n e
    obtain rfl := Option.some.inj e
    exact p_M1
  rcases io e with ⟨_, e⟩ | ⟨_, e⟩
  · obtain ⟨_, e⟩ := io_n e
    obtain rfl := Option.some.inj e
    exact p_M1
  rcases io e with ⟨_, e⟩ | ⟨_, e⟩
  · obtain rfl := Option.some.inj e
    exact p_M1
  rcases io e with ⟨_, e⟩ | ⟨_, e⟩
  · obtain ⟨x15, e_x15, e⟩ := bo e
    obtain rfl := Option.some.inj e
    exact p_M1
  obtain ⟨x5, e_x5, e⟩ := bo e
  have p_x5 : Fx C L A x5.2 := (wf_Mod_goes 163 v1 M1 (sb_t (by decide +kernel) hC) p_M1 e_x5)
  rcases io e with ⟨_, e⟩ | ⟨_, e⟩
  · obtain rfl := Option.some.inj e
    exact p_x5
  obtain rfl := Option.some.inj e
  exact p_x5
theorem wj_Mod_build_141 {C : Nat} {L : List Nat} {A : Mem} (v1 : Int32) (v2 : Int32) (M : Mem) (hC : sb 452313064262839725578442540910334033503327957956271157064239350854713344000 C)  (p0 : Fx C L A M) {r : (Int32 × Mem)} (e : j_Mod_build_141 v1 v2 M = some r) : (fun r : Int32 × Mem => Fx C L A r.2) r := by
  unfold j_Mod_build_141 at e
  obtain ⟨_, e⟩ := io_n e
  obtain ⟨_, e⟩ := io_n e
  obtain ⟨M12, e_M12, e⟩ := mo e
  have p_M12 : Fx C L A M12 := wi p0 e_M12 (oc_c hC (by decide +kernel))
  obtain ⟨M13, e_M13, e⟩ := mo e
  have p_M13 : Fx C L A M13 := wi1 p_M12 e_M13 (tb1 hC (by decide +kernel))
  obtain ⟨M14, e_M14, e⟩ := mo e
  have p_M14 : Fx C L A M14 := wi1 p_M13 e_M14 (tb1 hC (by decide +kernel))
  obtain rfl := Option.some.inj e
  exact p_M14
theorem wj_Mod_build_62 {C : Nat} {L : List Nat} {A : Mem} (v1 : Int32) (v2 : Int32) (v3 : Int32) (M : Mem) (hC : sb 452313064262839725578442540910334033503327957956271157064239350854713344000 C)  (p0 : Fx C L A M) {r : (Int32 × Mem)} (e : j_Mod_build_62 v1 v2 v3 M = some r) : (fun r : Int32 × Mem => Fx C L A r.2) r := by
  unfold j_Mod_build_62 at e
  obtain ⟨x5, e_x5, e⟩ := bo e
  obtain ⟨x6, e_x6, e⟩ := bo e
  rcases io e with ⟨_, e⟩ | ⟨_, e⟩
  · obtain ⟨y_, e_y, e⟩ := bo e
    rcases y_ with y11 | y18
    · replace e := el_l e
      rcases io e with ⟨_, e⟩ | ⟨_, e⟩
      · exact (wj_Mod_build_141 v1 v2 M (sb_t (by decide +kernel) hC) p0 e)
      obtain ⟨x15, e_x15, e⟩ := bo e
      rcases io e with ⟨_, e⟩ | ⟨_, e⟩
      · exact (wj_Mod_build_141 v1 v2 M (sb_t (by decide +kernel) hC) p0 e)
      obtain rfl := Option.some.inj e
      exact p0
    · replace e := el_r e
      obtain rfl := Option.some.inj e
      exact p0
  rcases io e with ⟨_, e⟩ | ⟨_, e⟩
  · obtain rfl := Option.some.inj e
    exact p0
  obtain ⟨y_, e_y, e⟩ := bo e
  rcases y_ with y20 | y24
  · replace e := el_l e
    rcases io e with ⟨_, e⟩ | ⟨_, e⟩
    · exact (wj_Mod_build_141 v1 v2 M (sb_t (by decide +kernel) hC) p0 e)
    obtain ⟨x21, e_x21, e⟩ := bo e
    rcases io e with ⟨_, e⟩ | ⟨_, e⟩
    · exact (wj_Mod_build_141 v1 v2 M (sb_t (by decide +kernel) hC) p0 e)
    obtain rfl := Option.some.inj e
    exact p0
  · replace e := el_r e
    obtain rfl := Option.some.inj e
    exact p0
theorem wj_Mod_build_39 {C : Nat} {L : List Nat} {A : Mem} (v1 : Int32) (v2 : Int32) (w0 : Int32) (M : Mem) (hC : sb 452313064262839725578442540910334033503327957956271157064239350854713344000 C)  (p0 : Fx C L A M) {r : (Int32 × Mem)} (e : j_Mod_build_39 v1 v2 w0 M = some r) : (fun r : Int32 × Mem => Fx C L A r.2) r := by
  unfold j_Mod_build_39 at e
  obtain ⟨x4, e_x4, e⟩ := bo e
  rcases io e with ⟨_, e⟩ | ⟨_, e⟩
  · exact (wj_Mod_build_62 v1 v2 w0 M (sb_t (by decide +kernel) hC) p0 e)
  rcases io e with ⟨_, e⟩ | ⟨_, e⟩
  · exact (wj_Mod_build_62 v1 v2 w0 M (sb_t (by decide +kernel) hC) p0 e)
  rcases io e with ⟨_, e⟩ | ⟨_, e⟩
  · exact (wj_Mod_build_62 v1 v2 w0 M (sb_t (by decide +kernel) hC) p0 e)
  obtain rfl := Option.some.inj e
  exact p0
theorem wf_Mod_build {C : Nat} {L : List Nat} {A : Mem} (v1 : Int32) (v2 : Int32) (M : Mem) (hC : sb 452313064276003762037012189247573786963786761996133043989307989761502216192 C)  (p0 : Fx C L A M) {r : (Int32 × Mem)} (e : f_Mod_build v1 v2 M = some r) : (fun r : Int32 × Mem => Fx C L A r.2) r := by
  unfold f_Mod_build at e
  obtain ⟨M1, e_M1, e⟩ := mo e
  have p_M1 : Fx C L A M1 := wi1 p0 e_M1 (tb1 hC (by decide +kernel))
  obtain ⟨x2, e_x2, e⟩ := bo e
  rcases io e with ⟨_, e⟩ | ⟨_, e⟩
  · obtain rfl := Option.some.inj e
    exact p_M1
  obtain ⟨x3, e_x3, e⟩ := bo e
  rcases io e with ⟨_, e⟩ | ⟨_, e⟩
  · obtain rfl := Option.some.inj e
    exact p_M1
  rcases io e with ⟨_, e⟩ | ⟨_, e⟩
  · exact (wj_Mod_build_39 v1 v2 (1 : Int32) M1 (sb_t (by decide +kernel) hC) p_M1 e)
  rcases io e with ⟨_, e⟩ | ⟨_, e⟩
  · exact (wj_Mod_build_39 v1 v2 (1 : Int32) M1 (sb_t (by decide +kernel) hC) p_M1 e)
  exact (wj_Mod_build_39 v1 v2 (0 : Int32) M1 (sb_t (by decide +kernel) hC) p_M1 e)
theorem wf_Mod_layPlank {C : Nat} {L : List Nat} {A : Mem} (v1 : Int32) (v2 : Int32) (M : Mem) (hC : sb 11692013098647223345629478661730264157247460343808 C)  (p0 : Fx C L A M) {r : (Mem)} (e : f_Mod_layPlank v1 v2 M = some r) : (fun r : Mem => Fx C L A r) r := by
  unfold f_Mod_layPlank at e
  obtain ⟨_, e⟩ := io_n e
  obtain ⟨M1, e_M1, e⟩ := mo e
  have p_M1 : Fx C L A M1 := wi p0 e_M1 (oc_c hC (by decide +kernel))
  obtain ⟨_, e⟩ := io_n e
  obtain ⟨M2, e_M2, e⟩ := mo e
  have p_M2 : Fx C L A M2 := wi p_M1 e_M2 (oc_c hC (by decide +kernel))
  obtain ⟨M3, e_M3, e⟩ := mo e
  have p_M3 : Fx C L A M3 := wi p_M2 e_M3 (oc_c hC (by decide +kernel))
  obtain rfl := Option.some.inj e
  exact p_M3
theorem wl_Mod_lay_2 {C : Nat} {L : List Nat} {A : Mem} (v0 : Nat) (v1 : Nat) (v2 : Int32) (s : Int32 × Mem) (hC : sb 0 C) (h_v1 : Oc C L (v1)) (p0 : Fx C L A s.2) {r : ((Int32 × Mem) ⊕ ((Mem)))} (e : lb_Mod_lay_2 v0 v1 v2 s = some r) : (Sum.elim (fun r : Int32 × Mem => Fx C L A r.2) (fun r : Mem => Fx C L A r)) r := by
  unfold lb_Mod_lay_2 at e
  rcases io e with ⟨_, e⟩ | ⟨_, e⟩
  · obtain rfl := Option.some.inj e
    exact p0
  obtain ⟨_, e⟩ := io_n e
  obtain ⟨_, e⟩ := io_n e
  obtain ⟨M1, e_M1, e⟩ := mo e
  have p_M1 : Fx C L A M1 := wi p0 e_M1 h_v1
  obtain rfl := Option.some.inj e
  exact p_M1
theorem wf_Mod_lay {C : Nat} {L : List Nat} {A : Mem} (v0 : Nat) (v1 : Nat) (v2 : Int32) (M : Mem) (hC : sb 0 C) (h_v1 : Oc C L (v1)) (p0 : Fx C L A M) {r : (Mem)} (e : f_Mod_lay v0 v1 v2 M = some r) : (fun r : Mem => Fx C L A r) r := by
  unfold f_Mod_lay at e
  obtain ⟨g_v0, e⟩ := io_n e
  obtain ⟨g_v1, e⟩ := io_n e
  obtain ⟨x3, e_x3, e⟩ := bo e
  have p_x3 : Fx C L A x3 := (it_r (I := fun s : Int32 × Mem => Fx C L A s.2) (Q := (fun r : Mem => Fx C L A r)) (fun s_ r_ hs_ er_ => wl_Mod_lay_2 v0 v1 v2 s_ (sb_t (by decide +kernel) hC) h_v1 hs_ er_) e_x3 p0)
  obtain rfl := Option.some.inj e
  exact p_x3
theorem wj_Mod_remember_49 {C : Nat} {L : List Nat} {A : Mem} (v1 : Nat) (M : Mem) (hC : sb 215679573337205130329957533710913751313683304992115076870228274053120 C)  (p0 : Fx C L A M) {r : (Mem)} (e : j_Mod_remember_49 v1 M = some r) : (fun r : Mem => Fx C L A r) r := by
  unfold j_Mod_remember_49 at e
  obtain ⟨x1, e_x1, e⟩ := bo e
  have p_x1 : Fx C L A x1 := (wf_Mod_lay v1 173 ((96 : Int32) * (M.1 162 27)) M (sb_t (by decide +kernel) hC) (oc_c hC (by decide +kernel)) p0 e_x1)
  obtain ⟨M2, e_M2, e⟩ := mo e
  have p_M2 : Fx C L A M2 := wi1 p_x1 e_M2 (tb1 hC (by decide +kernel))
  obtain rfl := Option.some.inj e
  exact p_M2
theorem wl_Mod_remember_11 {C : Nat} {L : List Nat} {A : Mem} (v1 : Nat) (s : Int32 × Mem) (hC : sb 11972621413014756705924586149611790497021399392059392 C)  (p0 : Fx C L A s.2) {r : ((Int32 × Mem) ⊕ ((Mem)))} (e : lb_Mod_remember_11 v1 s = some r) : (Sum.elim (fun r : Int32 × Mem => Fx C L A r.2) (fun r : Mem => Fx C L A r)) r := by
  unfold lb_Mod_remember_11 at e
  rcases io e with ⟨_, e⟩ | ⟨_, e⟩
  · obtain rfl := Option.some.inj e
    exact p0
  obtain ⟨_, e⟩ := io_n e
  obtain ⟨_, e⟩ := io_n e
  obtain ⟨M3, e_M3, e⟩ := mo e
  have p_M3 : Fx C L A M3 := wi p0 e_M3 (oc_c hC (by decide +kernel))
  obtain rfl := Option.some.inj e
  exact p_M3
theorem wf_Mod_remember {C : Nat} {L : List Nat} {A : Mem} (v1 : Nat) (M : Mem) (hC : sb 215679573337205130329957533710913751313683304992115076870228274053120 C)  (p0 : Fx C L A M) {r : (Mem)} (e : f_Mod_remember v1 M = some r) : (fun r : Mem => Fx C L A r) r := by
  unfold f_Mod_remember at e
  obtain ⟨g_v1, e⟩ := io_n e
  rcases io e with ⟨_, e⟩ | ⟨_, e⟩
  · obtain ⟨x5, e_x5, e⟩ := bo e
    have p_x5 : Fx C L A x5 := (it_r (I := fun s : Int32 × Mem => Fx C L A s.2) (Q := (fun r : Mem => Fx C L A r)) (fun s_ r_ hs_ er_ => wl_Mod_remember_11 v1 s_ (sb_t (by decide +kernel) hC) hs_ er_) e_x5 p0)
    obtain ⟨M6, e_M6, e⟩ := mo e
    have p_M6 : Fx C L A M6 := wi1 p_x5 e_M6 (tb1 hC (by decide +kernel))
    exact (wj_Mod_remember_49 v1 M6 (sb_t (by decide +kernel) hC) p_M6 e)
  exact (wj_Mod_remember_49 v1 M (sb_t (by decide +kernel) hC) p0 e)
theorem wf_Mod_plank {C : Nat} {L : List Nat} {A : Mem} (v1 : Int32) (v2 : Int32) (M : Mem) (hC : sb 215692737373663699989986786563021433463352645540770409666382523269120 C)  (p0 : Fx C L A M) {r : (Int32 × Mem)} (e : f_Mod_plank v1 v2 M = some r) : (fun r : Int32 × Mem => Fx C L A r.2) r := by
  unfold f_Mod_plank at e
  obtain ⟨M1, e_M1, e⟩ := mo e
  have p_M1 : Fx C L A M1 := wi1 p0 e_M1 (tb1 hC (by decide +kernel))
  obtain ⟨x2, e_x2, e⟩ := bo e
  rcases io e with ⟨_, e⟩ | ⟨_, e⟩
  · obtain ⟨x3, e_x3, e⟩ := bo e
    have p_x3 : Fx C L A x3 := (wf_Mod_remember 163 M1 (sb_t (by decide +kernel) hC) p_M1 e_x3)
    obtain ⟨x4, e_x4, e⟩ := bo e
    have p_x4 : Fx C L A x4 := (wf_Mod_layPlank v1 v2 x3 (sb_t (by decide +kernel) hC) p_x3 e_x4)
    obtain rfl := Option.some.inj e
    exact p_x4
  obtain rfl := Option.some.inj e
  exact p_M1
theorem wf_Mod_take {C : Nat} {L : List Nat} {A : Mem} (M : Mem) (hC : sb 215692737373663699989986786563021433463352645540770409666382523269120 C)  (p0 : Fx C L A M) {r : (Int32 × Mem)} (e : f_Mod_take M = some r) : (fun r : Int32 × Mem => Fx C L A r.2) r := by
  unfold f_Mod_take at e
  obtain ⟨M1, e_M1, e⟩ := mo e
  have p_M1 : Fx C L A M1 := wi1 p0 e_M1 (tb1 hC (by decide +kernel))
  rcases io e with ⟨_, e⟩ | ⟨_, e⟩
  · obtain rfl := Option.some.inj e
    exact p_M1
  obtain ⟨x2, e_x2, e⟩ := bo e
  have p_x2 : Fx C L A x2 := (wf_Mod_remember 163 M1 (sb_t (by decide +kernel) hC) p_M1 e_x2)
  obtain ⟨M3, e_M3, e⟩ := mo e
  have p_M3 : Fx C L A M3 := wi p_x2 e_M3 (oc_c hC (by decide +kernel))
  obtain rfl := Option.some.inj e
  exact p_M3
theorem wj_Mod_sheet_119_43 {C : Nat} {L : List Nat} {A : Mem} (v1 : Int32) (v2 : Int32) (v4 : Int32) (v5 : Int32) (v6 : Int32) (v7 : Int32) (w0 : Int32) (w1 : Int32) (M : Mem) (hC : sb 11692013098647223345629478661730264157247460343808 C)  (p0 : Fx C L A M) {r : ((Int32 × Int32 × Int32 × Mem) ⊕ ((Int32 × Mem)))} (e : j_Mod_sheet_119_43 v1 v2 v4 v5 v6 v7 w0 w1 M = some r) : (Sum.elim (fun r : Int32 × Int32 × Int32 × Mem => Fx C L A r.2.2.2) (fun r : Int32 × Mem => Fx C L A r.2)) r := by
  unfold j_Mod_sheet_119_43 at e
  obtain ⟨_, e⟩ := io_n e
  obtain ⟨M3, e_M3, e⟩ := mo e
  have p_M3 : Fx C L A M3 := wi p0 e_M3 (oc_c hC (by decide +kernel))
  obtain ⟨_, e⟩ := io_n e
  obtain rfl := Option.some.inj e
  exact p_M3
theorem wj_Mod_sheet_75_43 {C : Nat} {L : List Nat} {A : Mem} (v1 : Int32) (v2 : Int32) (v4 : Int32) (v5 : Int32) (v6 : Int32) (v7 : Int32) (w0 : Int32) (M : Mem) (hC : sb 11692013098647223345629478661730264157247460343808 C)  (p0 : Fx C L A M) {r : ((Int32 × Int32 × Int32 × Mem) ⊕ ((Int32 × Mem)))} (e : j_Mod_sheet_75_43 v1 v2 v4 v5 v6 v7 w0 M = some r) : (Sum.elim (fun r : Int32 × Int32 × Int32 × Mem => Fx C L A r.2.2.2) (fun r : Int32 × Mem => Fx C L A r.2)) r := by
  unfold j_Mod_sheet_75_43 at e
  rcases io e with ⟨_, e⟩ | ⟨_, e⟩
  · exact (wj_Mod_sheet_119_43 v1 v2 v4 v5 v6 v7 (0 : Int32) ((8 : Int32) + v7) M (sb_t (by decide +kernel) hC) p0 e)
  rcases io e with ⟨_, e⟩ | ⟨_, e⟩
  · obtain ⟨_, e⟩ := io_n e
    exact (wj_Mod_sheet_119_43 v1 v2 v4 v5 v6 v7 (if (0 : Int32) < (if w0 < ((M.1 166 v7.toNatClampNeg) - (1 : Int32)) then w0 else ((M.1 166 v7.toNatClampNeg) - (1 : Int32))) then (if w0 < ((M.1 166 v7.toNatClampNeg) - (1 : Int32)) then w0 else ((M.1 166 v7.toNatClampNeg) - (1 : Int32))) else (0 : Int32)) ((8 : Int32) + v7) M (sb_t (by decide +kernel) hC) p0 e)
  exact (wj_Mod_sheet_119_43 v1 v2 v4 v5 v6 v7 (0 : Int32) ((8 : Int32) + v7) M (sb_t (by decide +kernel) hC) p0 e)
theorem wl_Mod_sheet_43 {C : Nat} {L : List Nat} {A : Mem} (v1 : Int32) (v2 : Int32) (v4 : Int32) (s : Int32 × Int32 × Int32 × Mem) (hC : sb 11692013098647223345629478661730264157247460343808 C)  (p0 : Fx C L A s.2.2.2) {r : ((Int32 × Int32 × Int32 × Mem) ⊕ ((Int32 × Mem)))} (e : lb_Mod_sheet_43 v1 v2 v4 s = some r) : (Sum.elim (fun r : Int32 × Int32 × Int32 × Mem => Fx C L A r.2.2.2) (fun r : Int32 × Mem => Fx C L A r.2)) r := by
  unfold lb_Mod_sheet_43 at e
  rcases io e with ⟨_, e⟩ | ⟨_, e⟩
  · obtain rfl := Option.some.inj e
    exact p0
  rcases io e with ⟨_, e⟩ | ⟨_, e⟩
  · exact (wj_Mod_sheet_75_43 v1 v2 v4 s.1 s.2.1 s.2.2.1 s.2.1.toInt8.toInt32 s.2.2.2 (sb_t (by decide +kernel) hC) p0 e)
  rcases io e with ⟨_, e⟩ | ⟨_, e⟩
  · exact (wj_Mod_sheet_75_43 v1 v2 v4 s.1 s.2.1 s.2.2.1 s.2.1.toInt16.toInt32 s.2.2.2 (sb_t (by decide +kernel) hC) p0 e)
  exact (wj_Mod_sheet_75_43 v1 v2 v4 s.1 s.2.1 s.2.2.1 s.2.1 s.2.2.2 (sb_t (by decide +kernel) hC) p0 e)
