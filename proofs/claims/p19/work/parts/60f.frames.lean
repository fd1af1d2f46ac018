/-! frames -/
theorem wf_Mod_putMay {C : Nat} {L : List Nat} {A : Mem} (v1 : Nat) (M : Mem) (hC : sb 6582018229668322198255505655966048920035696126892036152671338496 C)  (p0 : Fx C L A M) {r : (Mem)} (e : f_Mod_putMay v1 M = some r) : (fun r : Mem => Fx C L A r) r := by
  unfold f_Mod_putMay at e
  obtain ⟨g_v1, e⟩ := io_n e
  obtain ⟨x11, e_x11, e⟩ := bo e
  have p_x11 : Fx C L A x11 := (it_r (I := fun s : Int32 × Mem => Fx C L A s.2) (Q := (fun r : Mem => Fx C L A r)) (fun s_ r_ hs_ er_ => wl_Mod_putMay_2 v1 s_ (sb_t (by decide +kernel) hC) hs_ er_) e_x11 p0)
  obtain rfl := Option.some.inj e
  exact p_x11
theorem wj_Mod_flees_47 {C : Nat} {L : List Nat} {A : Mem} (w0 : Int32) (M : Mem) (hC : sb 6582018229668322198255505655966048920035696126892036152671338496 C)  (p0 : Fx C L A M) {r : (Int32 × Mem)} (e : j_Mod_flees_47 w0 M = some r) : (fun r : Int32 × Mem => Fx C L A r.2) r := by
  unfold j_Mod_flees_47 at e
  obtain ⟨M6, e_M6, e⟩ := mo e
  have p_M6 : Fx C L A M6 := wi1 p0 e_M6 (tb1 hC (by decide +kernel))
  obtain ⟨x7, e_x7, e⟩ := bo e
  have p_x7 : Fx C L A x7 := (wf_Mod_putMay 186 M6 (sb_t (by decide +kernel) hC) p_M6 e_x7)
  rcases io e with ⟨_, e⟩ | ⟨_, e⟩
  · obtain rfl := Option.some.inj e
    exact p_x7
  obtain rfl := Option.some.inj e
  exact p_x7
theorem wf_Mod_flees {C : Nat} {L : List Nat} {A : Mem} (v1 : Int32) (v2 : Int32) (v3 : Int32) (M : Mem) (hC : sb 6120743809758609124481674339505979483644965174746694943580454284951552 C)  (p0 : Fx C L A M) {r : (Int32 × Mem)} (e : f_Mod_flees v1 v2 v3 M = some r) : (fun r : Int32 × Mem => Fx C L A r.2) r := by
  unfold f_Mod_flees at e
  obtain ⟨M1, e_M1, e⟩ := mo e
  have p_M1 : Fx C L A M1 := wi1 p0 e_M1 (tb1 hC (by decide +kernel))
  obtain ⟨x2, e_x2, e⟩ := bo e
  rcases io e with ⟨_, e⟩ | ⟨_, e⟩
  · obtain rfl := Option.some.inj e
    exact p_M1
  obtain ⟨x3, e_x3, e⟩ := bo e
  rcases io e with ⟨_, e⟩ | ⟨_, e⟩
  · obtain rfl := Option.some.inj e
    exact p_M1
  obtain ⟨x4, e_x4, e⟩ := bo e
  obtain ⟨x5, e_x5, e⟩ := bo e
  have p_x5 : Fx C L A x5.2 := (wf_Mod_thiefIn x4 v3 M1 (sb_t (by decide +kernel) hC) p_M1 e_x5)
  rcases io e with ⟨_, e⟩ | ⟨_, e⟩
  · exact (wj_Mod_flees_47 (1 : Int32) x5.2 (sb_t (by decide +kernel) hC) p_x5 e)
  exact (wj_Mod_flees_47 (0 : Int32) x5.2 (sb_t (by decide +kernel) hC) p_x5 e)
theorem wj_Mod_lairs_64_21 {C : Nat} {L : List Nat} {A : Mem} (v1 : Int32) (v2 : Int32) (v3 : Int32) (w0 : Int32) (w1 : Int32) (M : Mem) (hC : sb 392318858461667547739736838950479151006397215279002157056 C)  (p0 : Fx C L A M) {r : ((Int32 × Int32 × Mem) ⊕ ((Int32 × Mem)))} (e : j_Mod_lairs_64_21 v1 v2 v3 w0 w1 M = some r) : (Sum.elim (fun r : Int32 × Int32 × Mem => Fx C L A r.2.2) (fun r : Int32 × Mem => Fx C L A r.2)) r := by
  unfold j_Mod_lairs_64_21 at e
  obtain ⟨_, e⟩ := io_n e
  obtain ⟨M6, e_M6, e⟩ := mo e
  have p_M6 : Fx C L A M6 := wi p0 e_M6 (oc_c hC (by decide +kernel))
  obtain ⟨_, e⟩ := io_n e
  rcases io e with ⟨_, e⟩ | ⟨_, e⟩
  · obtain rfl := Option.some.inj e
    exact p_M6
  obtain rfl := Option.some.inj e
  exact p_M6
theorem wl_Mod_lairs_21 {C : Nat} {L : List Nat} {A : Mem} (v1 : Int32) (s : Int32 × Int32 × Mem) (hC : sb 6120724063704313205369600511794602795630955756314649380120673826897920 C)  (p0 : Fx C L A s.2.2) {r : ((Int32 × Int32 × Mem) ⊕ ((Int32 × Mem)))} (e : lb_Mod_lairs_21 v1 s = some r) : (Sum.elim (fun r : Int32 × Int32 × Mem => Fx C L A r.2.2) (fun r : Int32 × Mem => Fx C L A r.2)) r := by
  unfold lb_Mod_lairs_21 at e
  rcases io e with ⟨_, e⟩ | ⟨_, e⟩
  · obtain rfl := Option.some.inj e
    exact p0
  obtain ⟨x3, e_x3, e⟩ := bo e
  obtain ⟨x4, e_x4, e⟩ := bo e
  obtain ⟨x5, e_x5, e⟩ := bo e
  rcases io e with ⟨_, e⟩ | ⟨_, e⟩
  · exact (wj_Mod_lairs_64_21 v1 s.1 s.2.1 (0 : Int32) s.2.1 s.2.2 (sb_t (by decide +kernel) hC) p0 e)
  obtain ⟨x8, e_x8, e⟩ := bo e
  have p_x8 : Fx C L A x8.2 := (wf_Mod_thiefIn s.2.1 v1 s.2.2 (sb_t (by decide +kernel) hC) p0 e_x8)
  rcases io e with ⟨_, e⟩ | ⟨_, e⟩
  · exact (wj_Mod_lairs_64_21 v1 s.1 s.2.1 (1 : Int32) s.2.1 x8.2 (sb_t (by decide +kernel) hC) p_x8 e)
  exact (wj_Mod_lairs_64_21 v1 s.1 s.2.1 (0 : Int32) s.2.1 x8.2 (sb_t (by decide +kernel) hC) p_x8 e)
theorem wf_Mod_lairs {C : Nat} {L : List Nat} {A : Mem} (v1 : Int32) (M : Mem) (hC : sb 6120743809759001443340136007053719220483915653897701340795733287108608 C)  (p0 : Fx C L A M) {r : (Int32 × Mem)} (e : f_Mod_lairs v1 M = some r) : (fun r : Int32 × Mem => Fx C L A r.2) r := by
  unfold f_Mod_lairs at e
  obtain ⟨M1, e_M1, e⟩ := mo e
  have p_M1 : Fx C L A M1 := wi1 p0 e_M1 (tb1 hC (by decide +kernel))
  obtain ⟨x2, e_x2, e⟩ := bo e
  rcases io e with ⟨_, e⟩ | ⟨_, e⟩
  · obtain rfl := Option.some.inj e
    exact p_M1
  obtain ⟨x12, e_x12, e⟩ := bo e
  have p_x12 : Fx C L A x12.2 := (it_r (I := fun s : Int32 × Int32 × Mem => Fx C L A s.2.2) (Q := (fun r : Int32 × Mem => Fx C L A r.2)) (fun s_ r_ hs_ er_ => wl_Mod_lairs_21 v1 s_ (sb_t (by decide +kernel) hC) hs_ er_) e_x12 p_M1)
  obtain ⟨M13, e_M13, e⟩ := mo e
  have p_M13 : Fx C L A M13 := wi1 p_x12 e_M13 (tb1 hC (by decide +kernel))
  obtain ⟨x14, e_x14, e⟩ := bo e
  have p_x14 : Fx C L A x14 := (wf_Mod_putMay 188 M13 (sb_t (by decide +kernel) hC) p_M13 e_x14)
  obtain rfl := Option.some.inj e
  exact p_x14
theorem wf_Mod_caught {C : Nat} {L : List Nat} {A : Mem} (v1 : Int32) (v2 : Int32) (M : Mem) (hC : sb 6120737227740379456159476084000323517596045139050568051544301613613056 C)  (p0 : Fx C L A M) {r : (Int32 × Mem)} (e : f_Mod_caught v1 v2 M = some r) : (fun r : Int32 × Mem => Fx C L A r.2) r := by
  unfold f_Mod_caught at e
  obtain ⟨M1, e_M1, e⟩ := mo e
  have p_M1 : Fx C L A M1 := wi1 p0 e_M1 (tb1 hC (by decide +kernel))
  obtain ⟨x2, e_x2, e⟩ := bo e
  rcases io e with ⟨_, e⟩ | ⟨_, e⟩
  · obtain rfl := Option.some.inj e
    exact p_M1
  obtain ⟨x3, e_x3, e⟩ := bo e
  obtain ⟨x4, e_x4, e⟩ := bo e
  have p_x4 : Fx C L A x4.2 := (wf_Mod_thiefIn x3 (30 : Int32) M1 (sb_t (by decide +kernel) hC) p_M1 e_x4)
  rcases io e with ⟨_, e⟩ | ⟨_, e⟩
  · obtain rfl := Option.some.inj e
    exact p_x4
  obtain rfl := Option.some.inj e
  exact p_x4
theorem wf_Mod_enter {C : Nat} {L : List Nat} {A : Mem} (v1 : Int32) (v2 : Int32) (M : Mem) (hC : sb 98079714615416886934934209737619787751599303819750539264 C)  (p0 : Fx C L A M) {r : (Int32 × Mem)} (e : f_Mod_enter v1 v2 M = some r) : (fun r : Int32 × Mem => Fx C L A r.2) r := by
  unfold f_Mod_enter at e
  rcases io e with ⟨_, e⟩ | ⟨_, e⟩
  · obtain rfl := Option.some.inj e
    exact p0
  obtain ⟨_, e⟩ := io_n e
  rcases io e with ⟨_, e⟩ | ⟨_, e⟩
  · obtain ⟨x1, e_x1, e⟩ := bo e
    rcases io e with ⟨_, e⟩ | ⟨_, e⟩
    · obtain ⟨_, e⟩ := io_n e
      obtain ⟨M2, e_M2, e⟩ := mo e
      have p_M2 : Fx C L A M2 := wi p0 e_M2 (oc_c hC (by decide +kernel))
      obtain rfl := Option.some.inj e
      exact p_M2
    obtain rfl := Option.some.inj e
    exact p0
  obtain rfl := Option.some.inj e
  exact p0
theorem wl_Mod_gets_3 {C : Nat} {L : List Nat} {A : Mem} (v1 : Int32) (v2 : Int32) (v3 : Int32) (s : Int32 × Mem) (hC : sb 98079714615416886934934209737619787751599303819750539264 C)  (p0 : Fx C L A s.2) {r : ((Int32 × Mem) ⊕ ((Mem)))} (e : lb_Mod_gets_3 v1 v2 v3 s = some r) : (Sum.elim (fun r : Int32 × Mem => Fx C L A r.2) (fun r : Mem => Fx C L A r)) r := by
  unfold lb_Mod_gets_3 at e
  rcases io e with ⟨_, e⟩ | ⟨_, e⟩
  · obtain rfl := Option.some.inj e
    exact p0
  rcases io e with ⟨_, e⟩ | ⟨_, e⟩
  · obtain ⟨_, e⟩ := io_n e
    obtain ⟨M2, e_M2, e⟩ := mo e
    have p_M2 : Fx C L A M2 := wi p0 e_M2 (oc_c hC (by decide +kernel))
    obtain rfl := Option.some.inj e
    exact p_M2
  obtain ⟨_, e⟩ := io_n e
  obtain ⟨M1, e_M1, e⟩ := mo e
  have p_M1 : Fx C L A M1 := wi p0 e_M1 (oc_c hC (by decide +kernel))
  obtain rfl := Option.some.inj e
  exact p_M1
theorem wl_Mod_gets_71 {C : Nat} {L : List Nat} {A : Mem} (v2 : Int32) (v3 : Int32) (v5 : Int32) (s : Int32 × Int32 × Mem) (hC : sb 98079714615416886934934209737619787751599303819750539264 C)  (p0 : Fx C L A s.2.2) {r : ((Int32 × Int32 × Mem) ⊕ ((Int32 × Mem)))} (e : lb_Mod_gets_71 v2 v3 v5 s = some r) : (Sum.elim (fun r : Int32 × Int32 × Mem => Fx C L A r.2.2) (fun r : Int32 × Mem => Fx C L A r.2)) r := by
  unfold lb_Mod_gets_71 at e
  rcases io e with ⟨_, e⟩ | ⟨_, e⟩
  · obtain rfl := Option.some.inj e
    exact p0
  obtain ⟨x6, e_x6, e⟩ := bo e
  obtain ⟨x7, e_x7, e⟩ := bo e
  have p_x7 : Fx C L A x7.2 := (wf_Mod_enter x6 v3 s.2.2 (sb_t (by decide +kernel) hC) p0 e_x7)
  obtain rfl := Option.some.inj e
  exact p_x7
theorem wl_Mod_gets_48 {C : Nat} {L : List Nat} {A : Mem} (v2 : Int32) (v3 : Int32) (s : Int32 × Int32 × Mem) (hC : sb 98079714615416886934934209737619787751599303819750539264 C)  (p0 : Fx C L A s.2.2) {r : ((Int32 × Int32 × Mem) ⊕ ((Int32 × Mem)))} (e : lb_Mod_gets_48 v2 v3 s = some r) : (Sum.elim (fun r : Int32 × Int32 × Mem => Fx C L A r.2.2) (fun r : Int32 × Mem => Fx C L A r.2)) r := by
  unfold lb_Mod_gets_48 at e
  rcases io e with ⟨_, e⟩ | ⟨_, e⟩
  · obtain rfl := Option.some.inj e
    exact p0
  obtain ⟨_, e⟩ := io_n e
  rcases io e with ⟨_, e⟩ | ⟨_, e⟩
  · obtain rfl := Option.some.inj e
    exact p0
  obtain ⟨x9, e_x9, e⟩ := bo e
  have p_x9 : Fx C L A x9.2 := (it_r (I := fun s : Int32 × Int32 × Mem => Fx C L A s.2.2) (Q := (fun r : Int32 × Mem => Fx C L A r.2)) (fun s_ r_ hs_ er_ => wl_Mod_gets_71 v2 v3 s.2.1 s_ (sb_t (by decide +kernel) hC) hs_ er_) e_x9 p0)
  obtain ⟨x10, e_x10, e⟩ := bo e
  obtain ⟨_, e⟩ := io_n e
  rcases io e with ⟨_, e⟩ | ⟨_, e⟩
  · obtain ⟨x11, e_x11, e⟩ := bo e
    obtain ⟨x12, e_x12, e⟩ := bo e
    obtain ⟨x13, e_x13, e⟩ := bo e
    obtain ⟨x14, e_x14, e⟩ := bo e
    have p_x14 : Fx C L A x14.2 := (wf_Mod_enter x13 v3 x9.2 (sb_t (by decide +kernel) hC) p_x9 e_x14)
    obtain rfl := Option.some.inj e
    exact p_x14
  obtain rfl := Option.some.inj e
  exact p_x9
theorem wl_Mod_gets_37 {C : Nat} {L : List Nat} {A : Mem} (v2 : Int32) (v3 : Int32) (s : Int32 × Mem) (hC : sb 98079714615416886934934209737619787751599303819750539264 C)  (p0 : Fx C L A s.2) {r : ((Int32 × Mem) ⊕ ((Mem)))} (e : lb_Mod_gets_37 v2 v3 s = some r) : (Sum.elim (fun r : Int32 × Mem => Fx C L A r.2) (fun r : Mem => Fx C L A r)) r := by
  unfold lb_Mod_gets_37 at e
  rcases io e with ⟨_, e⟩ | ⟨_, e⟩
  · obtain rfl := Option.some.inj e
    exact p0
  obtain ⟨x18, e_x18, e⟩ := bo e
  have p_x18 : Fx C L A x18.2 := (it_r (I := fun s : Int32 × Int32 × Mem => Fx C L A s.2.2) (Q := (fun r : Int32 × Mem => Fx C L A r.2)) (fun s_ r_ hs_ er_ => wl_Mod_gets_48 v2 v3 s_ (sb_t (by decide +kernel) hC) hs_ er_) e_x18 p0)
  obtain rfl := Option.some.inj e
  exact p_x18
theorem wf_Mod_gets {C : Nat} {L : List Nat} {A : Mem} (v1 : Int32) (v2 : Int32) (v3 : Int32) (M : Mem) (hC : sb 98079714615416886934934209737619787751599303819750539264 C)  (p0 : Fx C L A M) {r : (Int32 × Mem)} (e : f_Mod_gets v1 v2 v3 M = some r) : (fun r : Int32 × Mem => Fx C L A r.2) r := by
  unfold f_Mod_gets at e
  obtain ⟨x5, e_x5, e⟩ := bo e
  have p_x5 : Fx C L A x5 := (it_r (I := fun s : Int32 × Mem => Fx C L A s.2) (Q := (fun r : Mem => Fx C L A r)) (fun s_ r_ hs_ er_ => wl_Mod_gets_3 v1 v2 v3 s_ (sb_t (by decide +kernel) hC) hs_ er_) e_x5 p0)
  obtain ⟨x20, e_x20, e⟩ := bo e
  have p_x20 : Fx C L A x20 := (it_r (I := fun s : Int32 × Mem => Fx C L A s.2) (Q := (fun r : Mem => Fx C L A r)) (fun s_ r_ hs_ er_ => wl_Mod_gets_37 v2 v3 s_ (sb_t (by decide +kernel) hC) hs_ er_) e_x20 p_x5)
  obtain ⟨_, e⟩ := io_n e
  obtain ⟨_, e⟩ := io_n e
  obtain rfl := Option.some.inj e
  exact p_x20
theorem wj_Mod_watch_65_32 {C : Nat} {L : List Nat} {A : Mem} (v1 : Int32) (v2 : Int32) (v3 : Int32) (v4 : Int32) (v5 : Int32) (v6 : Int32) (M : Mem) (hC : sb 98079714615416886934934209737619787751599303819750539264 C)  (p0 : Fx C L A M) {r : ((Int32 × Int32 × Mem) ⊕ ((Int32 × Mem)))} (e : j_Mod_watch_65_32 v1 v2 v3 v4 v5 v6 M = some r) : (Sum.elim (fun r : Int32 × Int32 × Mem => Fx C L A r.2.2) (fun r : Int32 × Mem => Fx C L A r.2)) r := by
  unfold j_Mod_watch_65_32 at e
  obtain ⟨x4, e_x4, e⟩ := bo e
  obtain ⟨x5, e_x5, e⟩ := bo e
  obtain ⟨x6, e_x6, e⟩ := bo e
  have p_x6 : Fx C L A x6.2 := (wf_Mod_gets x4 x5 v6 M (sb_t (by decide +kernel) hC) p0 e_x6)
  rcases io e with ⟨_, e⟩ | ⟨_, e⟩
  · obtain rfl := Option.some.inj e
    exact p_x6
  obtain rfl := Option.some.inj e
  exact p_x6
theorem wl_Mod_watch_32 {C : Nat} {L : List Nat} {A : Mem} (v1 : Int32) (v2 : Int32) (v3 : Int32) (v4 : Int32) (s : Int32 × Int32 × Mem) (hC : sb 98079714615416886934934209737619787751599303819750539264 C)  (p0 : Fx C L A s.2.2) {r : ((Int32 × Int32 × Mem) ⊕ ((Int32 × Mem)))} (e : lb_Mod_watch_32 v1 v2 v3 v4 s = some r) : (Sum.elim (fun r : Int32 × Int32 × Mem => Fx C L A r.2.2) (fun r : Int32 × Mem => Fx C L A r.2)) r := by
  unfold lb_Mod_watch_32 at e
  rcases io e with ⟨_, e⟩ | ⟨_, e⟩
  · obtain rfl := Option.some.inj e
    exact p0
  rcases io e with ⟨_, e⟩ | ⟨_, e⟩
  · exact (wj_Mod_watch_65_32 v1 v2 v3 v4 s.1 s.2.1 s.2.2 (sb_t (by decide +kernel) hC) p0 e)
  obtain ⟨x8, e_x8, e⟩ := bo e
  obtain ⟨x9, e_x9, e⟩ := bo e
  rcases io e with ⟨_, e⟩ | ⟨_, e⟩
  · exact (wj_Mod_watch_65_32 v1 v2 v3 v4 s.1 s.2.1 s.2.2 (sb_t (by decide +kernel) hC) p0 e)
  obtain rfl := Option.some.inj e
  exact p0
theorem wf_Mod_watch {C : Nat} {L : List Nat} {A : Mem} (v1 : Int32) (v2 : Int32) (v3 : Int32) (v4 : Int32) (M : Mem) (hC : sb 19746054785934561265695673836769475940729793507655294098664849408 C)  (p0 : Fx C L A M) {r : (Int32 × Mem)} (e : f_Mod_watch v1 v2 v3 v4 M = some r) : (fun r : Int32 × Mem => Fx C L A r.2) r := by
  unfold f_Mod_watch at e
  obtain ⟨M1, e_M1, e⟩ := mo e
  have p_M1 : Fx C L A M1 := wi1 p0 e_M1 (tb1 hC (by decide +kernel))
  obtain ⟨x2, e_x2, e⟩ := bo e
  rcases io e with ⟨_, e⟩ | ⟨_, e⟩
  · obtain rfl := Option.some.inj e
    exact p_M1
  obtain ⟨x3, e_x3, e⟩ := bo e
  rcases io e with ⟨_, e⟩ | ⟨_, e⟩
  · obtain rfl := Option.some.inj e
    exact p_M1
  obtain ⟨x13, e_x13, e⟩ := bo e
  have p_x13 : Fx C L A x13.2 := (it_r (I := fun s : Int32 × Int32 × Mem => Fx C L A s.2.2) (Q := (fun r : Int32 × Mem => Fx C L A r.2)) (fun s_ r_ hs_ er_ => wl_Mod_watch_32 v1 v2 v3 v4 s_ (sb_t (by decide +kernel) hC) hs_ er_) e_x13 p_M1)
  rcases io e with ⟨_, e⟩ | ⟨_, e⟩
  · obtain rfl := Option.some.inj e
    exact p_x13
  obtain ⟨M14, e_M14, e⟩ := mo e
  have p_M14 : Fx C L A M14 := wi1 p_x13 e_M14 (tb1 hC (by decide +kernel))
  obtain ⟨x15, e_x15, e⟩ := bo e
  have p_x15 : Fx C L A x15 := (wf_Mod_put x13.1 M14 (sb_t (by decide +kernel) hC) p_M14 e_x15)
  obtain ⟨x16, e_x16, e⟩ := bo e
  obtain rfl := Option.some.inj e
  exact p_x15
theorem wf_Mod_keep {C : Nat} {L : List Nat} {A : Mem} (v1 : Int32) (M : Mem) (hC : sb 13164041951033666800585421816774549346570001014629652812819070976 C)  (p0 : Fx C L A M) {r : (Int32 × Mem)} (e : f_Mod_keep v1 M = some r) : (fun r : Int32 × Mem => Fx C L A r.2) r := by
  unfold f_Mod_keep at e
  obtain ⟨M1, e_M1, e⟩ := mo e
  have p_M1 : Fx C L A M1 := wi1 p0 e_M1 (tb1 hC (by decide +kernel))
  obtain ⟨x2, e_x2, e⟩ := bo e
  rcases io e with ⟨_, e⟩ | ⟨_, e⟩
  · obtain rfl := Option.some.inj e
    exact p_M1
  obtain ⟨_, e⟩ := io_n e
  obtain ⟨M3, e_M3, e⟩ := mo e
  have p_M3 : Fx C L A M3 := wi p_M1 e_M3 (oc_c hC (by decide +kernel))
  obtain ⟨_, e⟩ := io_n e
  obtain ⟨M4, e_M4, e⟩ := mo e
  have p_M4 : Fx C L A M4 := wi p_M3 e_M4 (oc_c hC (by decide +kernel))
  obtain ⟨x5, e_x5, e⟩ := bo e
  have p_x5 : Fx C L A x5 := (wf_Mod_lay 163 189 ((96 : Int32) * v1) M4 (sb_t (by decide +kernel) hC) (oc_c hC (by decide +kernel)) p_M4 e_x5)
  obtain rfl := Option.some.inj e
  exact p_x5
theorem wl_Mod_again_40 {C : Nat} {L : List Nat} {A : Mem} (v1 : Int32) (s : Int32 × Mem) (hC : sb 11692013098647223345629478661730264157247460343808 C)  (p0 : Fx C L A s.2) {r : ((Int32 × Mem) ⊕ ((Mem)))} (e : lb_Mod_again_40 v1 s = some r) : (Sum.elim (fun r : Int32 × Mem => Fx C L A r.2) (fun r : Mem => Fx C L A r)) r := by
  unfold lb_Mod_again_40 at e
  rcases io e with ⟨_, e⟩ | ⟨_, e⟩
  · obtain rfl := Option.some.inj e
    exact p0
  obtain ⟨_, e⟩ := io_n e
  obtain ⟨_, e⟩ := io_n e
  obtain ⟨M3, e_M3, e⟩ := mo e
  have p_M3 : Fx C L A M3 := wi p0 e_M3 (oc_c hC (by decide +kernel))
  obtain rfl := Option.some.inj e
  exact p_M3
theorem wf_Mod_again {C : Nat} {L : List Nat} {A : Mem} (v1 : Int32) (M : Mem) (hC : sb 215692737373663688017365373548264727538766495928979912644983131209728 C)  (p0 : Fx C L A M) {r : (Int32 × Mem)} (e : f_Mod_again v1 M = some r) : (fun r : Int32 × Mem => Fx C L A r.2) r := by
  unfold f_Mod_again at e
  obtain ⟨M1, e_M1, e⟩ := mo e
  have p_M1 : Fx C L A M1 := wi1 p0 e_M1 (tb1 hC (by decide +kernel))
  obtain ⟨x2, e_x2, e⟩ := bo e
  rcases io e with ⟨_, e⟩ | ⟨_, e⟩
  · obtain rfl := Option.some.inj e
    exact p_M1
  obtain ⟨_, e⟩ := io_n e
  rcases io e with ⟨_, e⟩ | ⟨_, e⟩
  · obtain rfl := Option.some.inj e
    exact p_M1
  obtain ⟨_, e⟩ := io_n e
  rcases io e with ⟨_, e⟩ | ⟨_, e⟩
  · obtain ⟨x5, e_x5, e⟩ := bo e
    have p_x5 : Fx C L A x5 := (it_r (I := fun s : Int32 × Mem => Fx C L A s.2) (Q := (fun r : Mem => Fx C L A r)) (fun s_ r_ hs_ er_ => wl_Mod_again_40 v1 s_ (sb_t (by decide +kernel) hC) hs_ er_) e_x5 p_M1)
    obtain ⟨M6, e_M6, e⟩ := mo e
    have p_M6 : Fx C L A M6 := wi1 p_x5 e_M6 (tb1 hC (by decide +kernel))
    obtain rfl := Option.some.inj e
    exact p_M6
  obtain rfl := Option.some.inj e
  exact p_M1
theorem wf_Mod_count {C : Nat} {L : List Nat} {A : Mem} (v1 : Int32) (M : Mem) (hC : sb 13164036458569648337239753460458804039861886925068638906788872192 C)  (p0 : Fx C L A M) {r : (Int32 × Mem)} (e : f_Mod_count v1 M = some r) : (fun r : Int32 × Mem => Fx C L A r.2) r := by
  unfold f_Mod_count at e
  obtain ⟨M1, e_M1, e⟩ := mo e
  have p_M1 : Fx C L A M1 := wi1 p0 e_M1 (tb1 hC (by decide +kernel))
  rcases io e with ⟨_, e⟩ | ⟨_, e⟩
  · obtain ⟨x2, e_x2, e⟩ := bo e
    obtain rfl := Option.some.inj e
    exact p_M1
  rcases io e with ⟨_, e⟩ | ⟨_, e⟩
  · obtain rfl := Option.some.inj e
    exact p_M1
  rcases io e with ⟨_, e⟩ | ⟨_, e⟩
  · obtain rfl := Option.some.inj e
    exact p_M1
  rcases io e with ⟨_, e⟩ | ⟨_, e⟩
  · obtain rfl := Option.some.inj e
    exact p_M1
  rcases io e with ⟨_, e⟩ | ⟨_, e⟩
  · obtain rfl := Option.some.inj e
    exact p_M1
  rcases io e with ⟨_, e⟩ | ⟨_, e⟩
  · obtain rfl := Option.some.inj e
    exact p_M1
  rcases io e with ⟨_, e⟩ | ⟨_, e⟩
  · obtain rfl := Option.some.inj e
    exact p_M1
  rcases io e with ⟨_, e⟩ | ⟨_, e⟩
  · obtain rfl := Option.some.inj e
    exact p_M1
  rcases io e with ⟨_, e⟩ | ⟨_, e⟩
  · obtain ⟨x13, e_x13, e⟩ := bo e
    obtain rfl := Option.some.inj e
    exact p_M1
  rcases io e with ⟨_, e⟩ | ⟨_, e⟩
  · obtain rfl := Option.some.inj e
    exact p_M1
  rcases io e with ⟨_, e⟩ | ⟨_, e⟩
  · obtain rfl := Option.some.inj e
    exact p_M1
  rcases io e with ⟨_, e⟩ | ⟨_, e⟩
  · obtain rfl := Option.some.inj e
    exact p_M1
  rcases io e with ⟨_, e⟩ | ⟨_, e⟩
  · obtain rfl := Option.some.inj e
    exact p_M1
  obtain rfl := Option.some.inj e
  exact p_M1
theorem wf_Mod_row {C : Nat} {L : List Nat} {A : Mem} (v1 : Int32) (M : Mem) (hC : sb 13164036458569648337239753460458804039861886925068638906788872192 C)  (p0 : Fx C L A M) {r : (Int32 × Mem)} (e : f_Mod_row v1 M = some r) : (fun r : Int32 × Mem => Fx C L A r.2) r := by
  unfold f_Mod_row at e
  obtain ⟨M1, e_M1, e⟩ := mo e
  have p_M1 : Fx C L A M1 := wi1 p0 e_M1 (tb1 hC (by decide +kernel))
  obtain ⟨x2, e_x2, e⟩ := bo e
  rcases io e with ⟨_, e⟩ | ⟨_, e⟩
  · obtain ⟨x3, e_x3, e⟩ := bo e
    have p_x3 : Fx C L A x3.2 := (wf_Mod_lost M1 (sb_t (by decide +kernel) hC) p_M1 e_x3)
    obtain rfl := Option.some.inj e
    exact p_x3
  obtain ⟨_, e⟩ := io_n e
  obtain rfl := Option.some.inj e
  exact p_M1
theorem wf_Top_sign {C : Nat} {L : List Nat} {A : Mem} (v1 : Int32) (M : Mem) (hC : sb 3794275180128377091639574036764685364535950857523710002444946112771297432041422852 C)  (p0 : Fx C L A M) {r : (Int32 × Mem)} (e : f_Top_sign v1 M = some r) : (fun r : Int32 × Mem => Fx C L A r.2) r := by
  unfold f_Top_sign at e
  obtain ⟨x1, e_x1, e⟩ := bo e
  have p_x1 : Fx C L A x1.2 := (wf_Signs_add v1 M (sb_t (by decide +kernel) hC) p0 e_x1)
  rcases io e with ⟨_, e⟩ | ⟨_, e⟩
  · obtain rfl := Option.some.inj e
    exact p_x1
  obtain rfl := Option.some.inj e
  exact p_x1
theorem wf_Top_end {C : Nat} {L : List Nat} {A : Mem} (v1 : Int32) (M : Mem) (hC : sb 3794275180128377091639574036764685364535950857523710002444946112771297432041422848 C)  (p0 : Fx C L A M) {r : (Int32 × Mem)} (e : f_Top_end v1 M = some r) : (fun r : Int32 × Mem => Fx C L A r.2) r := by
  unfold f_Top_end at e
  rcases io e with ⟨_, e⟩ | ⟨_, e⟩
  · obtain rfl := Option.some.inj e
    exact p0
  rcases io e with ⟨_, e⟩ | ⟨_, e⟩
  · obtain ⟨M1, e_M1, e⟩ := mo e
    have p_M1 : Fx C L A M1 := wi1 p0 e_M1 (tb1 hC (by decide +kernel))
    obtain rfl := Option.some.inj e
    exact p_M1
  obtain rfl := Option.some.inj e
  exact p0
theorem wf_Top_town {C : Nat} {L : List Nat} {A : Mem} (M : Mem) (hC : sb 102552433394027350449002704298260884017470921964763563113412694891462386257052779449094272268171312 C)  (p0 : Fx C L A M) {r : (Int32 × Mem)} (e : f_Top_town M = some r) : (fun r : Int32 × Mem => Fx C L A r.2) r := by
  unfold f_Top_town at e
  obtain ⟨x1, e_x1, e⟩ := bo e
  have p_x1 : Fx C L A x1.2 := (wf_Ground_read M (sb_t (by decide +kernel) hC) p0 e_x1)
  obtain ⟨M2, e_M2, e⟩ := mo e
  have p_M2 : Fx C L A M2 := wi1 p_x1 e_M2 (tb1 hC (by decide +kernel))
  rcases io e with ⟨_, e⟩ | ⟨_, e⟩
  · obtain ⟨x3, e_x3, e⟩ := bo e
    have p_x3 : Fx C L A x3 := (wf_Crowd_clear M2 (sb_t (by decide +kernel) hC) p_M2 e_x3)
    obtain ⟨x4, e_x4, e⟩ := bo e
    have p_x4 : Fx C L A x4 := (wf_Scene_clear 11 x3 (sb_t (by decide +kernel) hC) (oc_c hC (by decide +kernel)) (oc_c hC (by decide +kernel)) (oc_c hC (by decide +kernel)) (oc_c hC (by decide +kernel)) (oc_c hC (by decide +kernel)) p_x3 e_x4)
    obtain ⟨x5, e_x5, e⟩ := bo e
    have p_x5 : Fx C L A x5 := (wf_History_clear x4 (sb_t (by decide +kernel) hC) p_x4 e_x5)
    obtain ⟨M6, e_M6, e⟩ := mo e
    have p_M6 : Fx C L A M6 := wi1 p_x5 e_M6 (tb1 hC (by decide +kernel))
    obtain ⟨x7, e_x7, e⟩ := bo e
    have p_x7 : Fx C L A x7 := (wf_Nets_lay 32 11 (-1 : Int32) M6 (sb_t (by decide +kernel) hC) (oc_c hC (by decide +kernel)) (oc_c hC (by decide +kernel)) (oc_c hC (by decide +kernel)) p_M6 e_x7)
    obtain rfl := Option.some.inj e
    exact p_x7
  obtain rfl := Option.some.inj e
  exact p_M2
theorem wj_Top_folk_89_48 {C : Nat} {L : List Nat} {A : Mem} (v1 : Int32) (v3 : Int32) (w0 : Int32) (w1 : Int32) (w2 : Int32) (M : Mem) (hC : sb 28672 C)  (p0 : Fx C L A M) {r : ((Int32 × Mem) ⊕ ((Mem)))} (e : j_Top_folk_89_48 v1 v3 w0 w1 w2 M = some r) : (Sum.elim (fun r : Int32 × Mem => Fx C L A r.2) (fun r : Mem => Fx C L A r)) r := by
  unfold j_Top_folk_89_48 at e
  obtain ⟨x5, e_x5, e⟩ := bo e
  have p_x5 : Fx C L A x5 := (wf_Scene_put 11 w2 w1 w0 M (sb_t (by decide +kernel) hC) (oc_c hC (by decide +kernel)) (oc_c hC (by decide +kernel)) (oc_c hC (by decide +kernel)) p0 e_x5)
  obtain rfl := Option.some.inj e
  exact p_x5
theorem wl_Top_folk_48 {C : Nat} {L : List Nat} {A : Mem} (v1 : Int32) (s : Int32 × Mem) (hC : sb 28672 C)  (p0 : Fx C L A s.2) {r : ((Int32 × Mem) ⊕ ((Mem)))} (e : lb_Top_folk_48 v1 s = some r) : (Sum.elim (fun r : Int32 × Mem => Fx C L A r.2) (fun r : Mem => Fx C L A r)) r := by
  unfold lb_Top_folk_48 at e
  rcases io e with ⟨_, e⟩ | ⟨_, e⟩
  · obtain rfl := Option.some.inj e
    exact p0
  obtain ⟨_, e⟩ := io_n e
  obtain ⟨x4, e_x4, e⟩ := bo e
  rcases io e with ⟨_, e⟩ | ⟨_, e⟩
  · exact (wj_Top_folk_89_48 v1 s.1 (0 : Int32) (s.2.1 9 s.1.toNatClampNeg) s.1 s.2 (sb_t (by decide +kernel) hC) p0 e)
  exact (wj_Top_folk_89_48 v1 s.1 (1 : Int32) (s.2.1 9 s.1.toNatClampNeg) s.1 s.2 (sb_t (by decide +kernel) hC) p0 e)
theorem wf_Top_folk {C : Nat} {L : List Nat} {A : Mem} (M : Mem) (hC : sb 239255579121219138776096038136740286193068017241622570866569049541060283259681571797909631448150912 C)  (p0 : Fx C L A M) {r : (Int32 × Mem)} (e : f_Top_folk M = some r) : (fun r : Int32 × Mem => Fx C L A r.2) r := by
  unfold f_Top_folk at e
  obtain ⟨x1, e_x1, e⟩ := bo e
  have p_x1 : Fx C L A x1.2 := (wf_Crowd_read M (sb_t (by decide +kernel) hC) p0 e_x1)
  obtain ⟨M2, e_M2, e⟩ := mo e
  have p_M2 : Fx C L A M2 := wi1 p_x1 e_M2 (tb1 hC (by decide +kernel))
  rcases io e with ⟨_, e⟩ | ⟨_, e⟩
  · obtain ⟨x3, e_x3, e⟩ := bo e
    have p_x3 : Fx C L A x3 := (wf_Crowd_letIn x1.1 M2 (sb_t (by decide +kernel) hC) p_M2 e_x3)
    obtain ⟨x8, e_x8, e⟩ := bo e
    have p_x8 : Fx C L A x8 := (it_r (I := fun s : Int32 × Mem => Fx C L A s.2) (Q := (fun r : Mem => Fx C L A r)) (fun s_ r_ hs_ er_ => wl_Top_folk_48 x1.1 s_ (sb_t (by decide +kernel) hC) hs_ er_) e_x8 p_x3)
    obtain ⟨x9, e_x9, e⟩ := bo e
    have p_x9 : Fx C L A x9 := (wf_History_forget x8 (sb_t (by decide +kernel) hC) p_x8 e_x9)
    obtain ⟨x10, e_x10, e⟩ := bo e
    have p_x10 : Fx C L A x10 := (wf_History_spoil x9 (sb_t (by decide +kernel) hC) p_x9 e_x10)
    obtain rfl := Option.some.inj e
    exact p_x10
  obtain rfl := Option.some.inj e
  exact p_M2
theorem wf_Top_rule {C : Nat} {L : List Nat} {A : Mem} (M : Mem) (hC : sb 4164525379986854704016627065972336210907353318530970535048275087177121640482946596155882996741181538304 C)  (p0 : Fx C L A M) {r : (Int32 × Mem)} (e : f_Top_rule M = some r) : (fun r : Int32 × Mem => Fx C L A r.2) r := by
  unfold f_Top_rule at e
  obtain ⟨x1, e_x1, e⟩ := bo e
  have p_x1 : Fx C L A x1.2 := (wf_Law_read M (sb_t (by decide +kernel) hC) p0 e_x1)
  obtain ⟨M2, e_M2, e⟩ := mo e
  have p_M2 : Fx C L A M2 := wi1 p_x1 e_M2 (tb1 hC (by decide +kernel))
  obtain rfl := Option.some.inj e
  exact p_M2
theorem wj_Top_route_28 {C : Nat} {L : List Nat} {A : Mem} (v1 : Int32) (w0 : Int32) (M : Mem) (hC : sb 25031098077201959303246788996266078417037208306731560598674417551669082357604652743013628395520 C)  (p0 : Fx C L A M) {r : (Int32 × Mem)} (e : j_Top_route_28 v1 w0 M = some r) : (fun r : Int32 × Mem => Fx C L A r.2) r := by
  unfold j_Top_route_28 at e
  obtain ⟨M2, e_M2, e⟩ := mo e
  have p_M2 : Fx C L A M2 := wi1 p0 e_M2 (tb1 hC (by decide +kernel))
  rcases io e with ⟨_, e⟩ | ⟨_, e⟩
  · obtain ⟨_, e⟩ := io_n e
    obtain ⟨M3, e_M3, e⟩ := mo e
    have p_M3 : Fx C L A M3 := wi p_M2 e_M3 (oc_c hC (by decide +kernel))
    obtain ⟨x4, e_x4, e⟩ := bo e
    have p_x4 : Fx C L A x4 := (wf_History_forget M3 (sb_t (by decide +kernel) hC) p_M3 e_x4)
    obtain ⟨x5, e_x5, e⟩ := bo e
    have p_x5 : Fx C L A x5 := (wf_History_spoil x4 (sb_t (by decide +kernel) hC) p_x4 e_x5)
    obtain rfl := Option.some.inj e
    exact p_x5
  obtain rfl := Option.some.inj e
  exact p_M2
theorem wf_Top_route {C : Nat} {L : List Nat} {A : Mem} (v1 : Int32) (M : Mem) (hC : sb 25031098077201959303246788996266078417037208306731560598674417551669082357604652743013628396928 C)  (p0 : Fx C L A M) {r : (Int32 × Mem)} (e : f_Top_route v1 M = some r) : (fun r : Int32 × Mem => Fx C L A r.2) r := by
  unfold f_Top_route at e
  obtain ⟨x1, e_x1, e⟩ := bo e
  rcases io e with ⟨_, e⟩ | ⟨_, e⟩
  · exact (wj_Top_route_28 v1 (-100 : Int32) M (sb_t (by decide +kernel) hC) p0 e)
  obtain ⟨x7, e_x7, e⟩ := bo e
  have p_x7 : Fx C L A x7.2 := (wf_Crowd_tellWay v1 M (sb_t (by decide +kernel) hC) p0 e_x7)
  exact (wj_Top_route_28 v1 x7.1 x7.2 (sb_t (by decide +kernel) hC) p_x7 e)
theorem wf_Top_build {C : Nat} {L : List Nat} {A : Mem} (v1 : Int32) (v2 : Int32) (M : Mem) (hC : sb 25031098077198165028066660619174438843000443621367024647816893841666637411491881445641716498448 C)  (p0 : Fx C L A M) {r : (Int32 × Mem)} (e : f_Top_build v1 v2 M = some r) : (fun r : Int32 × Mem => Fx C L A r.2) r := by
  unfold f_Top_build at e
  obtain ⟨x1, e_x1, e⟩ := bo e
  rcases io e with ⟨_, e⟩ | ⟨_, e⟩
  · obtain rfl := Option.some.inj e
    exact p0
  rcases io e with ⟨_, e⟩ | ⟨_, e⟩
  · obtain rfl := Option.some.inj e
    exact p0
  rcases io e with ⟨_, e⟩ | ⟨_, e⟩
  · obtain rfl := Option.some.inj e
    exact p0
  obtain ⟨x2, e_x2, e⟩ := bo e
  rcases io e with ⟨_, e⟩ | ⟨_, e⟩
  · obtain rfl := Option.some.inj e
    exact p0
  obtain ⟨_, e⟩ := io_n e
  obtain ⟨_, e⟩ := io_n e
  obtain ⟨M3, e_M3, e⟩ := mo e
  have p_M3 : Fx C L A M3 := wi p0 e_M3 (oc_c hC (by decide +kernel))
  obtain ⟨x4, e_x4, e⟩ := bo e
  have p_x4 : Fx C L A x4 := (wf_History_forget M3 (sb_t (by decide +kernel) hC) p_M3 e_x4)
  obtain ⟨x5, e_x5, e⟩ := bo e
  have p_x5 : Fx C L A x5 := (wf_History_spoil x4 (sb_t (by decide +kernel) hC) p_x4 e_x5)
  obtain ⟨x6, e_x6, e⟩ := bo e
  have p_x6 : Fx C L A x6 := (wf_Nets_lay 32 11 (-1 : Int32) x5 (sb_t (by decide +kernel) hC) (oc_c hC (by decide +kernel)) (oc_c hC (by decide +kernel)) (oc_c hC (by decide +kernel)) p_x5 e_x6)
  obtain rfl := Option.some.inj e
  exact p_x6
theorem wf_Top_lay {C : Nat} {L : List Nat} {A : Mem} (v1 : Int32) (v2 : Int32) (M : Mem) (hC : sb 60129740800 C)  (p0 : Fx C L A M) {r : (Int32 × Mem)} (e : f_Top_lay v1 v2 M = some r) : (fun r : Int32 × Mem => Fx C L A r.2) r := by
  unfold f_Top_lay at e
  obtain ⟨x1, e_x1, e⟩ := bo e
  rcases io e with ⟨_, e⟩ | ⟨_, e⟩
  · obtain rfl := Option.some.inj e
    exact p0
  obtain ⟨x2, e_x2, e⟩ := bo e
  rcases io e with ⟨_, e⟩ | ⟨_, e⟩
  · obtain rfl := Option.some.inj e
    exact p0
  obtain ⟨x3, e_x3, e⟩ := bo e
  rcases io e with ⟨_, e⟩ | ⟨_, e⟩
  · obtain rfl := Option.some.inj e
    exact p0
  obtain ⟨x4, e_x4, e⟩ := bo e
  rcases io e with ⟨_, e⟩ | ⟨_, e⟩
  · obtain rfl := Option.some.inj e
    exact p0
  obtain ⟨x5, e_x5, e⟩ := bo e
  rcases io e with ⟨_, e⟩ | ⟨_, e⟩
  · obtain rfl := Option.some.inj e
    exact p0
  obtain ⟨x6, e_x6, e⟩ := bo e
  rcases io e with ⟨_, e⟩ | ⟨_, e⟩
  · obtain ⟨x7, e_x7, e⟩ := bo e
    rcases io e with ⟨_, e⟩ | ⟨_, e⟩
    · obtain ⟨x8, e_x8, e⟩ := bo e
      have p_x8 : Fx C L A x8.2 := (wf_Scene_addPlank 11 v1 v2 M (sb_t (by decide +kernel) hC) (oc_c hC (by decide +kernel)) (oc_c hC (by decide +kernel)) (oc_c hC (by decide +kernel)) p0 e_x8)
      rcases io e with ⟨_, e⟩ | ⟨_, e⟩
      · obtain rfl := Option.some.inj e
        exact p_x8
      obtain ⟨x9, e_x9, e⟩ := bo e
      have p_x9 : Fx C L A x9 := (wf_Nets_lay 32 11 (-1 : Int32) x8.2 (sb_t (by decide +kernel) hC) (oc_c hC (by decide +kernel)) (oc_c hC (by decide +kernel)) (oc_c hC (by decide +kernel)) p_x8 e_x9)
      obtain rfl := Option.some.inj e
      exact p_x9
    obtain rfl := Option.some.inj e
    exact p0
  obtain rfl := Option.some.inj e
  exact p0
theorem wf_Top_plank {C : Nat} {L : List Nat} {A : Mem} (v1 : Int32) (v2 : Int32) (M : Mem) (hC : sb 8343699359066055009355553539724812947666814540455853288567219525540678089576807913271202936832 C)  (p0 : Fx C L A M) {r : (Int32 × Mem)} (e : f_Top_plank v1 v2 M = some r) : (fun r : Int32 × Mem => Fx C L A r.2) r := by
  unfold f_Top_plank at e
  obtain ⟨x1, e_x1, e⟩ := bo e
  have p_x1 : Fx C L A x1 := (wf_Scene_copy 18 11 M (sb_t (by decide +kernel) hC) (oc_c hC (by decide +kernel)) (oc_c hC (by decide +kernel)) (oc_c hC (by decide +kernel)) (oc_c hC (by decide +kernel)) (oc_c hC (by decide +kernel)) (oc_c hC (by decide +kernel)) (oc_c hC (by decide +kernel)) p0 e_x1)
  obtain ⟨x2, e_x2, e⟩ := bo e
  have p_x2 : Fx C L A x2.2 := (wf_Top_lay v1 v2 x1 (sb_t (by decide +kernel) hC) p_x1 e_x2)
  rcases io e with ⟨_, e⟩ | ⟨_, e⟩
  · obtain rfl := Option.some.inj e
    exact p_x2
  obtain ⟨x3, e_x3, e⟩ := bo e
  have p_x3 : Fx C L A x3 := (wf_History_add 18 x2.2 (sb_t (by decide +kernel) hC) p_x2 e_x3)
  obtain rfl := Option.some.inj e
  exact p_x3
theorem wf_Top_lift {C : Nat} {L : List Nat} {A : Mem} (M : Mem) (hC : sb 60129544192 C)  (p0 : Fx C L A M) {r : (Int32 × Mem)} (e : f_Top_lift M = some r) : (fun r : Int32 × Mem => Fx C L A r.2) r := by
  unfold f_Top_lift at e
  rcases io e with ⟨_, e⟩ | ⟨_, e⟩
  · obtain ⟨M1, e_M1, e⟩ := mo e
    have p_M1 : Fx C L A M1 := wi p0 e_M1 (oc_c hC (by decide +kernel))
    obtain ⟨x2, e_x2, e⟩ := bo e
    have p_x2 : Fx C L A x2 := (wf_Nets_lay 32 11 (-1 : Int32) M1 (sb_t (by decide +kernel) hC) (oc_c hC (by decide +kernel)) (oc_c hC (by decide +kernel)) (oc_c hC (by decide +kernel)) p_M1 e_x2)
    obtain rfl := Option.some.inj e
    exact p_x2
  obtain rfl := Option.some.inj e
  exact p0
theorem wf_Top_take {C : Nat} {L : List Nat} {A : Mem} (M : Mem) (hC : sb 8343699359066055009355553539724812947666814540455853288567219525540678089576807913271202936832 C)  (p0 : Fx C L A M) {r : (Int32 × Mem)} (e : f_Top_take M = some r) : (fun r : Int32 × Mem => Fx C L A r.2) r := by
  unfold f_Top_take at e
  obtain ⟨x1, e_x1, e⟩ := bo e
  have p_x1 : Fx C L A x1 := (wf_Scene_copy 18 11 M (sb_t (by decide +kernel) hC) (oc_c hC (by decide +kernel)) (oc_c hC (by decide +kernel)) (oc_c hC (by decide +kernel)) (oc_c hC (by decide +kernel)) (oc_c hC (by decide +kernel)) (oc_c hC (by decide +kernel)) (oc_c hC (by decide +kernel)) p0 e_x1)
  obtain ⟨x2, e_x2, e⟩ := bo e
  have p_x2 : Fx C L A x2.2 := (wf_Top_lift x1 (sb_t (by decide +kernel) hC) p_x1 e_x2)
  rcases io e with ⟨_, e⟩ | ⟨_, e⟩
  · obtain rfl := Option.some.inj e
    exact p_x2
  obtain ⟨x3, e_x3, e⟩ := bo e
  have p_x3 : Fx C L A x3 := (wf_History_add 18 x2.2 (sb_t (by decide +kernel) hC) p_x2 e_x3)
  obtain rfl := Option.some.inj e
  exact p_x3
theorem wj_Top_sheet_78_35 {C : Nat} {L : List Nat} {A : Mem} (v1 : Int32) (v2 : Int32) (v3 : Int32) (v4 : Int32) (v5 : Int32) (v6 : Int32) (v7 : Int32) (M : Mem) (hC : sb 16384 C)  (p0 : Fx C L A M) {r : ((Int32 × Int32 × Mem) ⊕ ((Int32 × Mem)))} (e : j_Top_sheet_78_35 v1 v2 v3 v4 v5 v6 v7 M = some r) : (Sum.elim (fun r : Int32 × Int32 × Mem => Fx C L A r.2.2) (fun r : Int32 × Mem => Fx C L A r.2)) r := by
  unfold j_Top_sheet_78_35 at e
  obtain ⟨_, e⟩ := io_n e
  obtain ⟨M1, e_M1, e⟩ := mo e
  have p_M1 : Fx C L A M1 := wi p0 e_M1 (oc_c hC (by decide +kernel))
  obtain rfl := Option.some.inj e
  exact p_M1
theorem wl_Top_sheet_35 {C : Nat} {L : List Nat} {A : Mem} (v1 : Int32) (v2 : Int32) (v3 : Int32) (v4 : Int32) (s : Int32 × Int32 × Mem) (hC : sb 16384 C)  (p0 : Fx C L A s.2.2) {r : ((Int32 × Int32 × Mem) ⊕ ((Int32 × Mem)))} (e : lb_Top_sheet_35 v1 v2 v3 v4 s = some r) : (Sum.elim (fun r : Int32 × Int32 × Mem => Fx C L A r.2.2) (fun r : Int32 × Mem => Fx C L A r.2)) r := by
  unfold lb_Top_sheet_35 at e
  rcases io e with ⟨_, e⟩ | ⟨_, e⟩
  · obtain rfl := Option.some.inj e
    exact p0
  rcases io e with ⟨_, e⟩ | ⟨_, e⟩
  · exact (wj_Top_sheet_78_35 v1 v2 v3 v4 s.1 s.2.1 (0 : Int32) s.2.2 (sb_t (by decide +kernel) hC) p0 e)
  rcases io e with ⟨_, e⟩ | ⟨_, e⟩
  · exact (wj_Top_sheet_78_35 v1 v2 v3 v4 s.1 s.2.1 (0 : Int32) s.2.2 (sb_t (by decide +kernel) hC) p0 e)
  obtain ⟨x2, e_x2, e⟩ := bo e
  obtain ⟨x3, e_x3, e⟩ := bo e
  exact (wj_Top_sheet_78_35 v1 v2 v3 v4 s.1 s.2.1 x3 s.2.2 (sb_t (by decide +kernel) hC) p0 e)
theorem wf_Top_sheet {C : Nat} {L : List Nat} {A : Mem} (v1 : Int32) (v2 : Int32) (v3 : Int32) (v4 : Int32) (M : Mem) (hC : sb 16384 C)  (p0 : Fx C L A M) {r : (Int32 × Mem)} (e : f_Top_sheet v1 v2 v3 v4 M = some r) : (fun r : Int32 × Mem => Fx C L A r.2) r := by
  unfold f_Top_sheet at e
  rcases io e with ⟨_, e⟩ | ⟨_, e⟩
  · obtain rfl := Option.some.inj e
    exact p0
  rcases io e with ⟨_, e⟩ | ⟨_, e⟩
  · obtain rfl := Option.some.inj e
    exact p0
  rcases io e with ⟨_, e⟩ | ⟨_, e⟩
  · rcases io e with ⟨_, e⟩ | ⟨_, e⟩
    · obtain ⟨x7, e_x7, e⟩ := bo e
      have p_x7 : Fx C L A x7.2 := (it_r (I := fun s : Int32 × Int32 × Mem => Fx C L A s.2.2) (Q := (fun r : Int32 × Mem => Fx C L A r.2)) (fun s_ r_ hs_ er_ => wl_Top_sheet_35 v1 v2 v3 v4 s_ (sb_t (by decide +kernel) hC) hs_ er_) e_x7 p0)
      rcases io e with ⟨_, e⟩ | ⟨_, e⟩
      · obtain rfl := Option.some.inj e
        exact p_x7
      obtain rfl := Option.some.inj e
      exact p_x7
    rcases io e with ⟨_, e⟩ | ⟨_, e⟩
    · obtain ⟨x9, e_x9, e⟩ := bo e
      have p_x9 : Fx C L A x9.2 := (it_r (I := fun s : Int32 × Int32 × Mem => Fx C L A s.2.2) (Q := (fun r : Int32 × Mem => Fx C L A r.2)) (fun s_ r_ hs_ er_ => wl_Top_sheet_35 v1 v2 v3 v4 s_ (sb_t (by decide +kernel) hC) hs_ er_) e_x9 p0)
      rcases io e with ⟨_, e⟩ | ⟨_, e⟩
      · obtain rfl := Option.some.inj e
        exact p_x9
      obtain rfl := Option.some.inj e
      exact p_x9
    obtain rfl := Option.some.inj e
    exact p0
  obtain rfl := Option.some.inj e
  exact p0
theorem wf_Top_give {C : Nat} {L : List Nat} {A : Mem} (v1 : Int32) (M : Mem) (hC : sb 2048 C)  (p0 : Fx C L A M) {r : (Int32 × Mem)} (e : f_Top_give v1 M = some r) : (fun r : Int32 × Mem => Fx C L A r.2) r := by
  unfold f_Top_give at e
  obtain ⟨x1, e_x1, e⟩ := bo e
  rcases io e with ⟨_, e⟩ | ⟨_, e⟩
  · obtain rfl := Option.some.inj e
    exact p0
  rcases io e with ⟨_, e⟩ | ⟨_, e⟩
  · obtain ⟨M2, e_M2, e⟩ := mo e
    have p_M2 : Fx C L A M2 := wi p0 e_M2 (oc_c hC (by decide +kernel))
    obtain rfl := Option.some.inj e
    exact p_M2
  obtain rfl := Option.some.inj e
  exact p0
theorem wf_Top_tell {C : Nat} {L : List Nat} {A : Mem} (v1 : Int32) (M : Mem) (hC : sb 8343699359066055009355553539724812947666814540455853288567219525540678089576807913211073394688 C)  (p0 : Fx C L A M) {r : (Int32 × Mem)} (e : f_Top_tell v1 M = some r) : (fun r : Int32 × Mem => Fx C L A r.2) r := by
  unfold f_Top_tell at e
  obtain ⟨x1, e_x1, e⟩ := bo e
  have p_x1 : Fx C L A x1 := (wf_Scene_copy 18 11 M (sb_t (by decide +kernel) hC) (oc_c hC (by decide +kernel)) (oc_c hC (by decide +kernel)) (oc_c hC (by decide +kernel)) (oc_c hC (by decide +kernel)) (oc_c hC (by decide +kernel)) (oc_c hC (by decide +kernel)) (oc_c hC (by decide +kernel)) p0 e_x1)
  obtain ⟨x2, e_x2, e⟩ := bo e
  have p_x2 : Fx C L A x2.2 := (wf_Top_give v1 x1 (sb_t (by decide +kernel) hC) p_x1 e_x2)
  rcases io e with ⟨_, e⟩ | ⟨_, e⟩
  · obtain rfl := Option.some.inj e
    exact p_x2
  obtain ⟨x3, e_x3, e⟩ := bo e
  have p_x3 : Fx C L A x3 := (wf_History_add 18 x2.2 (sb_t (by decide +kernel) hC) p_x2 e_x3)
  obtain ⟨x4, e_x4, e⟩ := bo e
  obtain rfl := Option.some.inj e
  exact p_x3
theorem wl_Top_celebrate_34 {C : Nat} {L : List Nat} {A : Mem} (v1 : Int32) (s : Int32 × Mem) (hC : sb 8192 C)  (p0 : Fx C L A s.2) {r : ((Int32 × Mem) ⊕ ((Mem)))} (e : lb_Top_celebrate_34 v1 s = some r) : (Sum.elim (fun r : Int32 × Mem => Fx C L A r.2) (fun r : Mem => Fx C L A r)) r := by
  unfold lb_Top_celebrate_34 at e
  rcases io e with ⟨_, e⟩ | ⟨_, e⟩
  · obtain rfl := Option.some.inj e
    exact p0
  obtain ⟨x2, e_x2, e⟩ := bo e
  rcases io e with ⟨_, e⟩ | ⟨_, e⟩
  · obtain rfl := Option.some.inj e
    exact p0
  obtain ⟨_, e⟩ := io_n e
  obtain ⟨x3, e_x3, e⟩ := bo e
  rcases io e with ⟨_, e⟩ | ⟨_, e⟩
  · obtain rfl := Option.some.inj e
    exact p0
  rcases io e with ⟨_, e⟩ | ⟨_, e⟩
  · obtain ⟨_, e⟩ := io_n e
    obtain ⟨M5, e_M5, e⟩ := mo e
    have p_M5 : Fx C L A M5 := wi p0 e_M5 (oc_c hC (by decide +kernel))
    obtain rfl := Option.some.inj e
    exact p_M5
  obtain ⟨_, e⟩ := io_n e
  obtain ⟨M4, e_M4, e⟩ := mo e
  have p_M4 : Fx C L A M4 := wi p0 e_M4 (oc_c hC (by decide +kernel))
  obtain rfl := Option.some.inj e
  exact p_M4
theorem wf_Top_celebrate {C : Nat} {L : List Nat} {A : Mem} (v1 : Int32) (M : Mem) (hC : sb 10240 C)  (p0 : Fx C L A M) {r : (Int32 × Mem)} (e : f_Top_celebrate v1 M = some r) : (fun r : Int32 × Mem => Fx C L A r.2) r := by
  unfold f_Top_celebrate at e
  rcases io e with ⟨_, e⟩ | ⟨_, e⟩
  · obtain rfl := Option.some.inj e
    exact p0
  rcases io e with ⟨_, e⟩ | ⟨_, e⟩
  · obtain ⟨x11, e_x11, e⟩ := bo e
    rcases io e with ⟨_, e⟩ | ⟨_, e⟩
    · obtain ⟨M12, e_M12, e⟩ := mo e
      have p_M12 : Fx C L A M12 := wi p0 e_M12 (oc_c hC (by decide +kernel))
      obtain ⟨x13, e_x13, e⟩ := bo e
      have p_x13 : Fx C L A x13 := (it_r (I := fun s : Int32 × Mem => Fx C L A s.2) (Q := (fun r : Mem => Fx C L A r)) (fun s_ r_ hs_ er_ => wl_Top_celebrate_34 v1 s_ (sb_t (by decide +kernel) hC) hs_ er_) e_x13 p_M12)
      obtain rfl := Option.some.inj e
      exact p_x13
    obtain rfl := Option.some.inj e
    exact p0
  obtain ⟨M1, e_M1, e⟩ := mo e
  have p_M1 : Fx C L A M1 := wi p0 e_M1 (oc_c hC (by decide +kernel))
  obtain ⟨x10, e_x10, e⟩ := bo e
  have p_x10 : Fx C L A x10 := (it_r (I := fun s : Int32 × Mem => Fx C L A s.2) (Q := (fun r : Mem => Fx C L A r)) (fun s_ r_ hs_ er_ => wl_Top_celebrate_34 v1 s_ (sb_t (by decide +kernel) hC) hs_ er_) e_x10 p_M1)
  obtain rfl := Option.some.inj e
  exact p_x10
theorem wf_Top_feast {C : Nat} {L : List Nat} {A : Mem} (v1 : Int32) (M : Mem) (hC : sb 8343699359066055009355553539724812947666814540455853288567219525540678089576807913211073394688 C)  (p0 : Fx C L A M) {r : (Int32 × Mem)} (e : f_Top_feast v1 M = some r) : (fun r : Int32 × Mem => Fx C L A r.2) r := by
  unfold f_Top_feast at e
  obtain ⟨x1, e_x1, e⟩ := bo e
  have p_x1 : Fx C L A x1 := (wf_Scene_copy 18 11 M (sb_t (by decide +kernel) hC) (oc_c hC (by decide +kernel)) (oc_c hC (by decide +kernel)) (oc_c hC (by decide +kernel)) (oc_c hC (by decide +kernel)) (oc_c hC (by decide +kernel)) (oc_c hC (by decide +kernel)) (oc_c hC (by decide +kernel)) p0 e_x1)
  rcases io e with ⟨_, e⟩ | ⟨_, e⟩
  · obtain rfl := Option.some.inj e
    exact p_x1
  rcases io e with ⟨_, e⟩ | ⟨_, e⟩
  · obtain rfl := Option.some.inj e
    exact p_x1
  obtain ⟨x2, e_x2, e⟩ := bo e
  have p_x2 : Fx C L A x2.2 := (wf_Top_celebrate v1 x1 (sb_t (by decide +kernel) hC) p_x1 e_x2)
  rcases io e with ⟨_, e⟩ | ⟨_, e⟩
  · obtain rfl := Option.some.inj e
    exact p_x2
  obtain ⟨x3, e_x3, e⟩ := bo e
  have p_x3 : Fx C L A x3 := (wf_History_add 18 x2.2 (sb_t (by decide +kernel) hC) p_x2 e_x3)
  obtain ⟨x4, e_x4, e⟩ := bo e
  obtain rfl := Option.some.inj e
  exact p_x3
theorem wf_Top_emptyRow {C : Nat} {L : List Nat} {A : Mem} (M : Mem) (hC : sb 63657374260452690195888927762793067532858387302060507832379389042324415617604272068231168 C)  (p0 : Fx C L A M) {r : (Mem)} (e : f_Top_emptyRow M = some r) : (fun r : Mem => Fx C L A r) r := by
  unfold f_Top_emptyRow at e
  obtain ⟨M1, e_M1, e⟩ := mo e
  have p_M1 : Fx C L A M1 := wi1 p0 e_M1 (tb1 hC (by decide +kernel))
  obtain rfl := Option.some.inj e
  exact p_M1
theorem wf_Top_note {C : Nat} {L : List Nat} {A : Mem} (v1 : Int32) (M : Mem) (hC : sb 63657374260452690195888927762793067532861310305335169638215796411989848183643583933317120 C)  (p0 : Fx C L A M) {r : (Mem)} (e : f_Top_note v1 M = some r) : (fun r : Mem => Fx C L A r) r := by
  unfold f_Top_note at e
  rcases io e with ⟨_, e⟩ | ⟨_, e⟩
  · obtain rfl := Option.some.inj e
    exact p0
  rcases io e with ⟨_, e⟩ | ⟨_, e⟩
  · obtain rfl := Option.some.inj e
    exact p0
  obtain ⟨_, e⟩ := io_n e
  obtain ⟨M1, e_M1, e⟩ := mo e
  have p_M1 : Fx C L A M1 := wi p0 e_M1 (oc_c hC (by decide +kernel))
  obtain ⟨M2, e_M2, e⟩ := mo e
  have p_M2 : Fx C L A M2 := wi1 p_M1 e_M2 (tb1 hC (by decide +kernel))
  obtain rfl := Option.some.inj e
  exact p_M2
theorem wf_Top_minute {C : Nat} {L : List Nat} {A : Mem} (M : Mem) (hC : sb 71098737063793332848478207750111811969656932445644603514458882678255966490468263660368172747674942426839040 C)  (p0 : Fx C L A M) {r : (Int32 × Mem)} (e : f_Top_minute M = some r) : (fun r : Int32 × Mem => Fx C L A r.2) r := by
  unfold f_Top_minute at e
  obtain ⟨x1, e_x1, e⟩ := bo e
  have p_x1 : Fx C L A x1 := (wf_Scene_copy 18 11 M (sb_t (by decide +kernel) hC) (oc_c hC (by decide +kernel)) (oc_c hC (by decide +kernel)) (oc_c hC (by decide +kernel)) (oc_c hC (by decide +kernel)) (oc_c hC (by decide +kernel)) (oc_c hC (by decide +kernel)) (oc_c hC (by decide +kernel)) p0 e_x1)
  obtain ⟨x2, e_x2, e⟩ := bo e
  have p_x2 : Fx C L A x2 := (wf_Clock_pass 11 32 x1 (sb_t (by decide +kernel) hC) (oc_c hC (by decide +kernel)) (oc_c hC (by decide +kernel)) (oc_c hC (by decide +kernel)) (oc_c hC (by decide +kernel)) p_x1 e_x2)
  obtain ⟨x3, e_x3, e⟩ := bo e
  have p_x3 : Fx C L A x3 := (wf_History_add 18 x2 (sb_t (by decide +kernel) hC) p_x2 e_x3)
  obtain ⟨x4, e_x4, e⟩ := bo e
  have p_x4 : Fx C L A x4 := (wf_Top_emptyRow x3 (sb_t (by decide +kernel) hC) p_x3 e_x4)
  obtain ⟨x5, e_x5, e⟩ := bo e
  have p_x5 : Fx C L A x5 := (wf_Top_note (x4.1 45 0) x4 (sb_t (by decide +kernel) hC) p_x4 e_x5)
  obtain ⟨x6, e_x6, e⟩ := bo e
  have p_x6 : Fx C L A x6 := (wf_Top_note (x5.1 45 1) x5 (sb_t (by decide +kernel) hC) p_x5 e_x6)
  obtain rfl := Option.some.inj e
  exact p_x6
theorem wl_Top_minutes_32 {C : Nat} {L : List Nat} {A : Mem} (v1 : Int32) (s : Int32 × Mem) (hC : sb 71098737063784989085461767434649766220228279869903869167057116519632229632726926570288747756118147420182528 C)  (p0 : Fx C L A s.2) {r : ((Int32 × Mem) ⊕ ((Mem)))} (e : lb_Top_minutes_32 v1 s = some r) : (Sum.elim (fun r : Int32 × Mem => Fx C L A r.2) (fun r : Mem => Fx C L A r)) r := by
  unfold lb_Top_minutes_32 at e
  rcases io e with ⟨_, e⟩ | ⟨_, e⟩
  · obtain rfl := Option.some.inj e
    exact p0
  obtain ⟨x3, e_x3, e⟩ := bo e
  have p_x3 : Fx C L A x3 := (wf_Clock_pass 11 32 s.2 (sb_t (by decide +kernel) hC) (oc_c hC (by decide +kernel)) (oc_c hC (by decide +kernel)) (oc_c hC (by decide +kernel)) (oc_c hC (by decide +kernel)) p0 e_x3)
  obtain rfl := Option.some.inj e
  exact p_x3
theorem wj_Top_minutes_85 {C : Nat} {L : List Nat} {A : Mem} (M : Mem) (hC : sb 63657374260452690195888927762793067532861310305335169638215796411989848183643583933317120 C)  (p0 : Fx C L A M) {r : (Int32 × Mem)} (e : j_Top_minutes_85 M = some r) : (fun r : Int32 × Mem => Fx C L A r.2) r := by
  unfold j_Top_minutes_85 at e
  obtain ⟨x6, e_x6, e⟩ := bo e
  have p_x6 : Fx C L A x6 := (wf_Top_emptyRow M (sb_t (by decide +kernel) hC) p0 e_x6)
  obtain ⟨x7, e_x7, e⟩ := bo e
  have p_x7 : Fx C L A x7 := (wf_Top_note (x6.1 45 3) x6 (sb_t (by decide +kernel) hC) p_x6 e_x7)
  obtain ⟨x8, e_x8, e⟩ := bo e
  have p_x8 : Fx C L A x8 := (wf_Top_note (x7.1 11 8) x7 (sb_t (by decide +kernel) hC) p_x7 e_x8)
  obtain rfl := Option.some.inj e
  exact p_x8
theorem wf_Top_minutes {C : Nat} {L : List Nat} {A : Mem} (v1 : Int32) (M : Mem) (hC : sb 71098737063793332848478207750111811969656932445644603514458882678255966490468263660368172747674942426839040 C)  (p0 : Fx C L A M) {r : (Int32 × Mem)} (e : f_Top_minutes v1 M = some r) : (fun r : Int32 × Mem => Fx C L A r.2) r := by
  unfold f_Top_minutes at e
  rcases io e with ⟨_, e⟩ | ⟨_, e⟩
  · obtain rfl := Option.some.inj e
    exact p0
  rcases io e with ⟨_, e⟩ | ⟨_, e⟩
  · obtain ⟨x1, e_x1, e⟩ := bo e
    have p_x1 : Fx C L A x1 := (wf_Scene_copy 18 11 M (sb_t (by decide +kernel) hC) (oc_c hC (by decide +kernel)) (oc_c hC (by decide +kernel)) (oc_c hC (by decide +kernel)) (oc_c hC (by decide +kernel)) (oc_c hC (by decide +kernel)) (oc_c hC (by decide +kernel)) (oc_c hC (by decide +kernel)) p0 e_x1)
    obtain ⟨x2, e_x2, e⟩ := bo e
    have p_x2 : Fx C L A x2 := (wf_Clock_reset x1 (sb_t (by decide +kernel) hC) p_x1 e_x2)
    obtain ⟨x5, e_x5, e⟩ := bo e
    have p_x5 : Fx C L A x5 := (it_r (I := fun s : Int32 × Mem => Fx C L A s.2) (Q := (fun r : Mem => Fx C L A r)) (fun s_ r_ hs_ er_ => wl_Top_minutes_32 v1 s_ (sb_t (by decide +kernel) hC) hs_ er_) e_x5 p_x2)
    rcases io e with ⟨_, e⟩ | ⟨_, e⟩
    · exact (wj_Top_minutes_85 x5 (sb_t (by decide +kernel) hC) p_x5 e)
    obtain ⟨x9, e_x9, e⟩ := bo e
    have p_x9 : Fx C L A x9 := (wf_History_add 18 x5 (sb_t (by decide +kernel) hC) p_x5 e_x9)
    exact (wj_Top_minutes_85 x9 (sb_t (by decide +kernel) hC) p_x9 e)
  obtain rfl := Option.some.inj e
  exact p0
theorem wl_Top_lasts_10 {C : Nat} {L : List Nat} {A : Mem} (v1 : Int32) (s : Int32 × Mem) (hC : sb 71098737063784989085461767434649766220228279869903869167057116519632229632726926570288747756118147420182528 C)  (p0 : Fx C L A s.2) {r : ((Int32 × Mem) ⊕ ((Mem)))} (e : lb_Top_lasts_10 v1 s = some r) : (Sum.elim (fun r : Int32 × Mem => Fx C L A r.2) (fun r : Mem => Fx C L A r)) r := by
  unfold lb_Top_lasts_10 at e
  rcases io e with ⟨_, e⟩ | ⟨_, e⟩
  · obtain rfl := Option.some.inj e
    exact p0
  obtain ⟨x1, e_x1, e⟩ := bo e
  have p_x1 : Fx C L A x1 := (wf_Clock_pass 11 32 s.2 (sb_t (by decide +kernel) hC) (oc_c hC (by decide +kernel)) (oc_c hC (by decide +kernel)) (oc_c hC (by decide +kernel)) (oc_c hC (by decide +kernel)) p0 e_x1)
  obtain rfl := Option.some.inj e
  exact p_x1
theorem wf_Top_lasts {C : Nat} {L : List Nat} {A : Mem} (v1 : Int32) (M : Mem) (hC : sb 71098737063784989085461767434649766220228279869903869167057116519632229632726926570288747756118147420182528 C)  (p0 : Fx C L A M) {r : (Int32 × Mem)} (e : f_Top_lasts v1 M = some r) : (fun r : Int32 × Mem => Fx C L A r.2) r := by
  unfold f_Top_lasts at e
  rcases io e with ⟨_, e⟩ | ⟨_, e⟩
  · obtain ⟨x3, e_x3, e⟩ := bo e
    have p_x3 : Fx C L A x3 := (it_r (I := fun s : Int32 × Mem => Fx C L A s.2) (Q := (fun r : Mem => Fx C L A r)) (fun s_ r_ hs_ er_ => wl_Top_lasts_10 v1 s_ (sb_t (by decide +kernel) hC) hs_ er_) e_x3 p0)
    obtain rfl := Option.some.inj e
    exact p_x3
  obtain rfl := Option.some.inj e
  exact p0
theorem wf_Top_does {C : Nat} {L : List Nat} {A : Mem} (v1 : Int32) (M : Mem) (hC : sb 71098737063784989085461767434649766220228279869903869167057116519632229632726926570288747756118207549929472 C)  (p0 : Fx C L A M) {r : (Int32 × Mem)} (e : f_Top_does v1 M = some r) : (fun r : Int32 × Mem => Fx C L A r.2) r := by
  unfold f_Top_does at e
  rcases io e with ⟨_, e⟩ | ⟨_, e⟩
  · obtain rfl := Option.some.inj e
    exact p0
  rcases io e with ⟨_, e⟩ | ⟨_, e⟩
  · obtain ⟨_, e⟩ := io_n e
    rcases io e with ⟨_, e⟩ | ⟨_, e⟩
    · obtain ⟨x1, e_x1, e⟩ := bo e
      have p_x1 : Fx C L A x1.2 := (wf_Top_celebrate ((1 : Int32) - (M.1 11 9)) M (sb_t (by decide +kernel) hC) p0 e_x1)
      obtain ⟨_, e⟩ := io_n e
      obtain rfl := Option.some.inj e
      exact p_x1
    rcases io e with ⟨_, e⟩ | ⟨_, e⟩
    · obtain ⟨_, e⟩ := io_n e
      obtain ⟨x3, e_x3, e⟩ := bo e
      have p_x3 : Fx C L A x3.2 := (wf_Top_lasts (M.1 149 v1.toNatClampNeg) M (sb_t (by decide +kernel) hC) p0 e_x3)
      obtain ⟨_, e⟩ := io_n e
      obtain rfl := Option.some.inj e
      exact p_x3
    rcases io e with ⟨_, e⟩ | ⟨_, e⟩
    · obtain ⟨_, e⟩ := io_n e
      obtain ⟨x5, e_x5, e⟩ := bo e
      have p_x5 : Fx C L A x5.2 := (wf_Top_give (M.1 149 v1.toNatClampNeg) M (sb_t (by decide +kernel) hC) p0 e_x5)
      obtain ⟨_, e⟩ := io_n e
      obtain rfl := Option.some.inj e
      exact p_x5
    rcases io e with ⟨_, e⟩ | ⟨_, e⟩
    · obtain ⟨_, e⟩ := io_n e
      obtain ⟨_, e⟩ := io_n e
      obtain ⟨x7, e_x7, e⟩ := bo e
      have p_x7 : Fx C L A x7.2 := (wf_Top_lay (M.1 149 v1.toNatClampNeg) (M.1 150 v1.toNatClampNeg) M (sb_t (by decide +kernel) hC) p0 e_x7)
      rcases io e with ⟨_, e⟩ | ⟨_, e⟩
      · obtain rfl := Option.some.inj e
        exact p_x7
      obtain rfl := Option.some.inj e
      exact p_x7
    rcases io e with ⟨_, e⟩ | ⟨_, e⟩
    · obtain ⟨x10, e_x10, e⟩ := bo e
      have p_x10 : Fx C L A x10.2 := (wf_Top_lift M (sb_t (by decide +kernel) hC) p0 e_x10)
      obtain ⟨_, e⟩ := io_n e
      obtain rfl := Option.some.inj e
      exact p_x10
    obtain rfl := Option.some.inj e
    exact p0
  obtain rfl := Option.some.inj e
  exact p0
theorem wl_Top_evening_48 {C : Nat} {L : List Nat} {A : Mem} (v1 : Int32) (s : Int32 × Int32 × Mem) (hC : sb 71098737063784989085461767434649766220228279869903869167057116519632229632726926570288747756118207549929472 C)  (p0 : Fx C L A s.2.2) {r : ((Int32 × Int32 × Mem) ⊕ ((Int32 × Mem)))} (e : lb_Top_evening_48 v1 s = some r) : (Sum.elim (fun r : Int32 × Int32 × Mem => Fx C L A r.2.2) (fun r : Int32 × Mem => Fx C L A r.2)) r := by
  unfold lb_Top_evening_48 at e
  rcases io e with ⟨_, e⟩ | ⟨_, e⟩
  · obtain rfl := Option.some.inj e
    exact p0
  rcases io e with ⟨_, e⟩ | ⟨_, e⟩
  · obtain ⟨x5, e_x5, e⟩ := bo e
    have p_x5 : Fx C L A x5.2 := (wf_Top_does s.2.1 s.2.2 (sb_t (by decide +kernel) hC) p0 e_x5)
    rcases io e with ⟨_, e⟩ | ⟨_, e⟩
    · obtain rfl := Option.some.inj e
      exact p_x5
    obtain rfl := Option.some.inj e
    exact p_x5
  obtain rfl := Option.some.inj e
  exact p0
theorem wj_Top_evening_105 {C : Nat} {L : List Nat} {A : Mem} (v2 : Int32) (w0 : Int32) (M : Mem) (hC : sb 63657374260452690195888927762793067532861310305335169638215796411989848183643583933317120 C)  (p0 : Fx C L A M) {r : (Int32 × Mem)} (e : j_Top_evening_105 v2 w0 M = some r) : (fun r : Int32 × Mem => Fx C L A r.2) r := by
  unfold j_Top_evening_105 at e
  obtain ⟨x11, e_x11, e⟩ := bo e
  have p_x11 : Fx C L A x11 := (wf_Top_note w0 M (sb_t (by decide +kernel) hC) p0 e_x11)
  obtain ⟨x12, e_x12, e⟩ := bo e
  have p_x12 : Fx C L A x12 := (wf_Top_note (x11.1 45 4) x11 (sb_t (by decide +kernel) hC) p_x11 e_x12)
  obtain rfl := Option.some.inj e
  exact p_x12
theorem wj_Top_evening_90 {C : Nat} {L : List Nat} {A : Mem} (v1 : Int32) (v2 : Int32) (M : Mem) (hC : sb 63657374260452690195888927762793067532861310305335169638215796411989848183643583933317120 C)  (p0 : Fx C L A M) {r : (Int32 × Mem)} (e : j_Top_evening_90 v1 v2 M = some r) : (fun r : Int32 × Mem => Fx C L A r.2) r := by
  unfold j_Top_evening_90 at e
  obtain ⟨x10, e_x10, e⟩ := bo e
  have p_x10 : Fx C L A x10 := (wf_Top_emptyRow M (sb_t (by decide +kernel) hC) p0 e_x10)
  rcases io e with ⟨_, e⟩ | ⟨_, e⟩
  · exact (wj_Top_evening_105 v2 (0 : Int32) x10 (sb_t (by decide +kernel) hC) p_x10 e)
  exact (wj_Top_evening_105 v2 (1 : Int32) x10 (sb_t (by decide +kernel) hC) p_x10 e)
theorem wj_Top_evening_75 {C : Nat} {L : List Nat} {A : Mem} (v1 : Int32) (v2 : Int32) (M : Mem) (hC : sb 8343763016440315462045749428652575740734347401766158623736857741337090079424991556795006711808 C)  (p0 : Fx C L A M) {r : (Int32 × Mem)} (e : j_Top_evening_75 v1 v2 M = some r) : (fun r : Int32 × Mem => Fx C L A r.2) r := by
  unfold j_Top_evening_75 at e
  rcases io e with ⟨_, e⟩ | ⟨_, e⟩
  · exact (wj_Top_evening_90 v1 v2 M (sb_t (by decide +kernel) hC) p0 e)
  obtain ⟨x14, e_x14, e⟩ := bo e
  have p_x14 : Fx C L A x14 := (wf_History_add 18 M (sb_t (by decide +kernel) hC) p0 e_x14)
  exact (wj_Top_evening_90 v1 v2 x14 (sb_t (by decide +kernel) hC) p_x14 e)
theorem wf_Top_evening {C : Nat} {L : List Nat} {A : Mem} (M : Mem) (hC : sb 18859439399254459155964322993447633571360248598630925679466842751041464202213895610556798944676333411605936128 C)  (p0 : Fx C L A M) {r : (Int32 × Mem)} (e : f_Top_evening M = some r) : (fun r : Int32 × Mem => Fx C L A r.2) r := by
  unfold f_Top_evening at e
  obtain ⟨x1, e_x1, e⟩ := bo e
  have p_x1 : Fx C L A x1.2 := (wf_Acts_read M (sb_t (by decide +kernel) hC) p0 e_x1)
  obtain ⟨M2, e_M2, e⟩ := mo e
  have p_M2 : Fx C L A M2 := wi1 p_x1 e_M2 (tb1 hC (by decide +kernel))
  rcases io e with ⟨_, e⟩ | ⟨_, e⟩
  · obtain ⟨x3, e_x3, e⟩ := bo e
    have p_x3 : Fx C L A x3 := (wf_Scene_copy 18 11 M2 (sb_t (by decide +kernel) hC) (oc_c hC (by decide +kernel)) (oc_c hC (by decide +kernel)) (oc_c hC (by decide +kernel)) (oc_c hC (by decide +kernel)) (oc_c hC (by decide +kernel)) (oc_c hC (by decide +kernel)) (oc_c hC (by decide +kernel)) p_M2 e_x3)
    obtain ⟨x4, e_x4, e⟩ := bo e
    have p_x4 : Fx C L A x4 := (wf_Clock_reset x3 (sb_t (by decide +kernel) hC) p_x3 e_x4)
    obtain ⟨x9, e_x9, e⟩ := bo e
    have p_x9 : Fx C L A x9.2 := (it_r (I := fun s : Int32 × Int32 × Mem => Fx C L A s.2.2) (Q := (fun r : Int32 × Mem => Fx C L A r.2)) (fun s_ r_ hs_ er_ => wl_Top_evening_48 x1.1 s_ (sb_t (by decide +kernel) hC) hs_ er_) e_x9 p_x4)
    exact (wj_Top_evening_75 x1.1 x9.1 x9.2 (sb_t (by decide +kernel) hC) p_x9 e)
  obtain rfl := Option.some.inj e
  exact p_M2
theorem wf_Top_undo {C : Nat} {L : List Nat} {A : Mem} (M : Mem) (hC : sb 8343699359066055009355553539724812947666814540455674882605631280555545803830627148587325454336 C)  (p0 : Fx C L A M) {r : (Int32 × Mem)} (e : f_Top_undo M = some r) : (fun r : Int32 × Mem => Fx C L A r.2) r := by
  unfold f_Top_undo at e
  obtain ⟨x1, e_x1, e⟩ := bo e
  have p_x1 : Fx C L A x1.2 := (wf_History_back 11 M (sb_t (by decide +kernel) hC) (oc_c hC (by decide +kernel)) (oc_c hC (by decide +kernel)) (oc_c hC (by decide +kernel)) (oc_c hC (by decide +kernel)) (oc_c hC (by decide +kernel)) (oc_c hC (by decide +kernel)) (oc_c hC (by decide +kernel)) p0 e_x1)
  rcases io e with ⟨_, e⟩ | ⟨_, e⟩
  · obtain rfl := Option.some.inj e
    exact p_x1
  obtain ⟨x2, e_x2, e⟩ := bo e
  have p_x2 : Fx C L A x2 := (wf_Nets_lay 32 11 (-1 : Int32) x1.2 (sb_t (by decide +kernel) hC) (oc_c hC (by decide +kernel)) (oc_c hC (by decide +kernel)) (oc_c hC (by decide +kernel)) p_x1 e_x2)
  obtain rfl := Option.some.inj e
  exact p_x2
theorem wl_Top_ahead_32 {C : Nat} {L : List Nat} {A : Mem} (v1 : Int32) (s : Int32 × Mem) (hC : sb 71098737063784989085461767434649766220228279869903869167057116519632229632726926570288747756118148326096896 C)  (p0 : Fx C L A s.2) {r : ((Int32 × Mem) ⊕ ((Mem)))} (e : lb_Top_ahead_32 v1 s = some r) : (Sum.elim (fun r : Int32 × Mem => Fx C L A r.2) (fun r : Mem => Fx C L A r)) r := by
  unfold lb_Top_ahead_32 at e
  rcases io e with ⟨_, e⟩ | ⟨_, e⟩
  · obtain rfl := Option.some.inj e
    exact p0
  obtain ⟨x3, e_x3, e⟩ := bo e
  have p_x3 : Fx C L A x3 := (wf_Clock_pass 25 32 s.2 (sb_t (by decide +kernel) hC) (oc_c hC (by decide +kernel)) (oc_c hC (by decide +kernel)) (oc_c hC (by decide +kernel)) (oc_c hC (by decide +kernel)) p0 e_x3)
  obtain rfl := Option.some.inj e
  exact p_x3
theorem wl_Top_ahead_76 {C : Nat} {L : List Nat} {A : Mem} (s : Int32 × Mem) (hC : sb 63657374260452690195888927762793067532861310305335169638215796411989848183643583933317120 C)  (p0 : Fx C L A s.2) {r : ((Int32 × Mem) ⊕ ((Mem)))} (e : lb_Top_ahead_76 s = some r) : (Sum.elim (fun r : Int32 × Mem => Fx C L A r.2) (fun r : Mem => Fx C L A r)) r := by
  unfold lb_Top_ahead_76 at e
  rcases io e with ⟨_, e⟩ | ⟨_, e⟩
  · obtain rfl := Option.some.inj e
    exact p0
  obtain ⟨_, e⟩ := io_n e
  obtain ⟨x7, e_x7, e⟩ := bo e
  have p_x7 : Fx C L A x7 := (wf_Top_note (s.2.1 26 s.1.toNatClampNeg) s.2 (sb_t (by decide +kernel) hC) p0 e_x7)
  obtain rfl := Option.some.inj e
  exact p_x7
theorem wf_Top_ahead {C : Nat} {L : List Nat} {A : Mem} (v1 : Int32) (M : Mem) (hC : sb 71098737063784989149119141695102456416117207632696936699918426824967399270942722982278595939761735614857216 C)  (p0 : Fx C L A M) {r : (Int32 × Mem)} (e : f_Top_ahead v1 M = some r) : (fun r : Int32 × Mem => Fx C L A r.2) r := by
  unfold f_Top_ahead at e
  rcases io e with ⟨_, e⟩ | ⟨_, e⟩
  · obtain rfl := Option.some.inj e
    exact p0
  rcases io e with ⟨_, e⟩ | ⟨_, e⟩
  · obtain ⟨x1, e_x1, e⟩ := bo e
    have p_x1 : Fx C L A x1 := (wf_Scene_copy 25 11 M (sb_t (by decide +kernel) hC) (oc_c hC (by decide +kernel)) (oc_c hC (by decide +kernel)) (oc_c hC (by decide +kernel)) (oc_c hC (by decide +kernel)) (oc_c hC (by decide +kernel)) (oc_c hC (by decide +kernel)) (oc_c hC (by decide +kernel)) p0 e_x1)
    obtain ⟨x2, e_x2, e⟩ := bo e
    have p_x2 : Fx C L A x2 := (wf_Clock_reset x1 (sb_t (by decide +kernel) hC) p_x1 e_x2)
    obtain ⟨x5, e_x5, e⟩ := bo e
    have p_x5 : Fx C L A x5 := (it_r (I := fun s : Int32 × Mem => Fx C L A s.2) (Q := (fun r : Mem => Fx C L A r)) (fun s_ r_ hs_ er_ => wl_Top_ahead_32 v1 s_ (sb_t (by decide +kernel) hC) hs_ er_) e_x5 p_x2)
    obtain ⟨x6, e_x6, e⟩ := bo e
    have p_x6 : Fx C L A x6 := (wf_Top_emptyRow x5 (sb_t (by decide +kernel) hC) p_x5 e_x6)
    obtain ⟨x9, e_x9, e⟩ := bo e
    have p_x9 : Fx C L A x9 := (it_r (I := fun s : Int32 × Mem => Fx C L A s.2) (Q := (fun r : Mem => Fx C L A r)) (fun s_ r_ hs_ er_ => wl_Top_ahead_76  s_ (sb_t (by decide +kernel) hC) hs_ er_) e_x9 p_x6)
    obtain rfl := Option.some.inj e
    exact p_x9
  obtain rfl := Option.some.inj e
  exact p0
