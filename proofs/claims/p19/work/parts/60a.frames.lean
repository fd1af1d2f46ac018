/-! frames: what each function leaves as it was -/
theorem wl_Signs_add_20 {C : Nat} {L : List Nat} {A : Mem} (v1 : Int32) (s : Int32 × Mem) (hC : sb 3794275180128377091639574036764685364535950857523710002444946112771297432041422852 C)  (p0 : Fx C L A s.2) {r : ((Int32 × Mem) ⊕ ((Mem)))} (e : lb_Signs_add_20 v1 s = some r) : (Sum.elim (fun r : Int32 × Mem => Fx C L A r.2) (fun r : Mem => Fx C L A r)) r := by
  unfold lb_Signs_add_20 at e
  rcases io e with ⟨_, e⟩ | ⟨_, e⟩
  · obtain rfl := Option.some.inj e
    exact p0
  obtain ⟨_, e⟩ := io_n e
  obtain ⟨M1, e_M1, e⟩ := mo e
  have p_M1 : Fx C L A M1 := wi p0 e_M1 (oc_c hC (by decide +kernel))
  obtain ⟨M2, e_M2, e⟩ := mo e
  have p_M2 : Fx C L A M2 := wi1 p_M1 e_M2 (tb1 hC (by decide +kernel))
  obtain rfl := Option.some.inj e
  exact p_M2
theorem wf_Signs_add {C : Nat} {L : List Nat} {A : Mem} (v1 : Int32) (M : Mem) (hC : sb 3794275180128377091639574036764685364535950857523710002444946112771297432041422852 C)  (p0 : Fx C L A M) {r : (Int32 × Mem)} (e : f_Signs_add v1 M = some r) : (fun r : Int32 × Mem => Fx C L A r.2) r := by
  unfold f_Signs_add at e
  rcases io e with ⟨_, e⟩ | ⟨_, e⟩
  · obtain rfl := Option.some.inj e
    exact p0
  rcases io e with ⟨_, e⟩ | ⟨_, e⟩
  · obtain ⟨x4, e_x4, e⟩ := bo e
    have p_x4 : Fx C L A x4 := (it_r (I := fun s : Int32 × Mem => Fx C L A s.2) (Q := (fun r : Mem => Fx C L A r)) (fun s_ r_ hs_ er_ => wl_Signs_add_20 v1 s_ (sb_t (by decide +kernel) hC) hs_ er_) e_x4 p0)
    obtain rfl := Option.some.inj e
    exact p_x4
  obtain rfl := Option.some.inj e
  exact p0
theorem wl_Signs_digits_11 {C : Nat} {L : List Nat} {A : Mem} (v1 : Int32) (v2 : Int32) (v3 : Int32) (s : Int32 × Int32 × Mem) (hC : sb 7588550360256754183279148073529370729071901715047420004889892225542594864082845696 C)  (p0 : Fx C L A s.2.2) {r : ((Int32 × Int32 × Mem) ⊕ ((Int32 × Mem)))} (e : lb_Signs_digits_11 v1 v2 v3 s = some r) : (Sum.elim (fun r : Int32 × Int32 × Mem => Fx C L A r.2.2) (fun r : Int32 × Mem => Fx C L A r.2)) r := by
  unfold lb_Signs_digits_11 at e
  rcases io e with ⟨_, e⟩ | ⟨_, e⟩
  · obtain rfl := Option.some.inj e
    exact p0
  rcases io e with ⟨_, e⟩ | ⟨_, e⟩
  · obtain ⟨x2, e_x2, e⟩ := bo e
    rcases io e with ⟨_, e⟩ | ⟨_, e⟩
    · obtain rfl := Option.some.inj e
      exact p0
    rcases io e with ⟨_, e⟩ | ⟨_, e⟩
    · obtain rfl := Option.some.inj e
      exact p0
    obtain ⟨M3, e_M3, e⟩ := mo e
    have p_M3 : Fx C L A M3 := wi1 p0 e_M3 (tb1 hC (by decide +kernel))
    obtain rfl := Option.some.inj e
    exact p_M3
  obtain rfl := Option.some.inj e
  exact p0
theorem wf_Signs_digits {C : Nat} {L : List Nat} {A : Mem} (v1 : Int32) (v2 : Int32) (v3 : Int32) (M : Mem) (hC : sb 7588550360256754183279148073529370729071901715047420004889892225542594864082845696 C)  (p0 : Fx C L A M) {r : (Int32 × Mem)} (e : f_Signs_digits v1 v2 v3 M = some r) : (fun r : Int32 × Mem => Fx C L A r.2) r := by
  unfold f_Signs_digits at e
  obtain ⟨M1, e_M1, e⟩ := mo e
  have p_M1 : Fx C L A M1 := wi1 p0 e_M1 (tb1 hC (by decide +kernel))
  obtain ⟨x8, e_x8, e⟩ := bo e
  have p_x8 : Fx C L A x8.2 := (it_r (I := fun s : Int32 × Int32 × Mem => Fx C L A s.2.2) (Q := (fun r : Int32 × Mem => Fx C L A r.2)) (fun s_ r_ hs_ er_ => wl_Signs_digits_11 v1 v2 v3 s_ (sb_t (by decide +kernel) hC) hs_ er_) e_x8 p_M1)
  obtain rfl := Option.some.inj e
  exact p_x8
theorem wl_Signs_steps_6 {C : Nat} {L : List Nat} {A : Mem} (v1 : Int32) (v2 : Int32) (v3 : Nat) (v4 : Int32) (s : Int32 × Int32 × Mem) (hC : sb 0 C) (h_v3 : Oc C L (v3)) (p0 : Fx C L A s.2.2) {r : ((Int32 × Int32 × Mem) ⊕ ((Int32 × Mem)))} (e : lb_Signs_steps_6 v1 v2 v3 v4 s = some r) : (Sum.elim (fun r : Int32 × Int32 × Mem => Fx C L A r.2.2) (fun r : Int32 × Mem => Fx C L A r.2)) r := by
  unfold lb_Signs_steps_6 at e
  rcases io e with ⟨_, e⟩ | ⟨_, e⟩
  · obtain rfl := Option.some.inj e
    exact p0
  rcases io e with ⟨_, e⟩ | ⟨_, e⟩
  · obtain ⟨x1, e_x1, e⟩ := bo e
    obtain ⟨x2, e_x2, e⟩ := bo e
    rcases io e with ⟨_, e⟩ | ⟨_, e⟩
    · obtain rfl := Option.some.inj e
      exact p0
    rcases io e with ⟨_, e⟩ | ⟨_, e⟩
    · obtain rfl := Option.some.inj e
      exact p0
    rcases io e with ⟨_, e⟩ | ⟨_, e⟩
    · obtain rfl := Option.some.inj e
      exact p0
    obtain ⟨_, e⟩ := io_n e
    obtain ⟨M3, e_M3, e⟩ := mo e
    have p_M3 : Fx C L A M3 := wi p0 e_M3 h_v3
    obtain rfl := Option.some.inj e
    exact p_M3
  obtain rfl := Option.some.inj e
  exact p0
theorem wf_Signs_steps {C : Nat} {L : List Nat} {A : Mem} (v1 : Int32) (v2 : Int32) (v3 : Nat) (v4 : Int32) (M : Mem) (hC : sb 0 C) (h_v3 : Oc C L (v3)) (p0 : Fx C L A M) {r : (Int32 × Mem)} (e : f_Signs_steps v1 v2 v3 v4 M = some r) : (fun r : Int32 × Mem => Fx C L A r.2) r := by
  unfold f_Signs_steps at e
  obtain ⟨g_v3, e⟩ := io_n e
  obtain ⟨x9, e_x9, e⟩ := bo e
  have p_x9 : Fx C L A x9.2 := (it_r (I := fun s : Int32 × Int32 × Mem => Fx C L A s.2.2) (Q := (fun r : Int32 × Mem => Fx C L A r.2)) (fun s_ r_ hs_ er_ => wl_Signs_steps_6 v1 v2 v3 v4 s_ (sb_t (by decide +kernel) hC) h_v3 hs_ er_) e_x9 p0)
  obtain rfl := Option.some.inj e
  exact p_x9
theorem wl_Ground_become_12 {C : Nat} {L : List Nat} {A : Mem} (v2 : Int32) (s : Int32 × Mem) (hC : sb 16 C)  (p0 : Fx C L A s.2) {r : ((Int32 × Mem) ⊕ ((Mem)))} (e : lb_Ground_become_12 v2 s = some r) : (Sum.elim (fun r : Int32 × Mem => Fx C L A r.2) (fun r : Mem => Fx C L A r)) r := by
  unfold lb_Ground_become_12 at e
  rcases io e with ⟨_, e⟩ | ⟨_, e⟩
  · obtain rfl := Option.some.inj e
    exact p0
  rcases io e with ⟨_, e⟩ | ⟨_, e⟩
  · obtain ⟨_, e⟩ := io_n e
    obtain ⟨M3, e_M3, e⟩ := mo e
    have p_M3 : Fx C L A M3 := wi p0 e_M3 (oc_c hC (by decide +kernel))
    obtain rfl := Option.some.inj e
    exact p_M3
  obtain ⟨_, e⟩ := io_n e
  obtain ⟨_, e⟩ := io_n e
  obtain ⟨M4, e_M4, e⟩ := mo e
  have p_M4 : Fx C L A M4 := wi p0 e_M4 (oc_c hC (by decide +kernel))
  obtain rfl := Option.some.inj e
  exact p_M4
theorem wf_Ground_become {C : Nat} {L : List Nat} {A : Mem} (v1 : Int32) (v2 : Int32) (M : Mem) (hC : sb 24444431716013833035221348260912537932617620723991235007633685392252575597160040474200768528 C)  (p0 : Fx C L A M) {r : (Int32 × Mem)} (e : f_Ground_become v1 v2 M = some r) : (fun r : Int32 × Mem => Fx C L A r.2) r := by
  unfold f_Ground_become at e
  obtain ⟨M1, e_M1, e⟩ := mo e
  have p_M1 : Fx C L A M1 := wi1 p0 e_M1 (tb1 hC (by decide +kernel))
  obtain ⟨M2, e_M2, e⟩ := mo e
  have p_M2 : Fx C L A M2 := wi1 p_M1 e_M2 (tb1 hC (by decide +kernel))
  obtain ⟨x7, e_x7, e⟩ := bo e
  have p_x7 : Fx C L A x7 := (it_r (I := fun s : Int32 × Mem => Fx C L A s.2) (Q := (fun r : Mem => Fx C L A r)) (fun s_ r_ hs_ er_ => wl_Ground_become_12 v2 s_ (sb_t (by decide +kernel) hC) hs_ er_) e_x7 p_M2)
  obtain rfl := Option.some.inj e
  exact p_x7
theorem wj_Ground_read_126_14 {C : Nat} {L : List Nat} {A : Mem} (v2 : Int32) (v3 : Int32) (v4 : Int32) (v5 : Int32) (v6 : Int32) (v7 : Int32) (M : Mem) (hC : sb 0 C)  (p0 : Fx C L A M) {r : ((Int32 × Int32 × Int32 × Int32 × Int32 × Mem) ⊕ ((Mem) ⊕ (Int32 × Mem) ⊕ (Int32 × Int32 × Mem)))} (e : j_Ground_read_126_14 v2 v3 v4 v5 v6 v7 M = some r) : (Sum.elim (fun r : Int32 × Int32 × Int32 × Int32 × Int32 × Mem => Fx C L A r.2.2.2.2.2) (Sum.elim (fun r : Mem => Fx C L A r) (Sum.elim (fun r : Int32 × Mem => Fx C L A r.2) (fun r : Int32 × Int32 × Mem => Fx C L A r.2.2)))) r := by
  unfold j_Ground_read_126_14 at e
  rcases io e with ⟨_, e⟩ | ⟨_, e⟩
  · obtain rfl := Option.some.inj e
    exact p0
  obtain rfl := Option.some.inj e
  exact p0
theorem wj_Ground_read_74_14 {C : Nat} {L : List Nat} {A : Mem} (v2 : Int32) (v3 : Int32) (v4 : Int32) (v5 : Int32) (v6 : Int32) (v7 : Int32) (v8 : Int32) (w0 : Int32) (w1 : Int32) (w2 : Int32) (w3 : Int32) (M : Mem) (hC : sb 32 C)  (p0 : Fx C L A M) {r : ((Int32 × Int32 × Int32 × Int32 × Int32 × Mem) ⊕ ((Mem) ⊕ (Int32 × Mem) ⊕ (Int32 × Int32 × Mem)))} (e : j_Ground_read_74_14 v2 v3 v4 v5 v6 v7 v8 w0 w1 w2 w3 M = some r) : (Sum.elim (fun r : Int32 × Int32 × Int32 × Int32 × Int32 × Mem => Fx C L A r.2.2.2.2.2) (Sum.elim (fun r : Mem => Fx C L A r) (Sum.elim (fun r : Int32 × Mem => Fx C L A r.2) (fun r : Int32 × Int32 × Mem => Fx C L A r.2.2)))) r := by
  unfold j_Ground_read_74_14 at e
  obtain ⟨x2, e_x2, e⟩ := bo e
  rcases io e with ⟨_, e⟩ | ⟨_, e⟩
  · obtain rfl := Option.some.inj e
    exact p0
  rcases io e with ⟨_, e⟩ | ⟨_, e⟩
  · rcases io e with ⟨_, e⟩ | ⟨_, e⟩
    · exact (wj_Ground_read_126_14 v2 v3 v4 v5 v6 v7 M (sb_t (by decide +kernel) hC) p0 e)
    obtain ⟨x4, e_x4, e⟩ := bo e
    obtain ⟨_, e⟩ := io_n e
    obtain ⟨M5, e_M5, e⟩ := mo e
    have p_M5 : Fx C L A M5 := wi p0 e_M5 (oc_c hC (by decide +kernel))
    exact (wj_Ground_read_126_14 (v2 + (1 : Int32)) (v3 + (1 : Int32)) v4 v5 v6 v7 M5 (sb_t (by decide +kernel) hC) p_M5 e)
  exact (wj_Ground_read_126_14 v2 (0 : Int32) (v4 + (1 : Int32)) v3 v6 v7 M (sb_t (by decide +kernel) hC) p0 e)
theorem wj_Ground_read_49_14 {C : Nat} {L : List Nat} {A : Mem} (v2 : Int32) (v3 : Int32) (v4 : Int32) (v5 : Int32) (v6 : Int32) (v7 : Int32) (w0 : Int32) (M : Mem) (hC : sb 32 C)  (p0 : Fx C L A M) {r : ((Int32 × Int32 × Int32 × Int32 × Int32 × Mem) ⊕ ((Mem) ⊕ (Int32 × Mem) ⊕ (Int32 × Int32 × Mem)))} (e : j_Ground_read_49_14 v2 v3 v4 v5 v6 v7 w0 M = some r) : (Sum.elim (fun r : Int32 × Int32 × Int32 × Int32 × Int32 × Mem => Fx C L A r.2.2.2.2.2) (Sum.elim (fun r : Mem => Fx C L A r) (Sum.elim (fun r : Int32 × Mem => Fx C L A r.2) (fun r : Int32 × Int32 × Mem => Fx C L A r.2.2)))) r := by
  unfold j_Ground_read_49_14 at e
  rcases io e with ⟨_, e⟩ | ⟨_, e⟩
  · obtain rfl := Option.some.inj e
    exact p0
  rcases io e with ⟨_, e⟩ | ⟨_, e⟩
  · exact (wj_Ground_read_74_14 v2 v3 v4 v5 v6 v7 w0 (1 : Int32) v3 w0 v7 M (sb_t (by decide +kernel) hC) p0 e)
  exact (wj_Ground_read_74_14 v2 v3 v4 v5 v6 v7 w0 v5 v3 w0 v7 M (sb_t (by decide +kernel) hC) p0 e)
theorem wl_Ground_read_14 {C : Nat} {L : List Nat} {A : Mem} (s : Int32 × Int32 × Int32 × Int32 × Int32 × Mem) (hC : sb 32 C)  (p0 : Fx C L A s.2.2.2.2.2) {r : ((Int32 × Int32 × Int32 × Int32 × Int32 × Mem) ⊕ ((Mem) ⊕ (Int32 × Mem) ⊕ (Int32 × Int32 × Mem)))} (e : lb_Ground_read_14 s = some r) : (Sum.elim (fun r : Int32 × Int32 × Int32 × Int32 × Int32 × Mem => Fx C L A r.2.2.2.2.2) (Sum.elim (fun r : Mem => Fx C L A r) (Sum.elim (fun r : Int32 × Mem => Fx C L A r.2) (fun r : Int32 × Int32 × Mem => Fx C L A r.2.2)))) r := by
  unfold lb_Ground_read_14 at e
  rcases io e with ⟨_, e⟩ | ⟨_, e⟩
  · obtain rfl := Option.some.inj e
    exact p0
  obtain ⟨x1, e_x1, e⟩ := bo e
  rcases io e with ⟨_, e⟩ | ⟨_, e⟩
  · exact (wj_Ground_read_49_14 s.1 s.2.1 s.2.2.1 s.2.2.2.1 s.2.2.2.2.1 x1 (1 : Int32) s.2.2.2.2.2 (sb_t (by decide +kernel) hC) p0 e)
  rcases io e with ⟨_, e⟩ | ⟨_, e⟩
  · exact (wj_Ground_read_49_14 s.1 s.2.1 s.2.2.1 s.2.2.2.1 s.2.2.2.2.1 x1 (1 : Int32) s.2.2.2.2.2 (sb_t (by decide +kernel) hC) p0 e)
  exact (wj_Ground_read_49_14 s.1 s.2.1 s.2.2.1 s.2.2.2.1 s.2.2.2.2.1 x1 (0 : Int32) s.2.2.2.2.2 (sb_t (by decide +kernel) hC) p0 e)
theorem wf_Ground_read {C : Nat} {L : List Nat} {A : Mem} (M : Mem) (hC : sb 24444431716013833035221348260912537932617620723991235007633685392252575597160040474200768560 C)  (p0 : Fx C L A M) {r : (Int32 × Mem)} (e : f_Ground_read M = some r) : (fun r : Int32 × Mem => Fx C L A r.2) r := by
  unfold f_Ground_read at e
  obtain ⟨y_, e_y, e⟩ := bo e
  have q_y := (it_r (I := fun s : Int32 × Int32 × Int32 × Int32 × Int32 × Mem => Fx C L A s.2.2.2.2.2) (Q := (Sum.elim (fun r : Mem => Fx C L A r) (Sum.elim (fun r : Int32 × Mem => Fx C L A r.2) (fun r : Int32 × Int32 × Mem => Fx C L A r.2.2)))) (fun s_ r_ hs_ er_ => wl_Ground_read_14  s_ (sb_t (by decide +kernel) hC) hs_ er_) e_y p0)
  rcases y_ with y15 | y16 | y17
  · have p_y15 : Fx C L A y15 := q_y
    replace e := el_l e
    obtain rfl := Option.some.inj e
    exact p_y15
  · have p_y16 : Fx C L A y16.2 := q_y
    replace e := el_r e
    replace e := el_l e
    obtain rfl := Option.some.inj e
    exact p_y16
  · have p_y17 : Fx C L A y17.2.2 := q_y
    replace e := el_r e
    replace e := el_r e
    obtain ⟨x18, e_x18, e⟩ := bo e
    have p_x18 : Fx C L A x18.2 := (wf_Ground_become y17.2.1 y17.1 y17.2.2 (sb_t (by decide +kernel) hC) p_y17 e_x18)
    obtain rfl := Option.some.inj e
    exact p_x18
theorem wf_Crowd_clear {C : Nat} {L : List Nat} {A : Mem} (M : Mem) (hC : sb 102527377724203683954961041896138501500929817073119332957457997175466546837470746401102180172955648 C)  (p0 : Fx C L A M) {r : (Mem)} (e : f_Crowd_clear M = some r) : (fun r : Mem => Fx C L A r) r := by
  unfold f_Crowd_clear at e
  obtain ⟨M1, e_M1, e⟩ := mo e
  have p_M1 : Fx C L A M1 := wi1 p0 e_M1 (tb1 hC (by decide +kernel))
  obtain ⟨M2, e_M2, e⟩ := mo e
  have p_M2 : Fx C L A M2 := wi1 p_M1 e_M2 (tb1 hC (by decide +kernel))
  obtain rfl := Option.some.inj e
  exact p_M2
theorem wj_Crowd_readLine_51 {C : Nat} {L : List Nat} {A : Mem} (v3 : Int32) (v4 : Int32) (w0 : Int32) (M : Mem) (hC : sb 136703170298938252861831749451605518613721162960196506348512377948042067339853220744064437646787456 C)  (p0 : Fx C L A M) {r : (Int32 × Mem)} (e : j_Crowd_readLine_51 v3 v4 w0 M = some r) : (fun r : Int32 × Mem => Fx C L A r.2) r := by
  unfold j_Crowd_readLine_51 at e
  obtain ⟨x2, e_x2, e⟩ := bo e
  have p_x2 : Fx C L A x2.2 := (wf_Signs_digits (v4 + (1 : Int32)) (76 : Int32) (2 : Int32) M (sb_t (by decide +kernel) hC) p0 e_x2)
  rcases io e with ⟨_, e⟩ | ⟨_, e⟩
  · obtain rfl := Option.some.inj e
    exact p_x2
  obtain ⟨x3, e_x3, e⟩ := bo e
  rcases io e with ⟨_, e⟩ | ⟨_, e⟩
  · obtain ⟨x11, e_x11, e⟩ := bo e
    rcases io e with ⟨_, e⟩ | ⟨_, e⟩
    · obtain rfl := Option.some.inj e
      exact p_x2
    obtain rfl := Option.some.inj e
    exact p_x2
  obtain ⟨x4, e_x4, e⟩ := bo e
  rcases io e with ⟨_, e⟩ | ⟨_, e⟩
  · obtain ⟨_, e⟩ := io_n e
    obtain ⟨M5, e_M5, e⟩ := mo e
    have p_M5 : Fx C L A M5 := wi p_x2 e_M5 (oc_c hC (by decide +kernel))
    obtain ⟨M6, e_M6, e⟩ := mo e
    have p_M6 : Fx C L A M6 := wi1 p_M5 e_M6 (tb1 hC (by decide +kernel))
    obtain ⟨x7, e_x7, e⟩ := bo e
    have p_x7 : Fx C L A x7.2 := (wf_Signs_steps (((v4 + (1 : Int32)) + x2.1) + (1 : Int32)) (76 : Int32) 7 (v3 * (9 : Int32)) M6 (sb_t (by decide +kernel) hC) (oc_c hC (by decide +kernel)) p_M6 e_x7)
    obtain ⟨_, e⟩ := io_n e
    obtain ⟨M8, e_M8, e⟩ := mo e
    have p_M8 : Fx C L A M8 := wi p_x7 e_M8 (oc_c hC (by decide +kernel))
    obtain ⟨_, e⟩ := io_n e
    obtain ⟨_, e⟩ := io_n e
    rcases io e with ⟨_, e⟩ | ⟨_, e⟩
    · obtain rfl := Option.some.inj e
      exact p_M8
    obtain rfl := Option.some.inj e
    exact p_M8
  obtain rfl := Option.some.inj e
  exact p_x2
theorem wj_Crowd_readLine_39 {C : Nat} {L : List Nat} {A : Mem} (v3 : Int32) (v4 : Int32) (v5 : Int32) (M : Mem) (hC : sb 136703170298938252861831749451605518613721162960196506348512377948042067339853220744064437646787456 C)  (p0 : Fx C L A M) {r : (Int32 × Mem)} (e : j_Crowd_readLine_39 v3 v4 v5 M = some r) : (fun r : Int32 × Mem => Fx C L A r.2) r := by
  unfold j_Crowd_readLine_39 at e
  rcases io e with ⟨_, e⟩ | ⟨_, e⟩
  · exact (wj_Crowd_readLine_51 v3 v4 (1 : Int32) M (sb_t (by decide +kernel) hC) p0 e)
  exact (wj_Crowd_readLine_51 v3 v4 (0 : Int32) M (sb_t (by decide +kernel) hC) p0 e)
theorem wf_Crowd_readLine {C : Nat} {L : List Nat} {A : Mem} (v3 : Int32) (v4 : Int32) (M : Mem) (hC : sb 136703170298938252861831749451605518613721162960196506348512377948042067339853220744064437646787456 C)  (p0 : Fx C L A M) {r : (Int32 × Mem)} (e : f_Crowd_readLine v3 v4 M = some r) : (fun r : Int32 × Mem => Fx C L A r.2) r := by
  unfold f_Crowd_readLine at e
  obtain ⟨x1, e_x1, e⟩ := bo e
  rcases io e with ⟨_, e⟩ | ⟨_, e⟩
  · obtain rfl := Option.some.inj e
    exact p0
  rcases io e with ⟨_, e⟩ | ⟨_, e⟩
  · obtain rfl := Option.some.inj e
    exact p0
  rcases io e with ⟨_, e⟩ | ⟨_, e⟩
  · exact (wj_Crowd_readLine_39 v3 v4 x1 M (sb_t (by decide +kernel) hC) p0 e)
  rcases io e with ⟨_, e⟩ | ⟨_, e⟩
  · exact (wj_Crowd_readLine_39 v3 v4 x1 M (sb_t (by decide +kernel) hC) p0 e)
  obtain rfl := Option.some.inj e
  exact p0
theorem wl_Crowd_read_19 {C : Nat} {L : List Nat} {A : Mem} (s : Int32 × Int32 × Mem) (hC : sb 136703170298938252861831749451605518613721162960196506348512377948042067339853220744064437646787456 C)  (p0 : Fx C L A s.2.2) {r : ((Int32 × Int32 × Mem) ⊕ ((Int32 × Mem) ⊕ (Int32 × Mem) ⊕ (Int32 × Mem) ⊕ (Int32 × Mem)))} (e : lb_Crowd_read_19 s = some r) : (Sum.elim (fun r : Int32 × Int32 × Mem => Fx C L A r.2.2) (Sum.elim (fun r : Int32 × Mem => Fx C L A r.2) (Sum.elim (fun r : Int32 × Mem => Fx C L A r.2) (Sum.elim (fun r : Int32 × Mem => Fx C L A r.2) (fun r : Int32 × Mem => Fx C L A r.2))))) r := by
  unfold lb_Crowd_read_19 at e
  rcases io e with ⟨_, e⟩ | ⟨_, e⟩
  · obtain rfl := Option.some.inj e
    exact p0
  obtain ⟨x2, e_x2, e⟩ := bo e
  have p_x2 : Fx C L A x2.2 := (wf_Crowd_readLine ((s.2.2.1 6 4) + s.2.1) s.1 s.2.2 (sb_t (by decide +kernel) hC) p0 e_x2)
  rcases io e with ⟨_, e⟩ | ⟨_, e⟩
  · obtain ⟨x3, e_x3, e⟩ := bo e
    rcases io e with ⟨_, e⟩ | ⟨_, e⟩
    · obtain rfl := Option.some.inj e
      exact p_x2
    rcases io e with ⟨_, e⟩ | ⟨_, e⟩
    · obtain rfl := Option.some.inj e
      exact p_x2
    obtain rfl := Option.some.inj e
    exact p_x2
  obtain rfl := Option.some.inj e
  exact p_x2
theorem wf_Crowd_read {C : Nat} {L : List Nat} {A : Mem} (M : Mem) (hC : sb 136703170298938252861831749451605518613721162960196506348512377948042067339853220744064437646787456 C)  (p0 : Fx C L A M) {r : (Int32 × Mem)} (e : f_Crowd_read M = some r) : (fun r : Int32 × Mem => Fx C L A r.2) r := by
  unfold f_Crowd_read at e
  rcases io e with ⟨_, e⟩ | ⟨_, e⟩
  · obtain rfl := Option.some.inj e
    exact p0
  obtain ⟨M1, e_M1, e⟩ := mo e
  have p_M1 : Fx C L A M1 := wi1 p0 e_M1 (tb1 hC (by decide +kernel))
  obtain ⟨y_, e_y, e⟩ := bo e
  have q_y := (it_r (I := fun s : Int32 × Int32 × Mem => Fx C L A s.2.2) (Q := (Sum.elim (fun r : Int32 × Mem => Fx C L A r.2) (Sum.elim (fun r : Int32 × Mem => Fx C L A r.2) (Sum.elim (fun r : Int32 × Mem => Fx C L A r.2) (fun r : Int32 × Mem => Fx C L A r.2))))) (fun s_ r_ hs_ er_ => wl_Crowd_read_19  s_ (sb_t (by decide +kernel) hC) hs_ er_) e_y p_M1)
  rcases y_ with y9 | y10 | y11 | y13
  · have p_y9 : Fx C L A y9.2 := q_y
    replace e := el_l e
    obtain rfl := Option.some.inj e
    exact p_y9
  · have p_y10 : Fx C L A y10.2 := q_y
    replace e := el_r e
    replace e := el_l e
    obtain rfl := Option.some.inj e
    exact p_y10
  · have p_y11 : Fx C L A y11.2 := q_y
    replace e := el_r e
    replace e := el_r e
    replace e := el_l e
    rcases io e with ⟨_, e⟩ | ⟨_, e⟩
    · obtain rfl := Option.some.inj e
      exact p_y11
    obtain rfl := Option.some.inj e
    exact p_y11
  · have p_y13 : Fx C L A y13.2 := q_y
    replace e := el_r e
    replace e := el_r e
    replace e := el_r e
    obtain rfl := Option.some.inj e
    exact p_y13
theorem wf_Crowd_letIn {C : Nat} {L : List Nat} {A : Mem} (v1 : Int32) (M : Mem) (hC : sb 102527377724203683954961041896138501500929817073119332957457997175466546837470746401102180172955648 C)  (p0 : Fx C L A M) {r : (Mem)} (e : f_Crowd_letIn v1 M = some r) : (fun r : Mem => Fx C L A r) r := by
  unfold f_Crowd_letIn at e
  obtain ⟨M1, e_M1, e⟩ := mo e
  have p_M1 : Fx C L A M1 := wi1 p0 e_M1 (tb1 hC (by decide +kernel))
  obtain ⟨M2, e_M2, e⟩ := mo e
  have p_M2 : Fx C L A M2 := wi1 p_M1 e_M2 (tb1 hC (by decide +kernel))
  obtain rfl := Option.some.inj e
  exact p_M2
theorem wl_Crowd_tellWay_40 {C : Nat} {L : List Nat} {A : Mem} (v1 : Int32) (v3 : Int32) (s : Int32 × Mem) (hC : sb 128 C)  (p0 : Fx C L A s.2) {r : ((Int32 × Mem) ⊕ ((Mem)))} (e : lb_Crowd_tellWay_40 v1 v3 s = some r) : (Sum.elim (fun r : Int32 × Mem => Fx C L A r.2) (fun r : Mem => Fx C L A r)) r := by
  unfold lb_Crowd_tellWay_40 at e
  rcases io e with ⟨_, e⟩ | ⟨_, e⟩
  · obtain rfl := Option.some.inj e
    exact p0
  obtain ⟨_, e⟩ := io_n e
  obtain ⟨_, e⟩ := io_n e
  obtain ⟨M3, e_M3, e⟩ := mo e
  have p_M3 : Fx C L A M3 := wi p0 e_M3 (oc_c hC (by decide +kernel))
  obtain rfl := Option.some.inj e
  exact p_M3
theorem wf_Crowd_tellWay {C : Nat} {L : List Nat} {A : Mem} (v1 : Int32) (M : Mem) (hC : sb 1408 C)  (p0 : Fx C L A M) {r : (Int32 × Mem)} (e : f_Crowd_tellWay v1 M = some r) : (fun r : Int32 × Mem => Fx C L A r.2) r := by
  unfold f_Crowd_tellWay at e
  obtain ⟨x1, e_x1, e⟩ := bo e
  have p_x1 : Fx C L A x1.2 := (wf_Signs_steps (0 : Int32) (80 : Int32) 10 (0 : Int32) M (sb_t (by decide +kernel) hC) (oc_c hC (by decide +kernel)) p0 e_x1)
  obtain ⟨x2, e_x2, e⟩ := bo e
  rcases io e with ⟨_, e⟩ | ⟨_, e⟩
  · obtain rfl := Option.some.inj e
    exact p_x1
  rcases io e with ⟨_, e⟩ | ⟨_, e⟩
  · obtain rfl := Option.some.inj e
    exact p_x1
  rcases io e with ⟨_, e⟩ | ⟨_, e⟩
  · obtain ⟨x5, e_x5, e⟩ := bo e
    have p_x5 : Fx C L A x5 := (it_r (I := fun s : Int32 × Mem => Fx C L A s.2) (Q := (fun r : Mem => Fx C L A r)) (fun s_ r_ hs_ er_ => wl_Crowd_tellWay_40 v1 x1.1 s_ (sb_t (by decide +kernel) hC) hs_ er_) e_x5 p_x1)
    obtain ⟨_, e⟩ := io_n e
    obtain ⟨M6, e_M6, e⟩ := mo e
    have p_M6 : Fx C L A M6 := wi p_x5 e_M6 (oc_c hC (by decide +kernel))
    obtain rfl := Option.some.inj e
    exact p_M6
  obtain rfl := Option.some.inj e
  exact p_x1
theorem wf_Scene_put {C : Nat} {L : List Nat} {A : Mem} (v0 : Nat) (v1 : Int32) (v2 : Int32) (v3 : Int32) (M : Mem) (hC : sb 0 C) (h_v0_0 : Oc C L (rf v0 0)) (h_v0_1 : Oc C L (rf v0 1)) (h_v0_2 : Oc C L (rf v0 2)) (p0 : Fx C L A M) {r : (Mem)} (e : f_Scene_put v0 v1 v2 v3 M = some r) : (fun r : Mem => Fx C L A r) r := by
  unfold f_Scene_put at e
  obtain ⟨g_v0, e⟩ := io_n e
  obtain ⟨_, e⟩ := io_n e
  obtain ⟨M1, e_M1, e⟩ := mo e
  have p_M1 : Fx C L A M1 := wi p0 e_M1 h_v0_0
  obtain ⟨_, e⟩ := io_n e
  obtain ⟨M2, e_M2, e⟩ := mo e
  have p_M2 : Fx C L A M2 := wi p_M1 e_M2 h_v0_1
  obtain ⟨_, e⟩ := io_n e
  obtain ⟨M3, e_M3, e⟩ := mo e
  have p_M3 : Fx C L A M3 := wi p_M2 e_M3 h_v0_2
  obtain rfl := Option.some.inj e
  exact p_M3
theorem wl_Scene_clear_2 {C : Nat} {L : List Nat} {A : Mem} (v0 : Nat) (s : Int32 × Mem) (hC : sb 0 C) (h_v0_0 : Oc C L (rf v0 0)) (h_v0_1 : Oc C L (rf v0 1)) (h_v0_2 : Oc C L (rf v0 2)) (p0 : Fx C L A s.2) {r : ((Int32 × Mem) ⊕ ((Mem)))} (e : lb_Scene_clear_2 v0 s = some r) : (Sum.elim (fun r : Int32 × Mem => Fx C L A r.2) (fun r : Mem => Fx C L A r)) r := by
  unfold lb_Scene_clear_2 at e
  rcases io e with ⟨_, e⟩ | ⟨_, e⟩
  · obtain rfl := Option.some.inj e
    exact p0
  obtain ⟨x1, e_x1, e⟩ := bo e
  have p_x1 : Fx C L A x1 := (wf_Scene_put v0 s.1 (0 : Int32) (0 : Int32) s.2 (sb_t (by decide +kernel) hC) h_v0_0 h_v0_1 h_v0_2 p0 e_x1)
  obtain rfl := Option.some.inj e
  exact p_x1
theorem wl_Scene_clear_23 {C : Nat} {L : List Nat} {A : Mem} (v0 : Nat) (s : Int32 × Mem) (hC : sb 0 C) (h_v0_3 : Oc C L (rf v0 3)) (p0 : Fx C L A s.2) {r : ((Int32 × Mem) ⊕ ((Mem)))} (e : lb_Scene_clear_23 v0 s = some r) : (Sum.elim (fun r : Int32 × Mem => Fx C L A r.2) (fun r : Mem => Fx C L A r)) r := by
  unfold lb_Scene_clear_23 at e
  rcases io e with ⟨_, e⟩ | ⟨_, e⟩
  · obtain rfl := Option.some.inj e
    exact p0
  obtain ⟨_, e⟩ := io_n e
  obtain ⟨M4, e_M4, e⟩ := mo e
  have p_M4 : Fx C L A M4 := wi p0 e_M4 h_v0_3
  obtain rfl := Option.some.inj e
  exact p_M4
theorem wf_Scene_clear {C : Nat} {L : List Nat} {A : Mem} (v0 : Nat) (M : Mem) (hC : sb 0 C) (h_v0_0 : Oc C L (rf v0 0)) (h_v0_1 : Oc C L (rf v0 1)) (h_v0_2 : Oc C L (rf v0 2)) (h_v0_3 : Oc C L (rf v0 3)) (h_v0 : Oc C L (v0)) (p0 : Fx C L A M) {r : (Mem)} (e : f_Scene_clear v0 M = some r) : (fun r : Mem => Fx C L A r) r := by
  unfold f_Scene_clear at e
  obtain ⟨g_v0, e⟩ := io_n e
  obtain ⟨x3, e_x3, e⟩ := bo e
  have p_x3 : Fx C L A x3 := (it_r (I := fun s : Int32 × Mem => Fx C L A s.2) (Q := (fun r : Mem => Fx C L A r)) (fun s_ r_ hs_ er_ => wl_Scene_clear_2 v0 s_ (sb_t (by decide +kernel) hC) h_v0_0 h_v0_1 h_v0_2 hs_ er_) e_x3 p0)
  obtain ⟨x6, e_x6, e⟩ := bo e
  have p_x6 : Fx C L A x6 := (it_r (I := fun s : Int32 × Mem => Fx C L A s.2) (Q := (fun r : Mem => Fx C L A r)) (fun s_ r_ hs_ er_ => wl_Scene_clear_23 v0 s_ (sb_t (by decide +kernel) hC) h_v0_3 hs_ er_) e_x6 p_x3)
  obtain ⟨M7, e_M7, e⟩ := mo e
  have p_M7 : Fx C L A M7 := wi p_x6 e_M7 h_v0
  obtain ⟨M8, e_M8, e⟩ := mo e
  have p_M8 : Fx C L A M8 := wi p_M7 e_M8 h_v0
  obtain ⟨M9, e_M9, e⟩ := mo e
  have p_M9 : Fx C L A M9 := wi p_M8 e_M9 h_v0
  obtain ⟨M10, e_M10, e⟩ := mo e
  have p_M10 : Fx C L A M10 := wi p_M9 e_M10 h_v0
  obtain rfl := Option.some.inj e
  exact p_M10
theorem wf_Scene_copy {C : Nat} {L : List Nat} {A : Mem} (v0 : Nat) (v1 : Nat) (M : Mem) (hC : sb 0 C) (h_v0_0 : Oc C L (rf v0 0)) (h_v0_1 : Oc C L (rf v0 1)) (h_v0_2 : Oc C L (rf v0 2)) (h_v0_3 : Oc C L (rf v0 3)) (h_v0_4 : Oc C L (rf v0 4)) (h_v0_5 : Oc C L (rf v0 5)) (h_v0 : Oc C L (v0)) (p0 : Fx C L A M) {r : (Mem)} (e : f_Scene_copy v0 v1 M = some r) : (fun r : Mem => Fx C L A r) r := by
  unfold f_Scene_copy at e
  obtain ⟨g_v0, e⟩ := io_n e
  obtain ⟨g_v1, e⟩ := io_n e
  obtain ⟨M1, e_M1, e⟩ := mo e
  have p_M1 : Fx C L A M1 := wc p0 e_M1 h_v0_0
  obtain ⟨M2, e_M2, e⟩ := mo e
  have p_M2 : Fx C L A M2 := wc p_M1 e_M2 h_v0_1
  obtain ⟨M3, e_M3, e⟩ := mo e
  have p_M3 : Fx C L A M3 := wc p_M2 e_M3 h_v0_2
  obtain ⟨M4, e_M4, e⟩ := mo e
  have p_M4 : Fx C L A M4 := wc p_M3 e_M4 h_v0_3
  obtain ⟨M5, e_M5, e⟩ := mo e
  have p_M5 : Fx C L A M5 := wc p_M4 e_M5 h_v0_4
  obtain ⟨M6, e_M6, e⟩ := mo e
  have p_M6 : Fx C L A M6 := wc p_M5 e_M6 h_v0_5
  obtain ⟨M7, e_M7, e⟩ := mo e
  have p_M7 : Fx C L A M7 := wi p_M6 e_M7 h_v0
  obtain ⟨M8, e_M8, e⟩ := mo e
  have p_M8 : Fx C L A M8 := wi p_M7 e_M8 h_v0
  obtain ⟨M9, e_M9, e⟩ := mo e
  have p_M9 : Fx C L A M9 := wi p_M8 e_M9 h_v0
  obtain ⟨M10, e_M10, e⟩ := mo e
  have p_M10 : Fx C L A M10 := wi p_M9 e_M10 h_v0
  obtain rfl := Option.some.inj e
  exact p_M10
theorem wf_Scene_addPlank {C : Nat} {L : List Nat} {A : Mem} (v0 : Nat) (v1 : Int32) (v2 : Int32) (M : Mem) (hC : sb 0 C) (h_v0_4 : Oc C L (rf v0 4)) (h_v0_5 : Oc C L (rf v0 5)) (h_v0 : Oc C L (v0)) (p0 : Fx C L A M) {r : (Int32 × Mem)} (e : f_Scene_addPlank v0 v1 v2 M = some r) : (fun r : Int32 × Mem => Fx C L A r.2) r := by
  unfold f_Scene_addPlank at e
  obtain ⟨g_v0, e⟩ := io_n e
  rcases io e with ⟨_, e⟩ | ⟨_, e⟩
  · obtain rfl := Option.some.inj e
    exact p0
  rcases io e with ⟨_, e⟩ | ⟨_, e⟩
  · obtain ⟨_, e⟩ := io_n e
    obtain ⟨M1, e_M1, e⟩ := mo e
    have p_M1 : Fx C L A M1 := wi p0 e_M1 h_v0_4
    obtain ⟨_, e⟩ := io_n e
    obtain ⟨M2, e_M2, e⟩ := mo e
    have p_M2 : Fx C L A M2 := wi p_M1 e_M2 h_v0_5
    obtain ⟨M3, e_M3, e⟩ := mo e
    have p_M3 : Fx C L A M3 := wi p_M2 e_M3 h_v0
    obtain rfl := Option.some.inj e
    exact p_M3
  obtain rfl := Option.some.inj e
  exact p0
theorem wf_Scene_addMeeting {C : Nat} {L : List Nat} {A : Mem} (v0 : Nat) (v1 : Int32) (v2 : Int32) (M : Mem) (hC : sb 0 C) (h_v0_3 : Oc C L (rf v0 3)) (p0 : Fx C L A M) {r : (Mem)} (e : f_Scene_addMeeting v0 v1 v2 M = some r) : (fun r : Mem => Fx C L A r) r := by
  unfold f_Scene_addMeeting at e
  obtain ⟨g_v0, e⟩ := io_n e
  obtain ⟨_, e⟩ := io_n e
  obtain ⟨_, e⟩ := io_n e
  obtain ⟨M1, e_M1, e⟩ := mo e
  have p_M1 : Fx C L A M1 := wi p0 e_M1 h_v0_3
  obtain rfl := Option.some.inj e
  exact p_M1
theorem wf_History_forget {C : Nat} {L : List Nat} {A : Mem} (M : Mem) (hC : sb 8343699359066055009355553539724812947666814540455674882605631280555545803830627148527195652096 C)  (p0 : Fx C L A M) {r : (Mem)} (e : f_History_forget M = some r) : (fun r : Mem => Fx C L A r) r := by
  unfold f_History_forget at e
  obtain ⟨M1, e_M1, e⟩ := mo e
  have p_M1 : Fx C L A M1 := wi1 p0 e_M1 (tb1 hC (by decide +kernel))
  obtain rfl := Option.some.inj e
  exact p_M1
theorem wf_History_spoil {C : Nat} {L : List Nat} {A : Mem} (M : Mem) (hC : sb 16687398718132110018711107079449625895333629080911349765211262561111091607661254297054391304192 C)  (p0 : Fx C L A M) {r : (Mem)} (e : f_History_spoil M = some r) : (fun r : Mem => Fx C L A r) r := by
  unfold f_History_spoil at e
  obtain ⟨M1, e_M1, e⟩ := mo e
  have p_M1 : Fx C L A M1 := wi1 p0 e_M1 (tb1 hC (by decide +kernel))
  obtain rfl := Option.some.inj e
  exact p_M1
theorem wf_History_clear {C : Nat} {L : List Nat} {A : Mem} (M : Mem) (hC : sb 25031098077198165028066660619174438843000443621367024647816893841666637411491881445581586956288 C)  (p0 : Fx C L A M) {r : (Mem)} (e : f_History_clear M = some r) : (fun r : Mem => Fx C L A r) r := by
  unfold f_History_clear at e
  obtain ⟨x1, e_x1, e⟩ := bo e
  have p_x1 : Fx C L A x1 := (wf_History_forget M (sb_t (by decide +kernel) hC) p0 e_x1)
  obtain ⟨x2, e_x2, e⟩ := bo e
  have p_x2 : Fx C L A x2 := (wf_History_spoil x1 (sb_t (by decide +kernel) hC) p_x1 e_x2)
  obtain rfl := Option.some.inj e
  exact p_x2
theorem wj_History_add_58 {C : Nat} {L : List Nat} {A : Mem} (v1 : Nat) (M : Mem) (hC : sb 8343699359066055009355553539724812947666814540455853288567219525540678089576807772473585039360 C)  (p0 : Fx C L A M) {r : (Mem)} (e : j_History_add_58 v1 M = some r) : (fun r : Mem => Fx C L A r) r := by
  unfold j_History_add_58 at e
  obtain ⟨_, e⟩ := io_n e
  obtain ⟨a1, e_a1, e⟩ := bo e
  obtain ⟨g_a1, e⟩ := io_n e
  obtain ⟨x2, e_x2, e⟩ := bo e
  have p_x2 : Fx C L A x2 := (wf_Scene_copy a1 v1 M (sb_t (by decide +kernel) hC) (oc_s hC (by decide +kernel) g_a1 (some 0)) (oc_s hC (by decide +kernel) g_a1 (some 1)) (oc_s hC (by decide +kernel) g_a1 (some 2)) (oc_s hC (by decide +kernel) g_a1 (some 3)) (oc_s hC (by decide +kernel) g_a1 (some 4)) (oc_s hC (by decide +kernel) g_a1 (some 5)) (oc_s hC (by decide +kernel) g_a1 none) p0 e_x2)
  obtain ⟨M3, e_M3, e⟩ := mo e
  have p_M3 : Fx C L A M3 := wi1 p_x2 e_M3 (tb1 hC (by decide +kernel))
  obtain rfl := Option.some.inj e
  exact p_M3
theorem wl_History_add_18 {C : Nat} {L : List Nat} {A : Mem} (v1 : Nat) (v2 : Nat) (s : Int32 × Mem) (hC : sb 140737488355328 C)  (p0 : Fx C L A s.2) {r : ((Int32 × Mem) ⊕ ((Mem)))} (e : lb_History_add_18 v1 v2 s = some r) : (Sum.elim (fun r : Int32 × Mem => Fx C L A r.2) (fun r : Mem => Fx C L A r)) r := by
  unfold lb_History_add_18 at e
  rcases io e with ⟨_, e⟩ | ⟨_, e⟩
  · obtain rfl := Option.some.inj e
    exact p0
  obtain ⟨_, e⟩ := io_n e
  obtain ⟨a5, e_a5, e⟩ := bo e
  obtain ⟨g_a5, e⟩ := io_n e
  obtain ⟨_, e⟩ := io_n e
  obtain ⟨M6, e_M6, e⟩ := mo e
  have p_M6 : Fx C L A M6 := wq p0 e_M6 (oc_c hC (by decide +kernel))
  obtain rfl := Option.some.inj e
  exact p_M6
theorem wf_History_add {C : Nat} {L : List Nat} {A : Mem} (v1 : Nat) (M : Mem) (hC : sb 8343699359066055009355553539724812947666814540455853288567219525540678089576807913211073394688 C)  (p0 : Fx C L A M) {r : (Mem)} (e : f_History_add v1 M = some r) : (fun r : Mem => Fx C L A r) r := by
  unfold f_History_add at e
  obtain ⟨g_v1, e⟩ := io_n e
  rcases io e with ⟨_, e⟩ | ⟨_, e⟩
  · exact (wj_History_add_58 v1 M (sb_t (by decide +kernel) hC) p0 e)
  obtain ⟨_, e⟩ := io_n e
  obtain ⟨a4, e_a4, e⟩ := bo e
  obtain ⟨g_a4, e⟩ := io_n e
  obtain ⟨x8, e_x8, e⟩ := bo e
  have p_x8 : Fx C L A x8 := (it_r (I := fun s : Int32 × Mem => Fx C L A s.2) (Q := (fun r : Mem => Fx C L A r)) (fun s_ r_ hs_ er_ => wl_History_add_18 v1 a4 s_ (sb_t (by decide +kernel) hC) hs_ er_) e_x8 p0)
  obtain ⟨M9, e_M9, e⟩ := mo e
  have p_M9 : Fx C L A M9 := wq p_x8 e_M9 (oc_c hC (by decide +kernel))
  obtain ⟨M10, e_M10, e⟩ := mo e
  have p_M10 : Fx C L A M10 := wi1 p_M9 e_M10 (tb1 hC (by decide +kernel))
  exact (wj_History_add_58 v1 M10 (sb_t (by decide +kernel) hC) p_M10 e)
theorem wf_History_back {C : Nat} {L : List Nat} {A : Mem} (v1 : Nat) (M : Mem) (hC : sb 8343699359066055009355553539724812947666814540455674882605631280555545803830627148527195652096 C) (h_v1_0 : Oc C L (rf v1 0)) (h_v1_1 : Oc C L (rf v1 1)) (h_v1_2 : Oc C L (rf v1 2)) (h_v1_3 : Oc C L (rf v1 3)) (h_v1_4 : Oc C L (rf v1 4)) (h_v1_5 : Oc C L (rf v1 5)) (h_v1 : Oc C L (v1)) (p0 : Fx C L A M) {r : (Int32 × Mem)} (e : f_History_back v1 M = some r) : (fun r : Int32 × Mem => Fx C L A r.2) r := by
  unfold f_History_back at e
  obtain ⟨g_v1, e⟩ := io_n e
  rcases io e with ⟨_, e⟩ | ⟨_, e⟩
  · obtain rfl := Option.some.inj e
    exact p0
  rcases io e with ⟨_, e⟩ | ⟨_, e⟩
  · obtain ⟨M1, e_M1, e⟩ := mo e
    have p_M1 : Fx C L A M1 := wi1 p0 e_M1 (tb1 hC (by decide +kernel))
    obtain ⟨_, e⟩ := io_n e
    obtain ⟨a2, e_a2, e⟩ := bo e
    obtain ⟨g_a2, e⟩ := io_n e
    obtain ⟨x3, e_x3, e⟩ := bo e
    have p_x3 : Fx C L A x3 := (wf_Scene_copy v1 a2 M1 (sb_t (by decide +kernel) hC) h_v1_0 h_v1_1 h_v1_2 h_v1_3 h_v1_4 h_v1_5 h_v1 p_M1 e_x3)
    obtain rfl := Option.some.inj e
    exact p_x3
  obtain rfl := Option.some.inj e
  exact p0
theorem wf_History_store {C : Nat} {L : List Nat} {A : Mem} (v1 : Int32) (v2 : Nat) (M : Mem) (hC : sb 16687398718132110018711107079449625895333629080911528171172850806096223893407434921000780691456 C)  (p0 : Fx C L A M) {r : (Int32 × Mem)} (e : f_History_store v1 v2 M = some r) : (fun r : Int32 × Mem => Fx C L A r.2) r := by
  unfold f_History_store at e
  obtain ⟨g_v2, e⟩ := io_n e
  rcases io e with ⟨_, e⟩ | ⟨_, e⟩
  · obtain rfl := Option.some.inj e
    exact p0
  rcases io e with ⟨_, e⟩ | ⟨_, e⟩
  · obtain ⟨_, e⟩ := io_n e
    obtain ⟨a1, e_a1, e⟩ := bo e
    obtain ⟨g_a1, e⟩ := io_n e
    obtain ⟨x2, e_x2, e⟩ := bo e
    have p_x2 : Fx C L A x2 := (wf_Scene_copy a1 v2 M (sb_t (by decide +kernel) hC) (oc_s hC (by decide +kernel) g_a1 (some 0)) (oc_s hC (by decide +kernel) g_a1 (some 1)) (oc_s hC (by decide +kernel) g_a1 (some 2)) (oc_s hC (by decide +kernel) g_a1 (some 3)) (oc_s hC (by decide +kernel) g_a1 (some 4)) (oc_s hC (by decide +kernel) g_a1 (some 5)) (oc_s hC (by decide +kernel) g_a1 none) p0 e_x2)
    obtain ⟨M3, e_M3, e⟩ := mo e
    have p_M3 : Fx C L A M3 := wi1 p_x2 e_M3 (tb1 hC (by decide +kernel))
    obtain rfl := Option.some.inj e
    exact p_M3
  obtain rfl := Option.some.inj e
  exact p0
theorem wf_History_restore {C : Nat} {L : List Nat} {A : Mem} (v1 : Int32) (v2 : Nat) (M : Mem) (hC : sb 0 C) (h_v2_0 : Oc C L (rf v2 0)) (h_v2_1 : Oc C L (rf v2 1)) (h_v2_2 : Oc C L (rf v2 2)) (h_v2_3 : Oc C L (rf v2 3)) (h_v2_4 : Oc C L (rf v2 4)) (h_v2_5 : Oc C L (rf v2 5)) (h_v2 : Oc C L (v2)) (p0 : Fx C L A M) {r : (Int32 × Mem)} (e : f_History_restore v1 v2 M = some r) : (fun r : Int32 × Mem => Fx C L A r.2) r := by
  unfold f_History_restore at e
  obtain ⟨g_v2, e⟩ := io_n e
  rcases io e with ⟨_, e⟩ | ⟨_, e⟩
  · obtain rfl := Option.some.inj e
    exact p0
  rcases io e with ⟨_, e⟩ | ⟨_, e⟩
  · obtain rfl := Option.some.inj e
    exact p0
  rcases io e with ⟨_, e⟩ | ⟨_, e⟩
  · obtain rfl := Option.some.inj e
    exact p0
  obtain ⟨_, e⟩ := io_n e
  obtain ⟨a1, e_a1, e⟩ := bo e
  obtain ⟨g_a1, e⟩ := io_n e
  obtain ⟨x2, e_x2, e⟩ := bo e
  have p_x2 : Fx C L A x2 := (wf_Scene_copy v2 a1 M (sb_t (by decide +kernel) hC) h_v2_0 h_v2_1 h_v2_2 h_v2_3 h_v2_4 h_v2_5 h_v2 p0 e_x2)
  obtain rfl := Option.some.inj e
  exact p_x2
theorem wj_Nets_link_88_19 {C : Nat} {L : List Nat} {A : Mem} (v0 : Nat) (v2 : Int32) (v3 : Int32) (v4 : Int32) (v5 : Int32) (v6 : Int32) (v7 : Int32) (w0 : Int32) (w1 : Int32) (w2 : Nat) (M : Mem) (hC : sb 0 C) (h_v0_1 : Oc C L (rf v0 1)) (h_w2 : Oc C L (w2)) (p0 : Fx C L A M) {r : ((Int32 × Mem) ⊕ ((Mem)))} (e : j_Nets_link_88_19 v0 v2 v3 v4 v5 v6 v7 w0 w1 w2 M = some r) : (Sum.elim (fun r : Int32 × Mem => Fx C L A r.2) (fun r : Mem => Fx C L A r)) r := by
  unfold j_Nets_link_88_19 at e
  obtain ⟨_, e⟩ := io_n e
  obtain ⟨M3, e_M3, e⟩ := mo e
  have p_M3 : Fx C L A M3 := wi p0 e_M3 h_w2
  obtain ⟨_, e⟩ := io_n e
  rcases io e with ⟨_, e⟩ | ⟨_, e⟩
  · obtain ⟨_, e⟩ := io_n e
    obtain ⟨M4, e_M4, e⟩ := mo e
    have p_M4 : Fx C L A M4 := wlg p_M3 e_M4 h_v0_1
    obtain rfl := Option.some.inj e
    exact p_M4
  obtain ⟨_, e⟩ := io_n e
  obtain ⟨M5, e_M5, e⟩ := mo e
  have p_M5 : Fx C L A M5 := wlg p_M3 e_M5 h_v0_1
  obtain rfl := Option.some.inj e
  exact p_M5
theorem wj_Nets_link_64_19 {C : Nat} {L : List Nat} {A : Mem} (v0 : Nat) (v2 : Int32) (v3 : Int32) (v4 : Int32) (v5 : Int32) (v6 : Int32) (w0 : Int32) (M : Mem) (hC : sb 0 C) (h_v0_1 : Oc C L (rf v0 1)) (h_v0_2 : Oc C L (rf v0 2)) (p0 : Fx C L A M) {r : ((Int32 × Mem) ⊕ ((Mem)))} (e : j_Nets_link_64_19 v0 v2 v3 v4 v5 v6 w0 M = some r) : (Sum.elim (fun r : Int32 × Mem => Fx C L A r.2) (fun r : Mem => Fx C L A r)) r := by
  unfold j_Nets_link_64_19 at e
  rcases io e with ⟨_, e⟩ | ⟨_, e⟩
  · exact (wj_Nets_link_88_19 v0 v2 v3 v4 v5 v6 w0 (-1 : Int32) ((v4 * (4 : Int32)) + v5) (rf v0 2) M (sb_t (by decide +kernel) hC) h_v0_1 h_v0_2 p0 e)
  exact (wj_Nets_link_88_19 v0 v2 v3 v4 v5 v6 w0 v6 ((v4 * (4 : Int32)) + v5) (rf v0 2) M (sb_t (by decide +kernel) hC) h_v0_1 h_v0_2 p0 e)
theorem wl_Nets_link_19 {C : Nat} {L : List Nat} {A : Mem} (v0 : Nat) (v2 : Int32) (v3 : Int32) (v4 : Int32) (s : Int32 × Mem) (hC : sb 0 C) (h_v0_1 : Oc C L (rf v0 1)) (h_v0_2 : Oc C L (rf v0 2)) (p0 : Fx C L A s.2) {r : ((Int32 × Mem) ⊕ ((Mem)))} (e : lb_Nets_link_19 v0 v2 v3 v4 s = some r) : (Sum.elim (fun r : Int32 × Mem => Fx C L A r.2) (fun r : Mem => Fx C L A r)) r := by
  unfold lb_Nets_link_19 at e
  rcases io e with ⟨_, e⟩ | ⟨_, e⟩
  · obtain rfl := Option.some.inj e
    exact p0
  obtain ⟨x2, e_x2, e⟩ := bo e
  rcases io e with ⟨_, e⟩ | ⟨_, e⟩
  · exact (wj_Nets_link_64_19 v0 v2 v3 v4 s.1 x2 (0 : Int32) s.2 (sb_t (by decide +kernel) hC) h_v0_1 h_v0_2 p0 e)
  obtain ⟨x8, e_x8, e⟩ := bo e
  rcases io e with ⟨_, e⟩ | ⟨_, e⟩
  · exact (wj_Nets_link_64_19 v0 v2 v3 v4 s.1 x2 (0 : Int32) s.2 (sb_t (by decide +kernel) hC) h_v0_1 h_v0_2 p0 e)
  obtain ⟨x9, e_x9, e⟩ := bo e
  rcases io e with ⟨_, e⟩ | ⟨_, e⟩
  · exact (wj_Nets_link_64_19 v0 v2 v3 v4 s.1 x2 (0 : Int32) s.2 (sb_t (by decide +kernel) hC) h_v0_1 h_v0_2 p0 e)
  exact (wj_Nets_link_64_19 v0 v2 v3 v4 s.1 x2 (1 : Int32) s.2 (sb_t (by decide +kernel) hC) h_v0_1 h_v0_2 p0 e)
theorem wf_Nets_link {C : Nat} {L : List Nat} {A : Mem} (v0 : Nat) (v2 : Int32) (v3 : Int32) (M : Mem) (hC : sb 0 C) (h_v0_1 : Oc C L (rf v0 1)) (h_v0_2 : Oc C L (rf v0 2)) (p0 : Fx C L A M) {r : (Mem)} (e : f_Nets_link v0 v2 v3 M = some r) : (fun r : Mem => Fx C L A r) r := by
  unfold f_Nets_link at e
  obtain ⟨g_v0, e⟩ := io_n e
  obtain ⟨_, e⟩ := io_n e
  obtain ⟨M1, e_M1, e⟩ := mo e
  have p_M1 : Fx C L A M1 := wlg p0 e_M1 h_v0_1
  obtain ⟨x14, e_x14, e⟩ := bo e
  have p_x14 : Fx C L A x14 := (it_r (I := fun s : Int32 × Mem => Fx C L A s.2) (Q := (fun r : Mem => Fx C L A r)) (fun s_ r_ hs_ er_ => wl_Nets_link_19 v0 v2 v3 ((v2 * (36 : Int32)) + v3) s_ (sb_t (by decide +kernel) hC) h_v0_1 h_v0_2 hs_ er_) e_x14 p_M1)
  obtain rfl := Option.some.inj e
  exact p_x14
theorem wf_Nets_bridge {C : Nat} {L : List Nat} {A : Mem} (v0 : Nat) (v2 : Int32) (v3 : Int32) (M : Mem) (hC : sb 0 C) (h_v0_1 : Oc C L (rf v0 1)) (h_v0_2 : Oc C L (rf v0 2)) (p0 : Fx C L A M) {r : (Mem)} (e : f_Nets_bridge v0 v2 v3 M = some r) : (fun r : Mem => Fx C L A r) r := by
  unfold f_Nets_bridge at e
  obtain ⟨g_v0, e⟩ := io_n e
  obtain ⟨x1, e_x1, e⟩ := bo e
  rcases io e with ⟨_, e⟩ | ⟨_, e⟩
  · obtain rfl := Option.some.inj e
    exact p0
  obtain ⟨_, e⟩ := io_n e
  obtain ⟨M2, e_M2, e⟩ := mo e
  have p_M2 : Fx C L A M2 := wi p0 e_M2 h_v0_2
  obtain ⟨_, e⟩ := io_n e
  obtain ⟨_, e⟩ := io_n e
  obtain ⟨M3, e_M3, e⟩ := mo e
  have p_M3 : Fx C L A M3 := wlg p_M2 e_M3 h_v0_1
  obtain rfl := Option.some.inj e
  exact p_M3
theorem wj_Nets_lay_50_27 {C : Nat} {L : List Nat} {A : Mem} (v0 : Nat) (v2 : Nat) (v3 : Int32) (v4 : Int32) (v5 : Int32) (M : Mem) (hC : sb 0 C) (h_v0_0 : Oc C L (rf v0 0)) (p0 : Fx C L A M) {r : ((Int32 × Mem) ⊕ ((Mem)))} (e : j_Nets_lay_50_27 v0 v2 v3 v4 v5 M = some r) : (Sum.elim (fun r : Int32 × Mem => Fx C L A r.2) (fun r : Mem => Fx C L A r)) r := by
  unfold j_Nets_lay_50_27 at e
  obtain ⟨_, e⟩ := io_n e
  obtain ⟨_, e⟩ := io_n e
  obtain ⟨M3, e_M3, e⟩ := mo e
  have p_M3 : Fx C L A M3 := wlg p0 e_M3 h_v0_0
  obtain rfl := Option.some.inj e
  exact p_M3
theorem wl_Nets_lay_27 {C : Nat} {L : List Nat} {A : Mem} (v0 : Nat) (v2 : Nat) (v3 : Int32) (v4 : Int32) (s : Int32 × Mem) (hC : sb 0 C) (h_v0_0 : Oc C L (rf v0 0)) (p0 : Fx C L A s.2) {r : ((Int32 × Mem) ⊕ ((Mem)))} (e : lb_Nets_lay_27 v0 v2 v3 v4 s = some r) : (Sum.elim (fun r : Int32 × Mem => Fx C L A r.2) (fun r : Mem => Fx C L A r)) r := by
  unfold lb_Nets_lay_27 at e
  rcases io e with ⟨_, e⟩ | ⟨_, e⟩
  · obtain rfl := Option.some.inj e
    exact p0
  rcases io e with ⟨_, e⟩ | ⟨_, e⟩
  · exact (wj_Nets_lay_50_27 v0 v2 v3 v4 s.1 s.2 (sb_t (by decide +kernel) hC) h_v0_0 p0 e)
  obtain ⟨x4, e_x4, e⟩ := bo e
  rcases io e with ⟨_, e⟩ | ⟨_, e⟩
  · obtain rfl := Option.some.inj e
    exact p0
  exact (wj_Nets_lay_50_27 v0 v2 v3 v4 s.1 s.2 (sb_t (by decide +kernel) hC) h_v0_0 p0 e)
theorem wl_Nets_lay_17 {C : Nat} {L : List Nat} {A : Mem} (v0 : Nat) (v2 : Nat) (v3 : Int32) (s : Int32 × Mem) (hC : sb 0 C) (h_v0_0 : Oc C L (rf v0 0)) (p0 : Fx C L A s.2) {r : ((Int32 × Mem) ⊕ ((Mem)))} (e : lb_Nets_lay_17 v0 v2 v3 s = some r) : (Sum.elim (fun r : Int32 × Mem => Fx C L A r.2) (fun r : Mem => Fx C L A r)) r := by
  unfold lb_Nets_lay_17 at e
  rcases io e with ⟨_, e⟩ | ⟨_, e⟩
  · obtain rfl := Option.some.inj e
    exact p0
  obtain ⟨x8, e_x8, e⟩ := bo e
  have p_x8 : Fx C L A x8 := (it_r (I := fun s : Int32 × Mem => Fx C L A s.2) (Q := (fun r : Mem => Fx C L A r)) (fun s_ r_ hs_ er_ => wl_Nets_lay_27 v0 v2 v3 s.1 s_ (sb_t (by decide +kernel) hC) h_v0_0 hs_ er_) e_x8 p0)
  obtain rfl := Option.some.inj e
  exact p_x8
theorem wl_Nets_lay_79 {C : Nat} {L : List Nat} {A : Mem} (v0 : Nat) (v2 : Nat) (s : Int32 × Mem) (hC : sb 0 C) (h_v0_1 : Oc C L (rf v0 1)) (h_v0_2 : Oc C L (rf v0 2)) (p0 : Fx C L A s.2) {r : ((Int32 × Mem) ⊕ ((Mem)))} (e : lb_Nets_lay_79 v0 v2 s = some r) : (Sum.elim (fun r : Int32 × Mem => Fx C L A r.2) (fun r : Mem => Fx C L A r)) r := by
  unfold lb_Nets_lay_79 at e
  rcases io e with ⟨_, e⟩ | ⟨_, e⟩
  · obtain rfl := Option.some.inj e
    exact p0
  obtain ⟨x11, e_x11, e⟩ := bo e
  have p_x11 : Fx C L A x11 := (wf_Nets_link v0 (0 : Int32) s.1 s.2 (sb_t (by decide +kernel) hC) h_v0_1 h_v0_2 p0 e_x11)
  obtain ⟨x12, e_x12, e⟩ := bo e
  have p_x12 : Fx C L A x12 := (wf_Nets_link v0 (1 : Int32) s.1 x11 (sb_t (by decide +kernel) hC) h_v0_1 h_v0_2 p_x11 e_x12)
  obtain rfl := Option.some.inj e
  exact p_x12
theorem wl_Nets_lay_111 {C : Nat} {L : List Nat} {A : Mem} (v0 : Nat) (v2 : Nat) (s : Int32 × Mem) (hC : sb 0 C) (h_v0_1 : Oc C L (rf v0 1)) (h_v0_2 : Oc C L (rf v0 2)) (p0 : Fx C L A s.2) {r : ((Int32 × Mem) ⊕ ((Mem)))} (e : lb_Nets_lay_111 v0 v2 s = some r) : (Sum.elim (fun r : Int32 × Mem => Fx C L A r.2) (fun r : Mem => Fx C L A r)) r := by
  unfold lb_Nets_lay_111 at e
  rcases io e with ⟨_, e⟩ | ⟨_, e⟩
  · obtain rfl := Option.some.inj e
    exact p0
  rcases io e with ⟨_, e⟩ | ⟨_, e⟩
  · obtain rfl := Option.some.inj e
    exact p0
  obtain ⟨_, e⟩ := io_n e
  obtain ⟨_, e⟩ := io_n e
  obtain ⟨x15, e_x15, e⟩ := bo e
  have p_x15 : Fx C L A x15 := (wf_Nets_bridge v0 (s.2.1 (rf v2 4) s.1.toNatClampNeg) (s.2.1 (rf v2 5) s.1.toNatClampNeg) s.2 (sb_t (by decide +kernel) hC) h_v0_1 h_v0_2 p0 e_x15)
  obtain ⟨_, e⟩ := io_n e
  obtain ⟨_, e⟩ := io_n e
  obtain ⟨x16, e_x16, e⟩ := bo e
  have p_x16 : Fx C L A x16 := (wf_Nets_bridge v0 (x15.1 (rf v2 5) s.1.toNatClampNeg) (x15.1 (rf v2 4) s.1.toNatClampNeg) x15 (sb_t (by decide +kernel) hC) h_v0_1 h_v0_2 p_x15 e_x16)
  obtain rfl := Option.some.inj e
  exact p_x16
theorem wf_Nets_lay {C : Nat} {L : List Nat} {A : Mem} (v0 : Nat) (v2 : Nat) (v3 : Int32) (M : Mem) (hC : sb 0 C) (h_v0_0 : Oc C L (rf v0 0)) (h_v0_1 : Oc C L (rf v0 1)) (h_v0_2 : Oc C L (rf v0 2)) (p0 : Fx C L A M) {r : (Mem)} (e : f_Nets_lay v0 v2 v3 M = some r) : (fun r : Mem => Fx C L A r) r := by
  unfold f_Nets_lay at e
  obtain ⟨g_v0, e⟩ := io_n e
  obtain ⟨g_v2, e⟩ := io_n e
  obtain ⟨M1, e_M1, e⟩ := mo e
  have p_M1 : Fx C L A M1 := wlg p0 e_M1 h_v0_0
  obtain ⟨M2, e_M2, e⟩ := mo e
  have p_M2 : Fx C L A M2 := wlg p_M1 e_M2 h_v0_0
  obtain ⟨x10, e_x10, e⟩ := bo e
  have p_x10 : Fx C L A x10 := (it_r (I := fun s : Int32 × Mem => Fx C L A s.2) (Q := (fun r : Mem => Fx C L A r)) (fun s_ r_ hs_ er_ => wl_Nets_lay_17 v0 v2 v3 s_ (sb_t (by decide +kernel) hC) h_v0_0 hs_ er_) e_x10 p_M2)
  obtain ⟨x14, e_x14, e⟩ := bo e
  have p_x14 : Fx C L A x14 := (it_r (I := fun s : Int32 × Mem => Fx C L A s.2) (Q := (fun r : Mem => Fx C L A r)) (fun s_ r_ hs_ er_ => wl_Nets_lay_79 v0 v2 s_ (sb_t (by decide +kernel) hC) h_v0_1 h_v0_2 hs_ er_) e_x14 p_x10)
  obtain ⟨x19, e_x19, e⟩ := bo e
  have p_x19 : Fx C L A x19 := (it_r (I := fun s : Int32 × Mem => Fx C L A s.2) (Q := (fun r : Mem => Fx C L A r)) (fun s_ r_ hs_ er_ => wl_Nets_lay_111 v0 v2 s_ (sb_t (by decide +kernel) hC) h_v0_1 h_v0_2 hs_ er_) e_x19 p_x14)
  obtain rfl := Option.some.inj e
  exact p_x19
theorem wl_Nets_measure_3 {C : Nat} {L : List Nat} {A : Mem} (v0 : Nat) (v1 : Int32) (v2 : Int32) (v3 : Nat) (s : Int32 × Mem) (hC : sb 0 C) (h_v3 : Oc C L (v3)) (p0 : Fx C L A s.2) {r : ((Int32 × Mem) ⊕ ((Mem)))} (e : lb_Nets_measure_3 v0 v1 v2 v3 s = some r) : (Sum.elim (fun r : Int32 × Mem => Fx C L A r.2) (fun r : Mem => Fx C L A r)) r := by
  unfold lb_Nets_measure_3 at e
  rcases io e with ⟨_, e⟩ | ⟨_, e⟩
  · obtain rfl := Option.some.inj e
    exact p0
  obtain ⟨_, e⟩ := io_n e
  obtain ⟨M1, e_M1, e⟩ := mo e
  have p_M1 : Fx C L A M1 := wi p0 e_M1 h_v3
  obtain rfl := Option.some.inj e
  exact p_M1
theorem wl_Nets_measure_51 {C : Nat} {L : List Nat} {A : Mem} (v0 : Nat) (v1 : Int32) (v3 : Nat) (v4 : Int64) (v6 : Int64) (v8 : Int32) (s : Int32 × Mem) (hC : sb 0 C) (h_v3 : Oc C L (v3)) (p0 : Fx C L A s.2) {r : ((Int32 × Mem) ⊕ ((Mem)))} (e : lb_Nets_measure_51 v0 v1 v3 v4 v6 v8 s = some r) : (Sum.elim (fun r : Int32 × Mem => Fx C L A r.2) (fun r : Mem => Fx C L A r)) r := by
  unfold lb_Nets_measure_51 at e
  rcases io e with ⟨_, e⟩ | ⟨_, e⟩
  · obtain rfl := Option.some.inj e
    exact p0
  rcases io e with ⟨_, e⟩ | ⟨_, e⟩
  · obtain rfl := Option.some.inj e
    exact p0
  obtain ⟨_, e⟩ := io_n e
  obtain ⟨M4, e_M4, e⟩ := mo e
  have p_M4 : Fx C L A M4 := wi p0 e_M4 h_v3
  obtain rfl := Option.some.inj e
  exact p_M4
theorem wl_Nets_measure_34 {C : Nat} {L : List Nat} {A : Mem} (v0 : Nat) (v1 : Int32) (v3 : Nat) (s : Int64 × Int64 × Int32 × Mem) (hC : sb 0 C) (h_v3 : Oc C L (v3)) (p0 : Fx C L A s.2.2.2) {r : ((Int64 × Int64 × Int32 × Mem) ⊕ ((Mem)))} (e : lb_Nets_measure_34 v0 v1 v3 s = some r) : (Sum.elim (fun r : Int64 × Int64 × Int32 × Mem => Fx C L A r.2.2.2) (fun r : Mem => Fx C L A r)) r := by
  unfold lb_Nets_measure_34 at e
  rcases io e with ⟨_, e⟩ | ⟨_, e⟩
  · obtain rfl := Option.some.inj e
    exact p0
  rcases io e with ⟨_, e⟩ | ⟨_, e⟩
  · obtain rfl := Option.some.inj e
    exact p0
  obtain ⟨x7, e_x7, e⟩ := bo e
  have p_x7 : Fx C L A x7 := (it_r (I := fun s : Int32 × Mem => Fx C L A s.2) (Q := (fun r : Mem => Fx C L A r)) (fun s_ r_ hs_ er_ => wl_Nets_measure_51 v0 v1 v3 s.1 s.2.1 s.2.2.1 s_ (sb_t (by decide +kernel) hC) h_v3 hs_ er_) e_x7 p0)
  obtain ⟨x8, e_x8, e⟩ := bo e
  obtain rfl := Option.some.inj e
  exact p_x7
theorem wf_Nets_measure {C : Nat} {L : List Nat} {A : Mem} (v0 : Nat) (v1 : Int32) (v2 : Int32) (v3 : Nat) (M : Mem) (hC : sb 0 C) (h_v3 : Oc C L (v3)) (p0 : Fx C L A M) {r : (Mem)} (e : f_Nets_measure v0 v1 v2 v3 M = some r) : (fun r : Mem => Fx C L A r) r := by
  unfold f_Nets_measure at e
  obtain ⟨g_v0, e⟩ := io_n e
  obtain ⟨g_v3, e⟩ := io_n e
  obtain ⟨x3, e_x3, e⟩ := bo e
  have p_x3 : Fx C L A x3 := (it_r (I := fun s : Int32 × Mem => Fx C L A s.2) (Q := (fun r : Mem => Fx C L A r)) (fun s_ r_ hs_ er_ => wl_Nets_measure_3 v0 v1 v2 v3 s_ (sb_t (by decide +kernel) hC) h_v3 hs_ er_) e_x3 p0)
  obtain ⟨x11, e_x11, e⟩ := bo e
  have p_x11 : Fx C L A x11 := (it_r (I := fun s : Int64 × Int64 × Int32 × Mem => Fx C L A s.2.2.2) (Q := (fun r : Mem => Fx C L A r)) (fun s_ r_ hs_ er_ => wl_Nets_measure_34 v0 v1 v3 s_ (sb_t (by decide +kernel) hC) h_v3 hs_ er_) e_x11 p_x3)
  obtain rfl := Option.some.inj e
  exact p_x11
theorem wf_Law_emit {C : Nat} {L : List Nat} {A : Mem} (v1 : Int32) (M : Mem) (hC : sb 69992023193056381579920071267763883691301421788582797965624659405118495974380029543152426062784233472 C)  (p0 : Fx C L A M) {r : (Mem)} (e : f_Law_emit v1 M = some r) : (fun r : Mem => Fx C L A r) r := by
  unfold f_Law_emit at e
  rcases io e with ⟨_, e⟩ | ⟨_, e⟩
  · obtain rfl := Option.some.inj e
    exact p0
  rcases io e with ⟨_, e⟩ | ⟨_, e⟩
  · obtain rfl := Option.some.inj e
    exact p0
  obtain ⟨_, e⟩ := io_n e
  obtain ⟨M1, e_M1, e⟩ := mo e
  have p_M1 : Fx C L A M1 := wi p0 e_M1 (oc_c hC (by decide +kernel))
  obtain ⟨M2, e_M2, e⟩ := mo e
  have p_M2 : Fx C L A M2 := wi1 p_M1 e_M2 (tb1 hC (by decide +kernel))
  obtain rfl := Option.some.inj e
  exact p_M2
theorem wl_Law_settle_2 {C : Nat} {L : List Nat} {A : Mem} (v1 : Int32) (s : Int32 × Mem) (hC : sb 209976069579169144739760213803291651073904265365748393896873978215355487923140088629457269392259678208 C)  (p0 : Fx C L A s.2) {r : ((Int32 × Mem) ⊕ ((Mem) ⊕ (Mem)))} (e : lb_Law_settle_2 v1 s = some r) : (Sum.elim (fun r : Int32 × Mem => Fx C L A r.2) (Sum.elim (fun r : Mem => Fx C L A r) (fun r : Mem => Fx C L A r))) r := by
  unfold lb_Law_settle_2 at e
  rcases io e with ⟨_, e⟩ | ⟨_, e⟩
  · obtain rfl := Option.some.inj e
    exact p0
  rcases io e with ⟨_, e⟩ | ⟨_, e⟩
  · obtain rfl := Option.some.inj e
    exact p0
  rcases io e with ⟨_, e⟩ | ⟨_, e⟩
  · obtain rfl := Option.some.inj e
    exact p0
  obtain ⟨_, e⟩ := io_n e
  rcases io e with ⟨_, e⟩ | ⟨_, e⟩
  · obtain rfl := Option.some.inj e
    exact p0
  obtain ⟨_, e⟩ := io_n e
  obtain ⟨x1, e_x1, e⟩ := bo e
  rcases io e with ⟨_, e⟩ | ⟨_, e⟩
  · obtain ⟨M2, e_M2, e⟩ := mo e
    have p_M2 : Fx C L A M2 := wi1 p0 e_M2 (tb1 hC (by decide +kernel))
    obtain ⟨_, e⟩ := io_n e
    obtain ⟨x3, e_x3, e⟩ := bo e
    have p_x3 : Fx C L A x3 := (wf_Law_emit (-(M2.1 43 (M2.1 40 6).toNatClampNeg)) M2 (sb_t (by decide +kernel) hC) p_M2 e_x3)
    obtain rfl := Option.some.inj e
    exact p_x3
  obtain rfl := Option.some.inj e
  exact p0
theorem wf_Law_settle {C : Nat} {L : List Nat} {A : Mem} (v1 : Int32) (M : Mem) (hC : sb 209976069579169144739760213803291651073904265365748393896873978215355487923140088629457269392259678208 C)  (p0 : Fx C L A M) {r : (Mem)} (e : f_Law_settle v1 M = some r) : (fun r : Mem => Fx C L A r) r := by
  unfold f_Law_settle at e
  obtain ⟨y_, e_y, e⟩ := bo e
  have q_y := (it_r (I := fun s : Int32 × Mem => Fx C L A s.2) (Q := (Sum.elim (fun r : Mem => Fx C L A r) (fun r : Mem => Fx C L A r))) (fun s_ r_ hs_ er_ => wl_Law_settle_2 v1 s_ (sb_t (by decide +kernel) hC) hs_ er_) e_y p0)
  rcases y_ with y10 | y11
  · have p_y10 : Fx C L A y10 := q_y
    replace e := el_l e
    obtain rfl := Option.some.inj e
    exact p_y10
  · have p_y11 : Fx C L A y11 := q_y
    replace e := el_r e
    obtain rfl := Option.some.inj e
    exact p_y11
theorem wf_Law_hold {C : Nat} {L : List Nat} {A : Mem} (v1 : Int32) (M : Mem) (hC : sb 139984046386112763159840142535527767382602843577165595931249318810236991948760059086304852125568466944 C)  (p0 : Fx C L A M) {r : (Mem)} (e : f_Law_hold v1 M = some r) : (fun r : Mem => Fx C L A r) r := by
  unfold f_Law_hold at e
  rcases io e with ⟨_, e⟩ | ⟨_, e⟩
  · obtain rfl := Option.some.inj e
    exact p0
  rcases io e with ⟨_, e⟩ | ⟨_, e⟩
  · obtain rfl := Option.some.inj e
    exact p0
  obtain ⟨_, e⟩ := io_n e
  obtain ⟨M1, e_M1, e⟩ := mo e
  have p_M1 : Fx C L A M1 := wi p0 e_M1 (oc_c hC (by decide +kernel))
  obtain ⟨M2, e_M2, e⟩ := mo e
  have p_M2 : Fx C L A M2 := wi1 p_M1 e_M2 (tb1 hC (by decide +kernel))
  obtain rfl := Option.some.inj e
  exact p_M2
theorem wj_Law_readBehind_90 {C : Nat} {L : List Nat} {A : Mem} (v1 : Int32) (v2 : Int32) (M : Mem) (hC : sb 2449720811756973355297202494371735929195549762600397928796863079179147359103301034010334771459959816192 C)  (p0 : Fx C L A M) {r : (Int32 × Mem)} (e : j_Law_readBehind_90 v1 v2 M = some r) : (fun r : Int32 × Mem => Fx C L A r.2) r := by
  unfold j_Law_readBehind_90 at e
  obtain ⟨x2, e_x2, e⟩ := bo e
  have p_x2 : Fx C L A x2 := (wf_Law_settle v2 M (sb_t (by decide +kernel) hC) p0 e_x2)
  obtain ⟨x3, e_x3, e⟩ := bo e
  have p_x3 : Fx C L A x3 := (wf_Law_hold v1 x2 (sb_t (by decide +kernel) hC) p_x2 e_x3)
  obtain ⟨M4, e_M4, e⟩ := mo e
  have p_M4 : Fx C L A M4 := wi1 p_x3 e_M4 (tb1 hC (by decide +kernel))
  obtain rfl := Option.some.inj e
  exact p_M4
theorem wj_Law_readBehind_70 {C : Nat} {L : List Nat} {A : Mem} (v1 : Int32) (v2 : Int32) (M : Mem) (hC : sb 3569593182845875460575923634655958068256372511217722696246857629661043294693381506700773518095763374080 C)  (p0 : Fx C L A M) {r : (Int32 × Mem)} (e : j_Law_readBehind_70 v1 v2 M = some r) : (fun r : Int32 × Mem => Fx C L A r.2) r := by
  unfold j_Law_readBehind_70 at e
  rcases io e with ⟨_, e⟩ | ⟨_, e⟩
  · obtain ⟨M5, e_M5, e⟩ := mo e
    have p_M5 : Fx C L A M5 := wi1 p0 e_M5 (tb1 hC (by decide +kernel))
    exact (wj_Law_readBehind_90 v1 v2 M5 (sb_t (by decide +kernel) hC) p_M5 e)
  exact (wj_Law_readBehind_90 v1 v2 M (sb_t (by decide +kernel) hC) p0 e)
theorem wj_Law_readBehind_40 {C : Nat} {L : List Nat} {A : Mem} (v1 : Int32) (M : Mem) (hC : sb 3569593182845875460575923634655958068256372511217722696246857629661043294693381506700773518095763374080 C)  (p0 : Fx C L A M) {r : (Int32 × Mem)} (e : j_Law_readBehind_40 v1 M = some r) : (fun r : Int32 × Mem => Fx C L A r.2) r := by
  unfold j_Law_readBehind_40 at e
  obtain ⟨x1, e_x1, e⟩ := bo e
  rcases io e with ⟨_, e⟩ | ⟨_, e⟩
  · obtain rfl := Option.some.inj e
    exact p0
  rcases io e with ⟨_, e⟩ | ⟨_, e⟩
  · rcases io e with ⟨_, e⟩ | ⟨_, e⟩
    · exact (wj_Law_readBehind_70 v1 x1 M (sb_t (by decide +kernel) hC) p0 e)
    obtain rfl := Option.some.inj e
    exact p0
  exact (wj_Law_readBehind_70 v1 x1 M (sb_t (by decide +kernel) hC) p0 e)
theorem wf_Law_readBehind {C : Nat} {L : List Nat} {A : Mem} (v1 : Int32) (M : Mem) (hC : sb 4129529368390326513215284204798069137786783885526385079971854904901991262488421743045992891413665153024 C)  (p0 : Fx C L A M) {r : (Int32 × Mem)} (e : f_Law_readBehind v1 M = some r) : (fun r : Int32 × Mem => Fx C L A r.2) r := by
  unfold f_Law_readBehind at e
  rcases io e with ⟨_, e⟩ | ⟨_, e⟩
  · rcases io e with ⟨_, e⟩ | ⟨_, e⟩
    · exact (wj_Law_readBehind_40 v1 M (sb_t (by decide +kernel) hC) p0 e)
    obtain ⟨x10, e_x10, e⟩ := bo e
    have p_x10 : Fx C L A x10 := (wf_Law_settle (1 : Int32) M (sb_t (by decide +kernel) hC) p0 e_x10)
    obtain ⟨M11, e_M11, e⟩ := mo e
    have p_M11 : Fx C L A M11 := wi1 p_x10 e_M11 (tb1 hC (by decide +kernel))
    obtain ⟨M12, e_M12, e⟩ := mo e
    have p_M12 : Fx C L A M12 := wi1 p_M11 e_M12 (tb1 hC (by decide +kernel))
    obtain rfl := Option.some.inj e
    exact p_M12
  exact (wj_Law_readBehind_40 v1 M (sb_t (by decide +kernel) hC) p0 e)
theorem wj_Law_readThing_63 {C : Nat} {L : List Nat} {A : Mem} (v2 : Int32) (v3 : Int32) (M : Mem) (hC : sb 2309736765370860592144950902196464915996226067096761703594685662083957787159430867149572514198474194944 C)  (p0 : Fx C L A M) {r : (Int32 × Mem)} (e : j_Law_readThing_63 v2 v3 M = some r) : (fun r : Int32 × Mem => Fx C L A r.2) r := by
  unfold j_Law_readThing_63 at e
  obtain ⟨x1, e_x1, e⟩ := bo e
  have p_x1 : Fx C L A x1.2 := (wf_Signs_digits v2 (40 : Int32) (3 : Int32) M (sb_t (by decide +kernel) hC) p0 e_x1)
  rcases io e with ⟨_, e⟩ | ⟨_, e⟩
  · obtain ⟨x2, e_x2, e⟩ := bo e
    rcases io e with ⟨_, e⟩ | ⟨_, e⟩
    · obtain rfl := Option.some.inj e
      exact p_x1
    obtain ⟨x3, e_x3, e⟩ := bo e
    have p_x3 : Fx C L A x3 := (wf_Law_emit (-v3) x1.2 (sb_t (by decide +kernel) hC) p_x1 e_x3)
    obtain ⟨M4, e_M4, e⟩ := mo e
    have p_M4 : Fx C L A M4 := wi1 p_x3 e_M4 (tb1 hC (by decide +kernel))
    obtain rfl := Option.some.inj e
    exact p_M4
  obtain ⟨x6, e_x6, e⟩ := bo e
  have p_x6 : Fx C L A x6 := (wf_Law_emit (x1.2.1 1 2) x1.2 (sb_t (by decide +kernel) hC) p_x1 e_x6)
  obtain ⟨M7, e_M7, e⟩ := mo e
  have p_M7 : Fx C L A M7 := wi1 p_x6 e_M7 (tb1 hC (by decide +kernel))
  obtain rfl := Option.some.inj e
  exact p_M7
theorem wf_Law_readThing {C : Nat} {L : List Nat} {A : Mem} (v2 : Int32) (v3 : Int32) (M : Mem) (hC : sb 4129529368390326513222872755158325891970063033599914450700926806617038682493311635271535486277747998720 C)  (p0 : Fx C L A M) {r : (Int32 × Mem)} (e : f_Law_readThing v2 v3 M = some r) : (fun r : Int32 × Mem => Fx C L A r.2) r := by
  unfold f_Law_readThing at e
  rcases io e with ⟨_, e⟩ | ⟨_, e⟩
  · obtain ⟨x14, e_x14, e⟩ := bo e
    have p_x14 : Fx C L A x14 := (wf_Law_hold (256 : Int32) M (sb_t (by decide +kernel) hC) p0 e_x14)
    obtain rfl := Option.some.inj e
    exact p_x14
  rcases io e with ⟨_, e⟩ | ⟨_, e⟩
  · rcases io e with ⟨_, e⟩ | ⟨_, e⟩
    · exact (wj_Law_readThing_63 v2 v3 M (sb_t (by decide +kernel) hC) p0 e)
    obtain ⟨M9, e_M9, e⟩ := mo e
    have p_M9 : Fx C L A M9 := wi1 p0 e_M9 (tb1 hC (by decide +kernel))
    obtain ⟨M10, e_M10, e⟩ := mo e
    have p_M10 : Fx C L A M10 := wi1 p_M9 e_M10 (tb1 hC (by decide +kernel))
    obtain ⟨x11, e_x11, e⟩ := bo e
    have p_x11 : Fx C L A x11 := (wf_Law_hold v3 M10 (sb_t (by decide +kernel) hC) p_M10 e_x11)
    obtain rfl := Option.some.inj e
    exact p_x11
  exact (wj_Law_readThing_63 v2 v3 M (sb_t (by decide +kernel) hC) p0 e)
theorem wj_Law_read_108_29 {C : Nat} {L : List Nat} {A : Mem} (v2 : Int32) (v3 : Int32) (w0 : Int32) (M : Mem) (hC : sb 0 C)  (p0 : Fx C L A M) {r : ((Int32 × Int32 × Mem) ⊕ ((Mem) ⊕ (Int32 × Mem) ⊕ (Int32 × Mem)))} (e : j_Law_read_108_29 v2 v3 w0 M = some r) : (Sum.elim (fun r : Int32 × Int32 × Mem => Fx C L A r.2.2) (Sum.elim (fun r : Mem => Fx C L A r) (Sum.elim (fun r : Int32 × Mem => Fx C L A r.2) (fun r : Int32 × Mem => Fx C L A r.2)))) r := by
  unfold j_Law_read_108_29 at e
  rcases io e with ⟨_, e⟩ | ⟨_, e⟩
  · obtain rfl := Option.some.inj e
    exact p0
  obtain rfl := Option.some.inj e
  exact p0
theorem wl_Law_read_29 {C : Nat} {L : List Nat} {A : Mem} (s : Int32 × Int32 × Mem) (hC : sb 4129529368390326513222872755158325891970063033599914450700926806617038682493311635271535486277747998720 C)  (p0 : Fx C L A s.2.2) {r : ((Int32 × Int32 × Mem) ⊕ ((Mem) ⊕ (Int32 × Mem) ⊕ (Int32 × Mem)))} (e : lb_Law_read_29 s = some r) : (Sum.elim (fun r : Int32 × Int32 × Mem => Fx C L A r.2.2) (Sum.elim (fun r : Mem => Fx C L A r) (Sum.elim (fun r : Int32 × Mem => Fx C L A r.2) (fun r : Int32 × Mem => Fx C L A r.2)))) r := by
  unfold lb_Law_read_29 at e
  rcases io e with ⟨_, e⟩ | ⟨_, e⟩
  · obtain rfl := Option.some.inj e
    exact p0
  rcases io e with ⟨_, e⟩ | ⟨_, e⟩
  · obtain rfl := Option.some.inj e
    exact p0
  obtain ⟨x6, e_x6, e⟩ := bo e
  rcases io e with ⟨_, e⟩ | ⟨_, e⟩
  · obtain rfl := Option.some.inj e
    exact p0
  rcases io e with ⟨_, e⟩ | ⟨_, e⟩
  · obtain ⟨x7, e_x7, e⟩ := bo e
    have p_x7 : Fx C L A x7.2 := (wf_Law_readThing s.1 x6 s.2.2 (sb_t (by decide +kernel) hC) p0 e_x7)
    exact (wj_Law_read_108_29 s.1 s.2.1 x7.1 x7.2 (sb_t (by decide +kernel) hC) p_x7 e)
  obtain ⟨x9, e_x9, e⟩ := bo e
  have p_x9 : Fx C L A x9.2 := (wf_Law_readBehind x6 s.2.2 (sb_t (by decide +kernel) hC) p0 e_x9)
  exact (wj_Law_read_108_29 s.1 s.2.1 x9.1 x9.2 (sb_t (by decide +kernel) hC) p_x9 e)
theorem wj_Law_read_130 {C : Nat} {L : List Nat} {A : Mem} (M : Mem) (hC : sb 244972081175697335529720249437173592919554976260039792879686307917914735910330103401033482423651794944 C)  (p0 : Fx C L A M) {r : (Int32 × Mem)} (e : j_Law_read_130 M = some r) : (fun r : Int32 × Mem => Fx C L A r.2) r := by
  unfold j_Law_read_130 at e
  obtain ⟨x16, e_x16, e⟩ := bo e
  have p_x16 : Fx C L A x16 := (wf_Law_settle (0 : Int32) M (sb_t (by decide +kernel) hC) p0 e_x16)
  obtain ⟨M17, e_M17, e⟩ := mo e
  have p_M17 : Fx C L A M17 := wc p_x16 e_M17 (oc_c hC (by decide +kernel))
  obtain ⟨M18, e_M18, e⟩ := mo e
  have p_M18 : Fx C L A M18 := wi1 p_M17 e_M18 (tb1 hC (by decide +kernel))
  obtain rfl := Option.some.inj e
  exact p_M18
