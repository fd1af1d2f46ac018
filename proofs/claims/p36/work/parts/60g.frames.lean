/-! frames -/
theorem wl_Top_meet_46 {C : Nat} {L : List Nat} {A : Mem} (v1 : Int32) (v2 : Int32) (s : Int32 × Mem) (hC : sb 71098737063784989085461767434649766220228279869903869167057116519632229632726926570288747756118148326096896 C)  (p0 : Fx C L A s.2) {r : ((Int32 × Mem) ⊕ ((Mem) ⊕ (Int32 × Int32 × Mem)))} (e : lb_Top_meet_46 v1 v2 s = some r) : (Sum.elim (fun r : Int32 × Mem => Fx C L A r.2) (Sum.elim (fun r : Mem => Fx C L A r) (fun r : Int32 × Int32 × Mem => Fx C L A r.2.2))) r := by
  unfold lb_Top_meet_46 at e
  rcases io e with ⟨_, e⟩ | ⟨_, e⟩
  · obtain rfl := Option.some.inj e
    exact p0
  obtain ⟨x5, e_x5, e⟩ := bo e
  have p_x5 : Fx C L A x5 := (wf_Clock_pass 25 32 s.2 (sb_t (by decide +kernel) hC) (oc_c hC (by decide +kernel)) (oc_c hC (by decide +kernel)) (oc_c hC (by decide +kernel)) (oc_c hC (by decide +kernel)) p0 e_x5)
  obtain ⟨_, e⟩ := io_n e
  obtain ⟨_, e⟩ := io_n e
  rcases io e with ⟨_, e⟩ | ⟨_, e⟩
  · obtain ⟨x6, e_x6, e⟩ := bo e
    rcases io e with ⟨_, e⟩ | ⟨_, e⟩
    · obtain rfl := Option.some.inj e
      exact p_x5
    obtain rfl := Option.some.inj e
    exact p_x5
  obtain rfl := Option.some.inj e
  exact p_x5
theorem wf_Top_meet {C : Nat} {L : List Nat} {A : Mem} (v1 : Int32) (v2 : Int32) (M : Mem) (hC : sb 71098737063784989149119141695102456416117207632696936699918426824967399270942722982278595939761735614857216 C)  (p0 : Fx C L A M) {r : (Int32 × Mem)} (e : f_Top_meet v1 v2 M = some r) : (fun r : Int32 × Mem => Fx C L A r.2) r := by
  unfold f_Top_meet at e
  obtain ⟨x1, e_x1, e⟩ := bo e
  rcases io e with ⟨_, e⟩ | ⟨_, e⟩
  · obtain rfl := Option.some.inj e
    exact p0
  obtain ⟨x2, e_x2, e⟩ := bo e
  obtain ⟨x3, e_x3, e⟩ := bo e
  rcases io e with ⟨_, e⟩ | ⟨_, e⟩
  · obtain rfl := Option.some.inj e
    exact p0
  obtain ⟨x4, e_x4, e⟩ := bo e
  have p_x4 : Fx C L A x4 := (wf_Scene_copy 25 11 M (sb_t (by decide +kernel) hC) (oc_c hC (by decide +kernel)) (oc_c hC (by decide +kernel)) (oc_c hC (by decide +kernel)) (oc_c hC (by decide +kernel)) (oc_c hC (by decide +kernel)) (oc_c hC (by decide +kernel)) (oc_c hC (by decide +kernel)) p0 e_x4)
  obtain ⟨y_, e_y, e⟩ := bo e
  have q_y := (it_r (I := fun s : Int32 × Mem => Fx C L A s.2) (Q := (Sum.elim (fun r : Mem => Fx C L A r) (fun r : Int32 × Int32 × Mem => Fx C L A r.2.2))) (fun s_ r_ hs_ er_ => wl_Top_meet_46 v1 v2 s_ (sb_t (by decide +kernel) hC) hs_ er_) e_y p_x4)
  rcases y_ with y11 | y12
  · have p_y11 : Fx C L A y11 := q_y
    replace e := el_l e
    obtain rfl := Option.some.inj e
    exact p_y11
  · have p_y12 : Fx C L A y12.2.2 := q_y
    replace e := el_r e
    obtain ⟨x13, e_x13, e⟩ := bo e
    have p_x13 : Fx C L A x13 := (wf_Top_emptyRow y12.2.2 (sb_t (by decide +kernel) hC) p_y12 e_x13)
    obtain ⟨x14, e_x14, e⟩ := bo e
    have p_x14 : Fx C L A x14 := (wf_Top_note y12.2.1 x13 (sb_t (by decide +kernel) hC) p_x13 e_x14)
    obtain rfl := Option.some.inj e
    exact p_x14
theorem wl_Top_known_27 {C : Nat} {L : List Nat} {A : Mem} (v1 : Int32) (s : Int32 × Int32 × Mem) (hC : sb 71098737063784989085461767434649766220228279869903869167057116519632229632726926570288747756118148326096896 C)  (p0 : Fx C L A s.2.2) {r : ((Int32 × Int32 × Mem) ⊕ ((Int32 × Mem)))} (e : lb_Top_known_27 v1 s = some r) : (Sum.elim (fun r : Int32 × Int32 × Mem => Fx C L A r.2.2) (fun r : Int32 × Mem => Fx C L A r.2)) r := by
  unfold lb_Top_known_27 at e
  rcases io e with ⟨_, e⟩ | ⟨_, e⟩
  · obtain rfl := Option.some.inj e
    exact p0
  rcases io e with ⟨_, e⟩ | ⟨_, e⟩
  · obtain rfl := Option.some.inj e
    exact p0
  obtain ⟨x2, e_x2, e⟩ := bo e
  have p_x2 : Fx C L A x2 := (wf_Clock_pass 25 32 s.2.2 (sb_t (by decide +kernel) hC) (oc_c hC (by decide +kernel)) (oc_c hC (by decide +kernel)) (oc_c hC (by decide +kernel)) (oc_c hC (by decide +kernel)) p0 e_x2)
  obtain rfl := Option.some.inj e
  exact p_x2
theorem wj_Top_known_80 {C : Nat} {L : List Nat} {A : Mem} (v1 : Int32) (v2 : Int32) (M : Mem) (hC : sb 63657374260452690195888927762793067532861310305335169638215796411989848183643583933317120 C)  (p0 : Fx C L A M) {r : (Int32 × Mem)} (e : j_Top_known_80 v1 v2 M = some r) : (fun r : Int32 × Mem => Fx C L A r.2) r := by
  unfold j_Top_known_80 at e
  obtain ⟨x6, e_x6, e⟩ := bo e
  have p_x6 : Fx C L A x6 := (wf_Top_emptyRow M (sb_t (by decide +kernel) hC) p0 e_x6)
  obtain ⟨x7, e_x7, e⟩ := bo e
  have p_x7 : Fx C L A x7 := (wf_Top_note (x6.1 25 8) x6 (sb_t (by decide +kernel) hC) p_x6 e_x7)
  rcases io e with ⟨_, e⟩ | ⟨_, e⟩
  · obtain rfl := Option.some.inj e
    exact p_x7
  obtain rfl := Option.some.inj e
  exact p_x7
theorem wf_Top_known {C : Nat} {L : List Nat} {A : Mem} (M : Mem) (hC : sb 71098737063784989149119141695102456416117207632696936699918426824967399270942722982278595939761735614857216 C)  (p0 : Fx C L A M) {r : (Int32 × Mem)} (e : f_Top_known M = some r) : (fun r : Int32 × Mem => Fx C L A r.2) r := by
  unfold f_Top_known at e
  obtain ⟨x1, e_x1, e⟩ := bo e
  have p_x1 : Fx C L A x1 := (wf_Scene_copy 25 11 M (sb_t (by decide +kernel) hC) (oc_c hC (by decide +kernel)) (oc_c hC (by decide +kernel)) (oc_c hC (by decide +kernel)) (oc_c hC (by decide +kernel)) (oc_c hC (by decide +kernel)) (oc_c hC (by decide +kernel)) (oc_c hC (by decide +kernel)) p0 e_x1)
  obtain ⟨x5, e_x5, e⟩ := bo e
  have p_x5 : Fx C L A x5.2 := (it_r (I := fun s : Int32 × Int32 × Mem => Fx C L A s.2.2) (Q := (fun r : Int32 × Mem => Fx C L A r.2)) (fun s_ r_ hs_ er_ => wl_Top_known_27 (((1 : Int32) <<< ((M.1 6 4) &&& 31)) - (1 : Int32)) s_ (sb_t (by decide +kernel) hC) hs_ er_) e_x5 p_x1)
  exact (wj_Top_known_80 (((1 : Int32) <<< ((M.1 6 4) &&& 31)) - (1 : Int32)) x5.1 x5.2 (sb_t (by decide +kernel) hC) p_x5 e)
theorem wl_Top_hearers_26 {C : Nat} {L : List Nat} {A : Mem} (v1 : Int32) (s : Int32 × Mem) (hC : sb 71098737063784989085461767434649766220228279869903869167057116519632229632726926570288747756118148326096896 C)  (p0 : Fx C L A s.2) {r : ((Int32 × Mem) ⊕ ((Mem)))} (e : lb_Top_hearers_26 v1 s = some r) : (Sum.elim (fun r : Int32 × Mem => Fx C L A r.2) (fun r : Mem => Fx C L A r)) r := by
  unfold lb_Top_hearers_26 at e
  rcases io e with ⟨_, e⟩ | ⟨_, e⟩
  · obtain rfl := Option.some.inj e
    exact p0
  obtain ⟨x3, e_x3, e⟩ := bo e
  have p_x3 : Fx C L A x3 := (wf_Clock_pass 25 32 s.2 (sb_t (by decide +kernel) hC) (oc_c hC (by decide +kernel)) (oc_c hC (by decide +kernel)) (oc_c hC (by decide +kernel)) (oc_c hC (by decide +kernel)) p0 e_x3)
  obtain rfl := Option.some.inj e
  exact p_x3
theorem wf_Top_hearers {C : Nat} {L : List Nat} {A : Mem} (v1 : Int32) (v2 : Int32) (M : Mem) (hC : sb 71098737063784989085461767434649766220228279869903869167057116519632229632726926570288747756118151681540096 C)  (p0 : Fx C L A M) {r : (Int32 × Mem)} (e : f_Top_hearers v1 v2 M = some r) : (fun r : Int32 × Mem => Fx C L A r.2) r := by
  unfold f_Top_hearers at e
  obtain ⟨x1, e_x1, e⟩ := bo e
  have p_x1 : Fx C L A x1 := (wf_Scene_copy 25 11 M (sb_t (by decide +kernel) hC) (oc_c hC (by decide +kernel)) (oc_c hC (by decide +kernel)) (oc_c hC (by decide +kernel)) (oc_c hC (by decide +kernel)) (oc_c hC (by decide +kernel)) (oc_c hC (by decide +kernel)) (oc_c hC (by decide +kernel)) p0 e_x1)
  obtain ⟨M2, e_M2, e⟩ := mo e
  have p_M2 : Fx C L A M2 := wi p_x1 e_M2 (oc_c hC (by decide +kernel))
  obtain ⟨x5, e_x5, e⟩ := bo e
  have p_x5 : Fx C L A x5 := (it_r (I := fun s : Int32 × Mem => Fx C L A s.2) (Q := (fun r : Mem => Fx C L A r)) (fun s_ r_ hs_ er_ => wl_Top_hearers_26 v1 s_ (sb_t (by decide +kernel) hC) hs_ er_) e_x5 p_M2)
  obtain ⟨x6, e_x6, e⟩ := bo e
  obtain rfl := Option.some.inj e
  exact p_x5
theorem wj_Top_gossip_77_25 {C : Nat} {L : List Nat} {A : Mem} (v1 : Int32) (v2 : Int32) (v3 : Int32) (v4 : Int32) (w0 : Int32) (M : Mem) (hC : sb 0 C)  (p0 : Fx C L A M) {r : ((Int32 × Int32 × Int32 × Mem) ⊕ ((Int32 × Int32 × Mem)))} (e : j_Top_gossip_77_25 v1 v2 v3 v4 w0 M = some r) : (Sum.elim (fun r : Int32 × Int32 × Int32 × Mem => Fx C L A r.2.2.2) (fun r : Int32 × Int32 × Mem => Fx C L A r.2.2)) r := by
  unfold j_Top_gossip_77_25 at e
  rcases io e with ⟨_, e⟩ | ⟨_, e⟩
  · obtain rfl := Option.some.inj e
    exact p0
  obtain rfl := Option.some.inj e
  exact p0
theorem wj_Top_gossip_57_25 {C : Nat} {L : List Nat} {A : Mem} (v1 : Int32) (v2 : Int32) (v3 : Int32) (v4 : Int32) (w0 : Int32) (M : Mem) (hC : sb 71098737063784989085461767434649766220228279869903869167057116519632229632726926570288747756118151681540096 C)  (p0 : Fx C L A M) {r : ((Int32 × Int32 × Int32 × Mem) ⊕ ((Int32 × Int32 × Mem)))} (e : j_Top_gossip_57_25 v1 v2 v3 v4 w0 M = some r) : (Sum.elim (fun r : Int32 × Int32 × Int32 × Mem => Fx C L A r.2.2.2) (fun r : Int32 × Int32 × Mem => Fx C L A r.2.2)) r := by
  unfold j_Top_gossip_57_25 at e
  rcases io e with ⟨_, e⟩ | ⟨_, e⟩
  · exact (wj_Top_gossip_77_25 v1 v2 v3 v4 (0 : Int32) M (sb_t (by decide +kernel) hC) p0 e)
  obtain ⟨x3, e_x3, e⟩ := bo e
  have p_x3 : Fx C L A x3.2 := (wf_Top_hearers v1 ((1 : Int32) <<< (v4 &&& 31)) M (sb_t (by decide +kernel) hC) p0 e_x3)
  exact (wj_Top_gossip_77_25 v1 v2 v3 v4 x3.1 x3.2 (sb_t (by decide +kernel) hC) p_x3 e)
theorem wl_Top_gossip_25 {C : Nat} {L : List Nat} {A : Mem} (v1 : Int32) (s : Int32 × Int32 × Int32 × Mem) (hC : sb 71098737063784989085461767434649766220228279869903869167057116519632229632726926570288747756118151681540096 C)  (p0 : Fx C L A s.2.2.2) {r : ((Int32 × Int32 × Int32 × Mem) ⊕ ((Int32 × Int32 × Mem)))} (e : lb_Top_gossip_25 v1 s = some r) : (Sum.elim (fun r : Int32 × Int32 × Int32 × Mem => Fx C L A r.2.2.2) (fun r : Int32 × Int32 × Mem => Fx C L A r.2.2)) r := by
  unfold lb_Top_gossip_25 at e
  rcases io e with ⟨_, e⟩ | ⟨_, e⟩
  · obtain rfl := Option.some.inj e
    exact p0
  rcases io e with ⟨_, e⟩ | ⟨_, e⟩
  · exact (wj_Top_gossip_57_25 v1 s.1 s.2.1 s.2.2.1 (1 : Int32) s.2.2.2 (sb_t (by decide +kernel) hC) p0 e)
  exact (wj_Top_gossip_57_25 v1 s.1 s.2.1 s.2.2.1 (0 : Int32) s.2.2.2 (sb_t (by decide +kernel) hC) p0 e)
theorem wf_Top_gossip {C : Nat} {L : List Nat} {A : Mem} (v1 : Int32) (M : Mem) (hC : sb 71098737063784989149119141695102456416117207632696936699918426824967399270942722982278595939761735614857216 C)  (p0 : Fx C L A M) {r : (Int32 × Mem)} (e : f_Top_gossip v1 M = some r) : (fun r : Int32 × Mem => Fx C L A r.2) r := by
  unfold f_Top_gossip at e
  rcases io e with ⟨_, e⟩ | ⟨_, e⟩
  · obtain rfl := Option.some.inj e
    exact p0
  rcases io e with ⟨_, e⟩ | ⟨_, e⟩
  · obtain ⟨x1, e_x1, e⟩ := bo e
    have p_x1 : Fx C L A x1.2 := (wf_Top_hearers v1 (0 : Int32) M (sb_t (by decide +kernel) hC) p0 e_x1)
    obtain ⟨x7, e_x7, e⟩ := bo e
    have p_x7 : Fx C L A x7.2.2 := (it_r (I := fun s : Int32 × Int32 × Int32 × Mem => Fx C L A s.2.2.2) (Q := (fun r : Int32 × Int32 × Mem => Fx C L A r.2.2)) (fun s_ r_ hs_ er_ => wl_Top_gossip_25 v1 s_ (sb_t (by decide +kernel) hC) hs_ er_) e_x7 p_x1)
    obtain ⟨x8, e_x8, e⟩ := bo e
    have p_x8 : Fx C L A x8 := (wf_Top_emptyRow x7.2.2 (sb_t (by decide +kernel) hC) p_x7 e_x8)
    obtain ⟨x9, e_x9, e⟩ := bo e
    have p_x9 : Fx C L A x9 := (wf_Top_note x7.2.1 x8 (sb_t (by decide +kernel) hC) p_x8 e_x9)
    obtain rfl := Option.some.inj e
    exact p_x9
  obtain rfl := Option.some.inj e
  exact p0
theorem wf_Top_pieces {C : Nat} {L : List Nat} {A : Mem} (v1 : Int32) (M : Mem) (hC : sb 63657374260452690195888927762793067532861310305335169638215796411989848183643583933317120 C)  (p0 : Fx C L A M) {r : (Int32 × Mem)} (e : f_Top_pieces v1 M = some r) : (fun r : Int32 × Mem => Fx C L A r.2) r := by
  unfold f_Top_pieces at e
  rcases io e with ⟨_, e⟩ | ⟨_, e⟩
  · obtain rfl := Option.some.inj e
    exact p0
  rcases io e with ⟨_, e⟩ | ⟨_, e⟩
  · obtain ⟨_, e⟩ := io_n e
    obtain ⟨x7, e_x7, e⟩ := bo e
    obtain ⟨x8, e_x8, e⟩ := bo e
    have p_x8 : Fx C L A x8 := (wf_Top_emptyRow M (sb_t (by decide +kernel) hC) p0 e_x8)
    obtain ⟨x9, e_x9, e⟩ := bo e
    have p_x9 : Fx C L A x9 := (wf_Top_note x7.2.1 x8 (sb_t (by decide +kernel) hC) p_x8 e_x9)
    obtain ⟨x10, e_x10, e⟩ := bo e
    have p_x10 : Fx C L A x10 := (wf_Top_note x7.2.2 x9 (sb_t (by decide +kernel) hC) p_x9 e_x10)
    obtain rfl := Option.some.inj e
    exact p_x10
  obtain rfl := Option.some.inj e
  exact p0
theorem wf_Top_noteSet {C : Nat} {L : List Nat} {A : Mem} (v1 : Int64) (M : Mem) (hC : sb 63657374260452690195888927762793067532861310305335169638215796411989848183643583933317120 C)  (p0 : Fx C L A M) {r : (Mem)} (e : f_Top_noteSet v1 M = some r) : (fun r : Mem => Fx C L A r) r := by
  unfold f_Top_noteSet at e
  obtain ⟨x1, e_x1, e⟩ := bo e
  have p_x1 : Fx C L A x1 := (wf_Top_note (v1 &&& (262143 : Int64)).toInt32 M (sb_t (by decide +kernel) hC) p0 e_x1)
  obtain ⟨x2, e_x2, e⟩ := bo e
  have p_x2 : Fx C L A x2 := (wf_Top_note (v1 >>> ((18 : Int32).toInt64 &&& 63)).toInt32 x1 (sb_t (by decide +kernel) hC) p_x1 e_x2)
  obtain rfl := Option.some.inj e
  exact p_x2
theorem wf_Top_reach {C : Nat} {L : List Nat} {A : Mem} (v1 : Int32) (v2 : Int32) (M : Mem) (hC : sb 63657374260452690195888927762793067532861310305335169638215796411989848183643583933317120 C)  (p0 : Fx C L A M) {r : (Int32 × Mem)} (e : f_Top_reach v1 v2 M = some r) : (fun r : Int32 × Mem => Fx C L A r.2) r := by
  unfold f_Top_reach at e
  rcases io e with ⟨_, e⟩ | ⟨_, e⟩
  · obtain rfl := Option.some.inj e
    exact p0
  rcases io e with ⟨_, e⟩ | ⟨_, e⟩
  · obtain rfl := Option.some.inj e
    exact p0
  obtain ⟨x1, e_x1, e⟩ := bo e
  rcases io e with ⟨_, e⟩ | ⟨_, e⟩
  · obtain rfl := Option.some.inj e
    exact p0
  obtain ⟨x2, e_x2, e⟩ := bo e
  rcases io e with ⟨_, e⟩ | ⟨_, e⟩
  · obtain rfl := Option.some.inj e
    exact p0
  obtain ⟨x3, e_x3, e⟩ := bo e
  obtain ⟨x4, e_x4, e⟩ := bo e
  have p_x4 : Fx C L A x4 := (wf_Top_emptyRow M (sb_t (by decide +kernel) hC) p0 e_x4)
  obtain ⟨x5, e_x5, e⟩ := bo e
  have p_x5 : Fx C L A x5 := (wf_Top_noteSet x3 x4 (sb_t (by decide +kernel) hC) p_x4 e_x5)
  obtain ⟨x6, e_x6, e⟩ := bo e
  obtain rfl := Option.some.inj e
  exact p_x5
theorem wl_Top_path_74 {C : Nat} {L : List Nat} {A : Mem} (v1 : Int32) (v4 : Int32) (s : Int32 × Int32 × Mem) (hC : sb 63657374260452690195888927762793067532861310305335169638215796411989848183643583933317120 C)  (p0 : Fx C L A s.2.2) {r : ((Int32 × Int32 × Mem) ⊕ ((Mem)))} (e : lb_Top_path_74 v1 v4 s = some r) : (Sum.elim (fun r : Int32 × Int32 × Mem => Fx C L A r.2.2) (fun r : Mem => Fx C L A r)) r := by
  unfold lb_Top_path_74 at e
  rcases io e with ⟨_, e⟩ | ⟨_, e⟩
  · obtain rfl := Option.some.inj e
    exact p0
  rcases io e with ⟨_, e⟩ | ⟨_, e⟩
  · obtain rfl := Option.some.inj e
    exact p0
  rcases io e with ⟨_, e⟩ | ⟨_, e⟩
  · obtain rfl := Option.some.inj e
    exact p0
  obtain ⟨x5, e_x5, e⟩ := bo e
  obtain ⟨x6, e_x6, e⟩ := bo e
  have p_x6 : Fx C L A x6 := (wf_Top_note x5 s.2.2 (sb_t (by decide +kernel) hC) p0 e_x6)
  obtain ⟨x7, e_x7, e⟩ := bo e
  obtain rfl := Option.some.inj e
  exact p_x6
theorem wf_Top_path {C : Nat} {L : List Nat} {A : Mem} (v1 : Int32) (v2 : Int32) (v3 : Int32) (M : Mem) (hC : sb 63657374260452690195888927762793067532861355977261336228931990277140870567487948181209088 C)  (p0 : Fx C L A M) {r : (Int32 × Mem)} (e : f_Top_path v1 v2 v3 M = some r) : (fun r : Int32 × Mem => Fx C L A r.2) r := by
  unfold f_Top_path at e
  obtain ⟨x1, e_x1, e⟩ := bo e
  rcases io e with ⟨_, e⟩ | ⟨_, e⟩
  · obtain rfl := Option.some.inj e
    exact p0
  obtain ⟨x2, e_x2, e⟩ := bo e
  rcases io e with ⟨_, e⟩ | ⟨_, e⟩
  · obtain rfl := Option.some.inj e
    exact p0
  obtain ⟨x3, e_x3, e⟩ := bo e
  have p_x3 : Fx C L A x3 := (wf_Nets_measure 32 v1 v3 155 M (sb_t (by decide +kernel) hC) (oc_c hC (by decide +kernel)) p0 e_x3)
  obtain ⟨_, e⟩ := io_n e
  rcases io e with ⟨_, e⟩ | ⟨_, e⟩
  · obtain ⟨x4, e_x4, e⟩ := bo e
    have p_x4 : Fx C L A x4 := (wf_Top_emptyRow x3 (sb_t (by decide +kernel) hC) p_x3 e_x4)
    obtain ⟨x11, e_x11, e⟩ := bo e
    have p_x11 : Fx C L A x11 := (it_r (I := fun s : Int32 × Int32 × Mem => Fx C L A s.2.2) (Q := (fun r : Mem => Fx C L A r)) (fun s_ r_ hs_ er_ => wl_Top_path_74 v1 (x3.1 155 v2.toNatClampNeg) s_ (sb_t (by decide +kernel) hC) hs_ er_) e_x11 p_x4)
    obtain rfl := Option.some.inj e
    exact p_x11
  obtain rfl := Option.some.inj e
  exact p_x3
theorem wf_Top_both {C : Nat} {L : List Nat} {A : Mem} (v1 : Int32) (v2 : Int32) (v3 : Int32) (v4 : Int32) (M : Mem) (hC : sb 63657374260452690195888927762793067532861675680744502363945347333198027254398497916452864 C)  (p0 : Fx C L A M) {r : (Int32 × Mem)} (e : f_Top_both v1 v2 v3 v4 M = some r) : (fun r : Int32 × Mem => Fx C L A r.2) r := by
  unfold f_Top_both at e
  obtain ⟨x1, e_x1, e⟩ := bo e
  rcases io e with ⟨_, e⟩ | ⟨_, e⟩
  · obtain rfl := Option.some.inj e
    exact p0
  obtain ⟨x2, e_x2, e⟩ := bo e
  rcases io e with ⟨_, e⟩ | ⟨_, e⟩
  · obtain rfl := Option.some.inj e
    exact p0
  obtain ⟨x3, e_x3, e⟩ := bo e
  have p_x3 : Fx C L A x3.2 := (wf_Ways_acrossLevels 32 ((v1 * (36 : Int32)) + v2) ((v3 * (36 : Int32)) + v4) M (sb_t (by decide +kernel) hC) p0 e_x3)
  rcases io e with ⟨_, e⟩ | ⟨_, e⟩
  · obtain ⟨x4, e_x4, e⟩ := bo e
    have p_x4 : Fx C L A x4 := (wf_Top_emptyRow x3.2 (sb_t (by decide +kernel) hC) p_x3 e_x4)
    obtain ⟨x5, e_x5, e⟩ := bo e
    have p_x5 : Fx C L A x5 := (wf_Top_note (x3.1 - ((x3.1 / (100 : Int32)) * (100 : Int32))) x4 (sb_t (by decide +kernel) hC) p_x4 e_x5)
    obtain rfl := Option.some.inj e
    exact p_x5
  obtain rfl := Option.some.inj e
  exact p_x3
theorem wl_Top_handOver_49 {C : Nat} {L : List Nat} {A : Mem} (v1 : Int32) (v2 : Int32) (v5 : Int32) (s : Int32 × Int32 × Mem) (hC : sb 63657374260452690195888927762793067532861310305335169638215796411989848183643583933317120 C)  (p0 : Fx C L A s.2.2) {r : ((Int32 × Int32 × Mem) ⊕ ((Int32 × Mem)))} (e : lb_Top_handOver_49 v1 v2 v5 s = some r) : (Sum.elim (fun r : Int32 × Int32 × Mem => Fx C L A r.2.2) (fun r : Int32 × Mem => Fx C L A r.2)) r := by
  unfold lb_Top_handOver_49 at e
  rcases io e with ⟨_, e⟩ | ⟨_, e⟩
  · obtain rfl := Option.some.inj e
    exact p0
  obtain ⟨x2, e_x2, e⟩ := bo e
  rcases io e with ⟨_, e⟩ | ⟨_, e⟩
  · obtain rfl := Option.some.inj e
    exact p0
  obtain ⟨_, e⟩ := io_n e
  obtain ⟨_, e⟩ := io_n e
  obtain ⟨_, e⟩ := io_n e
  rcases io e with ⟨_, e⟩ | ⟨_, e⟩
  · obtain rfl := Option.some.inj e
    exact p0
  obtain ⟨x3, e_x3, e⟩ := bo e
  have p_x3 : Fx C L A x3 := (wf_Top_emptyRow s.2.2 (sb_t (by decide +kernel) hC) p0 e_x3)
  obtain ⟨x4, e_x4, e⟩ := bo e
  have p_x4 : Fx C L A x4 := (wf_Top_note v1 x3 (sb_t (by decide +kernel) hC) p_x3 e_x4)
  obtain ⟨x5, e_x5, e⟩ := bo e
  have p_x5 : Fx C L A x5 := (wf_Top_note v2 x4 (sb_t (by decide +kernel) hC) p_x4 e_x5)
  obtain ⟨x6, e_x6, e⟩ := bo e
  have p_x6 : Fx C L A x6 := (wf_Top_note s.2.1 x5 (sb_t (by decide +kernel) hC) p_x5 e_x6)
  obtain rfl := Option.some.inj e
  exact p_x6
theorem wf_Top_handOver {C : Nat} {L : List Nat} {A : Mem} (v1 : Int32) (v2 : Int32) (v3 : Int32) (M : Mem) (hC : sb 63657374260452690195888927762793067532861492993039836001080571872593937719021040924884992 C)  (p0 : Fx C L A M) {r : (Int32 × Mem)} (e : f_Top_handOver v1 v2 v3 M = some r) : (fun r : Int32 × Mem => Fx C L A r.2) r := by
  unfold f_Top_handOver at e
  obtain ⟨_, e⟩ := io_n e
  obtain ⟨x1, e_x1, e⟩ := bo e
  have p_x1 : Fx C L A x1 := (wf_Nets_measure 32 (1 : Int32) (M.1 12 v2.toNatClampNeg) 157 M (sb_t (by decide +kernel) hC) (oc_c hC (by decide +kernel)) p0 e_x1)
  obtain ⟨_, e⟩ := io_n e
  obtain ⟨_, e⟩ := io_n e
  obtain ⟨x10, e_x10, e⟩ := bo e
  have p_x10 : Fx C L A x10.2 := (it_r (I := fun s : Int32 × Int32 × Mem => Fx C L A s.2.2) (Q := (fun r : Int32 × Mem => Fx C L A r.2)) (fun s_ r_ hs_ er_ => wl_Top_handOver_49 v1 v2 (x1.1 155 (x1.1 12 v1.toNatClampNeg).toNatClampNeg) s_ (sb_t (by decide +kernel) hC) hs_ er_) e_x10 p_x1)
  obtain rfl := Option.some.inj e
  exact p_x10
theorem wl_Top_errand_80 {C : Nat} {L : List Nat} {A : Mem} (v4 : Int32) (s : Int32 × Int32 × Mem) (hC : sb 63657374260452690195888927762793067532861492993039836001080571872593937719021040924884992 C)  (p0 : Fx C L A s.2.2) {r : ((Int32 × Int32 × Mem) ⊕ ((Int32 × Mem)))} (e : lb_Top_errand_80 v4 s = some r) : (Sum.elim (fun r : Int32 × Int32 × Mem => Fx C L A r.2.2) (fun r : Int32 × Mem => Fx C L A r.2)) r := by
  unfold lb_Top_errand_80 at e
  rcases io e with ⟨_, e⟩ | ⟨_, e⟩
  · obtain rfl := Option.some.inj e
    exact p0
  obtain ⟨x5, e_x5, e⟩ := bo e
  rcases io e with ⟨_, e⟩ | ⟨_, e⟩
  · obtain ⟨x6, e_x6, e⟩ := bo e
    rcases io e with ⟨_, e⟩ | ⟨_, e⟩
    · obtain rfl := Option.some.inj e
      exact p0
    obtain ⟨_, e⟩ := io_n e
    rcases io e with ⟨_, e⟩ | ⟨_, e⟩
    · obtain ⟨x7, e_x7, e⟩ := bo e
      have p_x7 : Fx C L A x7.2 := (wf_Top_handOver v4 s.2.1 s.1 s.2.2 (sb_t (by decide +kernel) hC) p0 e_x7)
      obtain rfl := Option.some.inj e
      exact p_x7
    obtain rfl := Option.some.inj e
    exact p0
  obtain rfl := Option.some.inj e
  exact p0
theorem wl_Top_errand_65 {C : Nat} {L : List Nat} {A : Mem} (s : Int32 × Int32 × Mem) (hC : sb 63657374260452690195888927762793067532861492993039836001080571872593937719021040924884992 C)  (p0 : Fx C L A s.2.2) {r : ((Int32 × Int32 × Mem) ⊕ ((Int32 × Mem)))} (e : lb_Top_errand_65 s = some r) : (Sum.elim (fun r : Int32 × Int32 × Mem => Fx C L A r.2.2) (fun r : Int32 × Mem => Fx C L A r.2)) r := by
  unfold lb_Top_errand_65 at e
  rcases io e with ⟨_, e⟩ | ⟨_, e⟩
  · obtain rfl := Option.some.inj e
    exact p0
  obtain ⟨x12, e_x12, e⟩ := bo e
  have p_x12 : Fx C L A x12.2 := (it_r (I := fun s : Int32 × Int32 × Mem => Fx C L A s.2.2) (Q := (fun r : Int32 × Mem => Fx C L A r.2)) (fun s_ r_ hs_ er_ => wl_Top_errand_80 s.2.1 s_ (sb_t (by decide +kernel) hC) hs_ er_) e_x12 p0)
  obtain rfl := Option.some.inj e
  exact p_x12
theorem wf_Top_errand {C : Nat} {L : List Nat} {A : Mem} (v1 : Int32) (v2 : Int32) (M : Mem) (hC : sb 63657374260452690195888927762793067532861630008818335773229153468047004870554133668560896 C)  (p0 : Fx C L A M) {r : (Int32 × Mem)} (e : f_Top_errand v1 v2 M = some r) : (fun r : Int32 × Mem => Fx C L A r.2) r := by
  unfold f_Top_errand at e
  obtain ⟨x1, e_x1, e⟩ := bo e
  rcases io e with ⟨_, e⟩ | ⟨_, e⟩
  · obtain rfl := Option.some.inj e
    exact p0
  obtain ⟨x2, e_x2, e⟩ := bo e
  rcases io e with ⟨_, e⟩ | ⟨_, e⟩
  · obtain rfl := Option.some.inj e
    exact p0
  obtain ⟨x3, e_x3, e⟩ := bo e
  have p_x3 : Fx C L A x3 := (wf_Nets_measure 32 (0 : Int32) v1 155 M (sb_t (by decide +kernel) hC) (oc_c hC (by decide +kernel)) p0 e_x3)
  obtain ⟨x4, e_x4, e⟩ := bo e
  have p_x4 : Fx C L A x4 := (wf_Nets_measure 32 (1 : Int32) v2 156 x3 (sb_t (by decide +kernel) hC) (oc_c hC (by decide +kernel)) p_x3 e_x4)
  obtain ⟨x14, e_x14, e⟩ := bo e
  have p_x14 : Fx C L A x14.2 := (it_r (I := fun s : Int32 × Int32 × Mem => Fx C L A s.2.2) (Q := (fun r : Int32 × Mem => Fx C L A r.2)) (fun s_ r_ hs_ er_ => wl_Top_errand_65  s_ (sb_t (by decide +kernel) hC) hs_ er_) e_x14 p_x4)
  rcases io e with ⟨_, e⟩ | ⟨_, e⟩
  · obtain rfl := Option.some.inj e
    exact p_x14
  obtain rfl := Option.some.inj e
  exact p_x14
theorem wf_Top_soonestStair {C : Nat} {L : List Nat} {A : Mem} (v1 : Nat) (v2 : Int32) (v3 : Int32) (M : Mem) (hC : sb 137015778499772148581595453067151533092743675904 C)  (p0 : Fx C L A M) {r : (Int32 × Mem)} (e : f_Top_soonestStair v1 v2 v3 M = some r) : (fun r : Int32 × Mem => Fx C L A r.2) r := by
  unfold f_Top_soonestStair at e
  obtain ⟨g_v1, e⟩ := io_n e
  obtain ⟨_, e⟩ := io_n e
  obtain ⟨_, e⟩ := io_n e
  obtain ⟨x1, e_x1, e⟩ := bo e
  have p_x1 : Fx C L A x1 := (wf_Nets_measure v1 (M.1 13 v2.toNatClampNeg) (M.1 12 v2.toNatClampNeg) 155 M (sb_t (by decide +kernel) hC) (oc_c hC (by decide +kernel)) p0 e_x1)
  obtain ⟨_, e⟩ := io_n e
  obtain ⟨_, e⟩ := io_n e
  obtain ⟨x2, e_x2, e⟩ := bo e
  have p_x2 : Fx C L A x2 := (wf_Nets_measure v1 (x1.1 13 v3.toNatClampNeg) (x1.1 12 v3.toNatClampNeg) 156 x1 (sb_t (by decide +kernel) hC) (oc_c hC (by decide +kernel)) p_x1 e_x2)
  obtain ⟨x9, e_x9, e⟩ := bo e
  obtain rfl := Option.some.inj e
  exact p_x2
theorem wf_Top_tryst {C : Nat} {L : List Nat} {A : Mem} (v1 : Int32) (v2 : Int32) (M : Mem) (hC : sb 63657374260452690195888927762793067532861447321113669410364378007442915335176676676993024 C)  (p0 : Fx C L A M) {r : (Int32 × Mem)} (e : f_Top_tryst v1 v2 M = some r) : (fun r : Int32 × Mem => Fx C L A r.2) r := by
  unfold f_Top_tryst at e
  obtain ⟨x1, e_x1, e⟩ := bo e
  rcases io e with ⟨_, e⟩ | ⟨_, e⟩
  · obtain rfl := Option.some.inj e
    exact p0
  obtain ⟨x2, e_x2, e⟩ := bo e
  have p_x2 : Fx C L A x2.2 := (wf_Top_soonestStair 32 v1 v2 M (sb_t (by decide +kernel) hC) p0 e_x2)
  rcases io e with ⟨_, e⟩ | ⟨_, e⟩
  · obtain rfl := Option.some.inj e
    exact p_x2
  obtain ⟨x3, e_x3, e⟩ := bo e
  have p_x3 : Fx C L A x3 := (wf_Top_emptyRow x2.2 (sb_t (by decide +kernel) hC) p_x2 e_x3)
  obtain ⟨x4, e_x4, e⟩ := bo e
  obtain ⟨x5, e_x5, e⟩ := bo e
  have p_x5 : Fx C L A x5 := (wf_Top_note x4 x3 (sb_t (by decide +kernel) hC) p_x3 e_x5)
  obtain rfl := Option.some.inj e
  exact p_x5
theorem wf_Top_trystWith {C : Nat} {L : List Nat} {A : Mem} (v1 : Int32) (v2 : Int32) (v3 : Int32) (M : Mem) (hC : sb 137015778499772148581595453067151534054816350208 C)  (p0 : Fx C L A M) {r : (Int32 × Mem)} (e : f_Top_trystWith v1 v2 v3 M = some r) : (fun r : Int32 × Mem => Fx C L A r.2) r := by
  unfold f_Top_trystWith at e
  obtain ⟨x1, e_x1, e⟩ := bo e
  have p_x1 : Fx C L A x1 := (wf_Nets_lay 36 11 v1 M (sb_t (by decide +kernel) hC) (oc_c hC (by decide +kernel)) (oc_c hC (by decide +kernel)) (oc_c hC (by decide +kernel)) p0 e_x1)
  obtain ⟨x2, e_x2, e⟩ := bo e
  have p_x2 : Fx C L A x2.2 := (wf_Top_soonestStair 36 v2 v3 x1 (sb_t (by decide +kernel) hC) p_x1 e_x2)
  rcases io e with ⟨_, e⟩ | ⟨_, e⟩
  · obtain rfl := Option.some.inj e
    exact p_x2
  obtain ⟨x3, e_x3, e⟩ := bo e
  obtain rfl := Option.some.inj e
  exact p_x2
theorem wj_Top_open_56_21 {C : Nat} {L : List Nat} {A : Mem} (v1 : Int32) (v2 : Int32) (v3 : Int32) (v4 : Int32) (v5 : Int32) (w0 : Int32) (M : Mem) (hC : sb 0 C)  (p0 : Fx C L A M) {r : ((Int32 × Int32 × Int32 × Mem) ⊕ ((Int32 × Int32 × Mem)))} (e : j_Top_open_56_21 v1 v2 v3 v4 v5 w0 M = some r) : (Sum.elim (fun r : Int32 × Int32 × Int32 × Mem => Fx C L A r.2.2.2) (fun r : Int32 × Int32 × Mem => Fx C L A r.2.2)) r := by
  unfold j_Top_open_56_21 at e
  rcases io e with ⟨_, e⟩ | ⟨_, e⟩
  · obtain rfl := Option.some.inj e
    exact p0
  obtain rfl := Option.some.inj e
  exact p0
theorem wl_Top_open_21 {C : Nat} {L : List Nat} {A : Mem} (v1 : Int32) (v2 : Int32) (s : Int32 × Int32 × Int32 × Mem) (hC : sb 137015778499772148581595453067151534054816350208 C)  (p0 : Fx C L A s.2.2.2) {r : ((Int32 × Int32 × Int32 × Mem) ⊕ ((Int32 × Int32 × Mem)))} (e : lb_Top_open_21 v1 v2 s = some r) : (Sum.elim (fun r : Int32 × Int32 × Int32 × Mem => Fx C L A r.2.2.2) (fun r : Int32 × Int32 × Mem => Fx C L A r.2.2)) r := by
  unfold lb_Top_open_21 at e
  rcases io e with ⟨_, e⟩ | ⟨_, e⟩
  · obtain rfl := Option.some.inj e
    exact p0
  obtain ⟨x2, e_x2, e⟩ := bo e
  rcases io e with ⟨_, e⟩ | ⟨_, e⟩
  · exact (wj_Top_open_56_21 v1 v2 s.1 s.2.1 s.2.2.1 (1000000 : Int32) s.2.2.2 (sb_t (by decide +kernel) hC) p0 e)
  obtain ⟨x4, e_x4, e⟩ := bo e
  have p_x4 : Fx C L A x4.2 := (wf_Top_trystWith s.2.2.1 v1 v2 s.2.2.2 (sb_t (by decide +kernel) hC) p0 e_x4)
  exact (wj_Top_open_56_21 v1 v2 s.1 s.2.1 s.2.2.1 x4.1 x4.2 (sb_t (by decide +kernel) hC) p_x4 e)
theorem wf_Top_open {C : Nat} {L : List Nat} {A : Mem} (v1 : Int32) (v2 : Int32) (M : Mem) (hC : sb 63657374260452690195888927762793067532861447321113669410364378007442915335177638749667328 C)  (p0 : Fx C L A M) {r : (Int32 × Mem)} (e : f_Top_open v1 v2 M = some r) : (fun r : Int32 × Mem => Fx C L A r.2) r := by
  unfold f_Top_open at e
  obtain ⟨x1, e_x1, e⟩ := bo e
  rcases io e with ⟨_, e⟩ | ⟨_, e⟩
  · obtain rfl := Option.some.inj e
    exact p0
  obtain ⟨x7, e_x7, e⟩ := bo e
  have p_x7 : Fx C L A x7.2.2 := (it_r (I := fun s : Int32 × Int32 × Int32 × Mem => Fx C L A s.2.2.2) (Q := (fun r : Int32 × Int32 × Mem => Fx C L A r.2.2)) (fun s_ r_ hs_ er_ => wl_Top_open_21 v1 v2 s_ (sb_t (by decide +kernel) hC) hs_ er_) e_x7 p0)
  rcases io e with ⟨_, e⟩ | ⟨_, e⟩
  · obtain rfl := Option.some.inj e
    exact p_x7
  obtain ⟨x8, e_x8, e⟩ := bo e
  have p_x8 : Fx C L A x8 := (wf_Top_emptyRow x7.2.2 (sb_t (by decide +kernel) hC) p_x7 e_x8)
  obtain ⟨x9, e_x9, e⟩ := bo e
  have p_x9 : Fx C L A x9 := (wf_Top_note x7.2.1 x8 (sb_t (by decide +kernel) hC) p_x8 e_x9)
  obtain rfl := Option.some.inj e
  exact p_x9
theorem wl_Top_part_99 {C : Nat} {L : List Nat} {A : Mem} (v5 : Int32) (v6 : Int64) (s : Int32 × Mem) (hC : sb 63657374260452690195888927762793067532861310305335169638215796411989848183643583933317120 C)  (p0 : Fx C L A s.2) {r : ((Int32 × Mem) ⊕ ((Mem)))} (e : lb_Top_part_99 v5 v6 s = some r) : (Sum.elim (fun r : Int32 × Mem => Fx C L A r.2) (fun r : Mem => Fx C L A r)) r := by
  unfold lb_Top_part_99 at e
  rcases io e with ⟨_, e⟩ | ⟨_, e⟩
  · obtain rfl := Option.some.inj e
    exact p0
  rcases io e with ⟨_, e⟩ | ⟨_, e⟩
  · obtain rfl := Option.some.inj e
    exact p0
  obtain ⟨x11, e_x11, e⟩ := bo e
  have p_x11 : Fx C L A x11 := (wf_Top_note s.1 s.2 (sb_t (by decide +kernel) hC) p0 e_x11)
  obtain rfl := Option.some.inj e
  exact p_x11
theorem wf_Top_part {C : Nat} {L : List Nat} {A : Mem} (v1 : Int32) (v2 : Int32) (M : Mem) (hC : sb 63657374260452690195888927762793067532861310305335169638215796411989848183643583933317120 C)  (p0 : Fx C L A M) {r : (Int32 × Mem)} (e : f_Top_part v1 v2 M = some r) : (fun r : Int32 × Mem => Fx C L A r.2) r := by
  unfold f_Top_part at e
  obtain ⟨x1, e_x1, e⟩ := bo e
  rcases io e with ⟨_, e⟩ | ⟨_, e⟩
  · obtain rfl := Option.some.inj e
    exact p0
  obtain ⟨x2, e_x2, e⟩ := bo e
  obtain ⟨_, e⟩ := io_n e
  obtain ⟨_, e⟩ := io_n e
  obtain ⟨x3, e_x3, e⟩ := bo e
  rcases io e with ⟨_, e⟩ | ⟨_, e⟩
  · obtain ⟨y_, e_y, e⟩ := bo e
    rcases y_ with y8 | y9
    · replace e := el_l e
      obtain rfl := Option.some.inj e
      exact p0
    · replace e := el_r e
      obtain ⟨x10, e_x10, e⟩ := bo e
      have p_x10 : Fx C L A x10 := (wf_Top_emptyRow M (sb_t (by decide +kernel) hC) p0 e_x10)
      obtain ⟨x14, e_x14, e⟩ := bo e
      have p_x14 : Fx C L A x14 := (it_r (I := fun s : Int32 × Mem => Fx C L A s.2) (Q := (fun r : Mem => Fx C L A r)) (fun s_ r_ hs_ er_ => wl_Top_part_99 y9.1 y9.2 s_ (sb_t (by decide +kernel) hC) hs_ er_) e_x14 p_x10)
      obtain rfl := Option.some.inj e
      exact p_x14
  obtain rfl := Option.some.inj e
  exact p0
theorem wf_Top_planks {C : Nat} {L : List Nat} {A : Mem} (v1 : Int32) (v2 : Int32) (M : Mem) (hC : sb 63657374260452690195888927762793067532861675680744502363945347333198027254398497916452864 C)  (p0 : Fx C L A M) {r : (Int32 × Mem)} (e : f_Top_planks v1 v2 M = some r) : (fun r : Int32 × Mem => Fx C L A r.2) r := by
  unfold f_Top_planks at e
  obtain ⟨x1, e_x1, e⟩ := bo e
  rcases io e with ⟨_, e⟩ | ⟨_, e⟩
  · obtain rfl := Option.some.inj e
    exact p0
  obtain ⟨x2, e_x2, e⟩ := bo e
  rcases io e with ⟨_, e⟩ | ⟨_, e⟩
  · obtain rfl := Option.some.inj e
    exact p0
  obtain ⟨x3, e_x3, e⟩ := bo e
  have p_x3 : Fx C L A x3.2 := (wf_Ways_bridged 32 v1 v2 M (sb_t (by decide +kernel) hC) p0 e_x3)
  rcases io e with ⟨_, e⟩ | ⟨_, e⟩
  · obtain ⟨x4, e_x4, e⟩ := bo e
    have p_x4 : Fx C L A x4 := (wf_Top_emptyRow x3.2 (sb_t (by decide +kernel) hC) p_x3 e_x4)
    obtain ⟨x5, e_x5, e⟩ := bo e
    have p_x5 : Fx C L A x5 := (wf_Top_note (x3.1 - ((x3.1 / (100 : Int32)) * (100 : Int32))) x4 (sb_t (by decide +kernel) hC) p_x4 e_x5)
    obtain rfl := Option.some.inj e
    exact p_x5
  obtain rfl := Option.some.inj e
  exact p_x3
theorem wj_Top_fire_19 {C : Nat} {L : List Nat} {A : Mem} (v1 : Int32) (M : Mem) (hC : sb 127314748520905380391777855525586135065716774604121015664758778084648831235208544136462336 C)  (p0 : Fx C L A M) {r : (Int32 × Mem)} (e : j_Top_fire_19 v1 M = some r) : (fun r : Int32 × Mem => Fx C L A r.2) r := by
  unfold j_Top_fire_19 at e
  obtain ⟨M1, e_M1, e⟩ := mo e
  have p_M1 : Fx C L A M1 := wi1 p0 e_M1 (tb1 hC (by decide +kernel))
  obtain rfl := Option.some.inj e
  exact p_M1
theorem wf_Top_fire {C : Nat} {L : List Nat} {A : Mem} (v1 : Int32) (M : Mem) (hC : sb 127314748520905380391777855525586135065716774604121015664758778084648831235208544136462336 C)  (p0 : Fx C L A M) {r : (Int32 × Mem)} (e : f_Top_fire v1 M = some r) : (fun r : Int32 × Mem => Fx C L A r.2) r := by
  unfold f_Top_fire at e
  rcases io e with ⟨_, e⟩ | ⟨_, e⟩
  · exact (wj_Top_fire_19 v1 M (sb_t (by decide +kernel) hC) p0 e)
  obtain ⟨x2, e_x2, e⟩ := bo e
  rcases io e with ⟨_, e⟩ | ⟨_, e⟩
  · obtain rfl := Option.some.inj e
    exact p0
  exact (wj_Top_fire_19 v1 M (sb_t (by decide +kernel) hC) p0 e)
theorem wf_Top_stepsToFire {C : Nat} {L : List Nat} {A : Mem} (v1 : Int32) (M : Mem) (hC : sb 45671926166590716193865151022383844364247891968 C)  (p0 : Fx C L A M) {r : (Int32 × Mem)} (e : f_Top_stepsToFire v1 M = some r) : (fun r : Int32 × Mem => Fx C L A r.2) r := by
  unfold f_Top_stepsToFire at e
  obtain ⟨_, e⟩ := io_n e
  obtain ⟨_, e⟩ := io_n e
  obtain ⟨x1, e_x1, e⟩ := bo e
  have p_x1 : Fx C L A x1 := (wf_Nets_measure 32 (M.1 13 v1.toNatClampNeg) (M.1 12 v1.toNatClampNeg) 155 M (sb_t (by decide +kernel) hC) (oc_c hC (by decide +kernel)) p0 e_x1)
  obtain ⟨x5, e_x5, e⟩ := bo e
  obtain rfl := Option.some.inj e
  exact p_x1
theorem wl_Top_fights_27 {C : Nat} {L : List Nat} {A : Mem} (v1 : Int32) (s : Int32 × Int32 × Mem) (hC : sb 45671926166590716193865151022383844364247891968 C)  (p0 : Fx C L A s.2.2) {r : ((Int32 × Int32 × Mem) ⊕ ((Int32 × Mem)))} (e : lb_Top_fights_27 v1 s = some r) : (Sum.elim (fun r : Int32 × Int32 × Mem => Fx C L A r.2.2) (fun r : Int32 × Mem => Fx C L A r.2)) r := by
  unfold lb_Top_fights_27 at e
  rcases io e with ⟨_, e⟩ | ⟨_, e⟩
  · obtain rfl := Option.some.inj e
    exact p0
  obtain ⟨x1, e_x1, e⟩ := bo e
  have p_x1 : Fx C L A x1.2 := (wf_Top_stepsToFire s.2.1 s.2.2 (sb_t (by decide +kernel) hC) p0 e_x1)
  rcases io e with ⟨_, e⟩ | ⟨_, e⟩
  · obtain rfl := Option.some.inj e
    exact p_x1
  obtain rfl := Option.some.inj e
  exact p_x1
theorem wf_Top_fights {C : Nat} {L : List Nat} {A : Mem} (v1 : Int32) (M : Mem) (hC : sb 63657374260452690195888927762793067532861355977261336228931990277140870567487948181209088 C)  (p0 : Fx C L A M) {r : (Int32 × Mem)} (e : f_Top_fights v1 M = some r) : (fun r : Int32 × Mem => Fx C L A r.2) r := by
  unfold f_Top_fights at e
  rcases io e with ⟨_, e⟩ | ⟨_, e⟩
  · obtain rfl := Option.some.inj e
    exact p0
  rcases io e with ⟨_, e⟩ | ⟨_, e⟩
  · rcases io e with ⟨_, e⟩ | ⟨_, e⟩
    · obtain rfl := Option.some.inj e
      exact p0
    obtain ⟨x4, e_x4, e⟩ := bo e
    have p_x4 : Fx C L A x4.2 := (it_r (I := fun s : Int32 × Int32 × Mem => Fx C L A s.2.2) (Q := (fun r : Int32 × Mem => Fx C L A r.2)) (fun s_ r_ hs_ er_ => wl_Top_fights_27 v1 s_ (sb_t (by decide +kernel) hC) hs_ er_) e_x4 p0)
    obtain ⟨x5, e_x5, e⟩ := bo e
    obtain ⟨x6, e_x6, e⟩ := bo e
    have p_x6 : Fx C L A x6 := (wf_Top_emptyRow x4.2 (sb_t (by decide +kernel) hC) p_x4 e_x6)
    obtain ⟨x7, e_x7, e⟩ := bo e
    obtain ⟨x8, e_x8, e⟩ := bo e
    have p_x8 : Fx C L A x8 := (wf_Top_note (x7 - x5) x6 (sb_t (by decide +kernel) hC) p_x6 e_x8)
    obtain ⟨x9, e_x9, e⟩ := bo e
    have p_x9 : Fx C L A x9 := (wf_Top_note x5 x8 (sb_t (by decide +kernel) hC) p_x8 e_x9)
    obtain rfl := Option.some.inj e
    exact p_x9
  obtain rfl := Option.some.inj e
  exact p0
theorem wl_Top_soonestAtFire_9 {C : Nat} {L : List Nat} {A : Mem} (v1 : Int32) (s : Int32 × Int32 × Int32 × Mem) (hC : sb 45671926166590716193865151022383844364247891968 C)  (p0 : Fx C L A s.2.2.2) {r : ((Int32 × Int32 × Int32 × Mem) ⊕ ((Int32 × Mem)))} (e : lb_Top_soonestAtFire_9 v1 s = some r) : (Sum.elim (fun r : Int32 × Int32 × Int32 × Mem => Fx C L A r.2.2.2) (fun r : Int32 × Mem => Fx C L A r.2)) r := by
  unfold lb_Top_soonestAtFire_9 at e
  rcases io e with ⟨_, e⟩ | ⟨_, e⟩
  · obtain rfl := Option.some.inj e
    exact p0
  obtain ⟨x1, e_x1, e⟩ := bo e
  rcases io e with ⟨_, e⟩ | ⟨_, e⟩
  · obtain ⟨x2, e_x2, e⟩ := bo e
    have p_x2 : Fx C L A x2.2 := (wf_Top_stepsToFire s.2.2.1 s.2.2.2 (sb_t (by decide +kernel) hC) p0 e_x2)
    rcases io e with ⟨_, e⟩ | ⟨_, e⟩
    · obtain rfl := Option.some.inj e
      exact p_x2
    obtain ⟨x3, e_x3, e⟩ := bo e
    have p_x3 : Fx C L A x3.2 := (wf_Top_stepsToFire s.2.2.1 x2.2 (sb_t (by decide +kernel) hC) p_x2 e_x3)
    obtain rfl := Option.some.inj e
    exact p_x3
  obtain rfl := Option.some.inj e
  exact p0
theorem wf_Top_soonestAtFire {C : Nat} {L : List Nat} {A : Mem} (v1 : Int32) (M : Mem) (hC : sb 45671926166590716193865151022383844364247891968 C)  (p0 : Fx C L A M) {r : (Int32 × Mem)} (e : f_Top_soonestAtFire v1 M = some r) : (fun r : Int32 × Mem => Fx C L A r.2) r := by
  unfold f_Top_soonestAtFire at e
  obtain ⟨x7, e_x7, e⟩ := bo e
  have p_x7 : Fx C L A x7.2 := (it_r (I := fun s : Int32 × Int32 × Int32 × Mem => Fx C L A s.2.2.2) (Q := (fun r : Int32 × Mem => Fx C L A r.2)) (fun s_ r_ hs_ er_ => wl_Top_soonestAtFire_9 v1 s_ (sb_t (by decide +kernel) hC) hs_ er_) e_x7 p0)
  obtain rfl := Option.some.inj e
  exact p_x7
theorem wf_Top_saved {C : Nat} {L : List Nat} {A : Mem} (M : Mem) (hC : sb 63657374260452690195888927762793067532861355977261336228931990277140870567487948181209088 C)  (p0 : Fx C L A M) {r : (Int32 × Mem)} (e : f_Top_saved M = some r) : (fun r : Int32 × Mem => Fx C L A r.2) r := by
  unfold f_Top_saved at e
  rcases io e with ⟨_, e⟩ | ⟨_, e⟩
  · obtain rfl := Option.some.inj e
    exact p0
  obtain ⟨x1, e_x1, e⟩ := bo e
  have p_x1 : Fx C L A x1.2 := (wf_Top_soonestAtFire (0 : Int32) M (sb_t (by decide +kernel) hC) p0 e_x1)
  obtain ⟨x2, e_x2, e⟩ := bo e
  have p_x2 : Fx C L A x2.2 := (wf_Top_soonestAtFire (1 : Int32) x1.2 (sb_t (by decide +kernel) hC) p_x1 e_x2)
  rcases io e with ⟨_, e⟩ | ⟨_, e⟩
  · obtain rfl := Option.some.inj e
    exact p_x2
  rcases io e with ⟨_, e⟩ | ⟨_, e⟩
  · obtain rfl := Option.some.inj e
    exact p_x2
  obtain ⟨x3, e_x3, e⟩ := bo e
  have p_x3 : Fx C L A x3 := (wf_Top_emptyRow x2.2 (sb_t (by decide +kernel) hC) p_x2 e_x3)
  obtain ⟨x4, e_x4, e⟩ := bo e
  have p_x4 : Fx C L A x4 := (wf_Top_note x1.1 x3 (sb_t (by decide +kernel) hC) p_x3 e_x4)
  obtain ⟨x5, e_x5, e⟩ := bo e
  have p_x5 : Fx C L A x5 := (wf_Top_note x2.1 x4 (sb_t (by decide +kernel) hC) p_x4 e_x5)
  obtain ⟨x6, e_x6, e⟩ := bo e
  have p_x6 : Fx C L A x6.2 := (wf_Top_stepsToFire x1.1 x5 (sb_t (by decide +kernel) hC) p_x5 e_x6)
  obtain ⟨x7, e_x7, e⟩ := bo e
  have p_x7 : Fx C L A x7.2 := (wf_Top_stepsToFire x2.1 x6.2 (sb_t (by decide +kernel) hC) p_x6 e_x7)
  obtain rfl := Option.some.inj e
  exact p_x7
theorem wl_Top_wardrobe_71 {C : Nat} {L : List Nat} {A : Mem} (v4 : Int32) (s : Int32 × Int32 × Mem) (hC : sb 63657374260452690195888927762793067532861310305335169638215796411989848183643583933317120 C)  (p0 : Fx C L A s.2.2) {r : ((Int32 × Int32 × Mem) ⊕ ((Mem)))} (e : lb_Top_wardrobe_71 v4 s = some r) : (Sum.elim (fun r : Int32 × Int32 × Mem => Fx C L A r.2.2) (fun r : Mem => Fx C L A r)) r := by
  unfold lb_Top_wardrobe_71 at e
  rcases io e with ⟨_, e⟩ | ⟨_, e⟩
  · obtain rfl := Option.some.inj e
    exact p0
  rcases io e with ⟨_, e⟩ | ⟨_, e⟩
  · obtain rfl := Option.some.inj e
    exact p0
  rcases io e with ⟨_, e⟩ | ⟨_, e⟩
  · obtain rfl := Option.some.inj e
    exact p0
  obtain ⟨x5, e_x5, e⟩ := bo e
  obtain ⟨x6, e_x6, e⟩ := bo e
  have p_x6 : Fx C L A x6 := (wf_Top_note (((x5 / (5 : Int32)) * (10 : Int32)) + (x5 - ((x5 / (5 : Int32)) * (5 : Int32)))) s.2.2 (sb_t (by decide +kernel) hC) p0 e_x6)
  obtain ⟨x7, e_x7, e⟩ := bo e
  obtain rfl := Option.some.inj e
  exact p_x6
theorem wf_Top_wardrobe {C : Nat} {L : List Nat} {A : Mem} (v1 : Int32) (v2 : Int32) (M : Mem) (hC : sb 63657374260452690195888927762793067532863502557791165992593101939238922608173067832131584 C)  (p0 : Fx C L A M) {r : (Int32 × Mem)} (e : f_Top_wardrobe v1 v2 M = some r) : (fun r : Int32 × Mem => Fx C L A r.2) r := by
  unfold f_Top_wardrobe at e
  obtain ⟨x1, e_x1, e⟩ := bo e
  rcases io e with ⟨_, e⟩ | ⟨_, e⟩
  · obtain rfl := Option.some.inj e
    exact p0
  obtain ⟨x2, e_x2, e⟩ := bo e
  rcases io e with ⟨_, e⟩ | ⟨_, e⟩
  · obtain rfl := Option.some.inj e
    exact p0
  obtain ⟨x3, e_x3, e⟩ := bo e
  have p_x3 : Fx C L A x3 := (wf_Ways_measurePairs v2 M (sb_t (by decide +kernel) hC) p0 e_x3)
  obtain ⟨_, e⟩ := io_n e
  rcases io e with ⟨_, e⟩ | ⟨_, e⟩
  · obtain ⟨x4, e_x4, e⟩ := bo e
    have p_x4 : Fx C L A x4 := (wf_Top_emptyRow x3 (sb_t (by decide +kernel) hC) p_x3 e_x4)
    obtain ⟨x11, e_x11, e⟩ := bo e
    have p_x11 : Fx C L A x11 := (it_r (I := fun s : Int32 × Int32 × Mem => Fx C L A s.2.2) (Q := (fun r : Mem => Fx C L A r)) (fun s_ r_ hs_ er_ => wl_Top_wardrobe_71 (x3.1 159 ((v1 * (5 : Int32)) + (4 : Int32)).toNatClampNeg) s_ (sb_t (by decide +kernel) hC) hs_ er_) e_x11 p_x4)
    obtain rfl := Option.some.inj e
    exact p_x11
  obtain rfl := Option.some.inj e
  exact p_x3
theorem wf_Top_hunt {C : Nat} {L : List Nat} {A : Mem} (M : Mem) (hC : sb 28858962355861926489295023035114808042158607389265304475120358515321431105150412798781203012533187882641336041472 C)  (p0 : Fx C L A M) {r : (Mem)} (e : f_Top_hunt M = some r) : (fun r : Mem => Fx C L A r) r := by
  unfold f_Top_hunt at e
  obtain ⟨x1, e_x1, e⟩ := bo e
  have p_x1 : Fx C L A x1 := (wf_Clock_pass 25 32 M (sb_t (by decide +kernel) hC) (oc_c hC (by decide +kernel)) (oc_c hC (by decide +kernel)) (oc_c hC (by decide +kernel)) (oc_c hC (by decide +kernel)) p0 e_x1)
  obtain ⟨x2, e_x2, e⟩ := bo e
  have p_x2 : Fx C L A x2 := (wf_Thief_stir 32 x1 (sb_t (by decide +kernel) hC) p_x1 e_x2)
  obtain ⟨x3, e_x3, e⟩ := bo e
  obtain ⟨x4, e_x4, e⟩ := bo e
  obtain ⟨x5, e_x5, e⟩ := bo e
  have p_x5 : Fx C L A x5 := (wf_Thief_record (0 : Int32) x3 x4 x2 (sb_t (by decide +kernel) hC) p_x2 e_x5)
  obtain ⟨x6, e_x6, e⟩ := bo e
  have p_x6 : Fx C L A x6 := (wf_Thief_strike (0 : Int32) x5 (sb_t (by decide +kernel) hC) p_x5 e_x6)
  obtain rfl := Option.some.inj e
  exact p_x6
theorem wl_Top_flees_48 {C : Nat} {L : List Nat} {A : Mem} (v3 : Int32) (s : Int32 × Mem) (hC : sb 28858962355861926489295023035114808042158607389265304475120358515321431105150412798781203012533187882641336041472 C)  (p0 : Fx C L A s.2) {r : ((Int32 × Mem) ⊕ ((Mem)))} (e : lb_Top_flees_48 v3 s = some r) : (Sum.elim (fun r : Int32 × Mem => Fx C L A r.2) (fun r : Mem => Fx C L A r)) r := by
  unfold lb_Top_flees_48 at e
  rcases io e with ⟨_, e⟩ | ⟨_, e⟩
  · obtain rfl := Option.some.inj e
    exact p0
  obtain ⟨x4, e_x4, e⟩ := bo e
  have p_x4 : Fx C L A x4 := (wf_Top_hunt s.2 (sb_t (by decide +kernel) hC) p0 e_x4)
  obtain rfl := Option.some.inj e
  exact p_x4
theorem wf_Top_flees {C : Nat} {L : List Nat} {A : Mem} (v1 : Int32) (v2 : Int32) (v3 : Int32) (M : Mem) (hC : sb 28858962355861926489295086692489068494848803278193067268187891376631736440320051014577615002381371526228624801792 C)  (p0 : Fx C L A M) {r : (Int32 × Mem)} (e : f_Top_flees v1 v2 v3 M = some r) : (fun r : Int32 × Mem => Fx C L A r.2) r := by
  unfold f_Top_flees at e
  obtain ⟨x1, e_x1, e⟩ := bo e
  rcases io e with ⟨_, e⟩ | ⟨_, e⟩
  · obtain rfl := Option.some.inj e
    exact p0
  rcases io e with ⟨_, e⟩ | ⟨_, e⟩
  · obtain rfl := Option.some.inj e
    exact p0
  rcases io e with ⟨_, e⟩ | ⟨_, e⟩
  · obtain ⟨x2, e_x2, e⟩ := bo e
    have p_x2 : Fx C L A x2 := (wf_Scene_copy 25 11 M (sb_t (by decide +kernel) hC) (oc_c hC (by decide +kernel)) (oc_c hC (by decide +kernel)) (oc_c hC (by decide +kernel)) (oc_c hC (by decide +kernel)) (oc_c hC (by decide +kernel)) (oc_c hC (by decide +kernel)) (oc_c hC (by decide +kernel)) p0 e_x2)
    obtain ⟨x3, e_x3, e⟩ := bo e
    have p_x3 : Fx C L A x3 := (wf_Thief_start v2 v1 x2 (sb_t (by decide +kernel) hC) p_x2 e_x3)
    obtain ⟨x6, e_x6, e⟩ := bo e
    have p_x6 : Fx C L A x6 := (it_r (I := fun s : Int32 × Mem => Fx C L A s.2) (Q := (fun r : Mem => Fx C L A r)) (fun s_ r_ hs_ er_ => wl_Top_flees_48 v3 s_ (sb_t (by decide +kernel) hC) hs_ er_) e_x6 p_x3)
    obtain ⟨x7, e_x7, e⟩ := bo e
    have p_x7 : Fx C L A x7 := (wf_Top_emptyRow x6 (sb_t (by decide +kernel) hC) p_x6 e_x7)
    obtain ⟨x8, e_x8, e⟩ := bo e
    have p_x8 : Fx C L A x8 := (wf_Top_noteSet (x7.2.1 151 2) x7 (sb_t (by decide +kernel) hC) p_x7 e_x8)
    obtain ⟨x9, e_x9, e⟩ := bo e
    have p_x9 : Fx C L A x9 := (wf_Top_noteSet (x8.2.1 151 3) x8 (sb_t (by decide +kernel) hC) p_x8 e_x9)
    obtain ⟨x10, e_x10, e⟩ := bo e
    rcases io e with ⟨_, e⟩ | ⟨_, e⟩
    · obtain rfl := Option.some.inj e
      exact p_x9
    obtain rfl := Option.some.inj e
    exact p_x9
  obtain rfl := Option.some.inj e
  exact p0
theorem wl_Top_lairs_26 {C : Nat} {L : List Nat} {A : Mem} (v1 : Int32) (s : Int32 × Mem) (hC : sb 71098737063784989085461767434649766220228279869903869167057133646604542104245499269720381150059784919056384 C)  (p0 : Fx C L A s.2) {r : ((Int32 × Mem) ⊕ ((Mem)))} (e : lb_Top_lairs_26 v1 s = some r) : (Sum.elim (fun r : Int32 × Mem => Fx C L A r.2) (fun r : Mem => Fx C L A r)) r := by
  unfold lb_Top_lairs_26 at e
  rcases io e with ⟨_, e⟩ | ⟨_, e⟩
  · obtain rfl := Option.some.inj e
    exact p0
  obtain ⟨x2, e_x2, e⟩ := bo e
  have p_x2 : Fx C L A x2 := (wf_Clock_pass 25 32 s.2 (sb_t (by decide +kernel) hC) (oc_c hC (by decide +kernel)) (oc_c hC (by decide +kernel)) (oc_c hC (by decide +kernel)) (oc_c hC (by decide +kernel)) p0 e_x2)
  obtain ⟨x3, e_x3, e⟩ := bo e
  obtain ⟨x4, e_x4, e⟩ := bo e
  obtain ⟨x5, e_x5, e⟩ := bo e
  have p_x5 : Fx C L A x5 := (wf_Thief_record s.1 x3 x4 x2 (sb_t (by decide +kernel) hC) p_x2 e_x5)
  obtain rfl := Option.some.inj e
  exact p_x5
theorem wl_Top_lairs_138 {C : Nat} {L : List Nat} {A : Mem} (s : Int32 × Mem) (hC : sb 28858891257124862704305937573347373392392387160985434571251191458187784500608308553281933292152037822856416985088 C)  (p0 : Fx C L A s.2) {r : ((Int32 × Mem) ⊕ ((Mem)))} (e : lb_Top_lairs_138 s = some r) : (Sum.elim (fun r : Int32 × Mem => Fx C L A r.2) (fun r : Mem => Fx C L A r)) r := by
  unfold lb_Top_lairs_138 at e
  rcases io e with ⟨_, e⟩ | ⟨_, e⟩
  · obtain rfl := Option.some.inj e
    exact p0
  obtain ⟨x10, e_x10, e⟩ := bo e
  have p_x10 : Fx C L A x10 := (wf_Thief_strike s.1 s.2 (sb_t (by decide +kernel) hC) p0 e_x10)
  obtain ⟨x11, e_x11, e⟩ := bo e
  have p_x11 : Fx C L A x11 := (wf_Thief_stir 32 x10 (sb_t (by decide +kernel) hC) p_x10 e_x11)
  obtain rfl := Option.some.inj e
  exact p_x11
theorem wf_Top_lairs {C : Nat} {L : List Nat} {A : Mem} (v1 : Int32) (M : Mem) (hC : sb 28858962355861926489295086692489068494848803278193067268187891376631736440320051014577615002381371526228624801792 C)  (p0 : Fx C L A M) {r : (Int32 × Mem)} (e : f_Top_lairs v1 M = some r) : (fun r : Int32 × Mem => Fx C L A r.2) r := by
  unfold f_Top_lairs at e
  rcases io e with ⟨_, e⟩ | ⟨_, e⟩
  · obtain rfl := Option.some.inj e
    exact p0
  rcases io e with ⟨_, e⟩ | ⟨_, e⟩
  · obtain ⟨x1, e_x1, e⟩ := bo e
    have p_x1 : Fx C L A x1 := (wf_Scene_copy 25 11 M (sb_t (by decide +kernel) hC) (oc_c hC (by decide +kernel)) (oc_c hC (by decide +kernel)) (oc_c hC (by decide +kernel)) (oc_c hC (by decide +kernel)) (oc_c hC (by decide +kernel)) (oc_c hC (by decide +kernel)) (oc_c hC (by decide +kernel)) p0 e_x1)
    obtain ⟨x7, e_x7, e⟩ := bo e
    have p_x7 : Fx C L A x7 := (it_r (I := fun s : Int32 × Mem => Fx C L A s.2) (Q := (fun r : Mem => Fx C L A r)) (fun s_ r_ hs_ er_ => wl_Top_lairs_26 v1 s_ (sb_t (by decide +kernel) hC) hs_ er_) e_x7 p_x1)
    obtain ⟨M8, e_M8, e⟩ := mo e
    have p_M8 : Fx C L A M8 := wlg1 p_x7 e_M8 (tb1 hC (by decide +kernel))
    obtain ⟨M9, e_M9, e⟩ := mo e
    have p_M9 : Fx C L A M9 := wlg1 p_M8 e_M9 (tb1 hC (by decide +kernel))
    obtain ⟨x13, e_x13, e⟩ := bo e
    have p_x13 : Fx C L A x13 := (it_r (I := fun s : Int32 × Mem => Fx C L A s.2) (Q := (fun r : Mem => Fx C L A r)) (fun s_ r_ hs_ er_ => wl_Top_lairs_138  s_ (sb_t (by decide +kernel) hC) hs_ er_) e_x13 p_M9)
    obtain ⟨x14, e_x14, e⟩ := bo e
    have p_x14 : Fx C L A x14 := (wf_Top_emptyRow x13 (sb_t (by decide +kernel) hC) p_x13 e_x14)
    obtain ⟨x15, e_x15, e⟩ := bo e
    have p_x15 : Fx C L A x15 := (wf_Top_noteSet (x14.2.1 151 2) x14 (sb_t (by decide +kernel) hC) p_x14 e_x15)
    obtain ⟨x16, e_x16, e⟩ := bo e
    have p_x16 : Fx C L A x16 := (wf_Top_noteSet (x15.2.1 151 3) x15 (sb_t (by decide +kernel) hC) p_x15 e_x16)
    obtain ⟨x17, e_x17, e⟩ := bo e
    obtain ⟨x18, e_x18, e⟩ := bo e
    obtain rfl := Option.some.inj e
    exact p_x16
  obtain rfl := Option.some.inj e
  exact p0
theorem wl_Top_caught_36 {C : Nat} {L : List Nat} {A : Mem} (s : Int32 × Mem) (hC : sb 28858962355861926489295023035114808042158607389265304475120358515321431105150412798781203012533187882641336041472 C)  (p0 : Fx C L A s.2) {r : ((Int32 × Mem) ⊕ ((Mem) ⊕ (Int32 × Mem)))} (e : lb_Top_caught_36 s = some r) : (Sum.elim (fun r : Int32 × Mem => Fx C L A r.2) (Sum.elim (fun r : Mem => Fx C L A r) (fun r : Int32 × Mem => Fx C L A r.2))) r := by
  unfold lb_Top_caught_36 at e
  rcases io e with ⟨_, e⟩ | ⟨_, e⟩
  · obtain rfl := Option.some.inj e
    exact p0
  obtain ⟨x4, e_x4, e⟩ := bo e
  have p_x4 : Fx C L A x4 := (wf_Top_hunt s.2 (sb_t (by decide +kernel) hC) p0 e_x4)
  obtain ⟨x5, e_x5, e⟩ := bo e
  rcases io e with ⟨_, e⟩ | ⟨_, e⟩
  · obtain rfl := Option.some.inj e
    exact p_x4
  obtain rfl := Option.some.inj e
  exact p_x4
theorem wf_Top_caught {C : Nat} {L : List Nat} {A : Mem} (v1 : Int32) (v2 : Int32) (M : Mem) (hC : sb 28858962355861926489295023035114808042158607389265304475120358515321431105150412798781203012533187882644691484672 C)  (p0 : Fx C L A M) {r : (Int32 × Mem)} (e : f_Top_caught v1 v2 M = some r) : (fun r : Int32 × Mem => Fx C L A r.2) r := by
  unfold f_Top_caught at e
  obtain ⟨x1, e_x1, e⟩ := bo e
  rcases io e with ⟨_, e⟩ | ⟨_, e⟩
  · obtain rfl := Option.some.inj e
    exact p0
  obtain ⟨x2, e_x2, e⟩ := bo e
  have p_x2 : Fx C L A x2 := (wf_Scene_copy 25 11 M (sb_t (by decide +kernel) hC) (oc_c hC (by decide +kernel)) (oc_c hC (by decide +kernel)) (oc_c hC (by decide +kernel)) (oc_c hC (by decide +kernel)) (oc_c hC (by decide +kernel)) (oc_c hC (by decide +kernel)) (oc_c hC (by decide +kernel)) p0 e_x2)
  obtain ⟨x3, e_x3, e⟩ := bo e
  have p_x3 : Fx C L A x3 := (wf_Thief_start v2 v1 x2 (sb_t (by decide +kernel) hC) p_x2 e_x3)
  obtain ⟨y_, e_y, e⟩ := bo e
  have q_y := (it_r (I := fun s : Int32 × Mem => Fx C L A s.2) (Q := (Sum.elim (fun r : Mem => Fx C L A r) (fun r : Int32 × Mem => Fx C L A r.2))) (fun s_ r_ hs_ er_ => wl_Top_caught_36  s_ (sb_t (by decide +kernel) hC) hs_ er_) e_y p_x3)
  rcases y_ with y9 | y10
  · have p_y9 : Fx C L A y9 := q_y
    replace e := el_l e
    obtain rfl := Option.some.inj e
    exact p_y9
  · have p_y10 : Fx C L A y10.2 := q_y
    replace e := el_r e
    obtain rfl := Option.some.inj e
    exact p_y10
theorem wf_Top_slipsBy {C : Nat} {L : List Nat} {A : Mem} (v1 : Int32) (v2 : Int32) (v3 : Int32) (v4 : Int32) (v5 : Int32) (M : Mem) (hC : sb 28858891257124862704305937573347373392392387160985434571251191458204911472920780071854632723785431764493009944576 C)  (p0 : Fx C L A M) {r : (Int32 × Mem)} (e : f_Top_slipsBy v1 v2 v3 v4 v5 M = some r) : (fun r : Int32 × Mem => Fx C L A r.2) r := by
  unfold f_Top_slipsBy at e
  obtain ⟨x1, e_x1, e⟩ := bo e
  have p_x1 : Fx C L A x1 := (wf_Thief_start v2 v3 M (sb_t (by decide +kernel) hC) p0 e_x1)
  obtain ⟨x2, e_x2, e⟩ := bo e
  obtain ⟨x3, e_x3, e⟩ := bo e
  obtain ⟨x4, e_x4, e⟩ := bo e
  have p_x4 : Fx C L A x4 := (wf_Thief_record (0 : Int32) x2 x3 x1 (sb_t (by decide +kernel) hC) p_x1 e_x4)
  obtain ⟨x5, e_x5, e⟩ := bo e
  have p_x5 : Fx C L A x5 := (wf_Thief_roam 32 x4 (sb_t (by decide +kernel) hC) p_x4 e_x5)
  obtain ⟨x6, e_x6, e⟩ := bo e
  obtain ⟨_, e⟩ := io_n e
  obtain rfl := Option.some.inj e
  exact p_x5
theorem wl_Top_watch_45 {C : Nat} {L : List Nat} {A : Mem} (v1 : Int32) (v2 : Int32) (v3 : Int32) (v4 : Int32) (v5 : Int32) (s : Int32 × Mem) (hC : sb 28858891257124862704305937573347373392392387160985434571251191458204911472920780071854632723785431764493009944576 C)  (p0 : Fx C L A s.2) {r : ((Int32 × Mem) ⊕ ((Mem) ⊕ (Int32 × Mem)))} (e : lb_Top_watch_45 v1 v2 v3 v4 v5 s = some r) : (Sum.elim (fun r : Int32 × Mem => Fx C L A r.2) (Sum.elim (fun r : Mem => Fx C L A r) (fun r : Int32 × Mem => Fx C L A r.2))) r := by
  unfold lb_Top_watch_45 at e
  rcases io e with ⟨_, e⟩ | ⟨_, e⟩
  · obtain rfl := Option.some.inj e
    exact p0
  obtain ⟨x3, e_x3, e⟩ := bo e
  rcases io e with ⟨_, e⟩ | ⟨_, e⟩
  · obtain ⟨x4, e_x4, e⟩ := bo e
    have p_x4 : Fx C L A x4.2 := (wf_Top_slipsBy s.1 v2 v1 v4 v3 s.2 (sb_t (by decide +kernel) hC) p0 e_x4)
    rcases io e with ⟨_, e⟩ | ⟨_, e⟩
    · obtain rfl := Option.some.inj e
      exact p_x4
    obtain rfl := Option.some.inj e
    exact p_x4
  obtain rfl := Option.some.inj e
  exact p0
theorem wl_Top_watch_30 {C : Nat} {L : List Nat} {A : Mem} (v1 : Int32) (v2 : Int32) (v3 : Int32) (v4 : Int32) (s : Int32 × Mem) (hC : sb 28858891257124862704305937573347373392392387160985434571251191458204911472920780071854632723785431764493009944576 C)  (p0 : Fx C L A s.2) {r : ((Int32 × Mem) ⊕ ((Mem) ⊕ (Int32 × Int32 × Mem)))} (e : lb_Top_watch_30 v1 v2 v3 v4 s = some r) : (Sum.elim (fun r : Int32 × Mem => Fx C L A r.2) (Sum.elim (fun r : Mem => Fx C L A r) (fun r : Int32 × Int32 × Mem => Fx C L A r.2.2))) r := by
  unfold lb_Top_watch_30 at e
  rcases io e with ⟨_, e⟩ | ⟨_, e⟩
  · obtain rfl := Option.some.inj e
    exact p0
  obtain ⟨y_, e_y, e⟩ := bo e
  have q_y := (it_r (I := fun s : Int32 × Mem => Fx C L A s.2) (Q := (Sum.elim (fun r : Mem => Fx C L A r) (fun r : Int32 × Mem => Fx C L A r.2))) (fun s_ r_ hs_ er_ => wl_Top_watch_45 v1 v2 v3 v4 s.1 s_ (sb_t (by decide +kernel) hC) hs_ er_) e_y p0)
  rcases y_ with y9 | y10
  · have p_y9 : Fx C L A y9 := q_y
    replace e := el_l e
    obtain rfl := Option.some.inj e
    exact p_y9
  · have p_y10 : Fx C L A y10.2 := q_y
    replace e := el_r e
    obtain rfl := Option.some.inj e
    exact p_y10
theorem wf_Top_watch {C : Nat} {L : List Nat} {A : Mem} (v1 : Int32) (v2 : Int32) (v3 : Int32) (v4 : Int32) (M : Mem) (hC : sb 28858891257124862704306001230721633845082583049913197364318724319515216808090418287651044713633615408076943261696 C)  (p0 : Fx C L A M) {r : (Int32 × Mem)} (e : f_Top_watch v1 v2 v3 v4 M = some r) : (fun r : Int32 × Mem => Fx C L A r.2) r := by
  unfold f_Top_watch at e
  obtain ⟨x1, e_x1, e⟩ := bo e
  rcases io e with ⟨_, e⟩ | ⟨_, e⟩
  · obtain rfl := Option.some.inj e
    exact p0
  obtain ⟨x2, e_x2, e⟩ := bo e
  rcases io e with ⟨_, e⟩ | ⟨_, e⟩
  · obtain rfl := Option.some.inj e
    exact p0
  obtain ⟨y_, e_y, e⟩ := bo e
  have q_y := (it_r (I := fun s : Int32 × Mem => Fx C L A s.2) (Q := (Sum.elim (fun r : Mem => Fx C L A r) (fun r : Int32 × Int32 × Mem => Fx C L A r.2.2))) (fun s_ r_ hs_ er_ => wl_Top_watch_30 v1 v2 v3 v4 s_ (sb_t (by decide +kernel) hC) hs_ er_) e_y p0)
  rcases y_ with y13 | y14
  · have p_y13 : Fx C L A y13 := q_y
    replace e := el_l e
    obtain rfl := Option.some.inj e
    exact p_y13
  · have p_y14 : Fx C L A y14.2.2 := q_y
    replace e := el_r e
    obtain ⟨x15, e_x15, e⟩ := bo e
    have p_x15 : Fx C L A x15 := (wf_Top_emptyRow y14.2.2 (sb_t (by decide +kernel) hC) p_y14 e_x15)
    obtain ⟨x16, e_x16, e⟩ := bo e
    have p_x16 : Fx C L A x16 := (wf_Top_note y14.2.1 x15 (sb_t (by decide +kernel) hC) p_x15 e_x16)
    obtain rfl := Option.some.inj e
    exact p_x16
theorem wf_Top_keep {C : Nat} {L : List Nat} {A : Mem} (v1 : Int32) (M : Mem) (hC : sb 16687398718132110018711107079449625895333629080911528171172850806096223893407434921000780691456 C)  (p0 : Fx C L A M) {r : (Int32 × Mem)} (e : f_Top_keep v1 M = some r) : (fun r : Int32 × Mem => Fx C L A r.2) r := by
  unfold f_Top_keep at e
  obtain ⟨x1, e_x1, e⟩ := bo e
  have p_x1 : Fx C L A x1.2 := (wf_History_store v1 11 M (sb_t (by decide +kernel) hC) p0 e_x1)
  obtain ⟨_, e⟩ := io_n e
  obtain rfl := Option.some.inj e
  exact p_x1
theorem wf_Top_again {C : Nat} {L : List Nat} {A : Mem} (v1 : Int32) (M : Mem) (hC : sb 8343699359066055009355553539724812947666814540455674882605631280555545803830627148587325454336 C)  (p0 : Fx C L A M) {r : (Int32 × Mem)} (e : f_Top_again v1 M = some r) : (fun r : Int32 × Mem => Fx C L A r.2) r := by
  unfold f_Top_again at e
  obtain ⟨x1, e_x1, e⟩ := bo e
  have p_x1 : Fx C L A x1.2 := (wf_History_restore v1 11 M (sb_t (by decide +kernel) hC) (oc_c hC (by decide +kernel)) (oc_c hC (by decide +kernel)) (oc_c hC (by decide +kernel)) (oc_c hC (by decide +kernel)) (oc_c hC (by decide +kernel)) (oc_c hC (by decide +kernel)) (oc_c hC (by decide +kernel)) p0 e_x1)
  rcases io e with ⟨_, e⟩ | ⟨_, e⟩
  · obtain rfl := Option.some.inj e
    exact p_x1
  obtain ⟨x2, e_x2, e⟩ := bo e
  have p_x2 : Fx C L A x2 := (wf_History_forget x1.2 (sb_t (by decide +kernel) hC) p_x1 e_x2)
  obtain ⟨x3, e_x3, e⟩ := bo e
  have p_x3 : Fx C L A x3 := (wf_Nets_lay 32 11 (-1 : Int32) x2 (sb_t (by decide +kernel) hC) (oc_c hC (by decide +kernel)) (oc_c hC (by decide +kernel)) (oc_c hC (by decide +kernel)) p_x2 e_x3)
  obtain rfl := Option.some.inj e
  exact p_x3
theorem wf_Top_person {C : Nat} {L : List Nat} {A : Mem} (v1 : Int32) (v2 : Int32) (M : Mem) (hC : sb 279968092772225526319680285071055534765205687154331191862498637620473983897520118172609704251136933888 C)  (p0 : Fx C L A M) {r : (Option Int32 × Mem)} (e : f_Top_person v1 v2 M = some r) : (fun r : Option Int32 × Mem => Fx C L A r.2) r := by
  unfold f_Top_person at e
  obtain ⟨x1, e_x1, e⟩ := bo e
  rcases io e with ⟨_, e⟩ | ⟨_, e⟩
  · obtain rfl := Option.some.inj e
    exact p0
  rcases io e with ⟨_, e⟩ | ⟨_, e⟩
  · obtain ⟨x2, e_x2, e⟩ := bo e
    rcases io e with ⟨_, e⟩ | ⟨_, e⟩
    · obtain rfl := Option.some.inj e
      exact p0
    obtain rfl := Option.some.inj e
    exact p0
  rcases io e with ⟨_, e⟩ | ⟨_, e⟩
  · obtain ⟨_, e⟩ := io_n e
    obtain rfl := Option.some.inj e
    exact p0
  rcases io e with ⟨_, e⟩ | ⟨_, e⟩
  · obtain ⟨_, e⟩ := io_n e
    obtain rfl := Option.some.inj e
    exact p0
  rcases io e with ⟨_, e⟩ | ⟨_, e⟩
  · obtain ⟨_, e⟩ := io_n e
    obtain rfl := Option.some.inj e
    exact p0
  rcases io e with ⟨_, e⟩ | ⟨_, e⟩
  · obtain ⟨_, e⟩ := io_n e
    obtain rfl := Option.some.inj e
    exact p0
  rcases io e with ⟨_, e⟩ | ⟨_, e⟩
  · obtain rfl := Option.some.inj e
    exact p0
  rcases io e with ⟨_, e⟩ | ⟨_, e⟩
  · obtain ⟨x10, e_x10, e⟩ := bo e
    obtain rfl := Option.some.inj e
    exact p0
  rcases io e with ⟨_, e⟩ | ⟨_, e⟩
  · obtain ⟨x12, e_x12, e⟩ := bo e
    have p_x12 : Fx C L A x12.2 := (wf_Law_goes v1 11 M (sb_t (by decide +kernel) hC) p0 e_x12)
    rcases io e with ⟨_, e⟩ | ⟨_, e⟩
    · obtain rfl := Option.some.inj e
      exact p_x12
    obtain rfl := Option.some.inj e
    exact p_x12
  obtain rfl := Option.some.inj e
  exact p0
