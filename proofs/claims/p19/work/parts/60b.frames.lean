/-! frames -/
theorem wf_Law_read {C : Nat} {L : List Nat} {A : Mem} (M : Mem) (hC : sb 4164525379986854704012832790792207833815713744494205849683739136319597930480501650043111699309140115456 C)  (p0 : Fx C L A M) {r : (Int32 × Mem)} (e : f_Law_read M = some r) : (fun r : Int32 × Mem => Fx C L A r.2) r := by
  unfold f_Law_read at e
  obtain ⟨M1, e_M1, e⟩ := mo e
  have p_M1 : Fx C L A M1 := wi1 p0 e_M1 (tb1 hC (by decide +kernel))
  obtain ⟨M2, e_M2, e⟩ := mo e
  have p_M2 : Fx C L A M2 := wi1 p_M1 e_M2 (tb1 hC (by decide +kernel))
  obtain ⟨M3, e_M3, e⟩ := mo e
  have p_M3 : Fx C L A M3 := wi1 p_M2 e_M3 (tb1 hC (by decide +kernel))
  obtain ⟨M4, e_M4, e⟩ := mo e
  have p_M4 : Fx C L A M4 := wi1 p_M3 e_M4 (tb1 hC (by decide +kernel))
  obtain ⟨M5, e_M5, e⟩ := mo e
  have p_M5 : Fx C L A M5 := wi1 p_M4 e_M5 (tb1 hC (by decide +kernel))
  obtain ⟨y_, e_y, e⟩ := bo e
  have q_y := (it_r (I := fun s : Int32 × Int32 × Mem => Fx C L A s.2.2) (Q := (Sum.elim (fun r : Mem => Fx C L A r) (Sum.elim (fun r : Int32 × Mem => Fx C L A r.2) (fun r : Int32 × Mem => Fx C L A r.2)))) (fun s_ r_ hs_ er_ => wl_Law_read_29  s_ (sb_t (by decide +kernel) hC) hs_ er_) e_y p_M5)
  rcases y_ with y15 | y19 | y23
  · have p_y15 : Fx C L A y15 := q_y
    replace e := el_l e
    exact (wj_Law_read_130 y15 (sb_t (by decide +kernel) hC) p_y15 e)
  · have p_y19 : Fx C L A y19.2 := q_y
    replace e := el_r e
    replace e := el_l e
    rcases io e with ⟨_, e⟩ | ⟨_, e⟩
    · obtain rfl := Option.some.inj e
      exact p_y19
    rcases io e with ⟨_, e⟩ | ⟨_, e⟩
    · obtain rfl := Option.some.inj e
      exact p_y19
    rcases io e with ⟨_, e⟩ | ⟨_, e⟩
    · exact (wj_Law_read_130 y19.2 (sb_t (by decide +kernel) hC) p_y19 e)
    obtain rfl := Option.some.inj e
    exact p_y19
  · have p_y23 : Fx C L A y23.2 := q_y
    replace e := el_r e
    replace e := el_r e
    obtain rfl := Option.some.inj e
    exact p_y23
theorem wf_Law_push {C : Nat} {L : List Nat} {A : Mem} (v1 : Int32) (M : Mem) (hC : sb 279968092772225526319680285071055534765205687154331191862498637620473983897520118172609704251136933888 C)  (p0 : Fx C L A M) {r : (Mem)} (e : f_Law_push v1 M = some r) : (fun r : Mem => Fx C L A r) r := by
  unfold f_Law_push at e
  rcases io e with ⟨_, e⟩ | ⟨_, e⟩
  · obtain rfl := Option.some.inj e
    exact p0
  rcases io e with ⟨_, e⟩ | ⟨_, e⟩
  · obtain rfl := Option.some.inj e
    exact p0
  obtain ⟨_, e⟩ := io_n e
  obtain ⟨M1, e_M1, e⟩ := mo e
  have p_M1 : Fx C L A M1 := wi p0 e_M1 (oc_c hC (by decide +kernel))
  obtain ⟨M2, e_M2, e⟩ := mo e
  have p_M2 : Fx C L A M2 := wi1 p_M1 e_M2 (tb1 hC (by decide +kernel))
  obtain rfl := Option.some.inj e
  exact p_M2
theorem wf_Law_pop {C : Nat} {L : List Nat} {A : Mem} (M : Mem) (hC : sb 279968092772225526319680285071055534765205687154331191862498637620473983897520118172609686658950889472 C)  (p0 : Fx C L A M) {r : (Int32 × Mem)} (e : f_Law_pop M = some r) : (fun r : Int32 × Mem => Fx C L A r.2) r := by
  unfold f_Law_pop at e
  rcases io e with ⟨_, e⟩ | ⟨_, e⟩
  · obtain rfl := Option.some.inj e
    exact p0
  rcases io e with ⟨_, e⟩ | ⟨_, e⟩
  · obtain ⟨M1, e_M1, e⟩ := mo e
    have p_M1 : Fx C L A M1 := wi1 p0 e_M1 (tb1 hC (by decide +kernel))
    obtain ⟨_, e⟩ := io_n e
    obtain rfl := Option.some.inj e
    exact p_M1
  obtain rfl := Option.some.inj e
  exact p0
theorem wf_Law_work {C : Nat} {L : List Nat} {A : Mem} (v1 : Int32) (M : Mem) (hC : sb 279968092772225526319680285071055534765205687154331191862498637620473983897520118172609704251136933888 C)  (p0 : Fx C L A M) {r : (Mem)} (e : f_Law_work v1 M = some r) : (fun r : Mem => Fx C L A r) r := by
  unfold f_Law_work at e
  obtain ⟨x1, e_x1, e⟩ := bo e
  have p_x1 : Fx C L A x1.2 := (wf_Law_pop M (sb_t (by decide +kernel) hC) p0 e_x1)
  rcases io e with ⟨_, e⟩ | ⟨_, e⟩
  · obtain ⟨x5, e_x5, e⟩ := bo e
    have p_x5 : Fx C L A x5 := (wf_Law_push (-x1.1) x1.2 (sb_t (by decide +kernel) hC) p_x1 e_x5)
    obtain rfl := Option.some.inj e
    exact p_x5
  obtain ⟨x2, e_x2, e⟩ := bo e
  have p_x2 : Fx C L A x2.2 := (wf_Law_pop x1.2 (sb_t (by decide +kernel) hC) p_x1 e_x2)
  obtain ⟨x3, e_x3, e⟩ := bo e
  obtain ⟨x4, e_x4, e⟩ := bo e
  have p_x4 : Fx C L A x4 := (wf_Law_push x3 x2.2 (sb_t (by decide +kernel) hC) p_x2 e_x4)
  obtain rfl := Option.some.inj e
  exact p_x4
theorem wl_Law_goes_28 {C : Nat} {L : List Nat} {A : Mem} (v1 : Int32) (v2 : Nat) (s : Int32 × Mem) (hC : sb 279968092772225526319680285071055534765205687154331191862498637620473983897520118172609704251136933888 C)  (p0 : Fx C L A s.2) {r : ((Int32 × Mem) ⊕ ((Mem)))} (e : lb_Law_goes_28 v1 v2 s = some r) : (Sum.elim (fun r : Int32 × Mem => Fx C L A r.2) (fun r : Mem => Fx C L A r)) r := by
  unfold lb_Law_goes_28 at e
  rcases io e with ⟨_, e⟩ | ⟨_, e⟩
  · obtain rfl := Option.some.inj e
    exact p0
  rcases io e with ⟨_, e⟩ | ⟨_, e⟩
  · obtain rfl := Option.some.inj e
    exact p0
  obtain ⟨_, e⟩ := io_n e
  rcases io e with ⟨_, e⟩ | ⟨_, e⟩
  · obtain ⟨x2, e_x2, e⟩ := bo e
    rcases io e with ⟨_, e⟩ | ⟨_, e⟩
    · obtain ⟨x3, e_x3, e⟩ := bo e
      have p_x3 : Fx C L A x3 := (wf_Law_work (-(s.2.1 41 s.1.toNatClampNeg)) s.2 (sb_t (by decide +kernel) hC) p0 e_x3)
      obtain rfl := Option.some.inj e
      exact p_x3
    obtain ⟨x4, e_x4, e⟩ := bo e
    obtain ⟨x5, e_x5, e⟩ := bo e
    have p_x5 : Fx C L A x5 := (wf_Law_push x4 s.2 (sb_t (by decide +kernel) hC) p0 e_x5)
    obtain rfl := Option.some.inj e
    exact p_x5
  obtain ⟨x7, e_x7, e⟩ := bo e
  have p_x7 : Fx C L A x7 := (wf_Law_push (s.2.1 41 s.1.toNatClampNeg) s.2 (sb_t (by decide +kernel) hC) p0 e_x7)
  obtain rfl := Option.some.inj e
  exact p_x7
theorem wj_Law_goes_107 {C : Nat} {L : List Nat} {A : Mem} (M : Mem) (hC : sb 279968092772225526319680285071055534765205687154331191862498637620473983897520118172609686658950889472 C)  (p0 : Fx C L A M) {r : (Int32 × Mem)} (e : j_Law_goes_107 M = some r) : (fun r : Int32 × Mem => Fx C L A r.2) r := by
  unfold j_Law_goes_107 at e
  rcases io e with ⟨_, e⟩ | ⟨_, e⟩
  · obtain rfl := Option.some.inj e
    exact p0
  obtain ⟨x12, e_x12, e⟩ := bo e
  have p_x12 : Fx C L A x12.2 := (wf_Law_pop M (sb_t (by decide +kernel) hC) p0 e_x12)
  rcases io e with ⟨_, e⟩ | ⟨_, e⟩
  · obtain rfl := Option.some.inj e
    exact p_x12
  obtain rfl := Option.some.inj e
  exact p_x12
theorem wf_Law_goes {C : Nat} {L : List Nat} {A : Mem} (v1 : Int32) (v2 : Nat) (M : Mem) (hC : sb 279968092772225526319680285071055534765205687154331191862498637620473983897520118172609704251136933888 C)  (p0 : Fx C L A M) {r : (Int32 × Mem)} (e : f_Law_goes v1 v2 M = some r) : (fun r : Int32 × Mem => Fx C L A r.2) r := by
  unfold f_Law_goes at e
  obtain ⟨g_v2, e⟩ := io_n e
  rcases io e with ⟨_, e⟩ | ⟨_, e⟩
  · obtain ⟨_, e⟩ := io_n e
    rcases io e with ⟨_, e⟩ | ⟨_, e⟩
    · obtain rfl := Option.some.inj e
      exact p0
    obtain ⟨M15, e_M15, e⟩ := mo e
    have p_M15 : Fx C L A M15 := wi1 p0 e_M15 (tb1 hC (by decide +kernel))
    obtain ⟨x16, e_x16, e⟩ := bo e
    have p_x16 : Fx C L A x16 := (it_r (I := fun s : Int32 × Mem => Fx C L A s.2) (Q := (fun r : Mem => Fx C L A r)) (fun s_ r_ hs_ er_ => wl_Law_goes_28 v1 v2 s_ (sb_t (by decide +kernel) hC) hs_ er_) e_x16 p_M15)
    exact (wj_Law_goes_107 x16 (sb_t (by decide +kernel) hC) p_x16 e)
  obtain ⟨M1, e_M1, e⟩ := mo e
  have p_M1 : Fx C L A M1 := wi1 p0 e_M1 (tb1 hC (by decide +kernel))
  obtain ⟨x11, e_x11, e⟩ := bo e
  have p_x11 : Fx C L A x11 := (it_r (I := fun s : Int32 × Mem => Fx C L A s.2) (Q := (fun r : Mem => Fx C L A r)) (fun s_ r_ hs_ er_ => wl_Law_goes_28 v1 v2 s_ (sb_t (by decide +kernel) hC) hs_ er_) e_x11 p_M1)
  exact (wj_Law_goes_107 x11 (sb_t (by decide +kernel) hC) p_x11 e)
theorem wj_Clock_move_71 {C : Nat} {L : List Nat} {A : Mem} (v1 : Int32) (v2 : Nat) (M : Mem) (hC : sb 0 C) (h_v2_2 : Oc C L (rf v2 2)) (p0 : Fx C L A M) {r : (Mem)} (e : j_Clock_move_71 v1 v2 M = some r) : (fun r : Mem => Fx C L A r) r := by
  unfold j_Clock_move_71 at e
  obtain ⟨_, e⟩ := io_n e
  obtain ⟨x3, e_x3, e⟩ := bo e
  obtain ⟨_, e⟩ := io_n e
  obtain ⟨M4, e_M4, e⟩ := mo e
  have p_M4 : Fx C L A M4 := wi p0 e_M4 h_v2_2
  obtain rfl := Option.some.inj e
  exact p_M4
theorem wf_Clock_move {C : Nat} {L : List Nat} {A : Mem} (v1 : Int32) (v2 : Nat) (v4 : Nat) (M : Mem) (hC : sb 2293498615990071511610820895302086940796564989168281123737588839386922876088484808070018553110125686554624 C) (h_v2_0 : Oc C L (rf v2 0)) (h_v2_2 : Oc C L (rf v2 2)) (p0 : Fx C L A M) {r : (Mem)} (e : f_Clock_move v1 v2 v4 M = some r) : (fun r : Mem => Fx C L A r) r := by
  unfold f_Clock_move at e
  obtain ⟨g_v2, e⟩ := io_n e
  obtain ⟨g_v4, e⟩ := io_n e
  obtain ⟨_, e⟩ := io_n e
  obtain ⟨x1, e_x1, e⟩ := bo e
  obtain ⟨_, e⟩ := io_n e
  obtain ⟨_, e⟩ := io_n e
  obtain ⟨x2, e_x2, e⟩ := bo e
  rcases io e with ⟨_, e⟩ | ⟨_, e⟩
  · exact (wj_Clock_move_71 v1 v2 M (sb_t (by decide +kernel) hC) h_v2_2 p0 e)
  obtain ⟨_, e⟩ := io_n e
  rcases io e with ⟨_, e⟩ | ⟨_, e⟩
  · exact (wj_Clock_move_71 v1 v2 M (sb_t (by decide +kernel) hC) h_v2_2 p0 e)
  obtain ⟨_, e⟩ := io_n e
  obtain ⟨M5, e_M5, e⟩ := mo e
  have p_M5 : Fx C L A M5 := wi p0 e_M5 h_v2_0
  obtain ⟨M6, e_M6, e⟩ := mo e
  have p_M6 : Fx C L A M6 := wi1 p_M5 e_M6 (tb1 hC (by decide +kernel))
  exact (wj_Clock_move_71 v1 v2 M6 (sb_t (by decide +kernel) hC) h_v2_2 p_M6 e)
theorem wl_Clock_greet_26 {C : Nat} {L : List Nat} {A : Mem} (v1 : Int32) (v2 : Nat) (s : Int32 × Mem) (hC : sb 9173994463960286046443283581208347763186259956673124494950355357547691504353939232280074212440502746218496 C) (h_v2_3 : Oc C L (rf v2 3)) (p0 : Fx C L A s.2) {r : ((Int32 × Mem) ⊕ ((Mem)))} (e : lb_Clock_greet_26 v1 v2 s = some r) : (Sum.elim (fun r : Int32 × Mem => Fx C L A r.2) (fun r : Mem => Fx C L A r)) r := by
  unfold lb_Clock_greet_26 at e
  rcases io e with ⟨_, e⟩ | ⟨_, e⟩
  · obtain rfl := Option.some.inj e
    exact p0
  obtain ⟨x3, e_x3, e⟩ := bo e
  rcases io e with ⟨_, e⟩ | ⟨_, e⟩
  · obtain rfl := Option.some.inj e
    exact p0
  obtain ⟨_, e⟩ := io_n e
  obtain ⟨_, e⟩ := io_n e
  rcases io e with ⟨_, e⟩ | ⟨_, e⟩
  · obtain ⟨x4, e_x4, e⟩ := bo e
    have p_x4 : Fx C L A x4 := (wf_Scene_addMeeting v2 v1 s.1 s.2 (sb_t (by decide +kernel) hC) h_v2_3 p0 e_x4)
    obtain ⟨M5, e_M5, e⟩ := mo e
    have p_M5 : Fx C L A M5 := wi1 p_x4 e_M5 (tb1 hC (by decide +kernel))
    obtain rfl := Option.some.inj e
    exact p_M5
  obtain rfl := Option.some.inj e
  exact p0
theorem wf_Clock_greet {C : Nat} {L : List Nat} {A : Mem} (v1 : Int32) (v2 : Nat) (M : Mem) (hC : sb 9173994463960286046443283581208347763186259956673124494950355357547691504353939232280074212440502746218496 C) (h_v2_3 : Oc C L (rf v2 3)) (p0 : Fx C L A M) {r : (Mem)} (e : f_Clock_greet v1 v2 M = some r) : (fun r : Mem => Fx C L A r) r := by
  unfold f_Clock_greet at e
  obtain ⟨g_v2, e⟩ := io_n e
  obtain ⟨x1, e_x1, e⟩ := bo e
  rcases io e with ⟨_, e⟩ | ⟨_, e⟩
  · obtain ⟨_, e⟩ := io_n e
    obtain ⟨x2, e_x2, e⟩ := bo e
    rcases io e with ⟨_, e⟩ | ⟨_, e⟩
    · obtain rfl := Option.some.inj e
      exact p0
    obtain ⟨x9, e_x9, e⟩ := bo e
    have p_x9 : Fx C L A x9 := (it_r (I := fun s : Int32 × Mem => Fx C L A s.2) (Q := (fun r : Mem => Fx C L A r)) (fun s_ r_ hs_ er_ => wl_Clock_greet_26 v1 v2 s_ (sb_t (by decide +kernel) hC) h_v2_3 hs_ er_) e_x9 p0)
    obtain rfl := Option.some.inj e
    exact p_x9
  obtain rfl := Option.some.inj e
  exact p0
theorem wl_Clock_pass_8 {C : Nat} {L : List Nat} {A : Mem} (v1 : Nat) (v5 : Nat) (s : Int32 × Mem) (hC : sb 2293778584082843737137140575587157996331330194855435454929451338024543350072382328188191162814376823488512 C) (h_v1_0 : Oc C L (rf v1 0)) (h_v1_2 : Oc C L (rf v1 2)) (p0 : Fx C L A s.2) {r : ((Int32 × Mem) ⊕ ((Mem)))} (e : lb_Clock_pass_8 v1 v5 s = some r) : (Sum.elim (fun r : Int32 × Mem => Fx C L A r.2) (fun r : Mem => Fx C L A r)) r := by
  unfold lb_Clock_pass_8 at e
  rcases io e with ⟨_, e⟩ | ⟨_, e⟩
  · obtain rfl := Option.some.inj e
    exact p0
  obtain ⟨x2, e_x2, e⟩ := bo e
  have p_x2 : Fx C L A x2.2 := (wf_Law_goes s.1 v1 s.2 (sb_t (by decide +kernel) hC) p0 e_x2)
  rcases io e with ⟨_, e⟩ | ⟨_, e⟩
  · obtain rfl := Option.some.inj e
    exact p_x2
  obtain ⟨x3, e_x3, e⟩ := bo e
  have p_x3 : Fx C L A x3 := (wf_Clock_move s.1 v1 v5 x2.2 (sb_t (by decide +kernel) hC) h_v1_0 h_v1_2 p_x2 e_x3)
  obtain rfl := Option.some.inj e
  exact p_x3
theorem wl_Clock_pass_54 {C : Nat} {L : List Nat} {A : Mem} (v1 : Nat) (s : Int32 × Mem) (hC : sb 9173994463960286046443283581208347763186259956673124494950355357547691504353939232280074212440502746218496 C) (h_v1_3 : Oc C L (rf v1 3)) (p0 : Fx C L A s.2) {r : ((Int32 × Mem) ⊕ ((Mem)))} (e : lb_Clock_pass_54 v1 s = some r) : (Sum.elim (fun r : Int32 × Mem => Fx C L A r.2) (fun r : Mem => Fx C L A r)) r := by
  unfold lb_Clock_pass_54 at e
  rcases io e with ⟨_, e⟩ | ⟨_, e⟩
  · obtain rfl := Option.some.inj e
    exact p0
  obtain ⟨x8, e_x8, e⟩ := bo e
  have p_x8 : Fx C L A x8 := (wf_Clock_greet s.1 v1 s.2 (sb_t (by decide +kernel) hC) h_v1_3 p0 e_x8)
  obtain rfl := Option.some.inj e
  exact p_x8
theorem wl_Clock_pass_87 {C : Nat} {L : List Nat} {A : Mem} (v1 : Nat) (v6 : Int32) (s : Int32 × Mem) (hC : sb 0 C) (h_v1 : Oc C L (v1)) (p0 : Fx C L A s.2) {r : ((Int32 × Mem) ⊕ ((Mem)))} (e : lb_Clock_pass_87 v1 v6 s = some r) : (Sum.elim (fun r : Int32 × Mem => Fx C L A r.2) (fun r : Mem => Fx C L A r)) r := by
  unfold lb_Clock_pass_87 at e
  rcases io e with ⟨_, e⟩ | ⟨_, e⟩
  · obtain rfl := Option.some.inj e
    exact p0
  rcases io e with ⟨_, e⟩ | ⟨_, e⟩
  · obtain rfl := Option.some.inj e
    exact p0
  obtain ⟨x11, e_x11, e⟩ := bo e
  obtain ⟨M12, e_M12, e⟩ := mo e
  have p_M12 : Fx C L A M12 := wi p0 e_M12 h_v1
  obtain rfl := Option.some.inj e
  exact p_M12
theorem wf_Clock_pass {C : Nat} {L : List Nat} {A : Mem} (v1 : Nat) (v5 : Nat) (M : Mem) (hC : sb 71098737063784989085461767434649766220228279869903869167057116519632229632726926570288747756118147420127232 C) (h_v1_0 : Oc C L (rf v1 0)) (h_v1_2 : Oc C L (rf v1 2)) (h_v1_3 : Oc C L (rf v1 3)) (h_v1 : Oc C L (v1)) (p0 : Fx C L A M) {r : (Mem)} (e : f_Clock_pass v1 v5 M = some r) : (fun r : Mem => Fx C L A r) r := by
  unfold f_Clock_pass at e
  obtain ⟨g_v1, e⟩ := io_n e
  obtain ⟨g_v5, e⟩ := io_n e
  obtain ⟨M1, e_M1, e⟩ := mo e
  have p_M1 : Fx C L A M1 := wi1 p0 e_M1 (tb1 hC (by decide +kernel))
  obtain ⟨x6, e_x6, e⟩ := bo e
  have p_x6 : Fx C L A x6 := (it_r (I := fun s : Int32 × Mem => Fx C L A s.2) (Q := (fun r : Mem => Fx C L A r)) (fun s_ r_ hs_ er_ => wl_Clock_pass_8 v1 v5 s_ (sb_t (by decide +kernel) hC) h_v1_0 h_v1_2 hs_ er_) e_x6 p_M1)
  obtain ⟨M7, e_M7, e⟩ := mo e
  have p_M7 : Fx C L A M7 := wi1 p_x6 e_M7 (tb1 hC (by decide +kernel))
  obtain ⟨x10, e_x10, e⟩ := bo e
  have p_x10 : Fx C L A x10 := (it_r (I := fun s : Int32 × Mem => Fx C L A s.2) (Q := (fun r : Mem => Fx C L A r)) (fun s_ r_ hs_ er_ => wl_Clock_pass_54 v1 s_ (sb_t (by decide +kernel) hC) h_v1_3 hs_ er_) e_x10 p_M7)
  obtain ⟨x15, e_x15, e⟩ := bo e
  have p_x15 : Fx C L A x15 := (it_r (I := fun s : Int32 × Mem => Fx C L A s.2) (Q := (fun r : Mem => Fx C L A r)) (fun s_ r_ hs_ er_ => wl_Clock_pass_87 v1 (x10.1 v1 8) s_ (sb_t (by decide +kernel) hC) h_v1 hs_ er_) e_x15 p_x10)
  obtain ⟨M16, e_M16, e⟩ := mo e
  have p_M16 : Fx C L A M16 := wi1 p_x15 e_M16 (tb1 hC (by decide +kernel))
  obtain ⟨M17, e_M17, e⟩ := mo e
  have p_M17 : Fx C L A M17 := wi p_M16 e_M17 h_v1
  obtain ⟨x18, e_x18, e⟩ := bo e
  obtain ⟨M19, e_M19, e⟩ := mo e
  have p_M19 : Fx C L A M19 := wi1 p_M17 e_M19 (tb1 hC (by decide +kernel))
  obtain ⟨M20, e_M20, e⟩ := mo e
  have p_M20 : Fx C L A M20 := wi1 p_M19 e_M20 (tb1 hC (by decide +kernel))
  obtain rfl := Option.some.inj e
  exact p_M20
theorem wf_Clock_reset {C : Nat} {L : List Nat} {A : Mem} (M : Mem) (hC : sb 55043966783761716278659701487250086579117559740038746969702132145286149026123635393680445274643016477310976 C)  (p0 : Fx C L A M) {r : (Mem)} (e : f_Clock_reset M = some r) : (fun r : Mem => Fx C L A r) r := by
  unfold f_Clock_reset at e
  obtain ⟨M1, e_M1, e⟩ := mo e
  have p_M1 : Fx C L A M1 := wi1 p0 e_M1 (tb1 hC (by decide +kernel))
  obtain ⟨M2, e_M2, e⟩ := mo e
  have p_M2 : Fx C L A M2 := wi1 p_M1 e_M2 (tb1 hC (by decide +kernel))
  obtain rfl := Option.some.inj e
  exact p_M2
theorem wf_Acts_add {C : Nat} {L : List Nat} {A : Mem} (v1 : Int32) (v2 : Int32) (v3 : Int32) (M : Mem) (hC : sb 18788340662190665823115844774314696219005460391266558965658327774755355663152297339561592433614766112925286400 C)  (p0 : Fx C L A M) {r : (Mem)} (e : f_Acts_add v1 v2 v3 M = some r) : (fun r : Mem => Fx C L A r) r := by
  unfold f_Acts_add at e
  rcases io e with ⟨_, e⟩ | ⟨_, e⟩
  · obtain rfl := Option.some.inj e
    exact p0
  rcases io e with ⟨_, e⟩ | ⟨_, e⟩
  · obtain rfl := Option.some.inj e
    exact p0
  obtain ⟨_, e⟩ := io_n e
  obtain ⟨M1, e_M1, e⟩ := mo e
  have p_M1 : Fx C L A M1 := wi p0 e_M1 (oc_c hC (by decide +kernel))
  obtain ⟨_, e⟩ := io_n e
  obtain ⟨M2, e_M2, e⟩ := mo e
  have p_M2 : Fx C L A M2 := wi p_M1 e_M2 (oc_c hC (by decide +kernel))
  obtain ⟨_, e⟩ := io_n e
  obtain ⟨M3, e_M3, e⟩ := mo e
  have p_M3 : Fx C L A M3 := wi p_M2 e_M3 (oc_c hC (by decide +kernel))
  obtain ⟨M4, e_M4, e⟩ := mo e
  have p_M4 : Fx C L A M4 := wi1 p_M3 e_M4 (tb1 hC (by decide +kernel))
  obtain rfl := Option.some.inj e
  exact p_M4
theorem wf_Acts_readLetter {C : Nat} {L : List Nat} {A : Mem} (v2 : Int32) (M : Mem) (hC : sb 18788340662190665823115844774314696219005460391266558965658327774755355663152297339561592433614766112925286400 C)  (p0 : Fx C L A M) {r : (Int32 × Mem)} (e : f_Acts_readLetter v2 M = some r) : (fun r : Int32 × Mem => Fx C L A r.2) r := by
  unfold f_Acts_readLetter at e
  obtain ⟨x1, e_x1, e⟩ := bo e
  rcases io e with ⟨_, e⟩ | ⟨_, e⟩
  · obtain rfl := Option.some.inj e
    exact p0
  rcases io e with ⟨_, e⟩ | ⟨_, e⟩
  · obtain ⟨x2, e_x2, e⟩ := bo e
    have p_x2 : Fx C L A x2 := (wf_Acts_add (110 : Int32) (x1 - (97 : Int32)) (0 : Int32) M (sb_t (by decide +kernel) hC) p0 e_x2)
    obtain rfl := Option.some.inj e
    exact p_x2
  obtain rfl := Option.some.inj e
  exact p0
theorem wf_Acts_readNumber {C : Nat} {L : List Nat} {A : Mem} (v2 : Int32) (M : Mem) (hC : sb 18788340662190665823115844781903246579262214574545707039187698503827257378199717344451484659157360977008132096 C)  (p0 : Fx C L A M) {r : (Int32 × Mem)} (e : f_Acts_readNumber v2 M = some r) : (fun r : Int32 × Mem => Fx C L A r.2) r := by
  unfold f_Acts_readNumber at e
  obtain ⟨x1, e_x1, e⟩ := bo e
  have p_x1 : Fx C L A x1.2 := (wf_Signs_digits v2 (60 : Int32) (2 : Int32) M (sb_t (by decide +kernel) hC) p0 e_x1)
  rcases io e with ⟨_, e⟩ | ⟨_, e⟩
  · obtain rfl := Option.some.inj e
    exact p_x1
  obtain ⟨x2, e_x2, e⟩ := bo e
  have p_x2 : Fx C L A x2 := (wf_Acts_add (109 : Int32) (x1.2.1 1 2) (0 : Int32) x1.2 (sb_t (by decide +kernel) hC) p_x1 e_x2)
  obtain rfl := Option.some.inj e
  exact p_x2
theorem wf_Acts_readPlank {C : Nat} {L : List Nat} {A : Mem} (v2 : Int32) (M : Mem) (hC : sb 18788340662190665823115844781903246579262214574545707039187698503827257378199717344451484659157360977008132096 C)  (p0 : Fx C L A M) {r : (Int32 × Mem)} (e : f_Acts_readPlank v2 M = some r) : (fun r : Int32 × Mem => Fx C L A r.2) r := by
  unfold f_Acts_readPlank at e
  obtain ⟨x1, e_x1, e⟩ := bo e
  have p_x1 : Fx C L A x1.2 := (wf_Signs_digits v2 (60 : Int32) (2 : Int32) M (sb_t (by decide +kernel) hC) p0 e_x1)
  rcases io e with ⟨_, e⟩ | ⟨_, e⟩
  · obtain rfl := Option.some.inj e
    exact p_x1
  obtain ⟨x2, e_x2, e⟩ := bo e
  rcases io e with ⟨_, e⟩ | ⟨_, e⟩
  · obtain ⟨x3, e_x3, e⟩ := bo e
    have p_x3 : Fx C L A x3.2 := (wf_Signs_digits ((v2 + x1.1) + (1 : Int32)) (60 : Int32) (2 : Int32) x1.2 (sb_t (by decide +kernel) hC) p_x1 e_x3)
    rcases io e with ⟨_, e⟩ | ⟨_, e⟩
    · obtain rfl := Option.some.inj e
      exact p_x3
    obtain ⟨x4, e_x4, e⟩ := bo e
    have p_x4 : Fx C L A x4 := (wf_Acts_add (112 : Int32) (x1.2.1 1 2) (x3.2.1 1 2) x3.2 (sb_t (by decide +kernel) hC) p_x3 e_x4)
    obtain rfl := Option.some.inj e
    exact p_x4
  obtain rfl := Option.some.inj e
  exact p_x1
theorem wf_Acts_readAct {C : Nat} {L : List Nat} {A : Mem} (v2 : Int32) (M : Mem) (hC : sb 18788340662190665823115844781903246579262214574545707039187698503827257378199717344451484659157360977008132096 C)  (p0 : Fx C L A M) {r : (Int32 × Mem)} (e : f_Acts_readAct v2 M = some r) : (fun r : Int32 × Mem => Fx C L A r.2) r := by
  unfold f_Acts_readAct at e
  obtain ⟨x1, e_x1, e⟩ := bo e
  rcases io e with ⟨_, e⟩ | ⟨_, e⟩
  · obtain ⟨x2, e_x2, e⟩ := bo e
    have p_x2 : Fx C L A x2 := (wf_Acts_add x1 (0 : Int32) (0 : Int32) M (sb_t (by decide +kernel) hC) p0 e_x2)
    obtain rfl := Option.some.inj e
    exact p_x2
  rcases io e with ⟨_, e⟩ | ⟨_, e⟩
  · obtain ⟨x2, e_x2, e⟩ := bo e
    have p_x2 : Fx C L A x2 := (wf_Acts_add x1 (0 : Int32) (0 : Int32) M (sb_t (by decide +kernel) hC) p0 e_x2)
    obtain rfl := Option.some.inj e
    exact p_x2
  rcases io e with ⟨_, e⟩ | ⟨_, e⟩
  · obtain ⟨x5, e_x5, e⟩ := bo e
    have p_x5 : Fx C L A x5.2 := (wf_Acts_readNumber (v2 + (1 : Int32)) M (sb_t (by decide +kernel) hC) p0 e_x5)
    obtain rfl := Option.some.inj e
    exact p_x5
  rcases io e with ⟨_, e⟩ | ⟨_, e⟩
  · obtain ⟨x7, e_x7, e⟩ := bo e
    have p_x7 : Fx C L A x7.2 := (wf_Acts_readLetter (v2 + (1 : Int32)) M (sb_t (by decide +kernel) hC) p0 e_x7)
    obtain rfl := Option.some.inj e
    exact p_x7
  rcases io e with ⟨_, e⟩ | ⟨_, e⟩
  · obtain ⟨x9, e_x9, e⟩ := bo e
    have p_x9 : Fx C L A x9.2 := (wf_Acts_readPlank (v2 + (1 : Int32)) M (sb_t (by decide +kernel) hC) p0 e_x9)
    obtain rfl := Option.some.inj e
    exact p_x9
  obtain rfl := Option.some.inj e
  exact p0
theorem wl_Acts_read_18 {C : Nat} {L : List Nat} {A : Mem} (s : Int32 × Int32 × Mem) (hC : sb 18788340662190665823115844781903246579262214574545707039187698503827257378199717344451484659157360977008132096 C)  (p0 : Fx C L A s.2.2) {r : ((Int32 × Int32 × Mem) ⊕ ((Int32 × Mem) ⊕ (Int32 × Mem) ⊕ (Mem) ⊕ (Int32 × Mem)))} (e : lb_Acts_read_18 s = some r) : (Sum.elim (fun r : Int32 × Int32 × Mem => Fx C L A r.2.2) (Sum.elim (fun r : Int32 × Mem => Fx C L A r.2) (Sum.elim (fun r : Int32 × Mem => Fx C L A r.2) (Sum.elim (fun r : Mem => Fx C L A r) (fun r : Int32 × Mem => Fx C L A r.2))))) r := by
  unfold lb_Acts_read_18 at e
  rcases io e with ⟨_, e⟩ | ⟨_, e⟩
  · obtain rfl := Option.some.inj e
    exact p0
  obtain ⟨x2, e_x2, e⟩ := bo e
  have p_x2 : Fx C L A x2.2 := (wf_Acts_readAct s.1 s.2.2 (sb_t (by decide +kernel) hC) p0 e_x2)
  rcases io e with ⟨_, e⟩ | ⟨_, e⟩
  · obtain ⟨x3, e_x3, e⟩ := bo e
    rcases io e with ⟨_, e⟩ | ⟨_, e⟩
    · obtain rfl := Option.some.inj e
      exact p_x2
    rcases io e with ⟨_, e⟩ | ⟨_, e⟩
    · obtain rfl := Option.some.inj e
      exact p_x2
    obtain rfl := Option.some.inj e
    exact p_x2
  obtain rfl := Option.some.inj e
  exact p_x2
theorem wf_Acts_read {C : Nat} {L : List Nat} {A : Mem} (M : Mem) (hC : sb 18788340662190665823115844781903246579262214574545707039187698503827257378199717344451484659157360977008132096 C)  (p0 : Fx C L A M) {r : (Int32 × Mem)} (e : f_Acts_read M = some r) : (fun r : Int32 × Mem => Fx C L A r.2) r := by
  unfold f_Acts_read at e
  obtain ⟨M1, e_M1, e⟩ := mo e
  have p_M1 : Fx C L A M1 := wi1 p0 e_M1 (tb1 hC (by decide +kernel))
  rcases io e with ⟨_, e⟩ | ⟨_, e⟩
  · obtain rfl := Option.some.inj e
    exact p_M1
  obtain ⟨y_, e_y, e⟩ := bo e
  have q_y := (it_r (I := fun s : Int32 × Int32 × Mem => Fx C L A s.2.2) (Q := (Sum.elim (fun r : Int32 × Mem => Fx C L A r.2) (Sum.elim (fun r : Int32 × Mem => Fx C L A r.2) (Sum.elim (fun r : Mem => Fx C L A r) (fun r : Int32 × Mem => Fx C L A r.2))))) (fun s_ r_ hs_ er_ => wl_Acts_read_18  s_ (sb_t (by decide +kernel) hC) hs_ er_) e_y p_M1)
  rcases y_ with y9 | y10 | y11 | y13
  · have p_y9 : Fx C L A y9.2 := q_y
    replace e := el_l e
    obtain rfl := Option.some.inj e
    exact p_y9
  · have p_y10 : Fx C L A y10.2 := q_y
    replace e := el_r e
    replace e := el_l e
    obtain rfl := Option.some.inj e
    exact p_y10
  · have p_y11 : Fx C L A y11 := q_y
    replace e := el_r e
    replace e := el_r e
    replace e := el_l e
    rcases io e with ⟨_, e⟩ | ⟨_, e⟩
    · obtain rfl := Option.some.inj e
      exact p_y11
    obtain rfl := Option.some.inj e
    exact p_y11
  · have p_y13 : Fx C L A y13.2 := q_y
    replace e := el_r e
    replace e := el_r e
    replace e := el_r e
    obtain rfl := Option.some.inj e
    exact p_y13
theorem wl_Ways_begin_2 {C : Nat} {L : List Nat} {A : Mem} (v1 : Int32) (s : Int32 × Mem) (hC : sb 365375409332725729550921208179070754913983135744 C)  (p0 : Fx C L A s.2) {r : ((Int32 × Mem) ⊕ ((Mem)))} (e : lb_Ways_begin_2 v1 s = some r) : (Sum.elim (fun r : Int32 × Mem => Fx C L A r.2) (fun r : Mem => Fx C L A r)) r := by
  unfold lb_Ways_begin_2 at e
  rcases io e with ⟨_, e⟩ | ⟨_, e⟩
  · obtain rfl := Option.some.inj e
    exact p0
  obtain ⟨_, e⟩ := io_n e
  obtain ⟨M1, e_M1, e⟩ := mo e
  have p_M1 : Fx C L A M1 := wi p0 e_M1 (oc_c hC (by decide +kernel))
  obtain rfl := Option.some.inj e
  exact p_M1
theorem wf_Ways_begin {C : Nat} {L : List Nat} {A : Mem} (v1 : Int32) (M : Mem) (hC : sb 365375409332725729550921208179070754913983135744 C)  (p0 : Fx C L A M) {r : (Mem)} (e : f_Ways_begin v1 M = some r) : (fun r : Mem => Fx C L A r) r := by
  unfold f_Ways_begin at e
  obtain ⟨x3, e_x3, e⟩ := bo e
  have p_x3 : Fx C L A x3 := (it_r (I := fun s : Int32 × Mem => Fx C L A s.2) (Q := (fun r : Mem => Fx C L A r)) (fun s_ r_ hs_ er_ => wl_Ways_begin_2 v1 s_ (sb_t (by decide +kernel) hC) hs_ er_) e_x3 p0)
  obtain ⟨_, e⟩ := io_n e
  obtain ⟨M4, e_M4, e⟩ := mo e
  have p_M4 : Fx C L A M4 := wi p_x3 e_M4 (oc_c hC (by decide +kernel))
  obtain rfl := Option.some.inj e
  exact p_M4
theorem wf_Ways_lower {C : Nat} {L : List Nat} {A : Mem} (v1 : Int32) (v2 : Int32) (M : Mem) (hC : sb 365375409332725729550921208179070754913983135744 C)  (p0 : Fx C L A M) {r : (Int32 × Mem)} (e : f_Ways_lower v1 v2 M = some r) : (fun r : Int32 × Mem => Fx C L A r.2) r := by
  unfold f_Ways_lower at e
  obtain ⟨_, e⟩ := io_n e
  rcases io e with ⟨_, e⟩ | ⟨_, e⟩
  · obtain ⟨_, e⟩ := io_n e
    obtain ⟨M1, e_M1, e⟩ := mo e
    have p_M1 : Fx C L A M1 := wi p0 e_M1 (oc_c hC (by decide +kernel))
    obtain rfl := Option.some.inj e
    exact p_M1
  obtain rfl := Option.some.inj e
  exact p0
theorem wl_Ways_leave_28 {C : Nat} {L : List Nat} {A : Mem} (v1 : Nat) (v2 : Int32) (v3 : Int32) (v4 : Int32) (s : Int32 × Int32 × Mem) (hC : sb 365375409332725729550921208179070754913983135744 C)  (p0 : Fx C L A s.2.2) {r : ((Int32 × Int32 × Mem) ⊕ ((Int32 × Mem)))} (e : lb_Ways_leave_28 v1 v2 v3 v4 s = some r) : (Sum.elim (fun r : Int32 × Int32 × Mem => Fx C L A r.2.2) (fun r : Int32 × Mem => Fx C L A r.2)) r := by
  unfold lb_Ways_leave_28 at e
  rcases io e with ⟨_, e⟩ | ⟨_, e⟩
  · obtain rfl := Option.some.inj e
    exact p0
  obtain ⟨x1, e_x1, e⟩ := bo e
  rcases io e with ⟨_, e⟩ | ⟨_, e⟩
  · obtain rfl := Option.some.inj e
    exact p0
  obtain ⟨x2, e_x2, e⟩ := bo e
  have p_x2 : Fx C L A x2.2 := (wf_Ways_lower ((v2 * (36 : Int32)) + x1) ((v4 + (100 : Int32)) + v2) s.2.2 (sb_t (by decide +kernel) hC) p0 e_x2)
  obtain rfl := Option.some.inj e
  exact p_x2
theorem wf_Ways_leave {C : Nat} {L : List Nat} {A : Mem} (v1 : Nat) (v2 : Int32) (v3 : Int32) (M : Mem) (hC : sb 365375409332725729550921208179070754913983135744 C)  (p0 : Fx C L A M) {r : (Int32 × Mem)} (e : f_Ways_leave v1 v2 v3 M = some r) : (fun r : Int32 × Mem => Fx C L A r.2) r := by
  unfold f_Ways_leave at e
  obtain ⟨g_v1, e⟩ := io_n e
  obtain ⟨_, e⟩ := io_n e
  rcases io e with ⟨_, e⟩ | ⟨_, e⟩
  · obtain ⟨x5, e_x5, e⟩ := bo e
    have p_x5 : Fx C L A x5.2 := (it_r (I := fun s : Int32 × Int32 × Mem => Fx C L A s.2.2) (Q := (fun r : Int32 × Mem => Fx C L A r.2)) (fun s_ r_ hs_ er_ => wl_Ways_leave_28 v1 v2 v3 (M.1 158 ((v2 * (36 : Int32)) + v3).toNatClampNeg) s_ (sb_t (by decide +kernel) hC) hs_ er_) e_x5 p0)
    obtain ⟨x6, e_x6, e⟩ := bo e
    rcases io e with ⟨_, e⟩ | ⟨_, e⟩
    · obtain ⟨_, e⟩ := io_n e
      obtain rfl := Option.some.inj e
      exact p_x5
    obtain ⟨x7, e_x7, e⟩ := bo e
    have p_x7 : Fx C L A x7.2 := (wf_Ways_lower ((((1 : Int32) - v2) * (36 : Int32)) + v3) (M.1 158 ((v2 * (36 : Int32)) + v3).toNatClampNeg) x5.2 (sb_t (by decide +kernel) hC) p_x5 e_x7)
    obtain ⟨_, e⟩ := io_n e
    obtain rfl := Option.some.inj e
    exact p_x7
  obtain rfl := Option.some.inj e
  exact p0
theorem wl_Ways_acrossLevels_29 {C : Nat} {L : List Nat} {A : Mem} (v1 : Nat) (v3 : Int32) (v5 : Int32) (s : Int32 × Int32 × Mem) (hC : sb 365375409332725729550921208179070754913983135744 C)  (p0 : Fx C L A s.2.2) {r : ((Int32 × Int32 × Mem) ⊕ ((Int32 × Mem)))} (e : lb_Ways_acrossLevels_29 v1 v3 v5 s = some r) : (Sum.elim (fun r : Int32 × Int32 × Mem => Fx C L A r.2.2) (fun r : Int32 × Mem => Fx C L A r.2)) r := by
  unfold lb_Ways_acrossLevels_29 at e
  rcases io e with ⟨_, e⟩ | ⟨_, e⟩
  · obtain rfl := Option.some.inj e
    exact p0
  obtain ⟨x2, e_x2, e⟩ := bo e
  have p_x2 : Fx C L A x2.2 := (wf_Ways_leave v1 (0 : Int32) s.2.1 s.2.2 (sb_t (by decide +kernel) hC) p0 e_x2)
  obtain ⟨x3, e_x3, e⟩ := bo e
  have p_x3 : Fx C L A x3.2 := (wf_Ways_leave v1 (1 : Int32) s.2.1 x2.2 (sb_t (by decide +kernel) hC) p_x2 e_x3)
  obtain rfl := Option.some.inj e
  exact p_x3
theorem wl_Ways_acrossLevels_11 {C : Nat} {L : List Nat} {A : Mem} (v1 : Nat) (v3 : Int32) (s : Int32 × Int32 × Mem) (hC : sb 365375409332725729550921208179070754913983135744 C)  (p0 : Fx C L A s.2.2) {r : ((Int32 × Int32 × Mem) ⊕ ((Mem)))} (e : lb_Ways_acrossLevels_11 v1 v3 s = some r) : (Sum.elim (fun r : Int32 × Int32 × Mem => Fx C L A r.2.2) (fun r : Mem => Fx C L A r)) r := by
  unfold lb_Ways_acrossLevels_11 at e
  rcases io e with ⟨_, e⟩ | ⟨_, e⟩
  · obtain rfl := Option.some.inj e
    exact p0
  rcases io e with ⟨_, e⟩ | ⟨_, e⟩
  · obtain rfl := Option.some.inj e
    exact p0
  obtain ⟨x5, e_x5, e⟩ := bo e
  have p_x5 : Fx C L A x5.2 := (it_r (I := fun s : Int32 × Int32 × Mem => Fx C L A s.2.2) (Q := (fun r : Int32 × Mem => Fx C L A r.2)) (fun s_ r_ hs_ er_ => wl_Ways_acrossLevels_29 v1 v3 s.2.1 s_ (sb_t (by decide +kernel) hC) hs_ er_) e_x5 p0)
  obtain rfl := Option.some.inj e
  exact p_x5
theorem wf_Ways_acrossLevels {C : Nat} {L : List Nat} {A : Mem} (v1 : Nat) (v2 : Int32) (v3 : Int32) (M : Mem) (hC : sb 365375409332725729550921208179070754913983135744 C)  (p0 : Fx C L A M) {r : (Int32 × Mem)} (e : f_Ways_acrossLevels v1 v2 v3 M = some r) : (fun r : Int32 × Mem => Fx C L A r.2) r := by
  unfold f_Ways_acrossLevels at e
  obtain ⟨g_v1, e⟩ := io_n e
  obtain ⟨x1, e_x1, e⟩ := bo e
  have p_x1 : Fx C L A x1 := (wf_Ways_begin v2 M (sb_t (by decide +kernel) hC) p0 e_x1)
  obtain ⟨x8, e_x8, e⟩ := bo e
  have p_x8 : Fx C L A x8 := (it_r (I := fun s : Int32 × Int32 × Mem => Fx C L A s.2.2) (Q := (fun r : Mem => Fx C L A r)) (fun s_ r_ hs_ er_ => wl_Ways_acrossLevels_11 v1 v3 s_ (sb_t (by decide +kernel) hC) hs_ er_) e_x8 p_x1)
  obtain ⟨_, e⟩ := io_n e
  obtain rfl := Option.some.inj e
  exact p_x8
theorem wl_Ways_cross_6 {C : Nat} {L : List Nat} {A : Mem} (v2 : Nat) (v3 : Int32) (s : Int32 × Int32 × Mem) (hC : sb 365375409332725729550921208179070754913983135744 C)  (p0 : Fx C L A s.2.2) {r : ((Int32 × Int32 × Mem) ⊕ ((Int32 × Mem)))} (e : lb_Ways_cross_6 v2 v3 s = some r) : (Sum.elim (fun r : Int32 × Int32 × Mem => Fx C L A r.2.2) (fun r : Int32 × Mem => Fx C L A r.2)) r := by
  unfold lb_Ways_cross_6 at e
  rcases io e with ⟨_, e⟩ | ⟨_, e⟩
  · obtain rfl := Option.some.inj e
    exact p0
  obtain ⟨x1, e_x1, e⟩ := bo e
  obtain ⟨x2, e_x2, e⟩ := bo e
  obtain ⟨x3, e_x3, e⟩ := bo e
  rcases io e with ⟨_, e⟩ | ⟨_, e⟩
  · obtain ⟨x4, e_x4, e⟩ := bo e
    rcases io e with ⟨_, e⟩ | ⟨_, e⟩
    · obtain rfl := Option.some.inj e
      exact p0
    obtain ⟨_, e⟩ := io_n e
    obtain ⟨x5, e_x5, e⟩ := bo e
    have p_x5 : Fx C L A x5.2 := (wf_Ways_lower x3 (((s.2.2.1 158 v3.toNatClampNeg) + (100 : Int32)) + (1 : Int32)) s.2.2 (sb_t (by decide +kernel) hC) p0 e_x5)
    obtain rfl := Option.some.inj e
    exact p_x5
  obtain ⟨_, e⟩ := io_n e
  obtain ⟨x7, e_x7, e⟩ := bo e
  have p_x7 : Fx C L A x7.2 := (wf_Ways_lower x1 ((s.2.2.1 158 v3.toNatClampNeg) + (1 : Int32)) s.2.2 (sb_t (by decide +kernel) hC) p0 e_x7)
  obtain rfl := Option.some.inj e
  exact p_x7
theorem wf_Ways_cross {C : Nat} {L : List Nat} {A : Mem} (v2 : Nat) (v3 : Int32) (M : Mem) (hC : sb 365375409332725729550921208179070754913983135744 C)  (p0 : Fx C L A M) {r : (Int32 × Mem)} (e : f_Ways_cross v2 v3 M = some r) : (fun r : Int32 × Mem => Fx C L A r.2) r := by
  unfold f_Ways_cross at e
  obtain ⟨g_v2, e⟩ := io_n e
  obtain ⟨x10, e_x10, e⟩ := bo e
  have p_x10 : Fx C L A x10.2 := (it_r (I := fun s : Int32 × Int32 × Mem => Fx C L A s.2.2) (Q := (fun r : Int32 × Mem => Fx C L A r.2)) (fun s_ r_ hs_ er_ => wl_Ways_cross_6 v2 v3 s_ (sb_t (by decide +kernel) hC) hs_ er_) e_x10 p0)
  obtain ⟨_, e⟩ := io_n e
  obtain rfl := Option.some.inj e
  exact p_x10
theorem wl_Ways_bridged_29 {C : Nat} {L : List Nat} {A : Mem} (v2 : Nat) (v4 : Int32) (v6 : Int32) (s : Int32 × Int32 × Mem) (hC : sb 365375409332725729550921208179070754913983135744 C)  (p0 : Fx C L A s.2.2) {r : ((Int32 × Int32 × Mem) ⊕ ((Int32 × Mem)))} (e : lb_Ways_bridged_29 v2 v4 v6 s = some r) : (Sum.elim (fun r : Int32 × Int32 × Mem => Fx C L A r.2.2) (fun r : Int32 × Mem => Fx C L A r.2)) r := by
  unfold lb_Ways_bridged_29 at e
  rcases io e with ⟨_, e⟩ | ⟨_, e⟩
  · obtain rfl := Option.some.inj e
    exact p0
  obtain ⟨_, e⟩ := io_n e
  rcases io e with ⟨_, e⟩ | ⟨_, e⟩
  · obtain rfl := Option.some.inj e
    exact p0
  obtain ⟨x2, e_x2, e⟩ := bo e
  have p_x2 : Fx C L A x2.2 := (wf_Ways_cross v2 s.2.1 s.2.2 (sb_t (by decide +kernel) hC) p0 e_x2)
  rcases io e with ⟨_, e⟩ | ⟨_, e⟩
  · obtain rfl := Option.some.inj e
    exact p_x2
  obtain rfl := Option.some.inj e
  exact p_x2
theorem wl_Ways_bridged_11 {C : Nat} {L : List Nat} {A : Mem} (v2 : Nat) (v4 : Int32) (s : Int32 × Int32 × Mem) (hC : sb 365375409332725729550921208179070754913983135744 C)  (p0 : Fx C L A s.2.2) {r : ((Int32 × Int32 × Mem) ⊕ ((Mem)))} (e : lb_Ways_bridged_11 v2 v4 s = some r) : (Sum.elim (fun r : Int32 × Int32 × Mem => Fx C L A r.2.2) (fun r : Mem => Fx C L A r)) r := by
  unfold lb_Ways_bridged_11 at e
  rcases io e with ⟨_, e⟩ | ⟨_, e⟩
  · obtain rfl := Option.some.inj e
    exact p0
  rcases io e with ⟨_, e⟩ | ⟨_, e⟩
  · obtain rfl := Option.some.inj e
    exact p0
  obtain ⟨x6, e_x6, e⟩ := bo e
  have p_x6 : Fx C L A x6.2 := (it_r (I := fun s : Int32 × Int32 × Mem => Fx C L A s.2.2) (Q := (fun r : Int32 × Mem => Fx C L A r.2)) (fun s_ r_ hs_ er_ => wl_Ways_bridged_29 v2 v4 s.2.1 s_ (sb_t (by decide +kernel) hC) hs_ er_) e_x6 p0)
  obtain rfl := Option.some.inj e
  exact p_x6
theorem wf_Ways_bridged {C : Nat} {L : List Nat} {A : Mem} (v2 : Nat) (v3 : Int32) (v4 : Int32) (M : Mem) (hC : sb 365375409332725729550921208179070754913983135744 C)  (p0 : Fx C L A M) {r : (Int32 × Mem)} (e : f_Ways_bridged v2 v3 v4 M = some r) : (fun r : Int32 × Mem => Fx C L A r.2) r := by
  unfold f_Ways_bridged at e
  obtain ⟨g_v2, e⟩ := io_n e
  obtain ⟨x1, e_x1, e⟩ := bo e
  have p_x1 : Fx C L A x1 := (wf_Ways_begin v3 M (sb_t (by decide +kernel) hC) p0 e_x1)
  obtain ⟨x9, e_x9, e⟩ := bo e
  have p_x9 : Fx C L A x9 := (it_r (I := fun s : Int32 × Int32 × Mem => Fx C L A s.2.2) (Q := (fun r : Mem => Fx C L A r)) (fun s_ r_ hs_ er_ => wl_Ways_bridged_11 v2 v4 s_ (sb_t (by decide +kernel) hC) hs_ er_) e_x9 p_x1)
  obtain ⟨_, e⟩ := io_n e
  obtain rfl := Option.some.inj e
  exact p_x9
theorem wl_Ways_measurePairs_2 {C : Nat} {L : List Nat} {A : Mem} (v2 : Int32) (s : Int32 × Mem) (hC : sb 730750818665451459101842416358141509827966271488 C)  (p0 : Fx C L A s.2) {r : ((Int32 × Mem) ⊕ ((Mem)))} (e : lb_Ways_measurePairs_2 v2 s = some r) : (Sum.elim (fun r : Int32 × Mem => Fx C L A r.2) (fun r : Mem => Fx C L A r)) r := by
  unfold lb_Ways_measurePairs_2 at e
  rcases io e with ⟨_, e⟩ | ⟨_, e⟩
  · obtain rfl := Option.some.inj e
    exact p0
  obtain ⟨_, e⟩ := io_n e
  obtain ⟨M1, e_M1, e⟩ := mo e
  have p_M1 : Fx C L A M1 := wi p0 e_M1 (oc_c hC (by decide +kernel))
  obtain rfl := Option.some.inj e
  exact p_M1
theorem wl_Ways_measurePairs_68 {C : Nat} {L : List Nat} {A : Mem} (v4 : Int32) (s : Int32 × Int32 × Mem) (hC : sb 2192252455996354377305527249074424529483898814464 C)  (p0 : Fx C L A s.2.2) {r : ((Int32 × Int32 × Mem) ⊕ ((Int32 × Mem)))} (e : lb_Ways_measurePairs_68 v4 s = some r) : (Sum.elim (fun r : Int32 × Int32 × Mem => Fx C L A r.2.2) (fun r : Int32 × Mem => Fx C L A r.2)) r := by
  unfold lb_Ways_measurePairs_68 at e
  rcases io e with ⟨_, e⟩ | ⟨_, e⟩
  · obtain rfl := Option.some.inj e
    exact p0
  obtain ⟨_, e⟩ := io_n e
  obtain ⟨x6, e_x6, e⟩ := bo e
  rcases io e with ⟨_, e⟩ | ⟨_, e⟩
  · obtain rfl := Option.some.inj e
    exact p0
  obtain ⟨_, e⟩ := io_n e
  rcases io e with ⟨_, e⟩ | ⟨_, e⟩
  · obtain rfl := Option.some.inj e
    exact p0
  rcases io e with ⟨_, e⟩ | ⟨_, e⟩
  · obtain rfl := Option.some.inj e
    exact p0
  obtain ⟨_, e⟩ := io_n e
  obtain ⟨_, e⟩ := io_n e
  obtain ⟨_, e⟩ := io_n e
  obtain ⟨M7, e_M7, e⟩ := mo e
  have p_M7 : Fx C L A M7 := wi p0 e_M7 (oc_c hC (by decide +kernel))
  obtain ⟨_, e⟩ := io_n e
  obtain ⟨M8, e_M8, e⟩ := mo e
  have p_M8 : Fx C L A M8 := wi p_M7 e_M8 (oc_c hC (by decide +kernel))
  obtain rfl := Option.some.inj e
  exact p_M8
theorem wl_Ways_measurePairs_51 {C : Nat} {L : List Nat} {A : Mem} (s : Int32 × Int32 × Mem) (hC : sb 2192252455996354377305527249074424529483898814464 C)  (p0 : Fx C L A s.2.2) {r : ((Int32 × Int32 × Mem) ⊕ ((Mem)))} (e : lb_Ways_measurePairs_51 s = some r) : (Sum.elim (fun r : Int32 × Int32 × Mem => Fx C L A r.2.2) (fun r : Mem => Fx C L A r)) r := by
  unfold lb_Ways_measurePairs_51 at e
  rcases io e with ⟨_, e⟩ | ⟨_, e⟩
  · obtain rfl := Option.some.inj e
    exact p0
  rcases io e with ⟨_, e⟩ | ⟨_, e⟩
  · obtain rfl := Option.some.inj e
    exact p0
  obtain ⟨x13, e_x13, e⟩ := bo e
  have p_x13 : Fx C L A x13.2 := (it_r (I := fun s : Int32 × Int32 × Mem => Fx C L A s.2.2) (Q := (fun r : Int32 × Mem => Fx C L A r.2)) (fun s_ r_ hs_ er_ => wl_Ways_measurePairs_68 s.2.1 s_ (sb_t (by decide +kernel) hC) hs_ er_) e_x13 p0)
  obtain rfl := Option.some.inj e
  exact p_x13
theorem wf_Ways_measurePairs {C : Nat} {L : List Nat} {A : Mem} (v2 : Int32) (M : Mem) (hC : sb 2192252455996354377305527249074424529483898814464 C)  (p0 : Fx C L A M) {r : (Mem)} (e : f_Ways_measurePairs v2 M = some r) : (fun r : Mem => Fx C L A r) r := by
  unfold f_Ways_measurePairs at e
  obtain ⟨x3, e_x3, e⟩ := bo e
  have p_x3 : Fx C L A x3 := (it_r (I := fun s : Int32 × Mem => Fx C L A s.2) (Q := (fun r : Mem => Fx C L A r)) (fun s_ r_ hs_ er_ => wl_Ways_measurePairs_2 v2 s_ (sb_t (by decide +kernel) hC) hs_ er_) e_x3 p0)
  obtain ⟨M4, e_M4, e⟩ := mo e
  have p_M4 : Fx C L A M4 := wi p_x3 e_M4 (oc_c hC (by decide +kernel))
  obtain ⟨_, e⟩ := io_n e
  obtain ⟨M5, e_M5, e⟩ := mo e
  have p_M5 : Fx C L A M5 := wi p_M4 e_M5 (oc_c hC (by decide +kernel))
  obtain ⟨x16, e_x16, e⟩ := bo e
  have p_x16 : Fx C L A x16 := (it_r (I := fun s : Int32 × Int32 × Mem => Fx C L A s.2.2) (Q := (fun r : Mem => Fx C L A r)) (fun s_ r_ hs_ er_ => wl_Ways_measurePairs_51  s_ (sb_t (by decide +kernel) hC) hs_ er_) e_x16 p_M5)
  obtain rfl := Option.some.inj e
  exact p_x16
theorem wj_Thief_start_12 {C : Nat} {L : List Nat} {A : Mem} (v1 : Int32) (v2 : Int32) (w0 : Int64) (M : Mem) (hC : sb 28858891257124862704305937573347373392392387160985434571251191458187784500608308553281933292152037822856416985088 C)  (p0 : Fx C L A M) {r : (Mem)} (e : j_Thief_start_12 v1 v2 w0 M = some r) : (fun r : Mem => Fx C L A r) r := by
  unfold j_Thief_start_12 at e
  obtain ⟨M1, e_M1, e⟩ := mo e
  have p_M1 : Fx C L A M1 := wlg1 p0 e_M1 (tb1 hC (by decide +kernel))
  rcases io e with ⟨_, e⟩ | ⟨_, e⟩
  · obtain ⟨M3, e_M3, e⟩ := mo e
    have p_M3 : Fx C L A M3 := wlg1 p_M1 e_M3 (tb1 hC (by decide +kernel))
    obtain rfl := Option.some.inj e
    exact p_M3
  obtain ⟨M2, e_M2, e⟩ := mo e
  have p_M2 : Fx C L A M2 := wlg1 p_M1 e_M2 (tb1 hC (by decide +kernel))
  obtain rfl := Option.some.inj e
  exact p_M2
theorem wf_Thief_start {C : Nat} {L : List Nat} {A : Mem} (v1 : Int32) (v2 : Int32) (M : Mem) (hC : sb 28858891257124862704305937573347373392392387160985434571251191458187784500608308553281933292152037822856416985088 C)  (p0 : Fx C L A M) {r : (Mem)} (e : f_Thief_start v1 v2 M = some r) : (fun r : Mem => Fx C L A r) r := by
  unfold f_Thief_start at e
  rcases io e with ⟨_, e⟩ | ⟨_, e⟩
  · exact (wj_Thief_start_12 v1 v2 ((1 : Int64) <<< (v2.toInt64 &&& 63)) M (sb_t (by decide +kernel) hC) p0 e)
  exact (wj_Thief_start_12 v1 v2 (0 : Int64) M (sb_t (by decide +kernel) hC) p0 e)
theorem wf_Thief_stir {C : Nat} {L : List Nat} {A : Mem} (v1 : Nat) (M : Mem) (hC : sb 28858891257124862704305937573347373392392387160985434571251191458187784500608308553281933292152037822856416985088 C)  (p0 : Fx C L A M) {r : (Mem)} (e : f_Thief_stir v1 M = some r) : (fun r : Mem => Fx C L A r) r := by
  unfold f_Thief_stir at e
  obtain ⟨g_v1, e⟩ := io_n e
  obtain ⟨x1, e_x1, e⟩ := bo e
  obtain ⟨x2, e_x2, e⟩ := bo e
  obtain ⟨x3, e_x3, e⟩ := bo e
  obtain ⟨x4, e_x4, e⟩ := bo e
  obtain ⟨M5, e_M5, e⟩ := mo e
  have p_M5 : Fx C L A M5 := wlg1 p0 e_M5 (tb1 hC (by decide +kernel))
  obtain ⟨M6, e_M6, e⟩ := mo e
  have p_M6 : Fx C L A M6 := wlg1 p_M5 e_M6 (tb1 hC (by decide +kernel))
  obtain rfl := Option.some.inj e
  exact p_M6
theorem wf_Thief_record {C : Nat} {L : List Nat} {A : Mem} (v1 : Int32) (v2 : Int64) (v4 : Int64) (M : Mem) (hC : sb 17126972312471518572699431633393941636592959488 C)  (p0 : Fx C L A M) {r : (Mem)} (e : f_Thief_record v1 v2 v4 M = some r) : (fun r : Mem => Fx C L A r) r := by
  unfold f_Thief_record at e
  rcases io e with ⟨_, e⟩ | ⟨_, e⟩
  · obtain rfl := Option.some.inj e
    exact p0
  rcases io e with ⟨_, e⟩ | ⟨_, e⟩
  · obtain rfl := Option.some.inj e
    exact p0
  obtain ⟨_, e⟩ := io_n e
  obtain ⟨M1, e_M1, e⟩ := mo e
  have p_M1 : Fx C L A M1 := wlg p0 e_M1 (oc_c hC (by decide +kernel))
  obtain ⟨_, e⟩ := io_n e
  obtain ⟨M2, e_M2, e⟩ := mo e
  have p_M2 : Fx C L A M2 := wlg p_M1 e_M2 (oc_c hC (by decide +kernel))
  obtain rfl := Option.some.inj e
  exact p_M2
theorem wf_Thief_strike {C : Nat} {L : List Nat} {A : Mem} (v1 : Int32) (M : Mem) (hC : sb 28858891257124862704305937573347373392392387160985434571251191458187784500608308553281933292152037822856416985088 C)  (p0 : Fx C L A M) {r : (Mem)} (e : f_Thief_strike v1 M = some r) : (fun r : Mem => Fx C L A r) r := by
  unfold f_Thief_strike at e
  rcases io e with ⟨_, e⟩ | ⟨_, e⟩
  · obtain rfl := Option.some.inj e
    exact p0
  rcases io e with ⟨_, e⟩ | ⟨_, e⟩
  · obtain rfl := Option.some.inj e
    exact p0
  obtain ⟨_, e⟩ := io_n e
  obtain ⟨M1, e_M1, e⟩ := mo e
  have p_M1 : Fx C L A M1 := wlg1 p0 e_M1 (tb1 hC (by decide +kernel))
  obtain ⟨_, e⟩ := io_n e
  obtain ⟨M2, e_M2, e⟩ := mo e
  have p_M2 : Fx C L A M2 := wlg1 p_M1 e_M2 (tb1 hC (by decide +kernel))
  obtain rfl := Option.some.inj e
  exact p_M2
theorem wl_Thief_roam_2 {C : Nat} {L : List Nat} {A : Mem} (v1 : Nat) (s : Int32 × Mem) (hC : sb 28858891257124862704305937573347373392392387160985434571251191458187784500608308553281933292152037822856416985088 C)  (p0 : Fx C L A s.2) {r : ((Int32 × Mem) ⊕ ((Mem) ⊕ (Mem)))} (e : lb_Thief_roam_2 v1 s = some r) : (Sum.elim (fun r : Int32 × Mem => Fx C L A r.2) (Sum.elim (fun r : Mem => Fx C L A r) (fun r : Mem => Fx C L A r))) r := by
  unfold lb_Thief_roam_2 at e
  rcases io e with ⟨_, e⟩ | ⟨_, e⟩
  · obtain rfl := Option.some.inj e
    exact p0
  obtain ⟨x1, e_x1, e⟩ := bo e
  have p_x1 : Fx C L A x1 := (wf_Thief_stir v1 s.2 (sb_t (by decide +kernel) hC) p0 e_x1)
  obtain ⟨M2, e_M2, e⟩ := mo e
  have p_M2 : Fx C L A M2 := wlg1 p_x1 e_M2 (tb1 hC (by decide +kernel))
  obtain ⟨M3, e_M3, e⟩ := mo e
  have p_M3 : Fx C L A M3 := wlg1 p_M2 e_M3 (tb1 hC (by decide +kernel))
  rcases io e with ⟨_, e⟩ | ⟨_, e⟩
  · rcases io e with ⟨_, e⟩ | ⟨_, e⟩
    · obtain rfl := Option.some.inj e
      exact p_M3
    obtain rfl := Option.some.inj e
    exact p_M3
  obtain rfl := Option.some.inj e
  exact p_M3
theorem wf_Thief_roam {C : Nat} {L : List Nat} {A : Mem} (v1 : Nat) (M : Mem) (hC : sb 28858891257124862704305937573347373392392387160985434571251191458187784500608308553281933292152037822856416985088 C)  (p0 : Fx C L A M) {r : (Mem)} (e : f_Thief_roam v1 M = some r) : (fun r : Mem => Fx C L A r) r := by
  unfold f_Thief_roam at e
  obtain ⟨g_v1, e⟩ := io_n e
  obtain ⟨y_, e_y, e⟩ := bo e
  have q_y := (it_r (I := fun s : Int32 × Mem => Fx C L A s.2) (Q := (Sum.elim (fun r : Mem => Fx C L A r) (fun r : Mem => Fx C L A r))) (fun s_ r_ hs_ er_ => wl_Thief_roam_2 v1 s_ (sb_t (by decide +kernel) hC) hs_ er_) e_y p0)
  rcases y_ with y8 | y9
  · have p_y8 : Fx C L A y8 := q_y
    replace e := el_l e
    obtain rfl := Option.some.inj e
    exact p_y8
  · have p_y9 : Fx C L A y9 := q_y
    replace e := el_r e
    obtain rfl := Option.some.inj e
    exact p_y9
theorem wf_Mod_lost {C : Nat} {L : List Nat} {A : Mem} (M : Mem) (hC : sb 13164036458569648337239753460458804039861886925068638906788872192 C)  (p0 : Fx C L A M) {r : (Int32 × Mem)} (e : f_Mod_lost M = some r) : (fun r : Int32 × Mem => Fx C L A r.2) r := by
  unfold f_Mod_lost at e
  obtain ⟨M1, e_M1, e⟩ := mo e
  have p_M1 : Fx C L A M1 := wi1 p0 e_M1 (tb1 hC (by decide +kernel))
  obtain rfl := Option.some.inj e
  exact p_M1
theorem wf_Mod_put {C : Nat} {L : List Nat} {A : Mem} (v1 : Int32) (M : Mem) (hC : sb 6582018229285198313039033441376462163248118830987351372125437952 C)  (p0 : Fx C L A M) {r : (Mem)} (e : f_Mod_put v1 M = some r) : (fun r : Mem => Fx C L A r) r := by
  unfold f_Mod_put at e
  obtain ⟨_, e⟩ := io_n e
  obtain ⟨M1, e_M1, e⟩ := mo e
  have p_M1 : Fx C L A M1 := wi p0 e_M1 (oc_c hC (by decide +kernel))
  obtain ⟨M2, e_M2, e⟩ := mo e
  have p_M2 : Fx C L A M2 := wi1 p_M1 e_M2 (tb1 hC (by decide +kernel))
  obtain rfl := Option.some.inj e
  exact p_M2
theorem wl_Mod_sign_20 {C : Nat} {L : List Nat} {A : Mem} (v1 : Int32) (s : Int32 × Mem) (hC : sb 1645504557321393114364547538130880576641323549860095822714109952 C)  (p0 : Fx C L A s.2) {r : ((Int32 × Mem) ⊕ ((Mem)))} (e : lb_Mod_sign_20 v1 s = some r) : (Sum.elim (fun r : Int32 × Mem => Fx C L A r.2) (fun r : Mem => Fx C L A r)) r := by
  unfold lb_Mod_sign_20 at e
  rcases io e with ⟨_, e⟩ | ⟨_, e⟩
  · obtain rfl := Option.some.inj e
    exact p0
  obtain ⟨M2, e_M2, e⟩ := mo e
  have p_M2 : Fx C L A M2 := wi1 p0 e_M2 (tb1 hC (by decide +kernel))
  obtain ⟨_, e⟩ := io_n e
  obtain ⟨M3, e_M3, e⟩ := mo e
  have p_M3 : Fx C L A M3 := wi p_M2 e_M3 (oc_c hC (by decide +kernel))
  obtain rfl := Option.some.inj e
  exact p_M3
theorem wf_Mod_sign {C : Nat} {L : List Nat} {A : Mem} (v1 : Int32) (M : Mem) (hC : sb 14809541015891041451604300998589684616503210474928734729502982144 C)  (p0 : Fx C L A M) {r : (Int32 × Mem)} (e : f_Mod_sign v1 M = some r) : (fun r : Int32 × Mem => Fx C L A r.2) r := by
  unfold f_Mod_sign at e
  obtain ⟨M1, e_M1, e⟩ := mo e
  have p_M1 : Fx C L A M1 := wi1 p0 e_M1 (tb1 hC (by decide +kernel))
  rcases io e with ⟨_, e⟩ | ⟨_, e⟩
  · obtain ⟨x5, e_x5, e⟩ := bo e
    have p_x5 : Fx C L A x5 := (it_r (I := fun s : Int32 × Mem => Fx C L A s.2) (Q := (fun r : Mem => Fx C L A r)) (fun s_ r_ hs_ er_ => wl_Mod_sign_20 v1 s_ (sb_t (by decide +kernel) hC) hs_ er_) e_x5 p_M1)
    obtain rfl := Option.some.inj e
    exact p_x5
  obtain rfl := Option.some.inj e
  exact p_M1
theorem wf_Mod_end {C : Nat} {L : List Nat} {A : Mem} (v1 : Int32) (M : Mem) (hC : sb 14809541015890854379394722643016154544844622790702218770137481216 C)  (p0 : Fx C L A M) {r : (Int32 × Mem)} (e : f_Mod_end v1 M = some r) : (fun r : Int32 × Mem => Fx C L A r.2) r := by
  unfold f_Mod_end at e
  obtain ⟨M1, e_M1, e⟩ := mo e
  have p_M1 : Fx C L A M1 := wi1 p0 e_M1 (tb1 hC (by decide +kernel))
  obtain ⟨x2, e_x2, e⟩ := bo e
  rcases io e with ⟨_, e⟩ | ⟨_, e⟩
  · obtain rfl := Option.some.inj e
    exact p_M1
  obtain ⟨M3, e_M3, e⟩ := mo e
  have p_M3 : Fx C L A M3 := wi1 p_M1 e_M3 (tb1 hC (by decide +kernel))
  obtain rfl := Option.some.inj e
  exact p_M3
theorem wf_Mod_begin {C : Nat} {L : List Nat} {A : Mem} (v1 : Nat) (v2 : Int32) (v3 : Int32) (M : Mem) (hC : sb 816170260431318196908864714548445850471436989354255612220910075904 C)  (p0 : Fx C L A M) {r : (Mem)} (e : f_Mod_begin v1 v2 v3 M = some r) : (fun r : Mem => Fx C L A r) r := by
  unfold f_Mod_begin at e
  obtain ⟨g_v1, e⟩ := io_n e
  obtain ⟨M1, e_M1, e⟩ := mo e
  have p_M1 : Fx C L A M1 := wq1 p0 e_M1 (tb1 hC (by decide +kernel))
  obtain ⟨M2, e_M2, e⟩ := mo e
  have p_M2 : Fx C L A M2 := wi1 p_M1 e_M2 (tb1 hC (by decide +kernel))
  obtain ⟨M3, e_M3, e⟩ := mo e
  have p_M3 : Fx C L A M3 := wi1 p_M2 e_M3 (tb1 hC (by decide +kernel))
  obtain ⟨M4, e_M4, e⟩ := mo e
  have p_M4 : Fx C L A M4 := wi1 p_M3 e_M4 (tb1 hC (by decide +kernel))
  obtain ⟨M5, e_M5, e⟩ := mo e
  have p_M5 : Fx C L A M5 := wi1 p_M4 e_M5 (tb1 hC (by decide +kernel))
  obtain rfl := Option.some.inj e
  exact p_M5
theorem wf_Mod_fault {C : Nat} {L : List Nat} {A : Mem} (v1 : Int32) (M : Mem) (hC : sb 421249166674228746791672110734681729275580381602196445017243910144 C)  (p0 : Fx C L A M) {r : (Mem)} (e : f_Mod_fault v1 M = some r) : (fun r : Mem => Fx C L A r) r := by
  unfold f_Mod_fault at e
  obtain ⟨x1, e_x1, e⟩ := bo e
  rcases io e with ⟨_, e⟩ | ⟨_, e⟩
  · obtain rfl := Option.some.inj e
    exact p0
  obtain ⟨M2, e_M2, e⟩ := mo e
  have p_M2 : Fx C L A M2 := wi1 p0 e_M2 (tb1 hC (by decide +kernel))
  obtain rfl := Option.some.inj e
  exact p_M2
theorem wf_Mod_passes {C : Nat} {L : List Nat} {A : Mem} (v1 : Int32) (M : Mem) (hC : sb 210624583337114373395836055367340864637790190801098222508621955072 C)  (p0 : Fx C L A M) {r : (Int32 × Mem)} (e : f_Mod_passes v1 M = some r) : (fun r : Int32 × Mem => Fx C L A r.2) r := by
  unfold f_Mod_passes at e
  obtain ⟨x1, e_x1, e⟩ := bo e
  rcases io e with ⟨_, e⟩ | ⟨_, e⟩
  · obtain rfl := Option.some.inj e
    exact p0
  obtain ⟨x2, e_x2, e⟩ := bo e
  rcases io e with ⟨_, e⟩ | ⟨_, e⟩
  · obtain ⟨M3, e_M3, e⟩ := mo e
    have p_M3 : Fx C L A M3 := wi1 p0 e_M3 (tb1 hC (by decide +kernel))
    obtain rfl := Option.some.inj e
    exact p_M3
  obtain rfl := Option.some.inj e
  exact p0
theorem wf_Mod_need {C : Nat} {L : List Nat} {A : Mem} (v1 : Int32) (M : Mem) (hC : sb 631873750011343120187508166102022593913370572403294667525865865216 C)  (p0 : Fx C L A M) {r : (Mem)} (e : f_Mod_need v1 M = some r) : (fun r : Mem => Fx C L A r) r := by
  unfold f_Mod_need at e
  obtain ⟨x1, e_x1, e⟩ := bo e
  have p_x1 : Fx C L A x1.2 := (wf_Mod_passes v1 M (sb_t (by decide +kernel) hC) p0 e_x1)
  rcases io e with ⟨_, e⟩ | ⟨_, e⟩
  · obtain ⟨x2, e_x2, e⟩ := bo e
    have p_x2 : Fx C L A x2 := (wf_Mod_fault (x1.2.1 162 17) x1.2 (sb_t (by decide +kernel) hC) p_x1 e_x2)
    obtain rfl := Option.some.inj e
    exact p_x2
  obtain rfl := Option.some.inj e
  exact p_x1
theorem wl_Mod_number_16 {C : Nat} {L : List Nat} {A : Mem} (v1 : Int32) (v2 : Int32) (s : Int32 × Mem) (hC : sb 210624583337114373395836055367340864637790190801098222508621955072 C)  (p0 : Fx C L A s.2) {r : ((Int32 × Mem) ⊕ ((Int32 × Mem)))} (e : lb_Mod_number_16 v1 v2 s = some r) : (Sum.elim (fun r : Int32 × Mem => Fx C L A r.2) (fun r : Int32 × Mem => Fx C L A r.2)) r := by
  unfold lb_Mod_number_16 at e
  rcases io e with ⟨_, e⟩ | ⟨_, e⟩
  · obtain rfl := Option.some.inj e
    exact p0
  obtain ⟨x2, e_x2, e⟩ := bo e
  obtain ⟨x3, e_x3, e⟩ := bo e
  rcases io e with ⟨_, e⟩ | ⟨_, e⟩
  · obtain rfl := Option.some.inj e
    exact p0
  obtain ⟨x4, e_x4, e⟩ := bo e
  obtain ⟨M5, e_M5, e⟩ := mo e
  have p_M5 : Fx C L A M5 := wi1 p0 e_M5 (tb1 hC (by decide +kernel))
  obtain rfl := Option.some.inj e
  exact p_M5
theorem wj_Mod_number_66 {C : Nat} {L : List Nat} {A : Mem} (v2 : Int32) (v3 : Int32) (M : Mem) (hC : sb 421249166674228746791672110734681729275580381602196445017243910144 C)  (p0 : Fx C L A M) {r : (Int32 × Mem)} (e : j_Mod_number_66 v2 v3 M = some r) : (fun r : Int32 × Mem => Fx C L A r.2) r := by
  unfold j_Mod_number_66 at e
  rcases io e with ⟨_, e⟩ | ⟨_, e⟩
  · obtain ⟨x9, e_x9, e⟩ := bo e
    have p_x9 : Fx C L A x9 := (wf_Mod_fault (M.1 162 17) M (sb_t (by decide +kernel) hC) p0 e_x9)
    obtain rfl := Option.some.inj e
    exact p_x9
  obtain rfl := Option.some.inj e
  exact p0
theorem wf_Mod_number {C : Nat} {L : List Nat} {A : Mem} (v1 : Int32) (M : Mem) (hC : sb 631873750011343120187508166102022593913370572403294667525865865216 C)  (p0 : Fx C L A M) {r : (Int32 × Mem)} (e : f_Mod_number v1 M = some r) : (fun r : Int32 × Mem => Fx C L A r.2) r := by
  unfold f_Mod_number at e
  obtain ⟨x1, e_x1, e⟩ := bo e
  rcases io e with ⟨_, e⟩ | ⟨_, e⟩
  · obtain rfl := Option.some.inj e
    exact p0
  obtain ⟨x8, e_x8, e⟩ := bo e
  have p_x8 : Fx C L A x8.2 := (it_r (I := fun s : Int32 × Mem => Fx C L A s.2) (Q := (fun r : Int32 × Mem => Fx C L A r.2)) (fun s_ r_ hs_ er_ => wl_Mod_number_16 v1 (M.1 162 17) s_ (sb_t (by decide +kernel) hC) hs_ er_) e_x8 p0)
  exact (wj_Mod_number_66 (M.1 162 17) x8.1 x8.2 (sb_t (by decide +kernel) hC) p_x8 e)
theorem wj_Mod_town_88_58 {C : Nat} {L : List Nat} {A : Mem} (v1 : Int32) (v2 : Int32) (v4 : Int32) (w0 : Int32) (w1 : Int32) (M : Mem) (hC : sb 631873750011343868476346479524316714200004923140200731363327868928 C)  (p0 : Fx C L A M) {r : ((Int32 × Mem) ⊕ ((Int32 × Mem)))} (e : j_Mod_town_88_58 v1 v2 v4 w0 w1 M = some r) : (Sum.elim (fun r : Int32 × Mem => Fx C L A r.2) (fun r : Int32 × Mem => Fx C L A r.2)) r := by
  unfold j_Mod_town_88_58 at e
  rcases io e with ⟨_, e⟩ | ⟨_, e⟩
  · obtain ⟨x12, e_x12, e⟩ := bo e
    have p_x12 : Fx C L A x12 := (wf_Mod_fault (M.1 162 17) M (sb_t (by decide +kernel) hC) p0 e_x12)
    obtain rfl := Option.some.inj e
    exact p_x12
  obtain ⟨x8, e_x8, e⟩ := bo e
  obtain ⟨x9, e_x9, e⟩ := bo e
  obtain ⟨_, e⟩ := io_n e
  obtain ⟨M10, e_M10, e⟩ := mo e
  have p_M10 : Fx C L A M10 := wi p0 e_M10 (oc_c hC (by decide +kernel))
  obtain ⟨M11, e_M11, e⟩ := mo e
  have p_M11 : Fx C L A M11 := wi1 p_M10 e_M11 (tb1 hC (by decide +kernel))
  obtain rfl := Option.some.inj e
  exact p_M11
theorem wl_Mod_town_58 {C : Nat} {L : List Nat} {A : Mem} (v1 : Int32) (v2 : Int32) (s : Int32 × Mem) (hC : sb 631873750011343868476346479524316714200004923140200731363327868928 C)  (p0 : Fx C L A s.2) {r : ((Int32 × Mem) ⊕ ((Int32 × Mem)))} (e : lb_Mod_town_58 v1 v2 s = some r) : (Sum.elim (fun r : Int32 × Mem => Fx C L A r.2) (fun r : Int32 × Mem => Fx C L A r.2)) r := by
  unfold lb_Mod_town_58 at e
  obtain ⟨x5, e_x5, e⟩ := bo e
  rcases io e with ⟨_, e⟩ | ⟨_, e⟩
  · obtain rfl := Option.some.inj e
    exact p0
  obtain ⟨x6, e_x6, e⟩ := bo e
  obtain ⟨x7, e_x7, e⟩ := bo e
  rcases io e with ⟨_, e⟩ | ⟨_, e⟩
  · obtain rfl := Option.some.inj e
    exact p0
  rcases io e with ⟨_, e⟩ | ⟨_, e⟩
  · exact (wj_Mod_town_88_58 v1 v2 s.1 (6 : Int32) s.1 s.2 (sb_t (by decide +kernel) hC) p0 e)
  exact (wj_Mod_town_88_58 v1 v2 s.1 v1 s.1 s.2 (sb_t (by decide +kernel) hC) p0 e)
theorem wj_Mod_town_166_30 {C : Nat} {L : List Nat} {A : Mem} (v1 : Int32) (v2 : Int32) (M : Mem) (hC : sb 210624583337114373395836055367340864637790190801098222508621955072 C)  (p0 : Fx C L A M) {r : ((Int32 × Int32 × Int32 × Mem) ⊕ ((Int32 × Int32 × Mem)))} (e : j_Mod_town_166_30 v1 v2 M = some r) : (Sum.elim (fun r : Int32 × Int32 × Int32 × Mem => Fx C L A r.2.2.2) (fun r : Int32 × Int32 × Mem => Fx C L A r.2.2)) r := by
  unfold j_Mod_town_166_30 at e
  obtain ⟨x19, e_x19, e⟩ := bo e
  have p_x19 : Fx C L A x19.2 := (wf_Mod_passes (47 : Int32) M (sb_t (by decide +kernel) hC) p0 e_x19)
  obtain rfl := Option.some.inj e
  exact p_x19
theorem wj_Mod_town_159_30 {C : Nat} {L : List Nat} {A : Mem} (v1 : Int32) (v2 : Int32) (v4 : Int32) (M : Mem) (hC : sb 210624583337114373395836055367340864637790190801098222508621955072 C)  (p0 : Fx C L A M) {r : ((Int32 × Int32 × Int32 × Mem) ⊕ ((Int32 × Int32 × Mem)))} (e : j_Mod_town_159_30 v1 v2 v4 M = some r) : (Sum.elim (fun r : Int32 × Int32 × Int32 × Mem => Fx C L A r.2.2.2) (fun r : Int32 × Int32 × Mem => Fx C L A r.2.2)) r := by
  unfold j_Mod_town_159_30 at e
  rcases io e with ⟨_, e⟩ | ⟨_, e⟩
  · exact (wj_Mod_town_166_30 v4 v2 M (sb_t (by decide +kernel) hC) p0 e)
  exact (wj_Mod_town_166_30 v1 v2 M (sb_t (by decide +kernel) hC) p0 e)
theorem wj_Mod_town_151_30 {C : Nat} {L : List Nat} {A : Mem} (v1 : Int32) (v2 : Int32) (v4 : Int32) (M : Mem) (hC : sb 631873750011343120187508166102022593913370572403294667525865865216 C)  (p0 : Fx C L A M) {r : ((Int32 × Int32 × Int32 × Mem) ⊕ ((Int32 × Int32 × Mem)))} (e : j_Mod_town_151_30 v1 v2 v4 M = some r) : (Sum.elim (fun r : Int32 × Int32 × Int32 × Mem => Fx C L A r.2.2.2) (fun r : Int32 × Int32 × Mem => Fx C L A r.2.2)) r := by
  unfold j_Mod_town_151_30 at e
  obtain ⟨x18, e_x18, e⟩ := bo e
  have p_x18 : Fx C L A x18 := (wf_Mod_fault (M.1 162 17) M (sb_t (by decide +kernel) hC) p0 e_x18)
  exact (wj_Mod_town_159_30 v1 v2 v4 x18 (sb_t (by decide +kernel) hC) p_x18 e)
theorem wj_Mod_town_136_30 {C : Nat} {L : List Nat} {A : Mem} (v1 : Int32) (v2 : Int32) (v4 : Int32) (M : Mem) (hC : sb 631873750011343120187508166102022593913370572403294667525865865216 C)  (p0 : Fx C L A M) {r : ((Int32 × Int32 × Int32 × Mem) ⊕ ((Int32 × Int32 × Mem)))} (e : j_Mod_town_136_30 v1 v2 v4 M = some r) : (Sum.elim (fun r : Int32 × Int32 × Int32 × Mem => Fx C L A r.2.2.2) (fun r : Int32 × Int32 × Mem => Fx C L A r.2.2)) r := by
  unfold j_Mod_town_136_30 at e
  rcases io e with ⟨_, e⟩ | ⟨_, e⟩
  · exact (wj_Mod_town_151_30 v1 v2 v4 M (sb_t (by decide +kernel) hC) p0 e)
  rcases io e with ⟨_, e⟩ | ⟨_, e⟩
  · exact (wj_Mod_town_159_30 v1 v2 v4 M (sb_t (by decide +kernel) hC) p0 e)
  rcases io e with ⟨_, e⟩ | ⟨_, e⟩
  · exact (wj_Mod_town_159_30 v1 v2 v4 M (sb_t (by decide +kernel) hC) p0 e)
  exact (wj_Mod_town_151_30 v1 v2 v4 M (sb_t (by decide +kernel) hC) p0 e)
theorem wl_Mod_town_30 {C : Nat} {L : List Nat} {A : Mem} (s : Int32 × Int32 × Int32 × Mem) (hC : sb 631873750011343868476346479524316714200004923140200731363327868928 C)  (p0 : Fx C L A s.2.2.2) {r : ((Int32 × Int32 × Int32 × Mem) ⊕ ((Int32 × Int32 × Mem)))} (e : lb_Mod_town_30 s = some r) : (Sum.elim (fun r : Int32 × Int32 × Int32 × Mem => Fx C L A r.2.2.2) (fun r : Int32 × Int32 × Mem => Fx C L A r.2.2)) r := by
  unfold lb_Mod_town_30 at e
  rcases io e with ⟨_, e⟩ | ⟨_, e⟩
  · obtain rfl := Option.some.inj e
    exact p0
  obtain ⟨x4, e_x4, e⟩ := bo e
  rcases io e with ⟨_, e⟩ | ⟨_, e⟩
  · obtain rfl := Option.some.inj e
    exact p0
  rcases io e with ⟨_, e⟩ | ⟨_, e⟩
  · obtain ⟨x24, e_x24, e⟩ := bo e
    have p_x24 : Fx C L A x24 := (wf_Mod_fault (s.2.2.2.1 162 17) s.2.2.2 (sb_t (by decide +kernel) hC) p0 e_x24)
    obtain ⟨x25, e_x25, e⟩ := bo e
    have p_x25 : Fx C L A x25.2 := (it_r (I := fun s : Int32 × Mem => Fx C L A s.2) (Q := (fun r : Int32 × Mem => Fx C L A r.2)) (fun s_ r_ hs_ er_ => wl_Mod_town_58 s.1 s.2.1 s_ (sb_t (by decide +kernel) hC) hs_ er_) e_x25 p_x24)
    exact (wj_Mod_town_136_30 s.1 s.2.1 x25.1 x25.2 (sb_t (by decide +kernel) hC) p_x25 e)
  obtain ⟨x17, e_x17, e⟩ := bo e
  have p_x17 : Fx C L A x17.2 := (it_r (I := fun s : Int32 × Mem => Fx C L A s.2) (Q := (fun r : Int32 × Mem => Fx C L A r.2)) (fun s_ r_ hs_ er_ => wl_Mod_town_58 s.1 s.2.1 s_ (sb_t (by decide +kernel) hC) hs_ er_) e_x17 p0)
  exact (wj_Mod_town_136_30 s.1 s.2.1 x17.1 x17.2 (sb_t (by decide +kernel) hC) p_x17 e)
