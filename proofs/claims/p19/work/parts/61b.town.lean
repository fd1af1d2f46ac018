/-! the class becomes a town -/
theorem bec_c (A : Mem) (v2 : Int32) {x} (e : iter (lb_Ground_become_12 v2) FU ((0 : Int32), A) = some x) : Fx 16 [] A x ∧ ∀ i : Nat, i < 36 → x.1 4 i = if (i : Int) < v2.toInt then A.1 5 i else 0 := by
  refine it_r (I := fun s : Int32 × Mem => Fx 16 [] A s.2 ∧ ∃ p : Nat, s.1.toInt = (p : Int) ∧ p ≤ 36 ∧ ∀ i : Nat, i < p → s.2.1 4 i = if (i : Int) < v2.toInt then A.1 5 i else 0) (Q := fun x => Fx 16 [] A x ∧ ∀ i : Nat, i < 36 → x.1 4 i = if (i : Int) < v2.toInt then A.1 5 i else 0) ?_ e ⟨Fx_r, 0, rfl, by omega, fun i hi => absurd hi (by omega)⟩
  rintro ⟨k, N⟩ r ⟨fx, p, hp, lp, hk⟩ e
  have fr := wl_Ground_become_12 v2 _ (sb_r _) fx e
  have h5 : ∀ i, N.1 5 i = A.1 5 i := fun i => (fx 5 i (by rw [show sl 5 i = 5 from rfl]; decide +kernel) (by simp)).1
  unfold lb_Ground_become_12 at e
  dsimp only at e hp hk
  have z36 : (36 : Int32).toInt = 36 := rfl
  have z1 : (1 : Int32).toInt = 1 := rfl
  rcases io e with ⟨c, e⟩ | ⟨c, e⟩
  · have := q_le c
    obtain rfl := Option.some.inj e
    exact ⟨fr, fun i hi => hk i (by omega)⟩
  have c1 := q_ng c
  have hp1 : (k + (1 : Int32)).toInt = ((p + 1 : Nat) : Int) := add_ti hp rfl (by omega) (by omega)
  rcases io e with ⟨c, e⟩ | ⟨c, e⟩
  · have c2 := q_le c
    obtain ⟨_, e⟩ := io_n e
    obtain ⟨M3, e3, e⟩ := mo e
    obtain rfl := Option.some.inj e
    refine ⟨fr, p + 1, hp1, by omega, fun i hi => ?_⟩
    dsimp only
    rw [e3, q_nat hp]
    rcases Nat.lt_or_ge i p with g | g
    · rw [si_ne (by omega)]; exact hk i g
    · have : i = p := by omega
      subst this
      rw [si_eq, if_neg (by omega)]
  · have c2 := q_ng c
    obtain ⟨_, e⟩ := io_n e
    obtain ⟨_, e⟩ := io_n e
    obtain ⟨M3, e3, e⟩ := mo e
    obtain rfl := Option.some.inj e
    refine ⟨fr, p + 1, hp1, by omega, fun i hi => ?_⟩
    dsimp only
    rw [e3, q_nat hp]
    rcases Nat.lt_or_ge i p with g | g
    · rw [si_ne (by omega)]; exact hk i g
    · have : i = p := by omega
      subst this
      rw [si_eq, if_pos (by omega), h5]
def mTc : Nat := 102552408822280882119989108556757675939772817516740699982105814069308213474882238282547821889517568
/-- what town() does to the class: refused at p, or the town that was read -/
def CT (A : Mem) (x : Int32 × Mem) : Prop :=
  (∃ p : Nat, tup (ct A) p ∧ ¬ tok (ct A p) (trun (ct A) p) ∧ x.1.toInt = -1 - (p : Int) ∧ x.2.1 3 2 = A.1 3 2 ∧ x.2.1 3 3 = A.1 3 3 ∧ (∀ i, x.2.1 4 i = A.1 4 i) ∧ x.2.1 0 16 = A.1 0 16) ∨
  (∃ p : Nat, tup (ct A) p ∧ tok (ct A p) (trun (ct A) p) ∧ ct A p = -1 ∧ x.1.toInt = ((trun (ct A) p).1 : Int) ∧ (x.2.1 3 2).toInt = ((trun (ct A) p).2.1 : Int) ∧ (x.2.1 3 3).toInt = ((trun (ct A) p).1 : Int) ∧ (∃ f, tkd (ct A) f p ∧ ∀ i : Nat, i < 36 → x.2.1 4 i = if i < (trun (ct A) p).1 then f i else 0) ∧ (x.2.1 0 16).toInt = -1)
theorem town_c {A : Mem} (hl : (A.1 1 1).toInt ≤ 80) {x} (e : f_Top_town A = some x) : CT A x := by
  unfold f_Top_town at e
  obtain ⟨x1, e1, e⟩ := bo e
  obtain ⟨M2, e2, e⟩ := mo e
  unfold f_Ground_read at e1
  obtain ⟨y, ey, e1⟩ := bo e1
  have q := rd_c A hl ey
  have fr := it_r (I := fun s : Int32 × Int32 × Int32 × Int32 × Int32 × Mem => Fx 32 [] A s.2.2.2.2.2) (Q := Sum.elim (fun r : Mem => Fx 32 [] A r) (Sum.elim (fun r : Int32 × Mem => Fx 32 [] A r.2) (fun r : Int32 × Int32 × Mem => Fx 32 [] A r.2.2))) (fun s r hs er => wl_Ground_read_14 s (sb_r _) hs er) ey Fx_r
  rcases y with y | y | y
  · exact q.elim
  · replace e1 := el_l (el_r e1)
    obtain rfl := Option.some.inj e1
    obtain ⟨p, hp, up, nt⟩ := q
    have lp := ct_len up hl
    have fr : Fx 32 [] A y.2 := fr
    have am : ((-1 : Int32) - y.1).toInt = -1 - (p : Int) := sub_ti rfl hp (by omega) (by omega)
    dsimp only at e
    rcases io e with ⟨c, e⟩ | ⟨c, e⟩
    · have := q_le c
      have z0 : (0 : Int32).toInt = 0 := rfl
      omega
    obtain rfl := Option.some.inj e
    refine .inl ⟨p, up, nt, am, ?_, ?_, fun i => ?_, ?_⟩
    · dsimp only; rw [e2, si_ne (by omega)]; exact (fr 3 2 (by decide +kernel) (by simp)).1
    · dsimp only; rw [e2, si_ne (by omega)]; exact (fr 3 3 (by decide +kernel) (by simp)).1
    · dsimp only; rw [e2, si_ne (by omega)]; exact (fr 4 i (by rw [show sl 4 i = 4 from rfl]; decide +kernel) (by simp)).1
    · dsimp only; rw [e2, si_ne (by omega)]; exact (fr 0 16 (by decide +kernel) (by simp)).1
  · replace e1 := el_r (el_r e1)
    obtain ⟨p, up, ok, tm, h1, h2, hk⟩ := q
    obtain ⟨x18, e18, e1⟩ := bo e1
    obtain rfl := Option.some.inj e1
    unfold f_Ground_become at e18
    obtain ⟨N1, n1, e18⟩ := mo e18
    obtain ⟨N2, n2, e18⟩ := mo e18
    obtain ⟨x7, e7, e18⟩ := bo e18
    obtain rfl := Option.some.inj e18
    obtain ⟨g, hk4⟩ := bec_c N2 y.1 e7
    dsimp only at e e2
    have a3 : M2.1 3 2 = y.2.1 := by
      rw [e2, si_ne (by omega), (g 3 2 (by decide +kernel) (by simp)).1, n2, si_ne (by omega), n1, si_eq]
    have a4 : M2.1 3 3 = y.1 := by
      rw [e2, si_ne (by omega), (g 3 3 (by decide +kernel) (by simp)).1, n2, si_eq]
    have a5 : ∀ i : Nat, i < 36 → M2.1 4 i = if i < (trun (ct A) p).1 then y.2.2.1 5 i else 0 := by
      intro i hi
      rw [e2, si_ne (by omega), hk4 i hi, n2, si_ne (by omega), n1, si_ne (by omega)]
      by_cases c : i < (trun (ct A) p).1
      · rw [if_pos c, if_pos (by omega)]
      · rw [if_neg c, if_neg (by omega)]
    rcases io e with ⟨c, e⟩ | ⟨c, e⟩
    · obtain ⟨x3, e3, e⟩ := bo e
      obtain ⟨x4, e4, e⟩ := bo e
      obtain ⟨x5, e5, e⟩ := bo e
      obtain ⟨M6, e6, e⟩ := mo e
      obtain ⟨x8, e8, e⟩ := bo e
      obtain rfl := Option.some.inj e
      have f3 : Fx mTc [] M2 x3 := wf_Crowd_clear M2 (by decide +kernel) Fx_r e3
      have f4 : Fx mTc [] M2 x4 := wf_Scene_clear 11 x3 (by decide +kernel) (oc_c (sb_r _) (by decide +kernel)) (oc_c (sb_r _) (by decide +kernel)) (oc_c (sb_r _) (by decide +kernel)) (oc_c (sb_r _) (by decide +kernel)) (oc_c (sb_r _) (by decide +kernel)) f3 e4
      have f5 : Fx mTc [] M2 x5 := wf_History_clear x4 (by decide +kernel) f4 e5
      have f8 : Fx mTc [] M6 x8 := wf_Nets_lay 32 11 (-1 : Int32) M6 (by decide +kernel) (oc_c (sb_r _) (by decide +kernel)) (oc_c (sb_r _) (by decide +kernel)) (oc_c (sb_r _) (by decide +kernel)) Fx_r e8
      refine .inr ⟨p, up, ok, tm, h1, ?_, ?_, ⟨y.2.2.1 5, hk, fun i hi => ?_⟩, ?_⟩
      · dsimp only; rw [(f8 3 2 (by decide +kernel) (by simp)).1, e6, si_ne (by omega), (f5 3 2 (by decide +kernel) (by simp)).1, a3, h2]
      · dsimp only; rw [(f8 3 3 (by decide +kernel) (by simp)).1, e6, si_ne (by omega), (f5 3 3 (by decide +kernel) (by simp)).1, a4, h1]
      · dsimp only; rw [(f8 4 i (by rw [show sl 4 i = 4 from rfl]; decide +kernel) (by simp)).1, e6, si_ne (by omega), (f5 4 i (by rw [show sl 4 i = 4 from rfl]; decide +kernel) (by simp)).1]
        exact a5 i hi
      · dsimp only; rw [(f8 0 16 (by decide +kernel) (by simp)).1, e6, si_eq]; rfl
    · have := q_ng c
      have z0 : (0 : Int32).toInt = 0 := rfl
      omega
